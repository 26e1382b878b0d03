theorem dX0_tell_0 : decode cX0_tell 0 = .ok (.aload_n 0, 1) := by decide +kernel
theorem dX0_tell_1 : decode cX0_tell 1 = .ok (.iload_n 1, 1) := by decide +kernel
theorem dX0_tell_2 : decode cX0_tell 2 = .ok (.putfield 7, 3) := by decide +kernel
theorem dX0_tell_5 : decode cX0_tell 5 = .ok (.aload_n 0, 1) := by decide +kernel
theorem dX0_tell_6 : decode cX0_tell 6 = .ok (.iload_n 2, 1) := by decide +kernel
theorem dX0_tell_7 : decode cX0_tell 7 = .ok (.putfield 13, 3) := by decide +kernel
theorem dX0_tell_10 : decode cX0_tell 10 = .ok (.iconst 0, 1) := by decide +kernel
theorem dX0_tell_11 : decode cX0_tell 11 = .ok (.ireturn, 1) := by decide +kernel
abbrev rm_X0_tell : Room := { frames := 0, cells := 0, slots := 0, locals := 0 }
def wp_X0_tell (a : Nat) (p1 : Int32) (p2 : Int32) (S : PS) (Q : Int32 → PS → Prop) : Prop :=
  (∀ S1, S1 = sI S 0 a p1 → (∀ S2, S2 = sI S1 1 a p2 → Q 0 S2))
set_option maxRecDepth 100000 in
set_option maxHeartbeats 4000000 in
theorem c_X0_tell {l : Launch} {E : EE} {A : Nat → Prop} {a : Nat} {p1 : Int32} {p2 : Int32} {S : PS} {Q : Int32 → PS → Prop} (r_a : Rf S a 0) (h : wp_X0_tell a p1 p2 S Q) : MtI l yX0_tell (.code yX0_tell cX0_tell 3 (some .boolean)) rm_X0_tell E A [.ref a, .int p1, .int p2] S (fun r S1 => nz r ∧ Q r S1) := by
  refine MtI.of (by decide) (Nat.le_of_ble_eq_true rfl) (fun X F hQ hN => ?_)
  show VV X (0, 0) S [(0, .ref a), (1, .int p1), (2, .int p2)] [] 0
  unfold wp_X0_tell at h
  refine v_aload_n F dX0_tell_0 0 rfl rfl ?_
  refine v_iload_n F dX0_tell_1 1 rfl rfl ?_
  refine p_X0_7 F r_a h dX0_tell_2 (fun S1 h hE => ?_)
  have r_a := r_a.tr hE
  refine v_aload_n F dX0_tell_5 0 rfl rfl ?_
  refine v_iload_n F dX0_tell_6 2 rfl rfl ?_
  refine p_X0_13 F r_a h dX0_tell_7 (fun S2 h hE => ?_)
  have r_a := r_a.tr hE
  refine v_iconst (v := 0) F dX0_tell_10 (by decide) ?_
  exact v_zret F hQ (by decide) ⟨nz0, h⟩ (by decide) dX0_tell_11
theorem dX2_clear_0 : decode cX2_clear 0 = .ok (.aload_n 0, 1) := by decide +kernel
theorem dX2_clear_1 : decode cX2_clear 1 = .ok (.iconst 1, 1) := by decide +kernel
theorem dX2_clear_2 : decode cX2_clear 2 = .ok (.putfield 22, 3) := by decide +kernel
theorem dX2_clear_5 : decode cX2_clear 5 = .ok (.aload_n 0, 1) := by decide +kernel
theorem dX2_clear_6 : decode cX2_clear 6 = .ok (.getfield 9, 3) := by decide +kernel
theorem dX2_clear_9 : decode cX2_clear 9 = .ok (.iconst 0, 1) := by decide +kernel
theorem dX2_clear_10 : decode cX2_clear 10 = .ok (.lconst 0, 1) := by decide +kernel
theorem dX2_clear_11 : decode cX2_clear 11 = .ok (.lastore, 1) := by decide +kernel
theorem dX2_clear_12 : decode cX2_clear 12 = .ok (.aload_n 0, 1) := by decide +kernel
theorem dX2_clear_13 : decode cX2_clear 13 = .ok (.getfield 15, 3) := by decide +kernel
theorem dX2_clear_16 : decode cX2_clear 16 = .ok (.iconst 0, 1) := by decide +kernel
theorem dX2_clear_17 : decode cX2_clear 17 = .ok (.iconst 4, 1) := by decide +kernel
theorem dX2_clear_18 : decode cX2_clear 18 = .ok (.iastore, 1) := by decide +kernel
theorem dX2_clear_19 : decode cX2_clear 19 = .ok (.aload_n 0, 1) := by decide +kernel
theorem dX2_clear_20 : decode cX2_clear 20 = .ok (.getfield 19, 3) := by decide +kernel
theorem dX2_clear_23 : decode cX2_clear 23 = .ok (.iconst 0, 1) := by decide +kernel
theorem dX2_clear_24 : decode cX2_clear 24 = .ok (.iconst 4, 1) := by decide +kernel
theorem dX2_clear_25 : decode cX2_clear 25 = .ok (.iastore, 1) := by decide +kernel
theorem dX2_clear_26 : decode cX2_clear 26 = .ok (.return_, 1) := by decide +kernel
abbrev rm_X2_clear : Room := { frames := 0, cells := 0, slots := 0, locals := 0 }
def wp_X2_clear (a : Nat) (S : PS) (Q : PS → Prop) : Prop :=
  (∀ S1, S1 = sI S 17 a 1 → (∃ b2, fR S1 18 a = some b2 ∧ (vp_in 0 (aN S1 b2) ∧ ∀ S3, S3 = wL S1 10 b2 (0 : Int32).toNatClampNeg 0 → (∃ b4, fR S3 19 a = some b4 ∧ (vp_in 0 (aN S3 b4) ∧ ∀ S5, S5 = wI S3 11 b4 (0 : Int32).toNatClampNeg 4 → (∃ b6, fR S5 20 a = some b6 ∧ (vp_in 0 (aN S5 b6) ∧ ∀ S7, S7 = wI S5 12 b6 (0 : Int32).toNatClampNeg 4 → Q S7)))))))
set_option maxRecDepth 100000 in
set_option maxHeartbeats 4000000 in
theorem c_X2_clear {l : Launch} {E : EE} {A : Nat → Prop} {a : Nat} {S : PS} {Q : PS → Prop} (r_a : Rf S a 2) (h : wp_X2_clear a S Q) : MtV l yX2_clear (.code yX2_clear cX2_clear 1 none) rm_X2_clear E A [.ref a] S Q := by
  refine MtV.of (by decide) (Nat.le_of_ble_eq_true rfl) (fun X F hQ hN => ?_)
  show VV X (0, 0) S [(0, .ref a)] [] 0
  unfold wp_X2_clear at h
  refine v_aload_n F dX2_clear_0 0 rfl rfl ?_
  refine v_iconst (v := 1) F dX2_clear_1 (by decide) ?_
  refine p_X2_22 F r_a h dX2_clear_2 (fun S1 h hE => ?_)
  have r_a := r_a.tr hE
  refine v_aload_n F dX2_clear_5 0 rfl rfl ?_
  refine g_X2_9 F r_a h dX2_clear_6 (fun b2 r_b2 h => ?_)
  refine v_iconst (v := 0) F dX2_clear_9 (by decide) ?_
  refine v_lconst (v := 0) F dX2_clear_10 (by decide) ?_
  refine v_last F r_b2 o_10 h dX2_clear_11 (fun S3 h hE => ?_)
  have r_a := r_a.tr hE
  refine v_aload_n F dX2_clear_12 0 rfl rfl ?_
  refine g_X2_15 F r_a h dX2_clear_13 (fun b4 r_b4 h => ?_)
  refine v_iconst (v := 0) F dX2_clear_16 (by decide) ?_
  refine v_iconst (v := 4) F dX2_clear_17 (by decide) ?_
  refine v_iast F r_b4 o_11 h dX2_clear_18 (fun S5 h hE => ?_)
  have r_a := r_a.tr hE
  refine v_aload_n F dX2_clear_19 0 rfl rfl ?_
  refine g_X2_19 F r_a h dX2_clear_20 (fun b6 r_b6 h => ?_)
  refine v_iconst (v := 0) F dX2_clear_23 (by decide) ?_
  refine v_iconst (v := 4) F dX2_clear_24 (by decide) ?_
  refine v_iast F r_b6 o_12 h dX2_clear_25 (fun S7 h hE => ?_)
  have r_a := r_a.tr hE
  exact v_vret F hQ h (by decide) dX2_clear_26
theorem dX2_barTicks_0 : decode cX2_barTicks 0 = .ok (.iload_n 1, 1) := by decide +kernel
theorem dX2_barTicks_1 : decode cX2_barTicks 1 = .ok (.ifCond .lt 24, 3) := by decide +kernel
theorem dX2_barTicks_4 : decode cX2_barTicks 4 = .ok (.iload_n 1, 1) := by decide +kernel
theorem dX2_barTicks_5 : decode cX2_barTicks 5 = .ok (.aload_n 0, 1) := by decide +kernel
theorem dX2_barTicks_6 : decode cX2_barTicks 6 = .ok (.getfield 22, 3) := by decide +kernel
theorem dX2_barTicks_9 : decode cX2_barTicks 9 = .ok (.if_icmp .ge 16, 3) := by decide +kernel
theorem dX2_barTicks_12 : decode cX2_barTicks 12 = .ok (.aload_n 0, 1) := by decide +kernel
theorem dX2_barTicks_13 : decode cX2_barTicks 13 = .ok (.getfield 19, 3) := by decide +kernel
theorem dX2_barTicks_16 : decode cX2_barTicks 16 = .ok (.iload_n 1, 1) := by decide +kernel
theorem dX2_barTicks_17 : decode cX2_barTicks 17 = .ok (.iaload, 1) := by decide +kernel
theorem dX2_barTicks_18 : decode cX2_barTicks 18 = .ok (.ifCond .le 7, 3) := by decide +kernel
theorem dX2_barTicks_21 : decode cX2_barTicks 21 = .ok (.iconst 1, 1) := by decide +kernel
theorem dX2_barTicks_22 : decode cX2_barTicks 22 = .ok (.goto 4, 3) := by decide +kernel
theorem dX2_barTicks_25 : decode cX2_barTicks 25 = .ok (.iconst 0, 1) := by decide +kernel
theorem dX2_barTicks_26 : decode cX2_barTicks 26 = .ok (.istore_n 2, 1) := by decide +kernel
theorem dX2_barTicks_27 : decode cX2_barTicks 27 = .ok (.iload_n 2, 1) := by decide +kernel
theorem dX2_barTicks_28 : decode cX2_barTicks 28 = .ok (.ifCond .eq 29, 3) := by decide +kernel
theorem dX2_barTicks_31 : decode cX2_barTicks 31 = .ok (.lconst 1, 1) := by decide +kernel
theorem dX2_barTicks_32 : decode cX2_barTicks 32 = .ok (.aload_n 0, 1) := by decide +kernel
theorem dX2_barTicks_33 : decode cX2_barTicks 33 = .ok (.getfield 15, 3) := by decide +kernel
theorem dX2_barTicks_36 : decode cX2_barTicks 36 = .ok (.iload_n 1, 1) := by decide +kernel
theorem dX2_barTicks_37 : decode cX2_barTicks 37 = .ok (.iaload, 1) := by decide +kernel
theorem dX2_barTicks_38 : decode cX2_barTicks 38 = .ok (.i2l, 1) := by decide +kernel
theorem dX2_barTicks_39 : decode cX2_barTicks 39 = .ok (.ldc2_w 26, 3) := by decide +kernel
theorem dX2_barTicks_42 : decode cX2_barTicks 42 = .ok (.lmul, 1) := by decide +kernel
theorem dX2_barTicks_43 : decode cX2_barTicks 43 = .ok (.aload_n 0, 1) := by decide +kernel
theorem dX2_barTicks_44 : decode cX2_barTicks 44 = .ok (.getfield 19, 3) := by decide +kernel
theorem dX2_barTicks_47 : decode cX2_barTicks 47 = .ok (.iload_n 1, 1) := by decide +kernel
theorem dX2_barTicks_48 : decode cX2_barTicks 48 = .ok (.iaload, 1) := by decide +kernel
theorem dX2_barTicks_49 : decode cX2_barTicks 49 = .ok (.i2l, 1) := by decide +kernel
theorem dX2_barTicks_50 : decode cX2_barTicks 50 = .ok (.ldiv, 1) := by decide +kernel
theorem dX2_barTicks_51 : decode cX2_barTicks 51 = .ok (.invokestatic 28, 3) := by decide +kernel
theorem dX2_barTicks_54 : decode cX2_barTicks 54 = .ok (.goto 6, 3) := by decide +kernel
theorem dX2_barTicks_57 : decode cX2_barTicks 57 = .ok (.ldc2_w 26, 3) := by decide +kernel
theorem dX2_barTicks_60 : decode cX2_barTicks 60 = .ok (.lreturn, 1) := by decide +kernel
abbrev rm_X2_barTicks : Room := { frames := 1, cells := 0, slots := 0, locals := 60 }
def wp_X2_barTicks (a : Nat) (p1 : Int32) (S : PS) (Q : Int64 → PS → Prop) : Prop :=
  (∀ K26_3 : Int32 → PS → Prop, (∀ (t1 : Int32) (S2 : PS),
 (if t1 = 0 then
 Q 3870720 S2
 else
 (∃ b4, fR S2 19 a = some b4 ∧ (vp_in p1 (aN S2 b4) ∧ (∃ b5, fR S2 20 a = some b5 ∧ (vp_in p1 (aN S2 b5) ∧ (¬ ((aI S2 12 b5 (p1).toNatClampNeg).toInt64) = 0 ∧ Q (if (((aI S2 11 b4 (p1).toNatClampNeg).toInt64) * 3870720) / ((aI S2 12 b5 (p1).toNatClampNeg).toInt64) < 1 then 1 else (((aI S2 11 b4 (p1).toNatClampNeg).toInt64) * 3870720) / ((aI S2 12 b5 (p1).toNatClampNeg).toInt64)) S2))))))
 → K26_3 t1 S2) →
 (if p1 < 0 then
 K26_3 0 S
 else
 (if fI S 17 a ≤ p1 then
 K26_3 0 S
 else
 (∃ b6, fR S 20 a = some b6 ∧ (vp_in p1 (aN S b6) ∧ (if aI S 12 b6 (p1).toNatClampNeg ≤ 0 then
 K26_3 0 S
 else
 K26_3 1 S))))))
set_option maxRecDepth 100000 in
set_option maxHeartbeats 4000000 in
theorem c_X2_barTicks {l : Launch} {E : EE} {A : Nat → Prop} {a : Nat} {p1 : Int32} {S : PS} {Q : Int64 → PS → Prop} (r_a : Rf S a 2) (h : wp_X2_barTicks a p1 S Q) : MtL l yX2_barTicks (.code yX2_barTicks cX2_barTicks 3 (some .long)) rm_X2_barTicks E A [.ref a, .int p1] S Q := by
  refine MtL.of (by decide) (Nat.le_of_ble_eq_true rfl) (fun X F hQ hN => ?_)
  show VV X (0, 0) S [(0, .ref a), (1, .int p1)] [] 0
  unfold wp_X2_barTicks at h
  refine v_iload_n F dX2_barTicks_0 1 rfl rfl ?_
  have h := h (fun (t1 : Int32) (S2 : PS) => Rf S2 a 2 → VV X (0, 0) S2 [(0, .ref a), (1, .int p1)] [.int t1] 26) (by
    intro t1 S2 h r_a
    refine v_istore_n (lv1 := [(2, .int t1), (0, .ref a), (1, .int p1)]) F dX2_barTicks_26 rfl (by rw [hN]; decide) rfl ?_
    refine v_iload_n F dX2_barTicks_27 0 rfl rfl ?_
    refine v_if_eq (tgt := 57) F dX2_barTicks_28 (by decide) h (fun h => ?_) (fun h => ?_)
    · refine v_ldc2 F kc_X2_26 dX2_barTicks_57 ?_
      exact v_lret F hQ h (by decide) dX2_barTicks_60
    · refine v_lconst (v := 1) F dX2_barTicks_31 (by decide) ?_
      refine v_aload_n F dX2_barTicks_32 1 rfl rfl ?_
      refine g_X2_15 F r_a h dX2_barTicks_33 (fun b4 r_b4 h => ?_)
      refine v_iload_n F dX2_barTicks_36 2 rfl rfl ?_
      refine v_iald F r_b4 o_11 h dX2_barTicks_37 (fun h => ?_)
      refine v_i2l F dX2_barTicks_38 ?_
      refine v_ldc2 F kc_X2_26 dX2_barTicks_39 ?_
      refine v_lmul F dX2_barTicks_42 ?_
      refine v_aload_n F dX2_barTicks_43 1 rfl rfl ?_
      refine g_X2_19 F r_a h dX2_barTicks_44 (fun b5 r_b5 h => ?_)
      refine v_iload_n F dX2_barTicks_47 2 rfl rfl ?_
      refine v_iald F r_b5 o_12 h dX2_barTicks_48 (fun h => ?_)
      refine v_i2l F dX2_barTicks_49 ?_
      refine v_ldiv F dX2_barTicks_50 h.1 ?_
      have h := h.2
      refine v_mmaxl F k_X2_28 (by decide) (Nat.le_of_ble_eq_true rfl) dX2_barTicks_51 ?_
      refine v_goto (tgt := 60) F dX2_barTicks_54 (by decide) ?_
      exact v_lret F hQ h (by decide) dX2_barTicks_60)
  refine v_if_lt (tgt := 25) F dX2_barTicks_1 (by decide) h (fun h => ?_) (fun h => ?_)
  · refine v_iconst (v := 0) F dX2_barTicks_25 (by decide) ?_
    exact v_sub [0, 1] rfl (h r_a)
  · refine v_iload_n F dX2_barTicks_4 1 rfl rfl ?_
    refine v_aload_n F dX2_barTicks_5 0 rfl rfl ?_
    refine g_X2_22 F r_a dX2_barTicks_6 ?_
    refine v_icmp_ge (tgt := 25) F dX2_barTicks_9 (by decide) h (fun h => ?_) (fun h => ?_)
    · refine v_iconst (v := 0) F dX2_barTicks_25 (by decide) ?_
      exact v_sub [0, 1] rfl (h r_a)
    · refine v_aload_n F dX2_barTicks_12 0 rfl rfl ?_
      refine g_X2_19 F r_a h dX2_barTicks_13 (fun b6 r_b6 h => ?_)
      refine v_iload_n F dX2_barTicks_16 1 rfl rfl ?_
      refine v_iald F r_b6 o_12 h dX2_barTicks_17 (fun h => ?_)
      refine v_if_le (tgt := 25) F dX2_barTicks_18 (by decide) h (fun h => ?_) (fun h => ?_)
      · refine v_iconst (v := 0) F dX2_barTicks_25 (by decide) ?_
        exact v_sub [0, 1] rfl (h r_a)
      · refine v_iconst (v := 1) F dX2_barTicks_21 (by decide) ?_
        refine v_goto (tgt := 26) F dX2_barTicks_22 (by decide) ?_
        exact v_sub [0, 1] rfl (h r_a)
theorem dX2_beginsBar_0 : decode cX2_beginsBar 0 = .ok (.aload_n 0, 1) := by decide +kernel
theorem dX2_beginsBar_1 : decode cX2_beginsBar 1 = .ok (.getfield 22, 3) := by decide +kernel
theorem dX2_beginsBar_4 : decode cX2_beginsBar 4 = .ok (.iconst 1, 1) := by decide +kernel
theorem dX2_beginsBar_5 : decode cX2_beginsBar 5 = .ok (.isub, 1) := by decide +kernel
theorem dX2_beginsBar_6 : decode cX2_beginsBar 6 = .ok (.istore_n 3, 1) := by decide +kernel
theorem dX2_beginsBar_7 : decode cX2_beginsBar 7 = .ok (.aload_n 0, 1) := by decide +kernel
theorem dX2_beginsBar_8 : decode cX2_beginsBar 8 = .ok (.iload_n 3, 1) := by decide +kernel
theorem dX2_beginsBar_9 : decode cX2_beginsBar 9 = .ok (.invokevirtual 34, 3) := by decide +kernel
theorem dX2_beginsBar_12 : decode cX2_beginsBar 12 = .ok (.lstore 4, 2) := by decide +kernel
theorem dX2_beginsBar_14 : decode cX2_beginsBar 14 = .ok (.lload 4, 2) := by decide +kernel
theorem dX2_beginsBar_16 : decode cX2_beginsBar 16 = .ok (.lconst 0, 1) := by decide +kernel
theorem dX2_beginsBar_17 : decode cX2_beginsBar 17 = .ok (.lcmp, 1) := by decide +kernel
theorem dX2_beginsBar_18 : decode cX2_beginsBar 18 = .ok (.ifCond .le 27, 3) := by decide +kernel
theorem dX2_beginsBar_21 : decode cX2_beginsBar 21 = .ok (.iload_n 3, 1) := by decide +kernel
theorem dX2_beginsBar_22 : decode cX2_beginsBar 22 = .ok (.ifCond .lt 23, 3) := by decide +kernel
theorem dX2_beginsBar_25 : decode cX2_beginsBar 25 = .ok (.lload_n 1, 1) := by decide +kernel
theorem dX2_beginsBar_26 : decode cX2_beginsBar 26 = .ok (.aload_n 0, 1) := by decide +kernel
theorem dX2_beginsBar_27 : decode cX2_beginsBar 27 = .ok (.getfield 9, 3) := by decide +kernel
theorem dX2_beginsBar_30 : decode cX2_beginsBar 30 = .ok (.iload_n 3, 1) := by decide +kernel
theorem dX2_beginsBar_31 : decode cX2_beginsBar 31 = .ok (.laload, 1) := by decide +kernel
theorem dX2_beginsBar_32 : decode cX2_beginsBar 32 = .ok (.lsub, 1) := by decide +kernel
theorem dX2_beginsBar_33 : decode cX2_beginsBar 33 = .ok (.lload 4, 2) := by decide +kernel
theorem dX2_beginsBar_35 : decode cX2_beginsBar 35 = .ok (.lrem, 1) := by decide +kernel
theorem dX2_beginsBar_36 : decode cX2_beginsBar 36 = .ok (.lconst 0, 1) := by decide +kernel
theorem dX2_beginsBar_37 : decode cX2_beginsBar 37 = .ok (.lcmp, 1) := by decide +kernel
theorem dX2_beginsBar_38 : decode cX2_beginsBar 38 = .ok (.ifCond .ne 7, 3) := by decide +kernel
theorem dX2_beginsBar_41 : decode cX2_beginsBar 41 = .ok (.iconst 1, 1) := by decide +kernel
theorem dX2_beginsBar_42 : decode cX2_beginsBar 42 = .ok (.goto 4, 3) := by decide +kernel
theorem dX2_beginsBar_45 : decode cX2_beginsBar 45 = .ok (.iconst 0, 1) := by decide +kernel
theorem dX2_beginsBar_46 : decode cX2_beginsBar 46 = .ok (.ireturn, 1) := by decide +kernel
abbrev rm_X2_beginsBar : Room := { frames := 2, cells := 0, slots := 0, locals := 82 }
def wp_X2_beginsBar (a : Nat) (p1 : Int64) (S : PS) (Q : Int32 → PS → Prop) : Prop :=
  (∀ v1, v1 = (fI S 17 a) - 1 → wp_X2_barTicks a v1 S (fun (r3 : Int64) (S2 : PS) => 
 (if r3 ≤ 0 then
 Q 0 S2
 else
 (if v1 < 0 then
 Q 0 S2
 else
 (∃ b4, fR S2 18 a = some b4 ∧ (vp_in v1 (aN S2 b4) ∧ (¬ r3 = 0 ∧ (if (p1 - (aL S2 10 b4 (v1).toNatClampNeg)) - (p1 - (aL S2 10 b4 (v1).toNatClampNeg)) / r3 * r3 = 0 then
 Q 1 S2
 else
 Q 0 S2))))))))
set_option maxRecDepth 100000 in
set_option maxHeartbeats 4000000 in
theorem c_X2_beginsBar {l : Launch} {E : EE} {A : Nat → Prop} {a : Nat} {p1 : Int64} {S : PS} {Q : Int32 → PS → Prop} (r_a : Rf S a 2) (h : wp_X2_beginsBar a p1 S Q) : MtI l yX2_beginsBar (.code yX2_beginsBar cX2_beginsBar 6 (some .boolean)) rm_X2_beginsBar E A [.ref a, .long p1] S (fun r S1 => nz r ∧ Q r S1) := by
  refine MtI.of (by decide) (Nat.le_of_ble_eq_true rfl) (fun X F hQ hN => ?_)
  show VV X (0, 0) S [(0, .ref a), (1, .long p1)] [] 0
  unfold wp_X2_beginsBar at h
  refine v_aload_n F dX2_beginsBar_0 0 rfl rfl ?_
  refine g_X2_22 F r_a dX2_beginsBar_1 ?_
  refine v_iconst (v := 1) F dX2_beginsBar_4 (by decide) ?_
  refine v_isub F dX2_beginsBar_5 ?_
  refine v_topi (fun v1 e_v1 => ?_)
  have h := h v1 e_v1
  refine v_istore_n (lv1 := [(3, .int v1), (0, .ref a), (1, .long p1)]) F dX2_beginsBar_6 rfl (by rw [hN]; decide) rfl ?_
  refine v_aload_n F dX2_beginsBar_7 1 rfl rfl ?_
  refine v_iload_n F dX2_beginsBar_8 0 rfl rfl ?_
  refine v_cL0 (v_runV F k_X2_34 rfl (c_X2_barTicks r_a h) r_a rfl rfl (Nat.le_of_ble_eq_true rfl) (by decide) (by decide) dX2_beginsBar_9) ⟨rfl, rfl⟩ (fun r3 S2 h hE => ?_)
  have r_a := r_a.tr hE
  refine v_lstore (lv1 := [(4, .long r3), (3, .int v1), (0, .ref a), (1, .long p1)]) F dX2_beginsBar_12 (by rw [hN]; decide) rfl ?_
  refine v_lload F dX2_beginsBar_14 0 rfl ?_
  refine v_lconst (v := 0) F dX2_beginsBar_16 (by decide) ?_
  refine v_lcmp_le (tgt := 45) F dX2_beginsBar_17 dX2_beginsBar_18 (by decide) h (fun h => ?_) (fun h => ?_)
  · refine v_iconst (v := 0) F dX2_beginsBar_45 (by decide) ?_
    exact v_zret F hQ (by decide) ⟨nz0, h⟩ (by decide) dX2_beginsBar_46
  · refine v_iload_n F dX2_beginsBar_21 1 rfl rfl ?_
    refine v_if_lt (tgt := 45) F dX2_beginsBar_22 (by decide) h (fun h => ?_) (fun h => ?_)
    · refine v_iconst (v := 0) F dX2_beginsBar_45 (by decide) ?_
      exact v_zret F hQ (by decide) ⟨nz0, h⟩ (by decide) dX2_beginsBar_46
    · refine v_lload_n F dX2_beginsBar_25 3 rfl rfl ?_
      refine v_aload_n F dX2_beginsBar_26 2 rfl rfl ?_
      refine g_X2_9 F r_a h dX2_beginsBar_27 (fun b4 r_b4 h => ?_)
      refine v_iload_n F dX2_beginsBar_30 1 rfl rfl ?_
      refine v_lald F r_b4 o_10 h dX2_beginsBar_31 (fun h => ?_)
      refine v_lsub F dX2_beginsBar_32 ?_
      refine v_lload F dX2_beginsBar_33 0 rfl ?_
      refine v_lrem F dX2_beginsBar_35 h.1 ?_
      have h := h.2
      refine v_lconst (v := 0) F dX2_beginsBar_36 (by decide) ?_
      refine v_lcmp_ne (tgt := 45) F dX2_beginsBar_37 dX2_beginsBar_38 (by decide) h (fun h => ?_) (fun h => ?_)
      · refine v_iconst (v := 0) F dX2_beginsBar_45 (by decide) ?_
        exact v_zret F hQ (by decide) ⟨nz0, h⟩ (by decide) dX2_beginsBar_46
      · refine v_iconst (v := 1) F dX2_beginsBar_41 (by decide) ?_
        refine v_goto (tgt := 46) F dX2_beginsBar_42 (by decide) ?_
        exact v_zret F hQ (by decide) ⟨nz1, h⟩ (by decide) dX2_beginsBar_46
theorem dX2_change_0 : decode cX2_change 0 = .ok (.aload_n 0, 1) := by decide +kernel
theorem dX2_change_1 : decode cX2_change 1 = .ok (.getfield 9, 3) := by decide +kernel
theorem dX2_change_4 : decode cX2_change 4 = .ok (.aload_n 0, 1) := by decide +kernel
theorem dX2_change_5 : decode cX2_change 5 = .ok (.getfield 22, 3) := by decide +kernel
theorem dX2_change_8 : decode cX2_change 8 = .ok (.iconst 1, 1) := by decide +kernel
theorem dX2_change_9 : decode cX2_change 9 = .ok (.isub, 1) := by decide +kernel
theorem dX2_change_10 : decode cX2_change 10 = .ok (.laload, 1) := by decide +kernel
theorem dX2_change_11 : decode cX2_change 11 = .ok (.lload_n 1, 1) := by decide +kernel
theorem dX2_change_12 : decode cX2_change 12 = .ok (.lcmp, 1) := by decide +kernel
theorem dX2_change_13 : decode cX2_change 13 = .ok (.ifCond .ne 12, 3) := by decide +kernel
theorem dX2_change_16 : decode cX2_change 16 = .ok (.aload_n 0, 1) := by decide +kernel
theorem dX2_change_17 : decode cX2_change 17 = .ok (.getfield 22, 3) := by decide +kernel
theorem dX2_change_20 : decode cX2_change 20 = .ok (.iconst 1, 1) := by decide +kernel
theorem dX2_change_21 : decode cX2_change 21 = .ok (.isub, 1) := by decide +kernel
theorem dX2_change_22 : decode cX2_change 22 = .ok (.goto 7, 3) := by decide +kernel
theorem dX2_change_25 : decode cX2_change 25 = .ok (.aload_n 0, 1) := by decide +kernel
theorem dX2_change_26 : decode cX2_change 26 = .ok (.getfield 22, 3) := by decide +kernel
theorem dX2_change_29 : decode cX2_change 29 = .ok (.istore 5, 2) := by decide +kernel
theorem dX2_change_31 : decode cX2_change 31 = .ok (.iload 5, 2) := by decide +kernel
theorem dX2_change_33 : decode cX2_change 33 = .ok (.bipush 40, 2) := by decide +kernel
theorem dX2_change_35 : decode cX2_change 35 = .ok (.if_icmp .lt 5, 3) := by decide +kernel
theorem dX2_change_38 : decode cX2_change 38 = .ok (.iconst 0, 1) := by decide +kernel
theorem dX2_change_39 : decode cX2_change 39 = .ok (.ireturn, 1) := by decide +kernel
theorem dX2_change_40 : decode cX2_change 40 = .ok (.aload_n 0, 1) := by decide +kernel
theorem dX2_change_41 : decode cX2_change 41 = .ok (.getfield 9, 3) := by decide +kernel
theorem dX2_change_44 : decode cX2_change 44 = .ok (.iload 5, 2) := by decide +kernel
theorem dX2_change_46 : decode cX2_change 46 = .ok (.lload_n 1, 1) := by decide +kernel
theorem dX2_change_47 : decode cX2_change 47 = .ok (.lastore, 1) := by decide +kernel
theorem dX2_change_48 : decode cX2_change 48 = .ok (.aload_n 0, 1) := by decide +kernel
theorem dX2_change_49 : decode cX2_change 49 = .ok (.getfield 15, 3) := by decide +kernel
theorem dX2_change_52 : decode cX2_change 52 = .ok (.iload 5, 2) := by decide +kernel
theorem dX2_change_54 : decode cX2_change 54 = .ok (.iload_n 3, 1) := by decide +kernel
theorem dX2_change_55 : decode cX2_change 55 = .ok (.iastore, 1) := by decide +kernel
theorem dX2_change_56 : decode cX2_change 56 = .ok (.aload_n 0, 1) := by decide +kernel
theorem dX2_change_57 : decode cX2_change 57 = .ok (.getfield 19, 3) := by decide +kernel
theorem dX2_change_60 : decode cX2_change 60 = .ok (.iload 5, 2) := by decide +kernel
theorem dX2_change_62 : decode cX2_change 62 = .ok (.iload 4, 2) := by decide +kernel
theorem dX2_change_64 : decode cX2_change 64 = .ok (.iastore, 1) := by decide +kernel
theorem dX2_change_65 : decode cX2_change 65 = .ok (.aload_n 0, 1) := by decide +kernel
theorem dX2_change_66 : decode cX2_change 66 = .ok (.iload 5, 2) := by decide +kernel
theorem dX2_change_68 : decode cX2_change 68 = .ok (.iconst 1, 1) := by decide +kernel
theorem dX2_change_69 : decode cX2_change 69 = .ok (.iadd, 1) := by decide +kernel
theorem dX2_change_70 : decode cX2_change 70 = .ok (.putfield 22, 3) := by decide +kernel
theorem dX2_change_73 : decode cX2_change 73 = .ok (.iconst 1, 1) := by decide +kernel
theorem dX2_change_74 : decode cX2_change 74 = .ok (.ireturn, 1) := by decide +kernel
abbrev rm_X2_change : Room := { frames := 0, cells := 0, slots := 0, locals := 0 }
def wp_X2_change (a : Nat) (p1 : Int64) (p2 : Int32) (p3 : Int32) (S : PS) (Q : Int32 → PS → Prop) : Prop :=
  (∃ b1, fR S 18 a = some b1 ∧ (vp_in ((fI S 17 a) - 1) (aN S b1) ∧ (∀ K29_4 : Int32 → PS → Prop, (∀ (t2 : Int32) (S3 : PS),
 (if t2 < 40 then
 (∃ b5, fR S3 18 a = some b5 ∧ (vp_in t2 (aN S3 b5) ∧ ∀ S6, S6 = wL S3 10 b5 (t2).toNatClampNeg p1 → (∃ b7, fR S6 19 a = some b7 ∧ (vp_in t2 (aN S6 b7) ∧ ∀ S8, S8 = wI S6 11 b7 (t2).toNatClampNeg p2 → (∃ b9, fR S8 20 a = some b9 ∧ (vp_in t2 (aN S8 b9) ∧ ∀ S10, S10 = wI S8 12 b9 (t2).toNatClampNeg p3 → (∀ S11, S11 = sI S10 17 a (t2 + 1) → Q 1 S11)))))))
 else
 Q 0 S3)
 → K29_4 t2 S3) →
 (if aL S 10 b1 ((fI S 17 a) - 1).toNatClampNeg = p1 then
 K29_4 ((fI S 17 a) - 1) S
 else
 K29_4 (fI S 17 a) S))))
set_option maxRecDepth 100000 in
set_option maxHeartbeats 4000000 in
theorem c_X2_change {l : Launch} {E : EE} {A : Nat → Prop} {a : Nat} {p1 : Int64} {p2 : Int32} {p3 : Int32} {S : PS} {Q : Int32 → PS → Prop} (r_a : Rf S a 2) (h : wp_X2_change a p1 p2 p3 S Q) : MtI l yX2_change (.code yX2_change cX2_change 6 (some .boolean)) rm_X2_change E A [.ref a, .long p1, .int p2, .int p3] S (fun r S1 => nz r ∧ Q r S1) := by
  refine MtI.of (by decide) (Nat.le_of_ble_eq_true rfl) (fun X F hQ hN => ?_)
  show VV X (0, 0) S [(0, .ref a), (1, .long p1), (3, .int p2), (4, .int p3)] [] 0
  unfold wp_X2_change at h
  refine v_aload_n F dX2_change_0 0 rfl rfl ?_
  refine g_X2_9 F r_a h dX2_change_1 (fun b1 r_b1 h => ?_)
  refine v_aload_n F dX2_change_4 0 rfl rfl ?_
  refine g_X2_22 F r_a dX2_change_5 ?_
  refine v_iconst (v := 1) F dX2_change_8 (by decide) ?_
  refine v_isub F dX2_change_9 ?_
  refine v_lald F r_b1 o_10 h dX2_change_10 (fun h => ?_)
  refine v_lload_n F dX2_change_11 1 rfl rfl ?_
  have h := h (fun (t2 : Int32) (S3 : PS) => Rf S3 a 2 → VV X (0, 0) S3 [(0, .ref a), (1, .long p1), (3, .int p2), (4, .int p3)] [.int t2] 29) (by
    intro t2 S3 h r_a
    refine v_istore (lv1 := [(5, .int t2), (0, .ref a), (1, .long p1), (3, .int p2), (4, .int p3)]) F dX2_change_29 (by rw [hN]; decide) rfl ?_
    refine v_iload F dX2_change_31 0 rfl ?_
    refine v_bipush (v := 40) F dX2_change_33 (by decide) ?_
    refine v_icmp_lt (tgt := 40) F dX2_change_35 (by decide) h (fun h => ?_) (fun h => ?_)
    · refine v_aload_n F dX2_change_40 1 rfl rfl ?_
      refine g_X2_9 F r_a h dX2_change_41 (fun b5 r_b5 h => ?_)
      refine v_iload F dX2_change_44 0 rfl ?_
      refine v_lload_n F dX2_change_46 2 rfl rfl ?_
      refine v_last F r_b5 o_10 h dX2_change_47 (fun S6 h hE => ?_)
      have r_a := r_a.tr hE
      refine v_aload_n F dX2_change_48 1 rfl rfl ?_
      refine g_X2_15 F r_a h dX2_change_49 (fun b7 r_b7 h => ?_)
      refine v_iload F dX2_change_52 0 rfl ?_
      refine v_iload_n F dX2_change_54 3 rfl rfl ?_
      refine v_iast F r_b7 o_11 h dX2_change_55 (fun S8 h hE => ?_)
      have r_a := r_a.tr hE
      refine v_aload_n F dX2_change_56 1 rfl rfl ?_
      refine g_X2_19 F r_a h dX2_change_57 (fun b9 r_b9 h => ?_)
      refine v_iload F dX2_change_60 0 rfl ?_
      refine v_iload F dX2_change_62 4 rfl ?_
      refine v_iast F r_b9 o_12 h dX2_change_64 (fun S10 h hE => ?_)
      have r_a := r_a.tr hE
      refine v_aload_n F dX2_change_65 1 rfl rfl ?_
      refine v_iload F dX2_change_66 0 rfl ?_
      refine v_iconst (v := 1) F dX2_change_68 (by decide) ?_
      refine v_iadd F dX2_change_69 ?_
      refine p_X2_22 F r_a h dX2_change_70 (fun S11 h hE => ?_)
      have r_a := r_a.tr hE
      refine v_iconst (v := 1) F dX2_change_73 (by decide) ?_
      exact v_zret F hQ (by decide) ⟨nz1, h⟩ (by decide) dX2_change_74
    · refine v_iconst (v := 0) F dX2_change_38 (by decide) ?_
      exact v_zret F hQ (by decide) ⟨nz0, h⟩ (by decide) dX2_change_39)
  refine v_lcmp_ne (tgt := 25) F dX2_change_12 dX2_change_13 (by decide) h (fun h => ?_) (fun h => ?_)
  · refine v_aload_n F dX2_change_25 0 rfl rfl ?_
    refine g_X2_22 F r_a dX2_change_26 ?_
    exact v_sub [0, 1, 2, 3] rfl (h r_a)
  · refine v_aload_n F dX2_change_16 0 rfl rfl ?_
    refine g_X2_22 F r_a dX2_change_17 ?_
    refine v_iconst (v := 1) F dX2_change_20 (by decide) ?_
    refine v_isub F dX2_change_21 ?_
    refine v_goto (tgt := 29) F dX2_change_22 (by decide) ?_
    exact v_sub [0, 1, 2, 3] rfl (h r_a)
theorem dX2_barsUpTo_0 : decode cX2_barsUpTo 0 = .ok (.aload_n 0, 1) := by decide +kernel
theorem dX2_barsUpTo_1 : decode cX2_barsUpTo 1 = .ok (.iload_n 1, 1) := by decide +kernel
theorem dX2_barsUpTo_2 : decode cX2_barsUpTo 2 = .ok (.invokevirtual 34, 3) := by decide +kernel
theorem dX2_barsUpTo_5 : decode cX2_barsUpTo 5 = .ok (.lstore 4, 2) := by decide +kernel
theorem dX2_barsUpTo_7 : decode cX2_barsUpTo 7 = .ok (.lload 4, 2) := by decide +kernel
theorem dX2_barsUpTo_9 : decode cX2_barsUpTo 9 = .ok (.lconst 1, 1) := by decide +kernel
theorem dX2_barsUpTo_10 : decode cX2_barsUpTo 10 = .ok (.lcmp, 1) := by decide +kernel
theorem dX2_barsUpTo_11 : decode cX2_barsUpTo 11 = .ok (.ifCond .ge 7, 3) := by decide +kernel
theorem dX2_barsUpTo_14 : decode cX2_barsUpTo 14 = .ok (.iconst 0, 1) := by decide +kernel
theorem dX2_barsUpTo_15 : decode cX2_barsUpTo 15 = .ok (.goto 20, 3) := by decide +kernel
theorem dX2_barsUpTo_18 : decode cX2_barsUpTo 18 = .ok (.lload_n 2, 1) := by decide +kernel
theorem dX2_barsUpTo_19 : decode cX2_barsUpTo 19 = .ok (.aload_n 0, 1) := by decide +kernel
theorem dX2_barsUpTo_20 : decode cX2_barsUpTo 20 = .ok (.getfield 9, 3) := by decide +kernel
theorem dX2_barsUpTo_23 : decode cX2_barsUpTo 23 = .ok (.iload_n 1, 1) := by decide +kernel
theorem dX2_barsUpTo_24 : decode cX2_barsUpTo 24 = .ok (.laload, 1) := by decide +kernel
theorem dX2_barsUpTo_25 : decode cX2_barsUpTo 25 = .ok (.lsub, 1) := by decide +kernel
theorem dX2_barsUpTo_26 : decode cX2_barsUpTo 26 = .ok (.lload 4, 2) := by decide +kernel
theorem dX2_barsUpTo_28 : decode cX2_barsUpTo 28 = .ok (.ladd, 1) := by decide +kernel
theorem dX2_barsUpTo_29 : decode cX2_barsUpTo 29 = .ok (.lconst 1, 1) := by decide +kernel
theorem dX2_barsUpTo_30 : decode cX2_barsUpTo 30 = .ok (.lsub, 1) := by decide +kernel
theorem dX2_barsUpTo_31 : decode cX2_barsUpTo 31 = .ok (.lload 4, 2) := by decide +kernel
theorem dX2_barsUpTo_33 : decode cX2_barsUpTo 33 = .ok (.ldiv, 1) := by decide +kernel
theorem dX2_barsUpTo_34 : decode cX2_barsUpTo 34 = .ok (.l2i, 1) := by decide +kernel
theorem dX2_barsUpTo_35 : decode cX2_barsUpTo 35 = .ok (.ireturn, 1) := by decide +kernel
abbrev rm_X2_barsUpTo : Room := { frames := 2, cells := 0, slots := 0, locals := 82 }
def wp_X2_barsUpTo (a : Nat) (p1 : Int32) (p2 : Int64) (S : PS) (Q : Int32 → PS → Prop) : Prop :=
  wp_X2_barTicks a p1 S (fun (r2 : Int64) (S1 : PS) => 
 (if 1 ≤ r2 then
 (∃ b3, fR S1 18 a = some b3 ∧ (vp_in p1 (aN S1 b3) ∧ (¬ r2 = 0 ∧ Q (((((p2 - (aL S1 10 b3 (p1).toNatClampNeg)) + r2) - 1) / r2).toInt32) S1)))
 else
 Q 0 S1))
set_option maxRecDepth 100000 in
set_option maxHeartbeats 4000000 in
theorem c_X2_barsUpTo {l : Launch} {E : EE} {A : Nat → Prop} {a : Nat} {p1 : Int32} {p2 : Int64} {S : PS} {Q : Int32 → PS → Prop} (r_a : Rf S a 2) (h : wp_X2_barsUpTo a p1 p2 S Q) : MtI l yX2_barsUpTo (.code yX2_barsUpTo cX2_barsUpTo 6 (some .int)) rm_X2_barsUpTo E A [.ref a, .int p1, .long p2] S Q := by
  refine MtI.of (by decide) (Nat.le_of_ble_eq_true rfl) (fun X F hQ hN => ?_)
  show VV X (0, 0) S [(0, .ref a), (1, .int p1), (2, .long p2)] [] 0
  unfold wp_X2_barsUpTo at h
  refine v_aload_n F dX2_barsUpTo_0 0 rfl rfl ?_
  refine v_iload_n F dX2_barsUpTo_1 1 rfl rfl ?_
  refine v_cL0 (v_runV F k_X2_34 rfl (c_X2_barTicks r_a h) r_a rfl rfl (Nat.le_of_ble_eq_true rfl) (by decide) (by decide) dX2_barsUpTo_2) ⟨rfl, rfl⟩ (fun r2 S1 h hE => ?_)
  have r_a := r_a.tr hE
  refine v_lstore (lv1 := [(4, .long r2), (0, .ref a), (1, .int p1), (2, .long p2)]) F dX2_barsUpTo_5 (by rw [hN]; decide) rfl ?_
  refine v_lload F dX2_barsUpTo_7 0 rfl ?_
  refine v_lconst (v := 1) F dX2_barsUpTo_9 (by decide) ?_
  refine v_lcmp_ge (tgt := 18) F dX2_barsUpTo_10 dX2_barsUpTo_11 (by decide) h (fun h => ?_) (fun h => ?_)
  · refine v_lload_n F dX2_barsUpTo_18 3 rfl rfl ?_
    refine v_aload_n F dX2_barsUpTo_19 1 rfl rfl ?_
    refine g_X2_9 F r_a h dX2_barsUpTo_20 (fun b3 r_b3 h => ?_)
    refine v_iload_n F dX2_barsUpTo_23 2 rfl rfl ?_
    refine v_lald F r_b3 o_10 h dX2_barsUpTo_24 (fun h => ?_)
    refine v_lsub F dX2_barsUpTo_25 ?_
    refine v_lload F dX2_barsUpTo_26 0 rfl ?_
    refine v_ladd F dX2_barsUpTo_28 ?_
    refine v_lconst (v := 1) F dX2_barsUpTo_29 (by decide) ?_
    refine v_lsub F dX2_barsUpTo_30 ?_
    refine v_lload F dX2_barsUpTo_31 0 rfl ?_
    refine v_ldiv F dX2_barsUpTo_33 h.1 ?_
    have h := h.2
    refine v_l2i F dX2_barsUpTo_34 ?_
    exact v_iret F hQ h (by decide) dX2_barsUpTo_35
  · refine v_iconst (v := 0) F dX2_barsUpTo_14 (by decide) ?_
    refine v_goto (tgt := 35) F dX2_barsUpTo_15 (by decide) ?_
    exact v_iret F hQ h (by decide) dX2_barsUpTo_35
theorem dX2_barsOf_0 : decode cX2_barsOf 0 = .ok (.aload_n 0, 1) := by decide +kernel
theorem dX2_barsOf_1 : decode cX2_barsOf 1 = .ok (.iload_n 1, 1) := by decide +kernel
theorem dX2_barsOf_2 : decode cX2_barsOf 2 = .ok (.aload_n 0, 1) := by decide +kernel
theorem dX2_barsOf_3 : decode cX2_barsOf 3 = .ok (.getfield 9, 3) := by decide +kernel
theorem dX2_barsOf_6 : decode cX2_barsOf 6 = .ok (.iload_n 1, 1) := by decide +kernel
theorem dX2_barsOf_7 : decode cX2_barsOf 7 = .ok (.iconst 1, 1) := by decide +kernel
theorem dX2_barsOf_8 : decode cX2_barsOf 8 = .ok (.iadd, 1) := by decide +kernel
theorem dX2_barsOf_9 : decode cX2_barsOf 9 = .ok (.laload, 1) := by decide +kernel
theorem dX2_barsOf_10 : decode cX2_barsOf 10 = .ok (.invokevirtual 38, 3) := by decide +kernel
theorem dX2_barsOf_13 : decode cX2_barsOf 13 = .ok (.ireturn, 1) := by decide +kernel
abbrev rm_X2_barsOf : Room := { frames := 3, cells := 0, slots := 0, locals := 107 }
def wp_X2_barsOf (a : Nat) (p1 : Int32) (S : PS) (Q : Int32 → PS → Prop) : Prop :=
  (∃ b1, fR S 18 a = some b1 ∧ (vp_in (p1 + 1) (aN S b1) ∧ wp_X2_barsUpTo a p1 (aL S 10 b1 (p1 + 1).toNatClampNeg) S (fun (r3 : Int32) (S2 : PS) => 
 Q r3 S2)))
set_option maxRecDepth 100000 in
set_option maxHeartbeats 4000000 in
theorem c_X2_barsOf {l : Launch} {E : EE} {A : Nat → Prop} {a : Nat} {p1 : Int32} {S : PS} {Q : Int32 → PS → Prop} (r_a : Rf S a 2) (h : wp_X2_barsOf a p1 S Q) : MtI l yX2_barsOf (.code yX2_barsOf cX2_barsOf 2 (some .int)) rm_X2_barsOf E A [.ref a, .int p1] S Q := by
  refine MtI.of (by decide) (Nat.le_of_ble_eq_true rfl) (fun X F hQ hN => ?_)
  show VV X (0, 0) S [(0, .ref a), (1, .int p1)] [] 0
  unfold wp_X2_barsOf at h
  refine v_aload_n F dX2_barsOf_0 0 rfl rfl ?_
  refine v_iload_n F dX2_barsOf_1 1 rfl rfl ?_
  refine v_aload_n F dX2_barsOf_2 0 rfl rfl ?_
  refine g_X2_9 F r_a h dX2_barsOf_3 (fun b1 r_b1 h => ?_)
  refine v_iload_n F dX2_barsOf_6 1 rfl rfl ?_
  refine v_iconst (v := 1) F dX2_barsOf_7 (by decide) ?_
  refine v_iadd F dX2_barsOf_8 ?_
  refine v_lald F r_b1 o_10 h dX2_barsOf_9 (fun h => ?_)
  refine v_cI0 (v_runV F k_X2_38 rfl (c_X2_barsUpTo r_a h) r_a rfl rfl (Nat.le_of_ble_eq_true rfl) (by decide) (by decide) dX2_barsOf_10) ⟨rfl, rfl⟩ (fun r3 S2 h hE => ?_)
  have r_a := r_a.tr hE
  exact v_iret F hQ h (by decide) dX2_barsOf_13
theorem dX2_barsAhead_0 : decode cX2_barsAhead 0 = .ok (.iconst 0, 1) := by decide +kernel
theorem dX2_barsAhead_1 : decode cX2_barsAhead 1 = .ok (.istore_n 3, 1) := by decide +kernel
theorem dX2_barsAhead_2 : decode cX2_barsAhead 2 = .ok (.iconst 0, 1) := by decide +kernel
theorem dX2_barsAhead_3 : decode cX2_barsAhead 3 = .ok (.istore 4, 2) := by decide +kernel
theorem dX2_barsAhead_5 : decode cX2_barsAhead 5 = .ok (.iload 4, 2) := by decide +kernel
theorem dX2_barsAhead_7 : decode cX2_barsAhead 7 = .ok (.aload_n 0, 1) := by decide +kernel
theorem dX2_barsAhead_8 : decode cX2_barsAhead 8 = .ok (.getfield 22, 3) := by decide +kernel
theorem dX2_barsAhead_11 : decode cX2_barsAhead 11 = .ok (.iconst 1, 1) := by decide +kernel
theorem dX2_barsAhead_12 : decode cX2_barsAhead 12 = .ok (.isub, 1) := by decide +kernel
theorem dX2_barsAhead_13 : decode cX2_barsAhead 13 = .ok (.if_icmp .ge 18, 3) := by decide +kernel
theorem dX2_barsAhead_16 : decode cX2_barsAhead 16 = .ok (.iload_n 3, 1) := by decide +kernel
theorem dX2_barsAhead_17 : decode cX2_barsAhead 17 = .ok (.aload_n 0, 1) := by decide +kernel
theorem dX2_barsAhead_18 : decode cX2_barsAhead 18 = .ok (.iload 4, 2) := by decide +kernel
theorem dX2_barsAhead_20 : decode cX2_barsAhead 20 = .ok (.invokevirtual 42, 3) := by decide +kernel
theorem dX2_barsAhead_23 : decode cX2_barsAhead 23 = .ok (.iadd, 1) := by decide +kernel
theorem dX2_barsAhead_24 : decode cX2_barsAhead 24 = .ok (.istore_n 3, 1) := by decide +kernel
theorem dX2_barsAhead_25 : decode cX2_barsAhead 25 = .ok (.iinc 4 1, 3) := by decide +kernel
theorem dX2_barsAhead_28 : decode cX2_barsAhead 28 = .ok (.goto (-23), 3) := by decide +kernel
theorem dX2_barsAhead_31 : decode cX2_barsAhead 31 = .ok (.iload_n 3, 1) := by decide +kernel
theorem dX2_barsAhead_32 : decode cX2_barsAhead 32 = .ok (.aload_n 0, 1) := by decide +kernel
theorem dX2_barsAhead_33 : decode cX2_barsAhead 33 = .ok (.aload_n 0, 1) := by decide +kernel
theorem dX2_barsAhead_34 : decode cX2_barsAhead 34 = .ok (.getfield 22, 3) := by decide +kernel
theorem dX2_barsAhead_37 : decode cX2_barsAhead 37 = .ok (.iconst 1, 1) := by decide +kernel
theorem dX2_barsAhead_38 : decode cX2_barsAhead 38 = .ok (.isub, 1) := by decide +kernel
theorem dX2_barsAhead_39 : decode cX2_barsAhead 39 = .ok (.lload_n 1, 1) := by decide +kernel
theorem dX2_barsAhead_40 : decode cX2_barsAhead 40 = .ok (.invokevirtual 38, 3) := by decide +kernel
theorem dX2_barsAhead_43 : decode cX2_barsAhead 43 = .ok (.iadd, 1) := by decide +kernel
theorem dX2_barsAhead_44 : decode cX2_barsAhead 44 = .ok (.ireturn, 1) := by decide +kernel
abbrev rm_X2_barsAhead : Room := { frames := 4, cells := 0, slots := 0, locals := 128 }
def wp_X2_barsAhead (a : Nat) (p1 : Int64) (S : PS) (Q : Int32 → PS → Prop) : Prop :=
  (∀ P5_1 : Int32 → Int32 → PS → Prop, (∀ (x3_2 : Int32) (x4_3 : Int32) (S4 : PS),
 (if (fI S4 17 a) - 1 ≤ x4_3 then
 wp_X2_barsUpTo a ((fI S4 17 a) - 1) p1 S4 (fun (r6 : Int32) (S5 : PS) => 
 Q (x3_2 + r6) S5)
 else
 wp_X2_barsOf a x4_3 S4 (fun (r8 : Int32) (S7 : PS) => 
 (∀ v9, v9 = x3_2 + r8 → (∀ v10, v10 = x4_3 + 1 → P5_1 v9 v10 S7))))
 → P5_1 x3_2 x4_3 S4) → P5_1 0 0 S)
set_option maxRecDepth 100000 in
set_option maxHeartbeats 4000000 in
theorem c_X2_barsAhead {l : Launch} {E : EE} {A : Nat → Prop} {a : Nat} {p1 : Int64} {S : PS} {Q : Int32 → PS → Prop} (r_a : Rf S a 2) (h : wp_X2_barsAhead a p1 S Q) : MtI l yX2_barsAhead (.code yX2_barsAhead cX2_barsAhead 5 (some .int)) rm_X2_barsAhead E A [.ref a, .long p1] S Q := by
  refine MtI.of (by decide) (Nat.le_of_ble_eq_true rfl) (fun X F hQ hN => ?_)
  show VV X (0, 0) S [(0, .ref a), (1, .long p1)] [] 0
  unfold wp_X2_barsAhead at h
  refine v_iconst (v := 0) F dX2_barsAhead_0 (by decide) ?_
  refine v_istore_n (lv1 := [(3, .int 0), (0, .ref a), (1, .long p1)]) F dX2_barsAhead_1 rfl (by rw [hN]; decide) rfl ?_
  refine v_iconst (v := 0) F dX2_barsAhead_2 (by decide) ?_
  refine v_istore (lv1 := [(4, .int 0), (3, .int 0), (0, .ref a), (1, .long p1)]) F dX2_barsAhead_3 (by rw [hN]; decide) rfl ?_
  refine v_sub [2, 3, 1, 0] rfl ?_
  refine h (fun (x3_2 : Int32) (x4_3 : Int32) (S4 : PS) => Rf S4 a 2 → VV X (0, 0) S4 [(0, .ref a), (1, .long p1), (3, .int x3_2), (4, .int x4_3)] [] 5) (fun x3_2 x4_3 S4 h r_a => ?_) r_a
  refine v_iload F dX2_barsAhead_5 3 rfl ?_
  refine v_aload_n F dX2_barsAhead_7 0 rfl rfl ?_
  refine g_X2_22 F r_a dX2_barsAhead_8 ?_
  refine v_iconst (v := 1) F dX2_barsAhead_11 (by decide) ?_
  refine v_isub F dX2_barsAhead_12 ?_
  refine v_icmp_ge (tgt := 31) F dX2_barsAhead_13 (by decide) h (fun h => ?_) (fun h => ?_)
  · refine v_iload_n F dX2_barsAhead_31 2 rfl rfl ?_
    refine v_aload_n F dX2_barsAhead_32 0 rfl rfl ?_
    refine v_aload_n F dX2_barsAhead_33 0 rfl rfl ?_
    refine g_X2_22 F r_a dX2_barsAhead_34 ?_
    refine v_iconst (v := 1) F dX2_barsAhead_37 (by decide) ?_
    refine v_isub F dX2_barsAhead_38 ?_
    refine v_lload_n F dX2_barsAhead_39 1 rfl rfl ?_
    refine v_cI0 (v_runV F k_X2_38 rfl (c_X2_barsUpTo r_a h) r_a rfl rfl (Nat.le_of_ble_eq_true rfl) (by decide) (by decide) dX2_barsAhead_40) ⟨rfl, rfl⟩ (fun r6 S5 h hE => ?_)
    have r_a := r_a.tr hE
    refine v_iadd F dX2_barsAhead_43 ?_
    exact v_iret F hQ h (by decide) dX2_barsAhead_44
  · refine v_iload_n F dX2_barsAhead_16 2 rfl rfl ?_
    refine v_aload_n F dX2_barsAhead_17 0 rfl rfl ?_
    refine v_iload F dX2_barsAhead_18 3 rfl ?_
    refine v_cI0 (v_runV F k_X2_42 rfl (c_X2_barsOf r_a h) r_a rfl rfl (Nat.le_of_ble_eq_true rfl) (by decide) (by decide) dX2_barsAhead_20) ⟨rfl, rfl⟩ (fun r8 S7 h hE => ?_)
    have r_a := r_a.tr hE
    refine v_iadd F dX2_barsAhead_23 ?_
    refine v_topi (fun v9 e_v9 => ?_)
    have h := h v9 e_v9
    refine v_istore_n (lv1 := [(3, .int v9), (0, .ref a), (1, .long p1), (4, .int x4_3)]) F dX2_barsAhead_24 rfl (by rw [hN]; decide) rfl ?_
    obtain ⟨v10, e_v10⟩ : ∃ y : Int32, y = x4_3 + 1 := ⟨_, rfl⟩
    have h := h v10 e_v10
    refine v_iinc (v := v10) (lv1 := [(4, .int v10), (3, .int v9), (0, .ref a), (1, .long p1)]) F dX2_barsAhead_25 (q := 3) rfl (by rw [e_v10]; rfl) (by rw [hN]; decide) rfl ?_
    refine v_goto (tgt := 5) F dX2_barsAhead_28 (by decide) ?_
    exact v_sub [2, 3, 1, 0] rfl (h r_a)
theorem dX2_meterOfBar_0 : decode cX2_meterOfBar 0 = .ok (.iload_n 1, 1) := by decide +kernel
theorem dX2_meterOfBar_1 : decode cX2_meterOfBar 1 = .ok (.istore_n 2, 1) := by decide +kernel
theorem dX2_meterOfBar_2 : decode cX2_meterOfBar 2 = .ok (.iconst 0, 1) := by decide +kernel
theorem dX2_meterOfBar_3 : decode cX2_meterOfBar 3 = .ok (.istore_n 3, 1) := by decide +kernel
theorem dX2_meterOfBar_4 : decode cX2_meterOfBar 4 = .ok (.iload_n 3, 1) := by decide +kernel
theorem dX2_meterOfBar_5 : decode cX2_meterOfBar 5 = .ok (.aload_n 0, 1) := by decide +kernel
theorem dX2_meterOfBar_6 : decode cX2_meterOfBar 6 = .ok (.getfield 22, 3) := by decide +kernel
theorem dX2_meterOfBar_9 : decode cX2_meterOfBar 9 = .ok (.iconst 1, 1) := by decide +kernel
theorem dX2_meterOfBar_10 : decode cX2_meterOfBar 10 = .ok (.isub, 1) := by decide +kernel
theorem dX2_meterOfBar_11 : decode cX2_meterOfBar 11 = .ok (.if_icmp .ge 29, 3) := by decide +kernel
theorem dX2_meterOfBar_14 : decode cX2_meterOfBar 14 = .ok (.aload_n 0, 1) := by decide +kernel
theorem dX2_meterOfBar_15 : decode cX2_meterOfBar 15 = .ok (.iload_n 3, 1) := by decide +kernel
theorem dX2_meterOfBar_16 : decode cX2_meterOfBar 16 = .ok (.invokevirtual 42, 3) := by decide +kernel
theorem dX2_meterOfBar_19 : decode cX2_meterOfBar 19 = .ok (.istore 4, 2) := by decide +kernel
theorem dX2_meterOfBar_21 : decode cX2_meterOfBar 21 = .ok (.iload_n 2, 1) := by decide +kernel
theorem dX2_meterOfBar_22 : decode cX2_meterOfBar 22 = .ok (.iload 4, 2) := by decide +kernel
theorem dX2_meterOfBar_24 : decode cX2_meterOfBar 24 = .ok (.if_icmp .ge 5, 3) := by decide +kernel
theorem dX2_meterOfBar_27 : decode cX2_meterOfBar 27 = .ok (.iload_n 3, 1) := by decide +kernel
theorem dX2_meterOfBar_28 : decode cX2_meterOfBar 28 = .ok (.ireturn, 1) := by decide +kernel
theorem dX2_meterOfBar_29 : decode cX2_meterOfBar 29 = .ok (.iload_n 2, 1) := by decide +kernel
theorem dX2_meterOfBar_30 : decode cX2_meterOfBar 30 = .ok (.iload 4, 2) := by decide +kernel
theorem dX2_meterOfBar_32 : decode cX2_meterOfBar 32 = .ok (.isub, 1) := by decide +kernel
theorem dX2_meterOfBar_33 : decode cX2_meterOfBar 33 = .ok (.istore_n 2, 1) := by decide +kernel
theorem dX2_meterOfBar_34 : decode cX2_meterOfBar 34 = .ok (.iinc 3 1, 3) := by decide +kernel
theorem dX2_meterOfBar_37 : decode cX2_meterOfBar 37 = .ok (.goto (-33), 3) := by decide +kernel
theorem dX2_meterOfBar_40 : decode cX2_meterOfBar 40 = .ok (.aload_n 0, 1) := by decide +kernel
theorem dX2_meterOfBar_41 : decode cX2_meterOfBar 41 = .ok (.getfield 22, 3) := by decide +kernel
theorem dX2_meterOfBar_44 : decode cX2_meterOfBar 44 = .ok (.iconst 1, 1) := by decide +kernel
theorem dX2_meterOfBar_45 : decode cX2_meterOfBar 45 = .ok (.isub, 1) := by decide +kernel
theorem dX2_meterOfBar_46 : decode cX2_meterOfBar 46 = .ok (.ireturn, 1) := by decide +kernel
abbrev rm_X2_meterOfBar : Room := { frames := 4, cells := 0, slots := 0, locals := 128 }
def wp_X2_meterOfBar (a : Nat) (p1 : Int32) (S : PS) (Q : Int32 → PS → Prop) : Prop :=
  (∀ P4_1 : Int32 → Int32 → PS → Prop, (∀ (x2_2 : Int32) (x3_3 : Int32) (S4 : PS),
 (if (fI S4 17 a) - 1 ≤ x3_3 then
 Q ((fI S4 17 a) - 1) S4
 else
 wp_X2_barsOf a x3_3 S4 (fun (r6 : Int32) (S5 : PS) => 
 (if r6 ≤ x2_2 then
 (∀ v7, v7 = x2_2 - r6 → (∀ v8, v8 = x3_3 + 1 → P4_1 v7 v8 S5))
 else
 Q x3_3 S5)))
 → P4_1 x2_2 x3_3 S4) → P4_1 p1 0 S)
set_option maxRecDepth 100000 in
set_option maxHeartbeats 4000000 in
theorem c_X2_meterOfBar {l : Launch} {E : EE} {A : Nat → Prop} {a : Nat} {p1 : Int32} {S : PS} {Q : Int32 → PS → Prop} (r_a : Rf S a 2) (h : wp_X2_meterOfBar a p1 S Q) : MtI l yX2_meterOfBar (.code yX2_meterOfBar cX2_meterOfBar 5 (some .int)) rm_X2_meterOfBar E A [.ref a, .int p1] S Q := by
  refine MtI.of (by decide) (Nat.le_of_ble_eq_true rfl) (fun X F hQ hN => ?_)
  show VV X (0, 0) S [(0, .ref a), (1, .int p1)] [] 0
  unfold wp_X2_meterOfBar at h
  refine v_iload_n F dX2_meterOfBar_0 1 rfl rfl ?_
  refine v_istore_n (lv1 := [(2, .int p1), (0, .ref a), (1, .int p1)]) F dX2_meterOfBar_1 rfl (by rw [hN]; decide) rfl ?_
  refine v_iconst (v := 0) F dX2_meterOfBar_2 (by decide) ?_
  refine v_istore_n (lv1 := [(3, .int 0), (2, .int p1), (0, .ref a), (1, .int p1)]) F dX2_meterOfBar_3 rfl (by rw [hN]; decide) rfl ?_
  refine v_sub [2, 1, 0] rfl ?_
  refine h (fun (x2_2 : Int32) (x3_3 : Int32) (S4 : PS) => Rf S4 a 2 → VV X (0, 0) S4 [(0, .ref a), (2, .int x2_2), (3, .int x3_3)] [] 4) (fun x2_2 x3_3 S4 h r_a => ?_) r_a
  refine v_iload_n F dX2_meterOfBar_4 2 rfl rfl ?_
  refine v_aload_n F dX2_meterOfBar_5 0 rfl rfl ?_
  refine g_X2_22 F r_a dX2_meterOfBar_6 ?_
  refine v_iconst (v := 1) F dX2_meterOfBar_9 (by decide) ?_
  refine v_isub F dX2_meterOfBar_10 ?_
  refine v_icmp_ge (tgt := 40) F dX2_meterOfBar_11 (by decide) h (fun h => ?_) (fun h => ?_)
  · refine v_aload_n F dX2_meterOfBar_40 0 rfl rfl ?_
    refine g_X2_22 F r_a dX2_meterOfBar_41 ?_
    refine v_iconst (v := 1) F dX2_meterOfBar_44 (by decide) ?_
    refine v_isub F dX2_meterOfBar_45 ?_
    exact v_iret F hQ h (by decide) dX2_meterOfBar_46
  · refine v_aload_n F dX2_meterOfBar_14 0 rfl rfl ?_
    refine v_iload_n F dX2_meterOfBar_15 2 rfl rfl ?_
    refine v_cI0 (v_runV F k_X2_42 rfl (c_X2_barsOf r_a h) r_a rfl rfl (Nat.le_of_ble_eq_true rfl) (by decide) (by decide) dX2_meterOfBar_16) ⟨rfl, rfl⟩ (fun r6 S5 h hE => ?_)
    have r_a := r_a.tr hE
    refine v_istore (lv1 := [(4, .int r6), (0, .ref a), (2, .int x2_2), (3, .int x3_3)]) F dX2_meterOfBar_19 (by rw [hN]; decide) rfl ?_
    refine v_iload_n F dX2_meterOfBar_21 2 rfl rfl ?_
    refine v_iload F dX2_meterOfBar_22 0 rfl ?_
    refine v_icmp_ge (tgt := 29) F dX2_meterOfBar_24 (by decide) h (fun h => ?_) (fun h => ?_)
    · refine v_iload_n F dX2_meterOfBar_29 2 rfl rfl ?_
      refine v_iload F dX2_meterOfBar_30 0 rfl ?_
      refine v_isub F dX2_meterOfBar_32 ?_
      refine v_topi (fun v7 e_v7 => ?_)
      have h := h v7 e_v7
      refine v_istore_n (lv1 := [(2, .int v7), (4, .int r6), (0, .ref a), (3, .int x3_3)]) F dX2_meterOfBar_33 rfl (by rw [hN]; decide) rfl ?_
      obtain ⟨v8, e_v8⟩ : ∃ y : Int32, y = x3_3 + 1 := ⟨_, rfl⟩
      have h := h v8 e_v8
      refine v_iinc (v := v8) (lv1 := [(3, .int v8), (2, .int v7), (4, .int r6), (0, .ref a)]) F dX2_meterOfBar_34 (q := 3) rfl (by rw [e_v8]; rfl) (by rw [hN]; decide) rfl ?_
      refine v_goto (tgt := 4) F dX2_meterOfBar_37 (by decide) ?_
      exact v_sub [3, 1, 0] rfl (h r_a)
    · refine v_iload_n F dX2_meterOfBar_27 3 rfl rfl ?_
      exact v_iret F hQ h (by decide) dX2_meterOfBar_28
theorem dX2_beginOfBar_0 : decode cX2_beginOfBar 0 = .ok (.aload_n 0, 1) := by decide +kernel
theorem dX2_beginOfBar_1 : decode cX2_beginOfBar 1 = .ok (.iload_n 1, 1) := by decide +kernel
theorem dX2_beginOfBar_2 : decode cX2_beginOfBar 2 = .ok (.invokevirtual 46, 3) := by decide +kernel
theorem dX2_beginOfBar_5 : decode cX2_beginOfBar 5 = .ok (.istore_n 2, 1) := by decide +kernel
theorem dX2_beginOfBar_6 : decode cX2_beginOfBar 6 = .ok (.iload_n 1, 1) := by decide +kernel
theorem dX2_beginOfBar_7 : decode cX2_beginOfBar 7 = .ok (.istore_n 3, 1) := by decide +kernel
theorem dX2_beginOfBar_8 : decode cX2_beginOfBar 8 = .ok (.iconst 0, 1) := by decide +kernel
theorem dX2_beginOfBar_9 : decode cX2_beginOfBar 9 = .ok (.istore 4, 2) := by decide +kernel
theorem dX2_beginOfBar_11 : decode cX2_beginOfBar 11 = .ok (.iload 4, 2) := by decide +kernel
theorem dX2_beginOfBar_13 : decode cX2_beginOfBar 13 = .ok (.iload_n 2, 1) := by decide +kernel
theorem dX2_beginOfBar_14 : decode cX2_beginOfBar 14 = .ok (.if_icmp .ge 18, 3) := by decide +kernel
theorem dX2_beginOfBar_17 : decode cX2_beginOfBar 17 = .ok (.iload_n 3, 1) := by decide +kernel
theorem dX2_beginOfBar_18 : decode cX2_beginOfBar 18 = .ok (.aload_n 0, 1) := by decide +kernel
theorem dX2_beginOfBar_19 : decode cX2_beginOfBar 19 = .ok (.iload 4, 2) := by decide +kernel
theorem dX2_beginOfBar_21 : decode cX2_beginOfBar 21 = .ok (.invokevirtual 42, 3) := by decide +kernel
theorem dX2_beginOfBar_24 : decode cX2_beginOfBar 24 = .ok (.isub, 1) := by decide +kernel
theorem dX2_beginOfBar_25 : decode cX2_beginOfBar 25 = .ok (.istore_n 3, 1) := by decide +kernel
theorem dX2_beginOfBar_26 : decode cX2_beginOfBar 26 = .ok (.iinc 4 1, 3) := by decide +kernel
theorem dX2_beginOfBar_29 : decode cX2_beginOfBar 29 = .ok (.goto (-18), 3) := by decide +kernel
theorem dX2_beginOfBar_32 : decode cX2_beginOfBar 32 = .ok (.aload_n 0, 1) := by decide +kernel
theorem dX2_beginOfBar_33 : decode cX2_beginOfBar 33 = .ok (.getfield 9, 3) := by decide +kernel
theorem dX2_beginOfBar_36 : decode cX2_beginOfBar 36 = .ok (.iload_n 2, 1) := by decide +kernel
theorem dX2_beginOfBar_37 : decode cX2_beginOfBar 37 = .ok (.laload, 1) := by decide +kernel
theorem dX2_beginOfBar_38 : decode cX2_beginOfBar 38 = .ok (.iload_n 3, 1) := by decide +kernel
theorem dX2_beginOfBar_39 : decode cX2_beginOfBar 39 = .ok (.i2l, 1) := by decide +kernel
theorem dX2_beginOfBar_40 : decode cX2_beginOfBar 40 = .ok (.aload_n 0, 1) := by decide +kernel
theorem dX2_beginOfBar_41 : decode cX2_beginOfBar 41 = .ok (.iload_n 2, 1) := by decide +kernel
theorem dX2_beginOfBar_42 : decode cX2_beginOfBar 42 = .ok (.invokevirtual 34, 3) := by decide +kernel
theorem dX2_beginOfBar_45 : decode cX2_beginOfBar 45 = .ok (.lmul, 1) := by decide +kernel
theorem dX2_beginOfBar_46 : decode cX2_beginOfBar 46 = .ok (.ladd, 1) := by decide +kernel
theorem dX2_beginOfBar_47 : decode cX2_beginOfBar 47 = .ok (.lreturn, 1) := by decide +kernel
abbrev rm_X2_beginOfBar : Room := { frames := 5, cells := 0, slots := 0, locals := 152 }
def wp_X2_beginOfBar (a : Nat) (p1 : Int32) (S : PS) (Q : Int64 → PS → Prop) : Prop :=
  wp_X2_meterOfBar a p1 S (fun (r2 : Int32) (S1 : PS) => 
 (∀ P11_3 : Int32 → Int32 → PS → Prop, (∀ (x3_4 : Int32) (x4_5 : Int32) (S6 : PS),
 (if r2 ≤ x4_5 then
 (∃ b7, fR S6 18 a = some b7 ∧ (vp_in r2 (aN S6 b7) ∧ wp_X2_barTicks a r2 S6 (fun (r9 : Int64) (S8 : PS) => 
 Q ((aL S6 10 b7 (r2).toNatClampNeg) + ((x3_4.toInt64) * r9)) S8)))
 else
 wp_X2_barsOf a x4_5 S6 (fun (r11 : Int32) (S10 : PS) => 
 (∀ v12, v12 = x3_4 - r11 → (∀ v13, v13 = x4_5 + 1 → P11_3 v12 v13 S10))))
 → P11_3 x3_4 x4_5 S6) → P11_3 p1 0 S1))
set_option maxRecDepth 100000 in
set_option maxHeartbeats 4000000 in
theorem c_X2_beginOfBar {l : Launch} {E : EE} {A : Nat → Prop} {a : Nat} {p1 : Int32} {S : PS} {Q : Int64 → PS → Prop} (r_a : Rf S a 2) (h : wp_X2_beginOfBar a p1 S Q) : MtL l yX2_beginOfBar (.code yX2_beginOfBar cX2_beginOfBar 5 (some .long)) rm_X2_beginOfBar E A [.ref a, .int p1] S Q := by
  refine MtL.of (by decide) (Nat.le_of_ble_eq_true rfl) (fun X F hQ hN => ?_)
  show VV X (0, 0) S [(0, .ref a), (1, .int p1)] [] 0
  unfold wp_X2_beginOfBar at h
  refine v_aload_n F dX2_beginOfBar_0 0 rfl rfl ?_
  refine v_iload_n F dX2_beginOfBar_1 1 rfl rfl ?_
  refine v_cI0 (v_runV F k_X2_46 rfl (c_X2_meterOfBar r_a h) r_a rfl rfl (Nat.le_of_ble_eq_true rfl) (by decide) (by decide) dX2_beginOfBar_2) ⟨rfl, rfl⟩ (fun r2 S1 h hE => ?_)
  have r_a := r_a.tr hE
  refine v_istore_n (lv1 := [(2, .int r2), (0, .ref a), (1, .int p1)]) F dX2_beginOfBar_5 rfl (by rw [hN]; decide) rfl ?_
  refine v_iload_n F dX2_beginOfBar_6 2 rfl rfl ?_
  refine v_istore_n (lv1 := [(3, .int p1), (2, .int r2), (0, .ref a), (1, .int p1)]) F dX2_beginOfBar_7 rfl (by rw [hN]; decide) rfl ?_
  refine v_iconst (v := 0) F dX2_beginOfBar_8 (by decide) ?_
  refine v_istore (lv1 := [(4, .int 0), (3, .int p1), (2, .int r2), (0, .ref a), (1, .int p1)]) F dX2_beginOfBar_9 (by rw [hN]; decide) rfl ?_
  refine v_sub [3, 2, 1, 0] rfl ?_
  refine h (fun (x3_4 : Int32) (x4_5 : Int32) (S6 : PS) => Rf S6 a 2 → VV X (0, 0) S6 [(0, .ref a), (2, .int r2), (3, .int x3_4), (4, .int x4_5)] [] 11) (fun x3_4 x4_5 S6 h r_a => ?_) r_a
  refine v_iload F dX2_beginOfBar_11 3 rfl ?_
  refine v_iload_n F dX2_beginOfBar_13 1 rfl rfl ?_
  refine v_icmp_ge (tgt := 32) F dX2_beginOfBar_14 (by decide) h (fun h => ?_) (fun h => ?_)
  · refine v_aload_n F dX2_beginOfBar_32 0 rfl rfl ?_
    refine g_X2_9 F r_a h dX2_beginOfBar_33 (fun b7 r_b7 h => ?_)
    refine v_iload_n F dX2_beginOfBar_36 1 rfl rfl ?_
    refine v_lald F r_b7 o_10 h dX2_beginOfBar_37 (fun h => ?_)
    refine v_iload_n F dX2_beginOfBar_38 2 rfl rfl ?_
    refine v_i2l F dX2_beginOfBar_39 ?_
    refine v_aload_n F dX2_beginOfBar_40 0 rfl rfl ?_
    refine v_iload_n F dX2_beginOfBar_41 1 rfl rfl ?_
    refine v_cL0 (v_runV F k_X2_34 rfl (c_X2_barTicks r_a h) r_a rfl rfl (Nat.le_of_ble_eq_true rfl) (by decide) (by decide) dX2_beginOfBar_42) ⟨rfl, rfl⟩ (fun r9 S8 h hE => ?_)
    have r_a := r_a.tr hE
    refine v_lmul F dX2_beginOfBar_45 ?_
    refine v_ladd F dX2_beginOfBar_46 ?_
    exact v_lret F hQ h (by decide) dX2_beginOfBar_47
  · refine v_iload_n F dX2_beginOfBar_17 2 rfl rfl ?_
    refine v_aload_n F dX2_beginOfBar_18 0 rfl rfl ?_
    refine v_iload F dX2_beginOfBar_19 3 rfl ?_
    refine v_cI0 (v_runV F k_X2_42 rfl (c_X2_barsOf r_a h) r_a rfl rfl (Nat.le_of_ble_eq_true rfl) (by decide) (by decide) dX2_beginOfBar_21) ⟨rfl, rfl⟩ (fun r11 S10 h hE => ?_)
    have r_a := r_a.tr hE
    refine v_isub F dX2_beginOfBar_24 ?_
    refine v_topi (fun v12 e_v12 => ?_)
    have h := h v12 e_v12
    refine v_istore_n (lv1 := [(3, .int v12), (0, .ref a), (2, .int r2), (4, .int x4_5)]) F dX2_beginOfBar_25 rfl (by rw [hN]; decide) rfl ?_
    obtain ⟨v13, e_v13⟩ : ∃ y : Int32, y = x4_5 + 1 := ⟨_, rfl⟩
    have h := h v13 e_v13
    refine v_iinc (v := v13) (lv1 := [(4, .int v13), (3, .int v12), (0, .ref a), (2, .int r2)]) F dX2_beginOfBar_26 (q := 3) rfl (by rw [e_v13]; rfl) (by rw [hN]; decide) rfl ?_
    refine v_goto (tgt := 11) F dX2_beginOfBar_29 (by decide) ?_
    exact v_sub [2, 3, 1, 0] rfl (h r_a)
theorem dX9_place_0 : decode cX9_place 0 = .ok (.iload_n 0, 1) := by decide +kernel
theorem dX9_place_1 : decode cX9_place 1 = .ok (.iconst 4, 1) := by decide +kernel
theorem dX9_place_2 : decode cX9_place 2 = .ok (.ishr, 1) := by decide +kernel
theorem dX9_place_3 : decode cX9_place 3 = .ok (.ireturn, 1) := by decide +kernel
abbrev rm_X9_place : Room := { frames := 0, cells := 0, slots := 0, locals := 0 }
def wp_X9_place (p1 : Int32) (S : PS) (Q : Int32 → PS → Prop) : Prop :=
  Q (p1 >>> (4 &&& 31)) S
set_option maxRecDepth 100000 in
set_option maxHeartbeats 4000000 in
theorem c_X9_place {l : Launch} {E : EE} {A : Nat → Prop} {p1 : Int32} {S : PS} {Q : Int32 → PS → Prop} (h : wp_X9_place p1 S Q) : MtI l yX9_place (.code yX9_place cX9_place 1 (some .int)) rm_X9_place E A [.int p1] S Q := by
  refine MtI.of (by decide) (Nat.le_of_ble_eq_true rfl) (fun X F hQ hN => ?_)
  show VV X (0, 0) S [(0, .int p1)] [] 0
  unfold wp_X9_place at h
  refine v_iload_n F dX9_place_0 0 rfl rfl ?_
  refine v_iconst (v := 4) F dX9_place_1 (by decide) ?_
  refine v_ishr F dX9_place_2 ?_
  exact v_iret F hQ h (by decide) dX9_place_3
theorem dX4_code_0 : decode cX4_code 0 = .ok (.iload_n 0, 1) := by decide +kernel
theorem dX4_code_1 : decode cX4_code 1 = .ok (.iconst 5, 1) := by decide +kernel
theorem dX4_code_2 : decode cX4_code 2 = .ok (.imul, 1) := by decide +kernel
theorem dX4_code_3 : decode cX4_code 3 = .ok (.iload_n 1, 1) := by decide +kernel
theorem dX4_code_4 : decode cX4_code 4 = .ok (.iadd, 1) := by decide +kernel
theorem dX4_code_5 : decode cX4_code 5 = .ok (.iconst 2, 1) := by decide +kernel
theorem dX4_code_6 : decode cX4_code 6 = .ok (.iadd, 1) := by decide +kernel
theorem dX4_code_7 : decode cX4_code 7 = .ok (.ireturn, 1) := by decide +kernel
abbrev rm_X4_code : Room := { frames := 0, cells := 0, slots := 0, locals := 0 }
def wp_X4_code (p1 : Int32) (p2 : Int32) (S : PS) (Q : Int32 → PS → Prop) : Prop :=
  Q (((p1 * 5) + p2) + 2) S
set_option maxRecDepth 100000 in
set_option maxHeartbeats 4000000 in
theorem c_X4_code {l : Launch} {E : EE} {A : Nat → Prop} {p1 : Int32} {p2 : Int32} {S : PS} {Q : Int32 → PS → Prop} (h : wp_X4_code p1 p2 S Q) : MtI l yX4_code (.code yX4_code cX4_code 2 (some .int)) rm_X4_code E A [.int p1, .int p2] S Q := by
  refine MtI.of (by decide) (Nat.le_of_ble_eq_true rfl) (fun X F hQ hN => ?_)
  show VV X (0, 0) S [(0, .int p1), (1, .int p2)] [] 0
  unfold wp_X4_code at h
  refine v_iload_n F dX4_code_0 0 rfl rfl ?_
  refine v_iconst (v := 5) F dX4_code_1 (by decide) ?_
  refine v_imul F dX4_code_2 ?_
  refine v_iload_n F dX4_code_3 1 rfl rfl ?_
  refine v_iadd F dX4_code_4 ?_
  refine v_iconst (v := 2) F dX4_code_5 (by decide) ?_
  refine v_iadd F dX4_code_6 ?_
  exact v_iret F hQ h (by decide) dX4_code_7
theorem dX4_step_0 : decode cX4_step 0 = .ok (.iload_n 0, 1) := by decide +kernel
theorem dX4_step_1 : decode cX4_step 1 = .ok (.iconst 5, 1) := by decide +kernel
theorem dX4_step_2 : decode cX4_step 2 = .ok (.idiv, 1) := by decide +kernel
theorem dX4_step_3 : decode cX4_step 3 = .ok (.ireturn, 1) := by decide +kernel
abbrev rm_X4_step : Room := { frames := 0, cells := 0, slots := 0, locals := 0 }
def wp_X4_step (p1 : Int32) (S : PS) (Q : Int32 → PS → Prop) : Prop :=
  Q (p1 / 5) S
set_option maxRecDepth 100000 in
set_option maxHeartbeats 4000000 in
theorem c_X4_step {l : Launch} {E : EE} {A : Nat → Prop} {p1 : Int32} {S : PS} {Q : Int32 → PS → Prop} (h : wp_X4_step p1 S Q) : MtI l yX4_step (.code yX4_step cX4_step 1 (some .int)) rm_X4_step E A [.int p1] S Q := by
  refine MtI.of (by decide) (Nat.le_of_ble_eq_true rfl) (fun X F hQ hN => ?_)
  show VV X (0, 0) S [(0, .int p1)] [] 0
  unfold wp_X4_step at h
  refine v_iload_n F dX4_step_0 0 rfl rfl ?_
  refine v_iconst (v := 5) F dX4_step_1 (by decide) ?_
  refine v_idiv F dX4_step_2 (by decide) ?_
  exact v_iret F hQ h (by decide) dX4_step_3
theorem dX4_alter_0 : decode cX4_alter 0 = .ok (.iload_n 0, 1) := by decide +kernel
theorem dX4_alter_1 : decode cX4_alter 1 = .ok (.iconst 5, 1) := by decide +kernel
theorem dX4_alter_2 : decode cX4_alter 2 = .ok (.irem, 1) := by decide +kernel
theorem dX4_alter_3 : decode cX4_alter 3 = .ok (.iconst 2, 1) := by decide +kernel
theorem dX4_alter_4 : decode cX4_alter 4 = .ok (.isub, 1) := by decide +kernel
theorem dX4_alter_5 : decode cX4_alter 5 = .ok (.ireturn, 1) := by decide +kernel
abbrev rm_X4_alter : Room := { frames := 0, cells := 0, slots := 0, locals := 0 }
def wp_X4_alter (p1 : Int32) (S : PS) (Q : Int32 → PS → Prop) : Prop :=
  Q ((p1 - p1 / 5 * 5) - 2) S
set_option maxRecDepth 100000 in
set_option maxHeartbeats 4000000 in
theorem c_X4_alter {l : Launch} {E : EE} {A : Nat → Prop} {p1 : Int32} {S : PS} {Q : Int32 → PS → Prop} (h : wp_X4_alter p1 S Q) : MtI l yX4_alter (.code yX4_alter cX4_alter 1 (some .int)) rm_X4_alter E A [.int p1] S Q := by
  refine MtI.of (by decide) (Nat.le_of_ble_eq_true rfl) (fun X F hQ hN => ?_)
  show VV X (0, 0) S [(0, .int p1)] [] 0
  unfold wp_X4_alter at h
  refine v_iload_n F dX4_alter_0 0 rfl rfl ?_
  refine v_iconst (v := 5) F dX4_alter_1 (by decide) ?_
  refine v_irem F dX4_alter_2 (by decide) ?_
  refine v_iconst (v := 2) F dX4_alter_3 (by decide) ?_
  refine v_isub F dX4_alter_4 ?_
  exact v_iret F hQ h (by decide) dX4_alter_5
theorem dX4_letter_0 : decode cX4_letter 0 = .ok (.iload_n 0, 1) := by decide +kernel
theorem dX4_letter_1 : decode cX4_letter 1 = .ok (.invokestatic 9, 3) := by decide +kernel
theorem dX4_letter_4 : decode cX4_letter 4 = .ok (.bipush 7, 2) := by decide +kernel
theorem dX4_letter_6 : decode cX4_letter 6 = .ok (.irem, 1) := by decide +kernel
theorem dX4_letter_7 : decode cX4_letter 7 = .ok (.ireturn, 1) := by decide +kernel
abbrev rm_X4_letter : Room := { frames := 1, cells := 0, slots := 0, locals := 20 }
def wp_X4_letter (p1 : Int32) (S : PS) (Q : Int32 → PS → Prop) : Prop :=
  wp_X4_step p1 S (fun (r2 : Int32) (S1 : PS) => 
 Q (r2 - r2 / 7 * 7) S1)
set_option maxRecDepth 100000 in
set_option maxHeartbeats 4000000 in
theorem c_X4_letter {l : Launch} {E : EE} {A : Nat → Prop} {p1 : Int32} {S : PS} {Q : Int32 → PS → Prop} (h : wp_X4_letter p1 S Q) : MtI l yX4_letter (.code yX4_letter cX4_letter 1 (some .int)) rm_X4_letter E A [.int p1] S Q := by
  refine MtI.of (by decide) (Nat.le_of_ble_eq_true rfl) (fun X F hQ hN => ?_)
  show VV X (0, 0) S [(0, .int p1)] [] 0
  unfold wp_X4_letter at h
  refine v_iload_n F dX4_letter_0 0 rfl rfl ?_
  refine v_cI0 (v_runS F k_X4_9 (c_X4_step h) rfl rfl (Nat.le_of_ble_eq_true rfl) (by decide) (by decide) dX4_letter_1) ⟨rfl, rfl⟩ (fun r2 S1 h hE => ?_)
  refine v_bipush (v := 7) F dX4_letter_4 (by decide) ?_
  refine v_irem F dX4_letter_6 (by decide) ?_
  exact v_iret F hQ h (by decide) dX4_letter_7
theorem dX4_octave_0 : decode cX4_octave 0 = .ok (.iload_n 0, 1) := by decide +kernel
theorem dX4_octave_1 : decode cX4_octave 1 = .ok (.invokestatic 9, 3) := by decide +kernel
theorem dX4_octave_4 : decode cX4_octave 4 = .ok (.bipush 7, 2) := by decide +kernel
theorem dX4_octave_6 : decode cX4_octave 6 = .ok (.idiv, 1) := by decide +kernel
theorem dX4_octave_7 : decode cX4_octave 7 = .ok (.ireturn, 1) := by decide +kernel
abbrev rm_X4_octave : Room := { frames := 1, cells := 0, slots := 0, locals := 20 }
def wp_X4_octave (p1 : Int32) (S : PS) (Q : Int32 → PS → Prop) : Prop :=
  wp_X4_step p1 S (fun (r2 : Int32) (S1 : PS) => 
 Q (r2 / 7) S1)
set_option maxRecDepth 100000 in
set_option maxHeartbeats 4000000 in
theorem c_X4_octave {l : Launch} {E : EE} {A : Nat → Prop} {p1 : Int32} {S : PS} {Q : Int32 → PS → Prop} (h : wp_X4_octave p1 S Q) : MtI l yX4_octave (.code yX4_octave cX4_octave 1 (some .int)) rm_X4_octave E A [.int p1] S Q := by
  refine MtI.of (by decide) (Nat.le_of_ble_eq_true rfl) (fun X F hQ hN => ?_)
  show VV X (0, 0) S [(0, .int p1)] [] 0
  unfold wp_X4_octave at h
  refine v_iload_n F dX4_octave_0 0 rfl rfl ?_
  refine v_cI0 (v_runS F k_X4_9 (c_X4_step h) rfl rfl (Nat.le_of_ble_eq_true rfl) (by decide) (by decide) dX4_octave_1) ⟨rfl, rfl⟩ (fun r2 S1 h hE => ?_)
  refine v_bipush (v := 7) F dX4_octave_4 (by decide) ?_
  refine v_idiv F dX4_octave_6 (by decide) ?_
  exact v_iret F hQ h (by decide) dX4_octave_7
theorem dX4_size_0 : decode cX4_size 0 = .ok (.lload_n 0, 1) := by decide +kernel
theorem dX4_size_1 : decode cX4_size 1 = .ok (.ldc2_w 28, 3) := by decide +kernel
theorem dX4_size_4 : decode cX4_size 4 = .ok (.land, 1) := by decide +kernel
theorem dX4_size_5 : decode cX4_size 5 = .ok (.l2i, 1) := by decide +kernel
theorem dX4_size_6 : decode cX4_size 6 = .ok (.ireturn, 1) := by decide +kernel
abbrev rm_X4_size : Room := { frames := 0, cells := 0, slots := 0, locals := 0 }
def wp_X4_size (p1 : Int64) (S : PS) (Q : Int32 → PS → Prop) : Prop :=
  Q ((p1 &&& 7).toInt32) S
set_option maxRecDepth 100000 in
set_option maxHeartbeats 4000000 in
theorem c_X4_size {l : Launch} {E : EE} {A : Nat → Prop} {p1 : Int64} {S : PS} {Q : Int32 → PS → Prop} (h : wp_X4_size p1 S Q) : MtI l yX4_size (.code yX4_size cX4_size 2 (some .int)) rm_X4_size E A [.long p1] S Q := by
  refine MtI.of (by decide) (Nat.le_of_ble_eq_true rfl) (fun X F hQ hN => ?_)
  show VV X (0, 0) S [(0, .long p1)] [] 0
  unfold wp_X4_size at h
  refine v_lload_n F dX4_size_0 0 rfl rfl ?_
  refine v_ldc2 F kc_X4_28 dX4_size_1 ?_
  refine v_land F dX4_size_4 ?_
  refine v_l2i F dX4_size_5 ?_
  exact v_iret F hQ h (by decide) dX4_size_6
theorem dX4_with_0 : decode cX4_with 0 = .ok (.lload_n 0, 1) := by decide +kernel
theorem dX4_with_1 : decode cX4_with 1 = .ok (.iload_n 3, 1) := by decide +kernel
theorem dX4_with_2 : decode cX4_with 2 = .ok (.i2l, 1) := by decide +kernel
theorem dX4_with_3 : decode cX4_with 3 = .ok (.iconst 3, 1) := by decide +kernel
theorem dX4_with_4 : decode cX4_with 4 = .ok (.bipush 9, 2) := by decide +kernel
theorem dX4_with_6 : decode cX4_with 6 = .ok (.iload_n 2, 1) := by decide +kernel
theorem dX4_with_7 : decode cX4_with 7 = .ok (.imul, 1) := by decide +kernel
theorem dX4_with_8 : decode cX4_with 8 = .ok (.iadd, 1) := by decide +kernel
theorem dX4_with_9 : decode cX4_with 9 = .ok (.lshl, 1) := by decide +kernel
theorem dX4_with_10 : decode cX4_with 10 = .ok (.lor, 1) := by decide +kernel
theorem dX4_with_11 : decode cX4_with 11 = .ok (.lreturn, 1) := by decide +kernel
abbrev rm_X4_with : Room := { frames := 0, cells := 0, slots := 0, locals := 0 }
def wp_X4_with (p1 : Int64) (p2 : Int32) (p3 : Int32) (S : PS) (Q : Int64 → PS → Prop) : Prop :=
  Q (p1 ||| ((p3.toInt64) <<< ((((3 : Int32) + ((9 : Int32) * p2)) : Int32).toInt64 &&& 63))) S
set_option maxRecDepth 100000 in
set_option maxHeartbeats 4000000 in
theorem c_X4_with {l : Launch} {E : EE} {A : Nat → Prop} {p1 : Int64} {p2 : Int32} {p3 : Int32} {S : PS} {Q : Int64 → PS → Prop} (h : wp_X4_with p1 p2 p3 S Q) : MtL l yX4_with (.code yX4_with cX4_with 4 (some .long)) rm_X4_with E A [.long p1, .int p2, .int p3] S Q := by
  refine MtL.of (by decide) (Nat.le_of_ble_eq_true rfl) (fun X F hQ hN => ?_)
  show VV X (0, 0) S [(0, .long p1), (2, .int p2), (3, .int p3)] [] 0
  unfold wp_X4_with at h
  refine v_lload_n F dX4_with_0 0 rfl rfl ?_
  refine v_iload_n F dX4_with_1 2 rfl rfl ?_
  refine v_i2l F dX4_with_2 ?_
  refine v_iconst (v := 3) F dX4_with_3 (by decide) ?_
  refine v_bipush (v := 9) F dX4_with_4 (by decide) ?_
  refine v_iload_n F dX4_with_6 1 rfl rfl ?_
  refine v_imul F dX4_with_7 ?_
  refine v_iadd F dX4_with_8 ?_
  refine v_lshl F dX4_with_9 ?_
  refine v_lor F dX4_with_10 ?_
  exact v_lret F hQ h (by decide) dX4_with_11
theorem dX4_get_0 : decode cX4_get 0 = .ok (.lload_n 0, 1) := by decide +kernel
theorem dX4_get_1 : decode cX4_get 1 = .ok (.iconst 3, 1) := by decide +kernel
theorem dX4_get_2 : decode cX4_get 2 = .ok (.bipush 9, 2) := by decide +kernel
theorem dX4_get_4 : decode cX4_get 4 = .ok (.iload_n 2, 1) := by decide +kernel
theorem dX4_get_5 : decode cX4_get 5 = .ok (.imul, 1) := by decide +kernel
theorem dX4_get_6 : decode cX4_get 6 = .ok (.iadd, 1) := by decide +kernel
theorem dX4_get_7 : decode cX4_get 7 = .ok (.lushr, 1) := by decide +kernel
theorem dX4_get_8 : decode cX4_get 8 = .ok (.l2i, 1) := by decide +kernel
theorem dX4_get_9 : decode cX4_get 9 = .ok (.sipush 511, 3) := by decide +kernel
theorem dX4_get_12 : decode cX4_get 12 = .ok (.iand, 1) := by decide +kernel
theorem dX4_get_13 : decode cX4_get 13 = .ok (.ireturn, 1) := by decide +kernel
abbrev rm_X4_get : Room := { frames := 0, cells := 0, slots := 0, locals := 0 }
def wp_X4_get (p1 : Int64) (p2 : Int32) (S : PS) (Q : Int32 → PS → Prop) : Prop :=
  Q (((((p1).toUInt64 >>> ((((3 : Int32) + ((9 : Int32) * p2)) : Int32).toInt64.toUInt64 &&& Int64.toUInt64 63)).toInt64).toInt32) &&& 511) S
set_option maxRecDepth 100000 in
set_option maxHeartbeats 4000000 in
theorem c_X4_get {l : Launch} {E : EE} {A : Nat → Prop} {p1 : Int64} {p2 : Int32} {S : PS} {Q : Int32 → PS → Prop} (h : wp_X4_get p1 p2 S Q) : MtI l yX4_get (.code yX4_get cX4_get 3 (some .int)) rm_X4_get E A [.long p1, .int p2] S Q := by
  refine MtI.of (by decide) (Nat.le_of_ble_eq_true rfl) (fun X F hQ hN => ?_)
  show VV X (0, 0) S [(0, .long p1), (2, .int p2)] [] 0
  unfold wp_X4_get at h
  refine v_lload_n F dX4_get_0 0 rfl rfl ?_
  refine v_iconst (v := 3) F dX4_get_1 (by decide) ?_
  refine v_bipush (v := 9) F dX4_get_2 (by decide) ?_
  refine v_iload_n F dX4_get_4 1 rfl rfl ?_
  refine v_imul F dX4_get_5 ?_
  refine v_iadd F dX4_get_6 ?_
  refine v_lushr F dX4_get_7 ?_
  refine v_l2i F dX4_get_8 ?_
  refine v_sipush (v := 511) F dX4_get_9 (by decide) ?_
  refine v_iand F dX4_get_12 ?_
  exact v_iret F hQ h (by decide) dX4_get_13
theorem dX10_make_0 : decode cX10_make 0 = .ok (.iload_n 2, 1) := by decide +kernel
theorem dX10_make_1 : decode cX10_make 1 = .ok (.bipush 9, 2) := by decide +kernel
theorem dX10_make_3 : decode cX10_make 3 = .ok (.iadd, 1) := by decide +kernel
theorem dX10_make_4 : decode cX10_make 4 = .ok (.iconst 5, 1) := by decide +kernel
theorem dX10_make_5 : decode cX10_make 5 = .ok (.imul, 1) := by decide +kernel
theorem dX10_make_6 : decode cX10_make 6 = .ok (.iload_n 1, 1) := by decide +kernel
theorem dX10_make_7 : decode cX10_make 7 = .ok (.iadd, 1) := by decide +kernel
theorem dX10_make_8 : decode cX10_make 8 = .ok (.iconst 2, 1) := by decide +kernel
theorem dX10_make_9 : decode cX10_make 9 = .ok (.iadd, 1) := by decide +kernel
theorem dX10_make_10 : decode cX10_make 10 = .ok (.bipush 7, 2) := by decide +kernel
theorem dX10_make_12 : decode cX10_make 12 = .ok (.imul, 1) := by decide +kernel
theorem dX10_make_13 : decode cX10_make 13 = .ok (.iload_n 0, 1) := by decide +kernel
theorem dX10_make_14 : decode cX10_make 14 = .ok (.iadd, 1) := by decide +kernel
theorem dX10_make_15 : decode cX10_make 15 = .ok (.ireturn, 1) := by decide +kernel
abbrev rm_X10_make : Room := { frames := 0, cells := 0, slots := 0, locals := 0 }
def wp_X10_make (p1 : Int32) (p2 : Int32) (p3 : Int32) (S : PS) (Q : Int32 → PS → Prop) : Prop :=
  Q ((((((p3 + 9) * 5) + p2) + 2) * 7) + p1) S
set_option maxRecDepth 100000 in
set_option maxHeartbeats 4000000 in
theorem c_X10_make {l : Launch} {E : EE} {A : Nat → Prop} {p1 : Int32} {p2 : Int32} {p3 : Int32} {S : PS} {Q : Int32 → PS → Prop} (h : wp_X10_make p1 p2 p3 S Q) : MtI l yX10_make (.code yX10_make cX10_make 3 (some .int)) rm_X10_make E A [.int p1, .int p2, .int p3] S Q := by
  refine MtI.of (by decide) (Nat.le_of_ble_eq_true rfl) (fun X F hQ hN => ?_)
  show VV X (0, 0) S [(0, .int p1), (1, .int p2), (2, .int p3)] [] 0
  unfold wp_X10_make at h
  refine v_iload_n F dX10_make_0 2 rfl rfl ?_
  refine v_bipush (v := 9) F dX10_make_1 (by decide) ?_
  refine v_iadd F dX10_make_3 ?_
  refine v_iconst (v := 5) F dX10_make_4 (by decide) ?_
  refine v_imul F dX10_make_5 ?_
  refine v_iload_n F dX10_make_6 1 rfl rfl ?_
  refine v_iadd F dX10_make_7 ?_
  refine v_iconst (v := 2) F dX10_make_8 (by decide) ?_
  refine v_iadd F dX10_make_9 ?_
  refine v_bipush (v := 7) F dX10_make_10 (by decide) ?_
  refine v_imul F dX10_make_12 ?_
  refine v_iload_n F dX10_make_13 0 rfl rfl ?_
  refine v_iadd F dX10_make_14 ?_
  exact v_iret F hQ h (by decide) dX10_make_15
theorem dX9_make_0 : decode cX9_make 0 = .ok (.iload_n 0, 1) := by decide +kernel
theorem dX9_make_1 : decode cX9_make 1 = .ok (.iconst 4, 1) := by decide +kernel
theorem dX9_make_2 : decode cX9_make 2 = .ok (.ishl, 1) := by decide +kernel
theorem dX9_make_3 : decode cX9_make 3 = .ok (.iload_n 1, 1) := by decide +kernel
theorem dX9_make_4 : decode cX9_make 4 = .ok (.ior, 1) := by decide +kernel
theorem dX9_make_5 : decode cX9_make 5 = .ok (.ireturn, 1) := by decide +kernel
abbrev rm_X9_make : Room := { frames := 0, cells := 0, slots := 0, locals := 0 }
def wp_X9_make (p1 : Int32) (p2 : Int32) (S : PS) (Q : Int32 → PS → Prop) : Prop :=
  Q ((p1 <<< (4 &&& 31)) ||| p2) S
set_option maxRecDepth 100000 in
set_option maxHeartbeats 4000000 in
theorem c_X9_make {l : Launch} {E : EE} {A : Nat → Prop} {p1 : Int32} {p2 : Int32} {S : PS} {Q : Int32 → PS → Prop} (h : wp_X9_make p1 p2 S Q) : MtI l yX9_make (.code yX9_make cX9_make 2 (some .int)) rm_X9_make E A [.int p1, .int p2] S Q := by
  refine MtI.of (by decide) (Nat.le_of_ble_eq_true rfl) (fun X F hQ hN => ?_)
  show VV X (0, 0) S [(0, .int p1), (1, .int p2)] [] 0
  unfold wp_X9_make at h
  refine v_iload_n F dX9_make_0 0 rfl rfl ?_
  refine v_iconst (v := 4) F dX9_make_1 (by decide) ?_
  refine v_ishl F dX9_make_2 ?_
  refine v_iload_n F dX9_make_3 1 rfl rfl ?_
  refine v_ior F dX9_make_4 ?_
  exact v_iret F hQ h (by decide) dX9_make_5
theorem dX9_length_0 : decode cX9_length 0 = .ok (.iload_n 0, 1) := by decide +kernel
theorem dX9_length_1 : decode cX9_length 1 = .ok (.iconst (-1), 1) := by decide +kernel
theorem dX9_length_2 : decode cX9_length 2 = .ok (.if_icmp .ne 7, 3) := by decide +kernel
theorem dX9_length_5 : decode cX9_length 5 = .ok (.iconst 0, 1) := by decide +kernel
theorem dX9_length_6 : decode cX9_length 6 = .ok (.goto 7, 3) := by decide +kernel
theorem dX9_length_9 : decode cX9_length 9 = .ok (.iload_n 0, 1) := by decide +kernel
theorem dX9_length_10 : decode cX9_length 10 = .ok (.bipush 15, 2) := by decide +kernel
theorem dX9_length_12 : decode cX9_length 12 = .ok (.iand, 1) := by decide +kernel
theorem dX9_length_13 : decode cX9_length 13 = .ok (.ireturn, 1) := by decide +kernel
abbrev rm_X9_length : Room := { frames := 0, cells := 0, slots := 0, locals := 0 }
def wp_X9_length (p1 : Int32) (S : PS) (Q : Int32 → PS → Prop) : Prop :=
  (if p1 = (-1) then
 Q 0 S
 else
 Q (p1 &&& 15) S)
set_option maxRecDepth 100000 in
set_option maxHeartbeats 4000000 in
theorem c_X9_length {l : Launch} {E : EE} {A : Nat → Prop} {p1 : Int32} {S : PS} {Q : Int32 → PS → Prop} (h : wp_X9_length p1 S Q) : MtI l yX9_length (.code yX9_length cX9_length 1 (some .int)) rm_X9_length E A [.int p1] S Q := by
  refine MtI.of (by decide) (Nat.le_of_ble_eq_true rfl) (fun X F hQ hN => ?_)
  show VV X (0, 0) S [(0, .int p1)] [] 0
  unfold wp_X9_length at h
  refine v_iload_n F dX9_length_0 0 rfl rfl ?_
  refine v_iconst (v := (-1)) F dX9_length_1 (by decide) ?_
  refine v_icmp_ne (tgt := 9) F dX9_length_2 (by decide) h (fun h => ?_) (fun h => ?_)
  · refine v_iload_n F dX9_length_9 0 rfl rfl ?_
    refine v_bipush (v := 15) F dX9_length_10 (by decide) ?_
    refine v_iand F dX9_length_12 ?_
    exact v_iret F hQ h (by decide) dX9_length_13
  · refine v_iconst (v := 0) F dX9_length_5 (by decide) ?_
    refine v_goto (tgt := 13) F dX9_length_6 (by decide) ?_
    exact v_iret F hQ h (by decide) dX9_length_13
theorem dX10_letter_0 : decode cX10_letter 0 = .ok (.iload_n 0, 1) := by decide +kernel
theorem dX10_letter_1 : decode cX10_letter 1 = .ok (.bipush 7, 2) := by decide +kernel
theorem dX10_letter_3 : decode cX10_letter 3 = .ok (.irem, 1) := by decide +kernel
theorem dX10_letter_4 : decode cX10_letter 4 = .ok (.ireturn, 1) := by decide +kernel
abbrev rm_X10_letter : Room := { frames := 0, cells := 0, slots := 0, locals := 0 }
def wp_X10_letter (p1 : Int32) (S : PS) (Q : Int32 → PS → Prop) : Prop :=
  Q (p1 - p1 / 7 * 7) S
set_option maxRecDepth 100000 in
set_option maxHeartbeats 4000000 in
theorem c_X10_letter {l : Launch} {E : EE} {A : Nat → Prop} {p1 : Int32} {S : PS} {Q : Int32 → PS → Prop} (h : wp_X10_letter p1 S Q) : MtI l yX10_letter (.code yX10_letter cX10_letter 1 (some .int)) rm_X10_letter E A [.int p1] S Q := by
  refine MtI.of (by decide) (Nat.le_of_ble_eq_true rfl) (fun X F hQ hN => ?_)
  show VV X (0, 0) S [(0, .int p1)] [] 0
  unfold wp_X10_letter at h
  refine v_iload_n F dX10_letter_0 0 rfl rfl ?_
  refine v_bipush (v := 7) F dX10_letter_1 (by decide) ?_
  refine v_irem F dX10_letter_3 (by decide) ?_
  exact v_iret F hQ h (by decide) dX10_letter_4
theorem dX10_alter_0 : decode cX10_alter 0 = .ok (.iload_n 0, 1) := by decide +kernel
theorem dX10_alter_1 : decode cX10_alter 1 = .ok (.bipush 7, 2) := by decide +kernel
theorem dX10_alter_3 : decode cX10_alter 3 = .ok (.idiv, 1) := by decide +kernel
theorem dX10_alter_4 : decode cX10_alter 4 = .ok (.iconst 5, 1) := by decide +kernel
theorem dX10_alter_5 : decode cX10_alter 5 = .ok (.irem, 1) := by decide +kernel
theorem dX10_alter_6 : decode cX10_alter 6 = .ok (.iconst 2, 1) := by decide +kernel
theorem dX10_alter_7 : decode cX10_alter 7 = .ok (.isub, 1) := by decide +kernel
theorem dX10_alter_8 : decode cX10_alter 8 = .ok (.ireturn, 1) := by decide +kernel
abbrev rm_X10_alter : Room := { frames := 0, cells := 0, slots := 0, locals := 0 }
def wp_X10_alter (p1 : Int32) (S : PS) (Q : Int32 → PS → Prop) : Prop :=
  Q (((p1 / 7) - (p1 / 7) / 5 * 5) - 2) S
set_option maxRecDepth 100000 in
set_option maxHeartbeats 4000000 in
theorem c_X10_alter {l : Launch} {E : EE} {A : Nat → Prop} {p1 : Int32} {S : PS} {Q : Int32 → PS → Prop} (h : wp_X10_alter p1 S Q) : MtI l yX10_alter (.code yX10_alter cX10_alter 1 (some .int)) rm_X10_alter E A [.int p1] S Q := by
  refine MtI.of (by decide) (Nat.le_of_ble_eq_true rfl) (fun X F hQ hN => ?_)
  show VV X (0, 0) S [(0, .int p1)] [] 0
  unfold wp_X10_alter at h
  refine v_iload_n F dX10_alter_0 0 rfl rfl ?_
  refine v_bipush (v := 7) F dX10_alter_1 (by decide) ?_
  refine v_idiv F dX10_alter_3 (by decide) ?_
  refine v_iconst (v := 5) F dX10_alter_4 (by decide) ?_
  refine v_irem F dX10_alter_5 (by decide) ?_
  refine v_iconst (v := 2) F dX10_alter_6 (by decide) ?_
  refine v_isub F dX10_alter_7 ?_
  exact v_iret F hQ h (by decide) dX10_alter_8
theorem dX10_shift_0 : decode cX10_shift 0 = .ok (.iload_n 0, 1) := by decide +kernel
theorem dX10_shift_1 : decode cX10_shift 1 = .ok (.bipush 35, 2) := by decide +kernel
theorem dX10_shift_3 : decode cX10_shift 3 = .ok (.idiv, 1) := by decide +kernel
theorem dX10_shift_4 : decode cX10_shift 4 = .ok (.bipush 9, 2) := by decide +kernel
theorem dX10_shift_6 : decode cX10_shift 6 = .ok (.isub, 1) := by decide +kernel
theorem dX10_shift_7 : decode cX10_shift 7 = .ok (.ireturn, 1) := by decide +kernel
abbrev rm_X10_shift : Room := { frames := 0, cells := 0, slots := 0, locals := 0 }
def wp_X10_shift (p1 : Int32) (S : PS) (Q : Int32 → PS → Prop) : Prop :=
  Q ((p1 / 35) - 9) S
set_option maxRecDepth 100000 in
set_option maxHeartbeats 4000000 in
theorem c_X10_shift {l : Launch} {E : EE} {A : Nat → Prop} {p1 : Int32} {S : PS} {Q : Int32 → PS → Prop} (h : wp_X10_shift p1 S Q) : MtI l yX10_shift (.code yX10_shift cX10_shift 1 (some .int)) rm_X10_shift E A [.int p1] S Q := by
  refine MtI.of (by decide) (Nat.le_of_ble_eq_true rfl) (fun X F hQ hN => ?_)
  show VV X (0, 0) S [(0, .int p1)] [] 0
  unfold wp_X10_shift at h
  refine v_iload_n F dX10_shift_0 0 rfl rfl ?_
  refine v_bipush (v := 35) F dX10_shift_1 (by decide) ?_
  refine v_idiv F dX10_shift_3 (by decide) ?_
  refine v_bipush (v := 9) F dX10_shift_4 (by decide) ?_
  refine v_isub F dX10_shift_6 ?_
  exact v_iret F hQ h (by decide) dX10_shift_7
