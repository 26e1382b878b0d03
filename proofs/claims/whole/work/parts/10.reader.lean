theorem dX7_refuse_0 : decode cX7_refuse 0 = .ok (.aload_n 0, 1) := by decide +kernel
theorem dX7_refuse_1 : decode cX7_refuse 1 = .ok (.getfield 15, 3) := by decide +kernel
theorem dX7_refuse_4 : decode cX7_refuse 4 = .ok (.iconst 1, 1) := by decide +kernel
theorem dX7_refuse_5 : decode cX7_refuse 5 = .ok (.aload_n 0, 1) := by decide +kernel
theorem dX7_refuse_6 : decode cX7_refuse 6 = .ok (.getfield 23, 3) := by decide +kernel
theorem dX7_refuse_9 : decode cX7_refuse 9 = .ok (.invokevirtual 48, 3) := by decide +kernel
theorem dX7_refuse_12 : decode cX7_refuse 12 = .ok (.ireturn, 1) := by decide +kernel
abbrev rm_X7_refuse : Room := { frames := 1, cells := 0, slots := 0, locals := 22 }
def wp_X7_refuse (a : Nat) (S : PS) (Q : Int32 → PS → Prop) : Prop :=
  (∃ b1, fR S 59 a = some b1 ∧ wp_X0_tell b1 1 (fI S 60 a) S (fun (r3 : Int32) (S2 : PS) => 
 Q r3 S2))
set_option maxRecDepth 100000 in
set_option maxHeartbeats 4000000 in
theorem c_X7_refuse {l : Launch} {E : EE} {A : Nat → Prop} {a : Nat} {S : PS} {Q : Int32 → PS → Prop} (r_a : Rf S a 6) (h : wp_X7_refuse a S Q) : MtI l yX7_refuse (.code yX7_refuse cX7_refuse 1 (some .boolean)) rm_X7_refuse E A [.ref a] S (fun r S1 => nz r ∧ Q r S1) := by
  refine MtI.of (by decide) (Nat.le_of_ble_eq_true rfl) (fun X F hQ hN => ?_)
  show VV X (0, 0) S [(0, .ref a)] [] 0
  unfold wp_X7_refuse at h
  refine v_aload_n F dX7_refuse_0 0 rfl rfl ?_
  refine g_X7_15 F r_a h dX7_refuse_1 (fun b1 r_b1 h => ?_)
  refine v_iconst (v := 1) F dX7_refuse_4 (by decide) ?_
  refine v_aload_n F dX7_refuse_5 0 rfl rfl ?_
  refine g_X7_23 F r_a dX7_refuse_6 ?_
  refine v_cI0 (v_runV F k_X7_48 rfl (c_X0_tell r_b1 h) r_b1 rfl rfl (Nat.le_of_ble_eq_true rfl) (by decide) (by decide) dX7_refuse_9) ⟨rfl, rfl⟩ (fun r3 S2 h hE => ?_)
  obtain ⟨nz_r3, h⟩ := h
  have r_a := r_a.tr hE
  exact v_zret F hQ nz_r3 ⟨nz_r3, h⟩ (by decide) dX7_refuse_12
theorem dX7_next_0 : decode cX7_next 0 = .ok (.aload_n 0, 1) := by decide +kernel
theorem dX7_next_1 : decode cX7_next 1 = .ok (.getfield 23, 3) := by decide +kernel
theorem dX7_next_4 : decode cX7_next 4 = .ok (.ifCond .lt 36, 3) := by decide +kernel
theorem dX7_next_7 : decode cX7_next 7 = .ok (.aload_n 0, 1) := by decide +kernel
theorem dX7_next_8 : decode cX7_next 8 = .ok (.getfield 23, 3) := by decide +kernel
theorem dX7_next_11 : decode cX7_next 11 = .ok (.aload_n 0, 1) := by decide +kernel
theorem dX7_next_12 : decode cX7_next 12 = .ok (.getfield 9, 3) := by decide +kernel
theorem dX7_next_15 : decode cX7_next 15 = .ok (.getfield 54, 3) := by decide +kernel
theorem dX7_next_18 : decode cX7_next 18 = .ok (.if_icmp .ge 22, 3) := by decide +kernel
theorem dX7_next_21 : decode cX7_next 21 = .ok (.aload_n 0, 1) := by decide +kernel
theorem dX7_next_22 : decode cX7_next 22 = .ok (.getfield 23, 3) := by decide +kernel
theorem dX7_next_25 : decode cX7_next 25 = .ok (.aload_n 0, 1) := by decide +kernel
theorem dX7_next_26 : decode cX7_next 26 = .ok (.getfield 9, 3) := by decide +kernel
theorem dX7_next_29 : decode cX7_next 29 = .ok (.getfield 59, 3) := by decide +kernel
theorem dX7_next_32 : decode cX7_next 32 = .ok (.arraylength, 1) := by decide +kernel
theorem dX7_next_33 : decode cX7_next 33 = .ok (.if_icmp .ge 7, 3) := by decide +kernel
theorem dX7_next_36 : decode cX7_next 36 = .ok (.iconst 1, 1) := by decide +kernel
theorem dX7_next_37 : decode cX7_next 37 = .ok (.goto 4, 3) := by decide +kernel
theorem dX7_next_40 : decode cX7_next 40 = .ok (.iconst 0, 1) := by decide +kernel
theorem dX7_next_41 : decode cX7_next 41 = .ok (.istore_n 1, 1) := by decide +kernel
theorem dX7_next_42 : decode cX7_next 42 = .ok (.iload_n 1, 1) := by decide +kernel
theorem dX7_next_43 : decode cX7_next 43 = .ok (.ifCond .eq 22, 3) := by decide +kernel
theorem dX7_next_46 : decode cX7_next 46 = .ok (.aload_n 0, 1) := by decide +kernel
theorem dX7_next_47 : decode cX7_next 47 = .ok (.getfield 9, 3) := by decide +kernel
theorem dX7_next_50 : decode cX7_next 50 = .ok (.getfield 59, 3) := by decide +kernel
theorem dX7_next_53 : decode cX7_next 53 = .ok (.aload_n 0, 1) := by decide +kernel
theorem dX7_next_54 : decode cX7_next 54 = .ok (.getfield 23, 3) := by decide +kernel
theorem dX7_next_57 : decode cX7_next 57 = .ok (.baload, 1) := by decide +kernel
theorem dX7_next_58 : decode cX7_next 58 = .ok (.sipush 255, 3) := by decide +kernel
theorem dX7_next_61 : decode cX7_next 61 = .ok (.iand, 1) := by decide +kernel
theorem dX7_next_62 : decode cX7_next 62 = .ok (.goto 4, 3) := by decide +kernel
theorem dX7_next_65 : decode cX7_next 65 = .ok (.iconst (-1), 1) := by decide +kernel
theorem dX7_next_66 : decode cX7_next 66 = .ok (.ireturn, 1) := by decide +kernel
abbrev rm_X7_next : Room := { frames := 0, cells := 0, slots := 0, locals := 0 }
def wp_X7_next (a : Nat) (S : PS) (Q : Int32 → PS → Prop) : Prop :=
  (∀ K41_3 : Int32 → PS → Prop, (∀ (t1 : Int32) (S2 : PS),
 (if t1 = 0 then
 Q (-1) S2
 else
 (∃ b4, fR S2 58 a = some b4 ∧ (∃ b5, fR S2 43 b4 = some b5 ∧ (vp_in (fI S2 60 a) (aN S2 b5) ∧ Q ((aI S2 27 b5 (fI S2 60 a).toNatClampNeg) &&& 255) S2))))
 → K41_3 t1 S2) →
 (if fI S 60 a < 0 then
 K41_3 0 S
 else
 (∃ b6, fR S 58 a = some b6 ∧ (if fI S 44 b6 ≤ fI S 60 a then
 K41_3 0 S
 else
 (∃ b7, fR S 58 a = some b7 ∧ (∃ b8, fR S 43 b7 = some b8 ∧ (if nI (aN S b8) ≤ fI S 60 a then
 K41_3 0 S
 else
 K41_3 1 S)))))))
set_option maxRecDepth 100000 in
set_option maxHeartbeats 4000000 in
theorem c_X7_next {l : Launch} {E : EE} {A : Nat → Prop} {a : Nat} {S : PS} {Q : Int32 → PS → Prop} (r_a : Rf S a 6) (h : wp_X7_next a S Q) : MtI l yX7_next (.code yX7_next cX7_next 2 (some .int)) rm_X7_next E A [.ref a] S Q := by
  refine MtI.of (by decide) (Nat.le_of_ble_eq_true rfl) (fun X F hQ hN => ?_)
  show VV X (0, 0) S [(0, .ref a)] [] 0
  unfold wp_X7_next at h
  refine v_aload_n F dX7_next_0 0 rfl rfl ?_
  refine g_X7_23 F r_a dX7_next_1 ?_
  have h := h (fun (t1 : Int32) (S2 : PS) => Rf S2 a 6 → VV X (0, 0) S2 [(0, .ref a)] [.int t1] 41) (by
    intro t1 S2 h r_a
    refine v_istore_n (lv1 := [(1, .int t1), (0, .ref a)]) F dX7_next_41 rfl (by rw [hN]; decide) rfl ?_
    refine v_iload_n F dX7_next_42 0 rfl rfl ?_
    refine v_if_eq (tgt := 65) F dX7_next_43 (by decide) h (fun h => ?_) (fun h => ?_)
    · refine v_iconst (v := (-1)) F dX7_next_65 (by decide) ?_
      exact v_iret F hQ h (by decide) dX7_next_66
    · refine v_aload_n F dX7_next_46 1 rfl rfl ?_
      refine g_X7_9 F r_a h dX7_next_47 (fun b4 r_b4 h => ?_)
      refine g_X7_59 F r_b4 h dX7_next_50 (fun b5 r_b5 h => ?_)
      refine v_aload_n F dX7_next_53 1 rfl rfl ?_
      refine g_X7_23 F r_a dX7_next_54 ?_
      refine v_bald F r_b5 o_27 h dX7_next_57 (fun h => ?_)
      refine v_sipush (v := 255) F dX7_next_58 (by decide) ?_
      refine v_iand F dX7_next_61 ?_
      refine v_goto (tgt := 66) F dX7_next_62 (by decide) ?_
      exact v_iret F hQ h (by decide) dX7_next_66)
  refine v_if_lt (tgt := 40) F dX7_next_4 (by decide) h (fun h => ?_) (fun h => ?_)
  · refine v_iconst (v := 0) F dX7_next_40 (by decide) ?_
    exact v_sub [0] rfl (h r_a)
  · refine v_aload_n F dX7_next_7 0 rfl rfl ?_
    refine g_X7_23 F r_a dX7_next_8 ?_
    refine v_aload_n F dX7_next_11 0 rfl rfl ?_
    refine g_X7_9 F r_a h dX7_next_12 (fun b6 r_b6 h => ?_)
    refine g_X7_54 F r_b6 dX7_next_15 ?_
    refine v_icmp_ge (tgt := 40) F dX7_next_18 (by decide) h (fun h => ?_) (fun h => ?_)
    · refine v_iconst (v := 0) F dX7_next_40 (by decide) ?_
      exact v_sub [0] rfl (h r_a)
    · refine v_aload_n F dX7_next_21 0 rfl rfl ?_
      refine g_X7_23 F r_a dX7_next_22 ?_
      refine v_aload_n F dX7_next_25 0 rfl rfl ?_
      refine g_X7_9 F r_a h dX7_next_26 (fun b7 r_b7 h => ?_)
      refine g_X7_59 F r_b7 h dX7_next_29 (fun b8 r_b8 h => ?_)
      refine v_alen F r_b8 (by decide) dX7_next_32 ?_
      refine v_icmp_ge (tgt := 40) F dX7_next_33 (by decide) h (fun h => ?_) (fun h => ?_)
      · refine v_iconst (v := 0) F dX7_next_40 (by decide) ?_
        exact v_sub [0] rfl (h r_a)
      · refine v_iconst (v := 1) F dX7_next_36 (by decide) ?_
        refine v_goto (tgt := 41) F dX7_next_37 (by decide) ?_
        exact v_sub [0] rfl (h r_a)
theorem dX7_take_0 : decode cX7_take 0 = .ok (.aload_n 0, 1) := by decide +kernel
theorem dX7_take_1 : decode cX7_take 1 = .ok (.invokevirtual 41, 3) := by decide +kernel
theorem dX7_take_4 : decode cX7_take 4 = .ok (.iload_n 1, 1) := by decide +kernel
theorem dX7_take_5 : decode cX7_take 5 = .ok (.if_icmp .eq 5, 3) := by decide +kernel
theorem dX7_take_8 : decode cX7_take 8 = .ok (.iconst 0, 1) := by decide +kernel
theorem dX7_take_9 : decode cX7_take 9 = .ok (.ireturn, 1) := by decide +kernel
theorem dX7_take_10 : decode cX7_take 10 = .ok (.aload_n 0, 1) := by decide +kernel
theorem dX7_take_11 : decode cX7_take 11 = .ok (.dup, 1) := by decide +kernel
theorem dX7_take_12 : decode cX7_take 12 = .ok (.getfield 23, 3) := by decide +kernel
theorem dX7_take_15 : decode cX7_take 15 = .ok (.iconst 1, 1) := by decide +kernel
theorem dX7_take_16 : decode cX7_take 16 = .ok (.iadd, 1) := by decide +kernel
theorem dX7_take_17 : decode cX7_take 17 = .ok (.putfield 23, 3) := by decide +kernel
theorem dX7_take_20 : decode cX7_take 20 = .ok (.iconst 1, 1) := by decide +kernel
theorem dX7_take_21 : decode cX7_take 21 = .ok (.ireturn, 1) := by decide +kernel
abbrev rm_X7_take : Room := { frames := 1, cells := 0, slots := 0, locals := 21 }
def wp_X7_take (a : Nat) (p1 : Int32) (S : PS) (Q : Int32 → PS → Prop) : Prop :=
  wp_X7_next a S (fun (r2 : Int32) (S1 : PS) => 
 (if r2 = p1 then
 (∀ S3, S3 = sI S1 60 a ((fI S1 60 a) + 1) → Q 1 S3)
 else
 Q 0 S1))
set_option maxRecDepth 100000 in
set_option maxHeartbeats 4000000 in
theorem c_X7_take {l : Launch} {E : EE} {A : Nat → Prop} {a : Nat} {p1 : Int32} {S : PS} {Q : Int32 → PS → Prop} (r_a : Rf S a 6) (h : wp_X7_take a p1 S Q) : MtI l yX7_take (.code yX7_take cX7_take 2 (some .boolean)) rm_X7_take E A [.ref a, .int p1] S (fun r S1 => nz r ∧ Q r S1) := by
  refine MtI.of (by decide) (Nat.le_of_ble_eq_true rfl) (fun X F hQ hN => ?_)
  show VV X (0, 0) S [(0, .ref a), (1, .int p1)] [] 0
  unfold wp_X7_take at h
  refine v_aload_n F dX7_take_0 0 rfl rfl ?_
  refine v_cI0 (v_runV F k_X7_41 rfl (c_X7_next r_a h) r_a rfl rfl (Nat.le_of_ble_eq_true rfl) (by decide) (by decide) dX7_take_1) ⟨rfl, rfl⟩ (fun r2 S1 h hE => ?_)
  have r_a := r_a.tr hE
  refine v_iload_n F dX7_take_4 1 rfl rfl ?_
  refine v_icmp_eq (tgt := 10) F dX7_take_5 (by decide) h (fun h => ?_) (fun h => ?_)
  · refine v_aload_n F dX7_take_10 0 rfl rfl ?_
    refine v_dup F dX7_take_11 rfl ?_
    refine g_X7_23 F r_a dX7_take_12 ?_
    refine v_iconst (v := 1) F dX7_take_15 (by decide) ?_
    refine v_iadd F dX7_take_16 ?_
    refine p_X7_23 F r_a h dX7_take_17 (fun S3 h hE => ?_)
    have r_a := r_a.tr hE
    refine v_iconst (v := 1) F dX7_take_20 (by decide) ?_
    exact v_zret F hQ (by decide) ⟨nz1, h⟩ (by decide) dX7_take_21
  · refine v_iconst (v := 0) F dX7_take_8 (by decide) ?_
    exact v_zret F hQ (by decide) ⟨nz0, h⟩ (by decide) dX7_take_9
theorem dX7_must_0 : decode cX7_must 0 = .ok (.aload_n 0, 1) := by decide +kernel
theorem dX7_must_1 : decode cX7_must 1 = .ok (.iload_n 1, 1) := by decide +kernel
theorem dX7_must_2 : decode cX7_must 2 = .ok (.invokevirtual 63, 3) := by decide +kernel
theorem dX7_must_5 : decode cX7_must 5 = .ok (.ifCond .ne 10, 3) := by decide +kernel
theorem dX7_must_8 : decode cX7_must 8 = .ok (.aload_n 0, 1) := by decide +kernel
theorem dX7_must_9 : decode cX7_must 9 = .ok (.invokevirtual 45, 3) := by decide +kernel
theorem dX7_must_12 : decode cX7_must 12 = .ok (.ifCond .eq 7, 3) := by decide +kernel
theorem dX7_must_15 : decode cX7_must 15 = .ok (.iconst 1, 1) := by decide +kernel
theorem dX7_must_16 : decode cX7_must 16 = .ok (.goto 4, 3) := by decide +kernel
theorem dX7_must_19 : decode cX7_must 19 = .ok (.iconst 0, 1) := by decide +kernel
theorem dX7_must_20 : decode cX7_must 20 = .ok (.ireturn, 1) := by decide +kernel
abbrev rm_X7_must : Room := { frames := 2, cells := 0, slots := 0, locals := 42 }
def wp_X7_must (a : Nat) (p1 : Int32) (S : PS) (Q : Int32 → PS → Prop) : Prop :=
  wp_X7_take a p1 S (fun (r2 : Int32) (S1 : PS) => 
 (if r2 = 0 then
 wp_X7_refuse a S1 (fun (r4 : Int32) (S3 : PS) => 
 (if r4 = 0 then
 Q 0 S3
 else
 Q 1 S3))
 else
 Q 1 S1))
set_option maxRecDepth 100000 in
set_option maxHeartbeats 4000000 in
theorem c_X7_must {l : Launch} {E : EE} {A : Nat → Prop} {a : Nat} {p1 : Int32} {S : PS} {Q : Int32 → PS → Prop} (r_a : Rf S a 6) (h : wp_X7_must a p1 S Q) : MtI l yX7_must (.code yX7_must cX7_must 2 (some .boolean)) rm_X7_must E A [.ref a, .int p1] S (fun r S1 => nz r ∧ Q r S1) := by
  refine MtI.of (by decide) (Nat.le_of_ble_eq_true rfl) (fun X F hQ hN => ?_)
  show VV X (0, 0) S [(0, .ref a), (1, .int p1)] [] 0
  unfold wp_X7_must at h
  refine v_aload_n F dX7_must_0 0 rfl rfl ?_
  refine v_iload_n F dX7_must_1 1 rfl rfl ?_
  refine v_cI0 (v_runV F k_X7_63 rfl (c_X7_take r_a h) r_a rfl rfl (Nat.le_of_ble_eq_true rfl) (by decide) (by decide) dX7_must_2) ⟨rfl, rfl⟩ (fun r2 S1 h hE => ?_)
  obtain ⟨nz_r2, h⟩ := h
  have r_a := r_a.tr hE
  refine v_if_ne (tgt := 15) F dX7_must_5 (by decide) h (fun h => ?_) (fun h => ?_)
  · refine v_iconst (v := 1) F dX7_must_15 (by decide) ?_
    refine v_goto (tgt := 20) F dX7_must_16 (by decide) ?_
    exact v_zret F hQ (by decide) ⟨nz1, h⟩ (by decide) dX7_must_20
  · refine v_aload_n F dX7_must_8 0 rfl rfl ?_
    refine v_cI0 (v_runV F k_X7_45 rfl (c_X7_refuse r_a h) r_a rfl rfl (Nat.le_of_ble_eq_true rfl) (by decide) (by decide) dX7_must_9) ⟨rfl, rfl⟩ (fun r4 S3 h hE => ?_)
    obtain ⟨nz_r4, h⟩ := h
    have r_a := r_a.tr hE
    refine v_if_eq (tgt := 19) F dX7_must_12 (by decide) h (fun h => ?_) (fun h => ?_)
    · refine v_iconst (v := 0) F dX7_must_19 (by decide) ?_
      exact v_zret F hQ (by decide) ⟨nz0, h⟩ (by decide) dX7_must_20
    · refine v_iconst (v := 1) F dX7_must_15 (by decide) ?_
      refine v_goto (tgt := 20) F dX7_must_16 (by decide) ?_
      exact v_zret F hQ (by decide) ⟨nz1, h⟩ (by decide) dX7_must_20
theorem dX7_skipBlanks_0 : decode cX7_skipBlanks 0 = .ok (.iconst 0, 1) := by decide +kernel
theorem dX7_skipBlanks_1 : decode cX7_skipBlanks 1 = .ok (.istore_n 1, 1) := by decide +kernel
theorem dX7_skipBlanks_2 : decode cX7_skipBlanks 2 = .ok (.aload_n 0, 1) := by decide +kernel
theorem dX7_skipBlanks_3 : decode cX7_skipBlanks 3 = .ok (.getfield 23, 3) := by decide +kernel
theorem dX7_skipBlanks_6 : decode cX7_skipBlanks 6 = .ok (.aload_n 0, 1) := by decide +kernel
theorem dX7_skipBlanks_7 : decode cX7_skipBlanks 7 = .ok (.getfield 9, 3) := by decide +kernel
theorem dX7_skipBlanks_10 : decode cX7_skipBlanks 10 = .ok (.getfield 54, 3) := by decide +kernel
theorem dX7_skipBlanks_13 : decode cX7_skipBlanks 13 = .ok (.if_icmp .ge 54, 3) := by decide +kernel
theorem dX7_skipBlanks_16 : decode cX7_skipBlanks 16 = .ok (.aload_n 0, 1) := by decide +kernel
theorem dX7_skipBlanks_17 : decode cX7_skipBlanks 17 = .ok (.invokevirtual 41, 3) := by decide +kernel
theorem dX7_skipBlanks_20 : decode cX7_skipBlanks 20 = .ok (.istore_n 2, 1) := by decide +kernel
theorem dX7_skipBlanks_21 : decode cX7_skipBlanks 21 = .ok (.iload_n 2, 1) := by decide +kernel
theorem dX7_skipBlanks_22 : decode cX7_skipBlanks 22 = .ok (.bipush 37, 2) := by decide +kernel
theorem dX7_skipBlanks_24 : decode cX7_skipBlanks 24 = .ok (.if_icmp .ne 8, 3) := by decide +kernel
theorem dX7_skipBlanks_27 : decode cX7_skipBlanks 27 = .ok (.iconst 1, 1) := by decide +kernel
theorem dX7_skipBlanks_28 : decode cX7_skipBlanks 28 = .ok (.istore_n 1, 1) := by decide +kernel
theorem dX7_skipBlanks_29 : decode cX7_skipBlanks 29 = .ok (.goto 25, 3) := by decide +kernel
theorem dX7_skipBlanks_32 : decode cX7_skipBlanks 32 = .ok (.iload_n 2, 1) := by decide +kernel
theorem dX7_skipBlanks_33 : decode cX7_skipBlanks 33 = .ok (.bipush 10, 2) := by decide +kernel
theorem dX7_skipBlanks_35 : decode cX7_skipBlanks 35 = .ok (.if_icmp .ne 8, 3) := by decide +kernel
theorem dX7_skipBlanks_38 : decode cX7_skipBlanks 38 = .ok (.iconst 0, 1) := by decide +kernel
theorem dX7_skipBlanks_39 : decode cX7_skipBlanks 39 = .ok (.istore_n 1, 1) := by decide +kernel
theorem dX7_skipBlanks_40 : decode cX7_skipBlanks 40 = .ok (.goto 14, 3) := by decide +kernel
theorem dX7_skipBlanks_43 : decode cX7_skipBlanks 43 = .ok (.iload_n 2, 1) := by decide +kernel
theorem dX7_skipBlanks_44 : decode cX7_skipBlanks 44 = .ok (.bipush 32, 2) := by decide +kernel
theorem dX7_skipBlanks_46 : decode cX7_skipBlanks 46 = .ok (.if_icmp .eq 8, 3) := by decide +kernel
theorem dX7_skipBlanks_49 : decode cX7_skipBlanks 49 = .ok (.iload_n 1, 1) := by decide +kernel
theorem dX7_skipBlanks_50 : decode cX7_skipBlanks 50 = .ok (.ifCond .ne 4, 3) := by decide +kernel
theorem dX7_skipBlanks_53 : decode cX7_skipBlanks 53 = .ok (.return_, 1) := by decide +kernel
theorem dX7_skipBlanks_54 : decode cX7_skipBlanks 54 = .ok (.aload_n 0, 1) := by decide +kernel
theorem dX7_skipBlanks_55 : decode cX7_skipBlanks 55 = .ok (.dup, 1) := by decide +kernel
theorem dX7_skipBlanks_56 : decode cX7_skipBlanks 56 = .ok (.getfield 23, 3) := by decide +kernel
theorem dX7_skipBlanks_59 : decode cX7_skipBlanks 59 = .ok (.iconst 1, 1) := by decide +kernel
theorem dX7_skipBlanks_60 : decode cX7_skipBlanks 60 = .ok (.iadd, 1) := by decide +kernel
theorem dX7_skipBlanks_61 : decode cX7_skipBlanks 61 = .ok (.putfield 23, 3) := by decide +kernel
theorem dX7_skipBlanks_64 : decode cX7_skipBlanks 64 = .ok (.goto (-62), 3) := by decide +kernel
theorem dX7_skipBlanks_67 : decode cX7_skipBlanks 67 = .ok (.return_, 1) := by decide +kernel
abbrev rm_X7_skipBlanks : Room := { frames := 1, cells := 0, slots := 0, locals := 21 }
def wp_X7_skipBlanks (a : Nat) (S : PS) (Q : PS → Prop) : Prop :=
  (∀ P2_1 : Int32 → PS → Prop, (∀ (x1_2 : Int32) (S3 : PS),
 (∃ b4, fR S3 58 a = some b4 ∧ (if fI S3 44 b4 ≤ fI S3 60 a then
 Q S3
 else
 wp_X7_next a S3 (fun (r6 : Int32) (S5 : PS) => 
 (∀ K54_9 : Int32 → PS → Prop, (∀ (x1_7 : Int32) (S8 : PS),
 (∀ S10, S10 = sI S8 60 a ((fI S8 60 a) + 1) → P2_1 x1_7 S10)
 → K54_9 x1_7 S8) →
 (if r6 = 37 then
 K54_9 1 S5
 else
 (if r6 = 10 then
 K54_9 0 S5
 else
 (if r6 = 32 then
 K54_9 x1_2 S5
 else
 (if x1_2 = 0 then
 Q S5
 else
 K54_9 x1_2 S5))))))))
 → P2_1 x1_2 S3) → P2_1 0 S)
set_option maxRecDepth 100000 in
set_option maxHeartbeats 4000000 in
theorem c_X7_skipBlanks {l : Launch} {E : EE} {A : Nat → Prop} {a : Nat} {S : PS} {Q : PS → Prop} (r_a : Rf S a 6) (h : wp_X7_skipBlanks a S Q) : MtV l yX7_skipBlanks (.code yX7_skipBlanks cX7_skipBlanks 3 none) rm_X7_skipBlanks E A [.ref a] S Q := by
  refine MtV.of (by decide) (Nat.le_of_ble_eq_true rfl) (fun X F hQ hN => ?_)
  show VV X (0, 0) S [(0, .ref a)] [] 0
  unfold wp_X7_skipBlanks at h
  refine v_iconst (v := 0) F dX7_skipBlanks_0 (by decide) ?_
  refine v_istore_n (lv1 := [(1, .int 0), (0, .ref a)]) F dX7_skipBlanks_1 rfl (by rw [hN]; decide) rfl ?_
  refine v_sub [1, 0] rfl ?_
  refine h (fun (x1_2 : Int32) (S3 : PS) => Rf S3 a 6 → VV X (0, 0) S3 [(0, .ref a), (1, .int x1_2)] [] 2) (fun x1_2 S3 h r_a => ?_) r_a
  refine v_aload_n F dX7_skipBlanks_2 0 rfl rfl ?_
  refine g_X7_23 F r_a dX7_skipBlanks_3 ?_
  refine v_aload_n F dX7_skipBlanks_6 0 rfl rfl ?_
  refine g_X7_9 F r_a h dX7_skipBlanks_7 (fun b4 r_b4 h => ?_)
  refine g_X7_54 F r_b4 dX7_skipBlanks_10 ?_
  refine v_icmp_ge (tgt := 67) F dX7_skipBlanks_13 (by decide) h (fun h => ?_) (fun h => ?_)
  · exact v_vret F hQ h (by decide) dX7_skipBlanks_67
  · refine v_aload_n F dX7_skipBlanks_16 0 rfl rfl ?_
    refine v_cI0 (v_runV F k_X7_41 rfl (c_X7_next r_a h) r_a rfl rfl (Nat.le_of_ble_eq_true rfl) (by decide) (by decide) dX7_skipBlanks_17) ⟨rfl, rfl⟩ (fun r6 S5 h hE => ?_)
    have r_a := r_a.tr hE
    refine v_istore_n (lv1 := [(2, .int r6), (0, .ref a), (1, .int x1_2)]) F dX7_skipBlanks_20 rfl (by rw [hN]; decide) rfl ?_
    refine v_iload_n F dX7_skipBlanks_21 0 rfl rfl ?_
    refine v_bipush (v := 37) F dX7_skipBlanks_22 (by decide) ?_
    have h := h (fun (x1_7 : Int32) (S8 : PS) => Rf S8 a 6 → VV X (0, 0) S8 [(0, .ref a), (1, .int x1_7)] [] 54) (by
      intro x1_7 S8 h r_a
      refine v_aload_n F dX7_skipBlanks_54 0 rfl rfl ?_
      refine v_dup F dX7_skipBlanks_55 rfl ?_
      refine g_X7_23 F r_a dX7_skipBlanks_56 ?_
      refine v_iconst (v := 1) F dX7_skipBlanks_59 (by decide) ?_
      refine v_iadd F dX7_skipBlanks_60 ?_
      refine p_X7_23 F r_a h dX7_skipBlanks_61 (fun S10 h hE => ?_)
      have r_a := r_a.tr hE
      refine v_goto (tgt := 2) F dX7_skipBlanks_64 (by decide) ?_
      exact v_sub [0, 1] rfl (h r_a))
    refine v_icmp_ne (tgt := 32) F dX7_skipBlanks_24 (by decide) h (fun h => ?_) (fun h => ?_)
    · refine v_iload_n F dX7_skipBlanks_32 0 rfl rfl ?_
      refine v_bipush (v := 10) F dX7_skipBlanks_33 (by decide) ?_
      refine v_icmp_ne (tgt := 43) F dX7_skipBlanks_35 (by decide) h (fun h => ?_) (fun h => ?_)
      · refine v_iload_n F dX7_skipBlanks_43 0 rfl rfl ?_
        refine v_bipush (v := 32) F dX7_skipBlanks_44 (by decide) ?_
        refine v_icmp_eq (tgt := 54) F dX7_skipBlanks_46 (by decide) h (fun h => ?_) (fun h => ?_)
        · exact v_sub [1, 2] rfl (h r_a)
        · refine v_iload_n F dX7_skipBlanks_49 2 rfl rfl ?_
          refine v_if_ne (tgt := 54) F dX7_skipBlanks_50 (by decide) h (fun h => ?_) (fun h => ?_)
          · exact v_sub [1, 2] rfl (h r_a)
          · exact v_vret F hQ h (by decide) dX7_skipBlanks_53
      · refine v_iconst (v := 0) F dX7_skipBlanks_38 (by decide) ?_
        refine v_istore_n (lv1 := [(1, .int 0), (2, .int r6), (0, .ref a)]) F dX7_skipBlanks_39 rfl (by rw [hN]; decide) rfl ?_
        refine v_goto (tgt := 54) F dX7_skipBlanks_40 (by decide) ?_
        exact v_sub [2, 0] rfl (h r_a)
    · refine v_iconst (v := 1) F dX7_skipBlanks_27 (by decide) ?_
      refine v_istore_n (lv1 := [(1, .int 1), (2, .int r6), (0, .ref a)]) F dX7_skipBlanks_28 rfl (by rw [hN]; decide) rfl ?_
      refine v_goto (tgt := 54) F dX7_skipBlanks_29 (by decide) ?_
      exact v_sub [2, 0] rfl (h r_a)
theorem dX7_mustBehindBlanks_0 : decode cX7_mustBehindBlanks 0 = .ok (.aload_n 0, 1) := by decide +kernel
theorem dX7_mustBehindBlanks_1 : decode cX7_mustBehindBlanks 1 = .ok (.invokevirtual 67, 3) := by decide +kernel
theorem dX7_mustBehindBlanks_4 : decode cX7_mustBehindBlanks 4 = .ok (.aload_n 0, 1) := by decide +kernel
theorem dX7_mustBehindBlanks_5 : decode cX7_mustBehindBlanks 5 = .ok (.iload_n 1, 1) := by decide +kernel
theorem dX7_mustBehindBlanks_6 : decode cX7_mustBehindBlanks 6 = .ok (.invokevirtual 70, 3) := by decide +kernel
theorem dX7_mustBehindBlanks_9 : decode cX7_mustBehindBlanks 9 = .ok (.ireturn, 1) := by decide +kernel
abbrev rm_X7_mustBehindBlanks : Room := { frames := 3, cells := 0, slots := 0, locals := 63 }
def wp_X7_mustBehindBlanks (a : Nat) (p1 : Int32) (S : PS) (Q : Int32 → PS → Prop) : Prop :=
  wp_X7_skipBlanks a S (fun (S1 : PS) => 
 wp_X7_must a p1 S1 (fun (r3 : Int32) (S2 : PS) => 
 Q r3 S2))
set_option maxRecDepth 100000 in
set_option maxHeartbeats 4000000 in
theorem c_X7_mustBehindBlanks {l : Launch} {E : EE} {A : Nat → Prop} {a : Nat} {p1 : Int32} {S : PS} {Q : Int32 → PS → Prop} (r_a : Rf S a 6) (h : wp_X7_mustBehindBlanks a p1 S Q) : MtI l yX7_mustBehindBlanks (.code yX7_mustBehindBlanks cX7_mustBehindBlanks 2 (some .boolean)) rm_X7_mustBehindBlanks E A [.ref a, .int p1] S (fun r S1 => nz r ∧ Q r S1) := by
  refine MtI.of (by decide) (Nat.le_of_ble_eq_true rfl) (fun X F hQ hN => ?_)
  show VV X (0, 0) S [(0, .ref a), (1, .int p1)] [] 0
  unfold wp_X7_mustBehindBlanks at h
  refine v_aload_n F dX7_mustBehindBlanks_0 0 rfl rfl ?_
  refine v_cV0 (v_runV F k_X7_67 rfl (c_X7_skipBlanks r_a h) r_a rfl rfl (Nat.le_of_ble_eq_true rfl) (by decide) (by decide) dX7_mustBehindBlanks_1) ⟨rfl, rfl⟩ (fun  S1 h hE => ?_)
  have r_a := r_a.tr hE
  refine v_aload_n F dX7_mustBehindBlanks_4 0 rfl rfl ?_
  refine v_iload_n F dX7_mustBehindBlanks_5 1 rfl rfl ?_
  refine v_cI0 (v_runV F k_X7_70 rfl (c_X7_must r_a h) r_a rfl rfl (Nat.le_of_ble_eq_true rfl) (by decide) (by decide) dX7_mustBehindBlanks_6) ⟨rfl, rfl⟩ (fun r3 S2 h hE => ?_)
  obtain ⟨nz_r3, h⟩ := h
  have r_a := r_a.tr hE
  exact v_zret F hQ nz_r3 ⟨nz_r3, h⟩ (by decide) dX7_mustBehindBlanks_9
theorem dX7_isDigit_0 : decode cX7_isDigit 0 = .ok (.iload_n 0, 1) := by decide +kernel
theorem dX7_isDigit_1 : decode cX7_isDigit 1 = .ok (.bipush 48, 2) := by decide +kernel
theorem dX7_isDigit_3 : decode cX7_isDigit 3 = .ok (.if_icmp .lt 13, 3) := by decide +kernel
theorem dX7_isDigit_6 : decode cX7_isDigit 6 = .ok (.iload_n 0, 1) := by decide +kernel
theorem dX7_isDigit_7 : decode cX7_isDigit 7 = .ok (.bipush 57, 2) := by decide +kernel
theorem dX7_isDigit_9 : decode cX7_isDigit 9 = .ok (.if_icmp .gt 7, 3) := by decide +kernel
theorem dX7_isDigit_12 : decode cX7_isDigit 12 = .ok (.iconst 1, 1) := by decide +kernel
theorem dX7_isDigit_13 : decode cX7_isDigit 13 = .ok (.goto 4, 3) := by decide +kernel
theorem dX7_isDigit_16 : decode cX7_isDigit 16 = .ok (.iconst 0, 1) := by decide +kernel
theorem dX7_isDigit_17 : decode cX7_isDigit 17 = .ok (.ireturn, 1) := by decide +kernel
abbrev rm_X7_isDigit : Room := { frames := 0, cells := 0, slots := 0, locals := 0 }
def wp_X7_isDigit (p1 : Int32) (S : PS) (Q : Int32 → PS → Prop) : Prop :=
  (if p1 < 48 then
 Q 0 S
 else
 (if 57 < p1 then
 Q 0 S
 else
 Q 1 S))
set_option maxRecDepth 100000 in
set_option maxHeartbeats 4000000 in
theorem c_X7_isDigit {l : Launch} {E : EE} {A : Nat → Prop} {p1 : Int32} {S : PS} {Q : Int32 → PS → Prop} (h : wp_X7_isDigit p1 S Q) : MtI l yX7_isDigit (.code yX7_isDigit cX7_isDigit 1 (some .boolean)) rm_X7_isDigit E A [.int p1] S (fun r S1 => nz r ∧ Q r S1) := by
  refine MtI.of (by decide) (Nat.le_of_ble_eq_true rfl) (fun X F hQ hN => ?_)
  show VV X (0, 0) S [(0, .int p1)] [] 0
  unfold wp_X7_isDigit at h
  refine v_iload_n F dX7_isDigit_0 0 rfl rfl ?_
  refine v_bipush (v := 48) F dX7_isDigit_1 (by decide) ?_
  refine v_icmp_lt (tgt := 16) F dX7_isDigit_3 (by decide) h (fun h => ?_) (fun h => ?_)
  · refine v_iconst (v := 0) F dX7_isDigit_16 (by decide) ?_
    exact v_zret F hQ (by decide) ⟨nz0, h⟩ (by decide) dX7_isDigit_17
  · refine v_iload_n F dX7_isDigit_6 0 rfl rfl ?_
    refine v_bipush (v := 57) F dX7_isDigit_7 (by decide) ?_
    refine v_icmp_gt (tgt := 16) F dX7_isDigit_9 (by decide) h (fun h => ?_) (fun h => ?_)
    · refine v_iconst (v := 0) F dX7_isDigit_16 (by decide) ?_
      exact v_zret F hQ (by decide) ⟨nz0, h⟩ (by decide) dX7_isDigit_17
    · refine v_iconst (v := 1) F dX7_isDigit_12 (by decide) ?_
      refine v_goto (tgt := 17) F dX7_isDigit_13 (by decide) ?_
      exact v_zret F hQ (by decide) ⟨nz1, h⟩ (by decide) dX7_isDigit_17
theorem dX7_isPitchLetter_0 : decode cX7_isPitchLetter 0 = .ok (.iload_n 0, 1) := by decide +kernel
theorem dX7_isPitchLetter_1 : decode cX7_isPitchLetter 1 = .ok (.bipush 97, 2) := by decide +kernel
theorem dX7_isPitchLetter_3 : decode cX7_isPitchLetter 3 = .ok (.if_icmp .lt 13, 3) := by decide +kernel
theorem dX7_isPitchLetter_6 : decode cX7_isPitchLetter 6 = .ok (.iload_n 0, 1) := by decide +kernel
theorem dX7_isPitchLetter_7 : decode cX7_isPitchLetter 7 = .ok (.bipush 103, 2) := by decide +kernel
theorem dX7_isPitchLetter_9 : decode cX7_isPitchLetter 9 = .ok (.if_icmp .gt 7, 3) := by decide +kernel
theorem dX7_isPitchLetter_12 : decode cX7_isPitchLetter 12 = .ok (.iconst 1, 1) := by decide +kernel
theorem dX7_isPitchLetter_13 : decode cX7_isPitchLetter 13 = .ok (.goto 4, 3) := by decide +kernel
theorem dX7_isPitchLetter_16 : decode cX7_isPitchLetter 16 = .ok (.iconst 0, 1) := by decide +kernel
theorem dX7_isPitchLetter_17 : decode cX7_isPitchLetter 17 = .ok (.ireturn, 1) := by decide +kernel
abbrev rm_X7_isPitchLetter : Room := { frames := 0, cells := 0, slots := 0, locals := 0 }
def wp_X7_isPitchLetter (p1 : Int32) (S : PS) (Q : Int32 → PS → Prop) : Prop :=
  (if p1 < 97 then
 Q 0 S
 else
 (if 103 < p1 then
 Q 0 S
 else
 Q 1 S))
set_option maxRecDepth 100000 in
set_option maxHeartbeats 4000000 in
theorem c_X7_isPitchLetter {l : Launch} {E : EE} {A : Nat → Prop} {p1 : Int32} {S : PS} {Q : Int32 → PS → Prop} (h : wp_X7_isPitchLetter p1 S Q) : MtI l yX7_isPitchLetter (.code yX7_isPitchLetter cX7_isPitchLetter 1 (some .boolean)) rm_X7_isPitchLetter E A [.int p1] S (fun r S1 => nz r ∧ Q r S1) := by
  refine MtI.of (by decide) (Nat.le_of_ble_eq_true rfl) (fun X F hQ hN => ?_)
  show VV X (0, 0) S [(0, .int p1)] [] 0
  unfold wp_X7_isPitchLetter at h
  refine v_iload_n F dX7_isPitchLetter_0 0 rfl rfl ?_
  refine v_bipush (v := 97) F dX7_isPitchLetter_1 (by decide) ?_
  refine v_icmp_lt (tgt := 16) F dX7_isPitchLetter_3 (by decide) h (fun h => ?_) (fun h => ?_)
  · refine v_iconst (v := 0) F dX7_isPitchLetter_16 (by decide) ?_
    exact v_zret F hQ (by decide) ⟨nz0, h⟩ (by decide) dX7_isPitchLetter_17
  · refine v_iload_n F dX7_isPitchLetter_6 0 rfl rfl ?_
    refine v_bipush (v := 103) F dX7_isPitchLetter_7 (by decide) ?_
    refine v_icmp_gt (tgt := 16) F dX7_isPitchLetter_9 (by decide) h (fun h => ?_) (fun h => ?_)
    · refine v_iconst (v := 0) F dX7_isPitchLetter_16 (by decide) ?_
      exact v_zret F hQ (by decide) ⟨nz0, h⟩ (by decide) dX7_isPitchLetter_17
    · refine v_iconst (v := 1) F dX7_isPitchLetter_12 (by decide) ?_
      refine v_goto (tgt := 17) F dX7_isPitchLetter_13 (by decide) ?_
      exact v_zret F hQ (by decide) ⟨nz1, h⟩ (by decide) dX7_isPitchLetter_17
theorem dX7_isNameLetter_0 : decode cX7_isNameLetter 0 = .ok (.iload_n 0, 1) := by decide +kernel
theorem dX7_isNameLetter_1 : decode cX7_isNameLetter 1 = .ok (.bipush 97, 2) := by decide +kernel
theorem dX7_isNameLetter_3 : decode cX7_isNameLetter 3 = .ok (.if_icmp .lt 13, 3) := by decide +kernel
theorem dX7_isNameLetter_6 : decode cX7_isNameLetter 6 = .ok (.iload_n 0, 1) := by decide +kernel
theorem dX7_isNameLetter_7 : decode cX7_isNameLetter 7 = .ok (.bipush 122, 2) := by decide +kernel
theorem dX7_isNameLetter_9 : decode cX7_isNameLetter 9 = .ok (.if_icmp .gt 7, 3) := by decide +kernel
theorem dX7_isNameLetter_12 : decode cX7_isNameLetter 12 = .ok (.iconst 1, 1) := by decide +kernel
theorem dX7_isNameLetter_13 : decode cX7_isNameLetter 13 = .ok (.goto 4, 3) := by decide +kernel
theorem dX7_isNameLetter_16 : decode cX7_isNameLetter 16 = .ok (.iconst 0, 1) := by decide +kernel
theorem dX7_isNameLetter_17 : decode cX7_isNameLetter 17 = .ok (.ireturn, 1) := by decide +kernel
abbrev rm_X7_isNameLetter : Room := { frames := 0, cells := 0, slots := 0, locals := 0 }
def wp_X7_isNameLetter (p1 : Int32) (S : PS) (Q : Int32 → PS → Prop) : Prop :=
  (if p1 < 97 then
 Q 0 S
 else
 (if 122 < p1 then
 Q 0 S
 else
 Q 1 S))
set_option maxRecDepth 100000 in
set_option maxHeartbeats 4000000 in
theorem c_X7_isNameLetter {l : Launch} {E : EE} {A : Nat → Prop} {p1 : Int32} {S : PS} {Q : Int32 → PS → Prop} (h : wp_X7_isNameLetter p1 S Q) : MtI l yX7_isNameLetter (.code yX7_isNameLetter cX7_isNameLetter 1 (some .boolean)) rm_X7_isNameLetter E A [.int p1] S (fun r S1 => nz r ∧ Q r S1) := by
  refine MtI.of (by decide) (Nat.le_of_ble_eq_true rfl) (fun X F hQ hN => ?_)
  show VV X (0, 0) S [(0, .int p1)] [] 0
  unfold wp_X7_isNameLetter at h
  refine v_iload_n F dX7_isNameLetter_0 0 rfl rfl ?_
  refine v_bipush (v := 97) F dX7_isNameLetter_1 (by decide) ?_
  refine v_icmp_lt (tgt := 16) F dX7_isNameLetter_3 (by decide) h (fun h => ?_) (fun h => ?_)
  · refine v_iconst (v := 0) F dX7_isNameLetter_16 (by decide) ?_
    exact v_zret F hQ (by decide) ⟨nz0, h⟩ (by decide) dX7_isNameLetter_17
  · refine v_iload_n F dX7_isNameLetter_6 0 rfl rfl ?_
    refine v_bipush (v := 122) F dX7_isNameLetter_7 (by decide) ?_
    refine v_icmp_gt (tgt := 16) F dX7_isNameLetter_9 (by decide) h (fun h => ?_) (fun h => ?_)
    · refine v_iconst (v := 0) F dX7_isNameLetter_16 (by decide) ?_
      exact v_zret F hQ (by decide) ⟨nz0, h⟩ (by decide) dX7_isNameLetter_17
    · refine v_iconst (v := 1) F dX7_isNameLetter_12 (by decide) ?_
      refine v_goto (tgt := 17) F dX7_isNameLetter_13 (by decide) ?_
      exact v_zret F hQ (by decide) ⟨nz1, h⟩ (by decide) dX7_isNameLetter_17
theorem dX7_refuseNumber_0 : decode cX7_refuseNumber 0 = .ok (.aload_n 0, 1) := by decide +kernel
theorem dX7_refuseNumber_1 : decode cX7_refuseNumber 1 = .ok (.getfield 15, 3) := by decide +kernel
theorem dX7_refuseNumber_4 : decode cX7_refuseNumber 4 = .ok (.iconst 2, 1) := by decide +kernel
theorem dX7_refuseNumber_5 : decode cX7_refuseNumber 5 = .ok (.aload_n 0, 1) := by decide +kernel
theorem dX7_refuseNumber_6 : decode cX7_refuseNumber 6 = .ok (.getfield 140, 3) := by decide +kernel
theorem dX7_refuseNumber_9 : decode cX7_refuseNumber 9 = .ok (.invokevirtual 48, 3) := by decide +kernel
theorem dX7_refuseNumber_12 : decode cX7_refuseNumber 12 = .ok (.ireturn, 1) := by decide +kernel
abbrev rm_X7_refuseNumber : Room := { frames := 1, cells := 0, slots := 0, locals := 22 }
def wp_X7_refuseNumber (a : Nat) (S : PS) (Q : Int32 → PS → Prop) : Prop :=
  (∃ b1, fR S 59 a = some b1 ∧ wp_X0_tell b1 2 (fI S 66 a) S (fun (r3 : Int32) (S2 : PS) => 
 Q r3 S2))
set_option maxRecDepth 100000 in
set_option maxHeartbeats 4000000 in
theorem c_X7_refuseNumber {l : Launch} {E : EE} {A : Nat → Prop} {a : Nat} {S : PS} {Q : Int32 → PS → Prop} (r_a : Rf S a 6) (h : wp_X7_refuseNumber a S Q) : MtI l yX7_refuseNumber (.code yX7_refuseNumber cX7_refuseNumber 1 (some .boolean)) rm_X7_refuseNumber E A [.ref a] S (fun r S1 => nz r ∧ Q r S1) := by
  refine MtI.of (by decide) (Nat.le_of_ble_eq_true rfl) (fun X F hQ hN => ?_)
  show VV X (0, 0) S [(0, .ref a)] [] 0
  unfold wp_X7_refuseNumber at h
  refine v_aload_n F dX7_refuseNumber_0 0 rfl rfl ?_
  refine g_X7_15 F r_a h dX7_refuseNumber_1 (fun b1 r_b1 h => ?_)
  refine v_iconst (v := 2) F dX7_refuseNumber_4 (by decide) ?_
  refine v_aload_n F dX7_refuseNumber_5 0 rfl rfl ?_
  refine g_X7_140 F r_a dX7_refuseNumber_6 ?_
  refine v_cI0 (v_runV F k_X7_48 rfl (c_X0_tell r_b1 h) r_b1 rfl rfl (Nat.le_of_ble_eq_true rfl) (by decide) (by decide) dX7_refuseNumber_9) ⟨rfl, rfl⟩ (fun r3 S2 h hE => ?_)
  obtain ⟨nz_r3, h⟩ := h
  have r_a := r_a.tr hE
  exact v_zret F hQ nz_r3 ⟨nz_r3, h⟩ (by decide) dX7_refuseNumber_12
theorem dX7_digits_0 : decode cX7_digits 0 = .ok (.aload_n 0, 1) := by decide +kernel
theorem dX7_digits_1 : decode cX7_digits 1 = .ok (.aload_n 0, 1) := by decide +kernel
theorem dX7_digits_2 : decode cX7_digits 2 = .ok (.getfield 23, 3) := by decide +kernel
theorem dX7_digits_5 : decode cX7_digits 5 = .ok (.putfield 140, 3) := by decide +kernel
theorem dX7_digits_8 : decode cX7_digits 8 = .ok (.aload_n 0, 1) := by decide +kernel
theorem dX7_digits_9 : decode cX7_digits 9 = .ok (.lconst 0, 1) := by decide +kernel
theorem dX7_digits_10 : decode cX7_digits 10 = .ok (.putfield 123, 3) := by decide +kernel
theorem dX7_digits_13 : decode cX7_digits 13 = .ok (.aload_n 0, 1) := by decide +kernel
theorem dX7_digits_14 : decode cX7_digits 14 = .ok (.getfield 23, 3) := by decide +kernel
theorem dX7_digits_17 : decode cX7_digits 17 = .ok (.aload_n 0, 1) := by decide +kernel
theorem dX7_digits_18 : decode cX7_digits 18 = .ok (.getfield 9, 3) := by decide +kernel
theorem dX7_digits_21 : decode cX7_digits 21 = .ok (.getfield 54, 3) := by decide +kernel
theorem dX7_digits_24 : decode cX7_digits 24 = .ok (.if_icmp .ge 60, 3) := by decide +kernel
theorem dX7_digits_27 : decode cX7_digits 27 = .ok (.aload_n 0, 1) := by decide +kernel
theorem dX7_digits_28 : decode cX7_digits 28 = .ok (.invokevirtual 41, 3) := by decide +kernel
theorem dX7_digits_31 : decode cX7_digits 31 = .ok (.invokestatic 143, 3) := by decide +kernel
theorem dX7_digits_34 : decode cX7_digits 34 = .ok (.ifCond .eq 50, 3) := by decide +kernel
theorem dX7_digits_37 : decode cX7_digits 37 = .ok (.aload_n 0, 1) := by decide +kernel
theorem dX7_digits_38 : decode cX7_digits 38 = .ok (.getfield 23, 3) := by decide +kernel
theorem dX7_digits_41 : decode cX7_digits 41 = .ok (.aload_n 0, 1) := by decide +kernel
theorem dX7_digits_42 : decode cX7_digits 42 = .ok (.getfield 140, 3) := by decide +kernel
theorem dX7_digits_45 : decode cX7_digits 45 = .ok (.isub, 1) := by decide +kernel
theorem dX7_digits_46 : decode cX7_digits 46 = .ok (.iload_n 1, 1) := by decide +kernel
theorem dX7_digits_47 : decode cX7_digits 47 = .ok (.if_icmp .ge 24, 3) := by decide +kernel
theorem dX7_digits_50 : decode cX7_digits 50 = .ok (.aload_n 0, 1) := by decide +kernel
theorem dX7_digits_51 : decode cX7_digits 51 = .ok (.aload_n 0, 1) := by decide +kernel
theorem dX7_digits_52 : decode cX7_digits 52 = .ok (.getfield 123, 3) := by decide +kernel
theorem dX7_digits_55 : decode cX7_digits 55 = .ok (.ldc2_w 146, 3) := by decide +kernel
theorem dX7_digits_58 : decode cX7_digits 58 = .ok (.lmul, 1) := by decide +kernel
theorem dX7_digits_59 : decode cX7_digits 59 = .ok (.aload_n 0, 1) := by decide +kernel
theorem dX7_digits_60 : decode cX7_digits 60 = .ok (.invokevirtual 41, 3) := by decide +kernel
theorem dX7_digits_63 : decode cX7_digits 63 = .ok (.bipush 48, 2) := by decide +kernel
theorem dX7_digits_65 : decode cX7_digits 65 = .ok (.isub, 1) := by decide +kernel
theorem dX7_digits_66 : decode cX7_digits 66 = .ok (.i2l, 1) := by decide +kernel
theorem dX7_digits_67 : decode cX7_digits 67 = .ok (.ladd, 1) := by decide +kernel
theorem dX7_digits_68 : decode cX7_digits 68 = .ok (.putfield 123, 3) := by decide +kernel
theorem dX7_digits_71 : decode cX7_digits 71 = .ok (.aload_n 0, 1) := by decide +kernel
theorem dX7_digits_72 : decode cX7_digits 72 = .ok (.dup, 1) := by decide +kernel
theorem dX7_digits_73 : decode cX7_digits 73 = .ok (.getfield 23, 3) := by decide +kernel
theorem dX7_digits_76 : decode cX7_digits 76 = .ok (.iconst 1, 1) := by decide +kernel
theorem dX7_digits_77 : decode cX7_digits 77 = .ok (.iadd, 1) := by decide +kernel
theorem dX7_digits_78 : decode cX7_digits 78 = .ok (.putfield 23, 3) := by decide +kernel
theorem dX7_digits_81 : decode cX7_digits 81 = .ok (.goto (-68), 3) := by decide +kernel
theorem dX7_digits_84 : decode cX7_digits 84 = .ok (.aload_n 0, 1) := by decide +kernel
theorem dX7_digits_85 : decode cX7_digits 85 = .ok (.getfield 23, 3) := by decide +kernel
theorem dX7_digits_88 : decode cX7_digits 88 = .ok (.aload_n 0, 1) := by decide +kernel
theorem dX7_digits_89 : decode cX7_digits 89 = .ok (.getfield 140, 3) := by decide +kernel
theorem dX7_digits_92 : decode cX7_digits 92 = .ok (.if_icmp .ne 8, 3) := by decide +kernel
theorem dX7_digits_95 : decode cX7_digits 95 = .ok (.aload_n 0, 1) := by decide +kernel
theorem dX7_digits_96 : decode cX7_digits 96 = .ok (.invokevirtual 45, 3) := by decide +kernel
theorem dX7_digits_99 : decode cX7_digits 99 = .ok (.ireturn, 1) := by decide +kernel
theorem dX7_digits_100 : decode cX7_digits 100 = .ok (.aload_n 0, 1) := by decide +kernel
theorem dX7_digits_101 : decode cX7_digits 101 = .ok (.getfield 23, 3) := by decide +kernel
theorem dX7_digits_104 : decode cX7_digits 104 = .ok (.aload_n 0, 1) := by decide +kernel
theorem dX7_digits_105 : decode cX7_digits 105 = .ok (.getfield 140, 3) := by decide +kernel
theorem dX7_digits_108 : decode cX7_digits 108 = .ok (.isub, 1) := by decide +kernel
theorem dX7_digits_109 : decode cX7_digits 109 = .ok (.iload_n 1, 1) := by decide +kernel
theorem dX7_digits_110 : decode cX7_digits 110 = .ok (.if_icmp .le 10, 3) := by decide +kernel
theorem dX7_digits_113 : decode cX7_digits 113 = .ok (.aload_n 0, 1) := by decide +kernel
theorem dX7_digits_114 : decode cX7_digits 114 = .ok (.invokevirtual 148, 3) := by decide +kernel
theorem dX7_digits_117 : decode cX7_digits 117 = .ok (.ifCond .eq 7, 3) := by decide +kernel
theorem dX7_digits_120 : decode cX7_digits 120 = .ok (.iconst 1, 1) := by decide +kernel
theorem dX7_digits_121 : decode cX7_digits 121 = .ok (.goto 4, 3) := by decide +kernel
theorem dX7_digits_124 : decode cX7_digits 124 = .ok (.iconst 0, 1) := by decide +kernel
theorem dX7_digits_125 : decode cX7_digits 125 = .ok (.ireturn, 1) := by decide +kernel
abbrev rm_X7_digits : Room := { frames := 2, cells := 0, slots := 0, locals := 42 }
def wp_X7_digits (a : Nat) (p1 : Int32) (S : PS) (Q : Int32 → PS → Prop) : Prop :=
  (∀ S1, S1 = sI S 66 a (fI S 60 a) → (∀ S2, S2 = sL S1 65 a 0 → (∀ P13_3 : PS → Prop, (∀ (S4 : PS),
 (∃ b5, fR S4 58 a = some b5 ∧ (∀ K84_7 : PS → Prop, (∀ (S6 : PS),
 (if fI S6 60 a = fI S6 66 a then
 wp_X7_refuse a S6 (fun (r11 : Int32) (S10 : PS) => 
 Q r11 S10)
 else
 (if (fI S6 60 a) - (fI S6 66 a) ≤ p1 then
 Q 1 S6
 else
 wp_X7_refuseNumber a S6 (fun (r9 : Int32) (S8 : PS) => 
 (if r9 = 0 then
 Q 0 S8
 else
 Q 1 S8))))
 → K84_7 S6) →
 (if fI S4 44 b5 ≤ fI S4 60 a then
 K84_7 S4
 else
 wp_X7_next a S4 (fun (r13 : Int32) (S12 : PS) => 
 wp_X7_isDigit r13 S12 (fun (r15 : Int32) (S14 : PS) => 
 (if r15 = 0 then
 K84_7 S14
 else
 (∀ K71_17 : PS → Prop, (∀ (S16 : PS),
 (∀ S18, S18 = sI S16 60 a ((fI S16 60 a) + 1) → P13_3 S18)
 → K71_17 S16) →
 (if p1 ≤ (fI S14 60 a) - (fI S14 66 a) then
 K71_17 S14
 else
 wp_X7_next a S14 (fun (r20 : Int32) (S19 : PS) => 
 (∀ S21, S21 = sL S19 65 a (((fL S14 65 a) * 10) + ((r20 - 48).toInt64)) → K71_17 S21))))))))))
 → P13_3 S4) → P13_3 S2)))
set_option maxRecDepth 100000 in
set_option maxHeartbeats 4000000 in
theorem c_X7_digits {l : Launch} {E : EE} {A : Nat → Prop} {a : Nat} {p1 : Int32} {S : PS} {Q : Int32 → PS → Prop} (r_a : Rf S a 6) (h : wp_X7_digits a p1 S Q) : MtI l yX7_digits (.code yX7_digits cX7_digits 2 (some .boolean)) rm_X7_digits E A [.ref a, .int p1] S (fun r S1 => nz r ∧ Q r S1) := by
  refine MtI.of (by decide) (Nat.le_of_ble_eq_true rfl) (fun X F hQ hN => ?_)
  show VV X (0, 0) S [(0, .ref a), (1, .int p1)] [] 0
  unfold wp_X7_digits at h
  refine v_aload_n F dX7_digits_0 0 rfl rfl ?_
  refine v_aload_n F dX7_digits_1 0 rfl rfl ?_
  refine g_X7_23 F r_a dX7_digits_2 ?_
  refine p_X7_140 F r_a h dX7_digits_5 (fun S1 h hE => ?_)
  have r_a := r_a.tr hE
  refine v_aload_n F dX7_digits_8 0 rfl rfl ?_
  refine v_lconst (v := 0) F dX7_digits_9 (by decide) ?_
  refine p_X7_123 F r_a h dX7_digits_10 (fun S2 h hE => ?_)
  have r_a := r_a.tr hE
  refine v_sub [0, 1] rfl ?_
  refine h (fun (S4 : PS) => Rf S4 a 6 → VV X (0, 0) S4 [(0, .ref a), (1, .int p1)] [] 13) (fun S4 h r_a => ?_) r_a
  refine v_aload_n F dX7_digits_13 0 rfl rfl ?_
  refine g_X7_23 F r_a dX7_digits_14 ?_
  refine v_aload_n F dX7_digits_17 0 rfl rfl ?_
  refine g_X7_9 F r_a h dX7_digits_18 (fun b5 r_b5 h => ?_)
  refine g_X7_54 F r_b5 dX7_digits_21 ?_
  have h := h (fun (S6 : PS) => Rf S6 a 6 → VV X (0, 0) S6 [(0, .ref a), (1, .int p1)] [] 84) (by
    intro S6 h r_a
    refine v_aload_n F dX7_digits_84 0 rfl rfl ?_
    refine g_X7_23 F r_a dX7_digits_85 ?_
    refine v_aload_n F dX7_digits_88 0 rfl rfl ?_
    refine g_X7_140 F r_a dX7_digits_89 ?_
    refine v_icmp_ne (tgt := 100) F dX7_digits_92 (by decide) h (fun h => ?_) (fun h => ?_)
    · refine v_aload_n F dX7_digits_100 0 rfl rfl ?_
      refine g_X7_23 F r_a dX7_digits_101 ?_
      refine v_aload_n F dX7_digits_104 0 rfl rfl ?_
      refine g_X7_140 F r_a dX7_digits_105 ?_
      refine v_isub F dX7_digits_108 ?_
      refine v_iload_n F dX7_digits_109 1 rfl rfl ?_
      refine v_icmp_le (tgt := 120) F dX7_digits_110 (by decide) h (fun h => ?_) (fun h => ?_)
      · refine v_iconst (v := 1) F dX7_digits_120 (by decide) ?_
        refine v_goto (tgt := 125) F dX7_digits_121 (by decide) ?_
        exact v_zret F hQ (by decide) ⟨nz1, h⟩ (by decide) dX7_digits_125
      · refine v_aload_n F dX7_digits_113 0 rfl rfl ?_
        refine v_cI0 (v_runV F k_X7_148 rfl (c_X7_refuseNumber r_a h) r_a rfl rfl (Nat.le_of_ble_eq_true rfl) (by decide) (by decide) dX7_digits_114) ⟨rfl, rfl⟩ (fun r9 S8 h hE => ?_)
        obtain ⟨nz_r9, h⟩ := h
        have r_a := r_a.tr hE
        refine v_if_eq (tgt := 124) F dX7_digits_117 (by decide) h (fun h => ?_) (fun h => ?_)
        · refine v_iconst (v := 0) F dX7_digits_124 (by decide) ?_
          exact v_zret F hQ (by decide) ⟨nz0, h⟩ (by decide) dX7_digits_125
        · refine v_iconst (v := 1) F dX7_digits_120 (by decide) ?_
          refine v_goto (tgt := 125) F dX7_digits_121 (by decide) ?_
          exact v_zret F hQ (by decide) ⟨nz1, h⟩ (by decide) dX7_digits_125
    · refine v_aload_n F dX7_digits_95 0 rfl rfl ?_
      refine v_cI0 (v_runV F k_X7_45 rfl (c_X7_refuse r_a h) r_a rfl rfl (Nat.le_of_ble_eq_true rfl) (by decide) (by decide) dX7_digits_96) ⟨rfl, rfl⟩ (fun r11 S10 h hE => ?_)
      obtain ⟨nz_r11, h⟩ := h
      have r_a := r_a.tr hE
      exact v_zret F hQ nz_r11 ⟨nz_r11, h⟩ (by decide) dX7_digits_99)
  refine v_icmp_ge (tgt := 84) F dX7_digits_24 (by decide) h (fun h => ?_) (fun h => ?_)
  · exact v_sub [0, 1] rfl (h r_a)
  · refine v_aload_n F dX7_digits_27 0 rfl rfl ?_
    refine v_cI0 (v_runV F k_X7_41 rfl (c_X7_next r_a h) r_a rfl rfl (Nat.le_of_ble_eq_true rfl) (by decide) (by decide) dX7_digits_28) ⟨rfl, rfl⟩ (fun r13 S12 h hE => ?_)
    have r_a := r_a.tr hE
    refine v_cI0 (v_runS F k_X7_143 (c_X7_isDigit h) rfl rfl (Nat.le_of_ble_eq_true rfl) (by decide) (by decide) dX7_digits_31) ⟨rfl, rfl⟩ (fun r15 S14 h hE => ?_)
    obtain ⟨nz_r15, h⟩ := h
    have r_a := r_a.tr hE
    refine v_if_eq (tgt := 84) F dX7_digits_34 (by decide) h (fun h => ?_) (fun h => ?_)
    · exact v_sub [0, 1] rfl (h r_a)
    · refine v_aload_n F dX7_digits_37 0 rfl rfl ?_
      refine g_X7_23 F r_a dX7_digits_38 ?_
      refine v_aload_n F dX7_digits_41 0 rfl rfl ?_
      refine g_X7_140 F r_a dX7_digits_42 ?_
      refine v_isub F dX7_digits_45 ?_
      refine v_iload_n F dX7_digits_46 1 rfl rfl ?_
      have h := h (fun (S16 : PS) => Rf S16 a 6 → VV X (0, 0) S16 [(0, .ref a), (1, .int p1)] [] 71) (by
        intro S16 h r_a
        refine v_aload_n F dX7_digits_71 0 rfl rfl ?_
        refine v_dup F dX7_digits_72 rfl ?_
        refine g_X7_23 F r_a dX7_digits_73 ?_
        refine v_iconst (v := 1) F dX7_digits_76 (by decide) ?_
        refine v_iadd F dX7_digits_77 ?_
        refine p_X7_23 F r_a h dX7_digits_78 (fun S18 h hE => ?_)
        have r_a := r_a.tr hE
        refine v_goto (tgt := 13) F dX7_digits_81 (by decide) ?_
        exact v_sub [0, 1] rfl (h r_a))
      refine v_icmp_ge (tgt := 71) F dX7_digits_47 (by decide) h (fun h => ?_) (fun h => ?_)
      · exact v_sub [0, 1] rfl (h r_a)
      · refine v_aload_n F dX7_digits_50 0 rfl rfl ?_
        refine v_aload_n F dX7_digits_51 0 rfl rfl ?_
        refine g_X7_123 F r_a dX7_digits_52 ?_
        refine v_ldc2 F kc_X7_146 dX7_digits_55 ?_
        refine v_lmul F dX7_digits_58 ?_
        refine v_aload_n F dX7_digits_59 0 rfl rfl ?_
        refine v_cI0 (v_runV F k_X7_41 rfl (c_X7_next r_a h) r_a rfl rfl (Nat.le_of_ble_eq_true rfl) (by decide) (by decide) dX7_digits_60) ⟨rfl, rfl⟩ (fun r20 S19 h hE => ?_)
        have r_a := r_a.tr hE
        refine v_bipush (v := 48) F dX7_digits_63 (by decide) ?_
        refine v_isub F dX7_digits_65 ?_
        refine v_i2l F dX7_digits_66 ?_
        refine v_ladd F dX7_digits_67 ?_
        refine p_X7_123 F r_a h dX7_digits_68 (fun S21 h hE => ?_)
        have r_a := r_a.tr hE
        exact v_sub [0, 1] rfl (h r_a)
theorem dX7_inRange_0 : decode cX7_inRange 0 = .ok (.aload_n 0, 1) := by decide +kernel
theorem dX7_inRange_1 : decode cX7_inRange 1 = .ok (.getfield 123, 3) := by decide +kernel
theorem dX7_inRange_4 : decode cX7_inRange 4 = .ok (.lload_n 1, 1) := by decide +kernel
theorem dX7_inRange_5 : decode cX7_inRange 5 = .ok (.lcmp, 1) := by decide +kernel
theorem dX7_inRange_6 : decode cX7_inRange 6 = .ok (.ifCond .lt 12, 3) := by decide +kernel
theorem dX7_inRange_9 : decode cX7_inRange 9 = .ok (.aload_n 0, 1) := by decide +kernel
theorem dX7_inRange_10 : decode cX7_inRange 10 = .ok (.getfield 123, 3) := by decide +kernel
theorem dX7_inRange_13 : decode cX7_inRange 13 = .ok (.lload_n 3, 1) := by decide +kernel
theorem dX7_inRange_14 : decode cX7_inRange 14 = .ok (.lcmp, 1) := by decide +kernel
theorem dX7_inRange_15 : decode cX7_inRange 15 = .ok (.ifCond .le 10, 3) := by decide +kernel
theorem dX7_inRange_18 : decode cX7_inRange 18 = .ok (.aload_n 0, 1) := by decide +kernel
theorem dX7_inRange_19 : decode cX7_inRange 19 = .ok (.invokevirtual 148, 3) := by decide +kernel
theorem dX7_inRange_22 : decode cX7_inRange 22 = .ok (.ifCond .eq 7, 3) := by decide +kernel
theorem dX7_inRange_25 : decode cX7_inRange 25 = .ok (.iconst 1, 1) := by decide +kernel
theorem dX7_inRange_26 : decode cX7_inRange 26 = .ok (.goto 4, 3) := by decide +kernel
theorem dX7_inRange_29 : decode cX7_inRange 29 = .ok (.iconst 0, 1) := by decide +kernel
theorem dX7_inRange_30 : decode cX7_inRange 30 = .ok (.ireturn, 1) := by decide +kernel
abbrev rm_X7_inRange : Room := { frames := 2, cells := 0, slots := 0, locals := 42 }
def wp_X7_inRange (a : Nat) (p1 : Int64) (p2 : Int64) (S : PS) (Q : Int32 → PS → Prop) : Prop :=
  (∀ K18_2 : PS → Prop, (∀ (S1 : PS),
 wp_X7_refuseNumber a S1 (fun (r4 : Int32) (S3 : PS) => 
 (if r4 = 0 then
 Q 0 S3
 else
 Q 1 S3))
 → K18_2 S1) →
 (if fL S 65 a < p1 then
 K18_2 S
 else
 (if fL S 65 a ≤ p2 then
 Q 1 S
 else
 K18_2 S)))
set_option maxRecDepth 100000 in
set_option maxHeartbeats 4000000 in
theorem c_X7_inRange {l : Launch} {E : EE} {A : Nat → Prop} {a : Nat} {p1 : Int64} {p2 : Int64} {S : PS} {Q : Int32 → PS → Prop} (r_a : Rf S a 6) (h : wp_X7_inRange a p1 p2 S Q) : MtI l yX7_inRange (.code yX7_inRange cX7_inRange 5 (some .boolean)) rm_X7_inRange E A [.ref a, .long p1, .long p2] S (fun r S1 => nz r ∧ Q r S1) := by
  refine MtI.of (by decide) (Nat.le_of_ble_eq_true rfl) (fun X F hQ hN => ?_)
  show VV X (0, 0) S [(0, .ref a), (1, .long p1), (3, .long p2)] [] 0
  unfold wp_X7_inRange at h
  refine v_aload_n F dX7_inRange_0 0 rfl rfl ?_
  refine g_X7_123 F r_a dX7_inRange_1 ?_
  refine v_lload_n F dX7_inRange_4 1 rfl rfl ?_
  have h := h (fun (S1 : PS) => Rf S1 a 6 → VV X (0, 0) S1 [(0, .ref a)] [] 18) (by
    intro S1 h r_a
    refine v_aload_n F dX7_inRange_18 0 rfl rfl ?_
    refine v_cI0 (v_runV F k_X7_148 rfl (c_X7_refuseNumber r_a h) r_a rfl rfl (Nat.le_of_ble_eq_true rfl) (by decide) (by decide) dX7_inRange_19) ⟨rfl, rfl⟩ (fun r4 S3 h hE => ?_)
    obtain ⟨nz_r4, h⟩ := h
    have r_a := r_a.tr hE
    refine v_if_eq (tgt := 29) F dX7_inRange_22 (by decide) h (fun h => ?_) (fun h => ?_)
    · refine v_iconst (v := 0) F dX7_inRange_29 (by decide) ?_
      exact v_zret F hQ (by decide) ⟨nz0, h⟩ (by decide) dX7_inRange_30
    · refine v_iconst (v := 1) F dX7_inRange_25 (by decide) ?_
      refine v_goto (tgt := 30) F dX7_inRange_26 (by decide) ?_
      exact v_zret F hQ (by decide) ⟨nz1, h⟩ (by decide) dX7_inRange_30)
  refine v_lcmp_lt (tgt := 18) F dX7_inRange_5 dX7_inRange_6 (by decide) h (fun h => ?_) (fun h => ?_)
  · exact v_sub [0] rfl (h r_a)
  · refine v_aload_n F dX7_inRange_9 0 rfl rfl ?_
    refine g_X7_123 F r_a dX7_inRange_10 ?_
    refine v_lload_n F dX7_inRange_13 2 rfl rfl ?_
    refine v_lcmp_le (tgt := 25) F dX7_inRange_14 dX7_inRange_15 (by decide) h (fun h => ?_) (fun h => ?_)
    · refine v_iconst (v := 1) F dX7_inRange_25 (by decide) ?_
      refine v_goto (tgt := 30) F dX7_inRange_26 (by decide) ?_
      exact v_zret F hQ (by decide) ⟨nz1, h⟩ (by decide) dX7_inRange_30
    · exact v_sub [0] rfl (h r_a)
theorem dX7_number_0 : decode cX7_number 0 = .ok (.aload_n 0, 1) := by decide +kernel
theorem dX7_number_1 : decode cX7_number 1 = .ok (.invokevirtual 67, 3) := by decide +kernel
theorem dX7_number_4 : decode cX7_number 4 = .ok (.aload_n 0, 1) := by decide +kernel
theorem dX7_number_5 : decode cX7_number 5 = .ok (.iconst 3, 1) := by decide +kernel
theorem dX7_number_6 : decode cX7_number 6 = .ok (.invokevirtual 151, 3) := by decide +kernel
theorem dX7_number_9 : decode cX7_number 9 = .ok (.ifCond .eq 18, 3) := by decide +kernel
theorem dX7_number_12 : decode cX7_number 12 = .ok (.aload_n 0, 1) := by decide +kernel
theorem dX7_number_13 : decode cX7_number 13 = .ok (.iload_n 1, 1) := by decide +kernel
theorem dX7_number_14 : decode cX7_number 14 = .ok (.i2l, 1) := by decide +kernel
theorem dX7_number_15 : decode cX7_number 15 = .ok (.iload_n 2, 1) := by decide +kernel
theorem dX7_number_16 : decode cX7_number 16 = .ok (.i2l, 1) := by decide +kernel
theorem dX7_number_17 : decode cX7_number 17 = .ok (.invokevirtual 154, 3) := by decide +kernel
theorem dX7_number_20 : decode cX7_number 20 = .ok (.ifCond .eq 7, 3) := by decide +kernel
theorem dX7_number_23 : decode cX7_number 23 = .ok (.iconst 1, 1) := by decide +kernel
theorem dX7_number_24 : decode cX7_number 24 = .ok (.goto 4, 3) := by decide +kernel
theorem dX7_number_27 : decode cX7_number 27 = .ok (.iconst 0, 1) := by decide +kernel
theorem dX7_number_28 : decode cX7_number 28 = .ok (.ireturn, 1) := by decide +kernel
abbrev rm_X7_number : Room := { frames := 3, cells := 0, slots := 0, locals := 66 }
def wp_X7_number (a : Nat) (p1 : Int32) (p2 : Int32) (S : PS) (Q : Int32 → PS → Prop) : Prop :=
  wp_X7_skipBlanks a S (fun (S1 : PS) => 
 wp_X7_digits a 3 S1 (fun (r3 : Int32) (S2 : PS) => 
 (if r3 = 0 then
 Q 0 S2
 else
 wp_X7_inRange a (p1.toInt64) (p2.toInt64) S2 (fun (r5 : Int32) (S4 : PS) => 
 (if r5 = 0 then
 Q 0 S4
 else
 Q 1 S4)))))
set_option maxRecDepth 100000 in
set_option maxHeartbeats 4000000 in
theorem c_X7_number {l : Launch} {E : EE} {A : Nat → Prop} {a : Nat} {p1 : Int32} {p2 : Int32} {S : PS} {Q : Int32 → PS → Prop} (r_a : Rf S a 6) (h : wp_X7_number a p1 p2 S Q) : MtI l yX7_number (.code yX7_number cX7_number 3 (some .boolean)) rm_X7_number E A [.ref a, .int p1, .int p2] S (fun r S1 => nz r ∧ Q r S1) := by
  refine MtI.of (by decide) (Nat.le_of_ble_eq_true rfl) (fun X F hQ hN => ?_)
  show VV X (0, 0) S [(0, .ref a), (1, .int p1), (2, .int p2)] [] 0
  unfold wp_X7_number at h
  refine v_aload_n F dX7_number_0 0 rfl rfl ?_
  refine v_cV0 (v_runV F k_X7_67 rfl (c_X7_skipBlanks r_a h) r_a rfl rfl (Nat.le_of_ble_eq_true rfl) (by decide) (by decide) dX7_number_1) ⟨rfl, rfl⟩ (fun  S1 h hE => ?_)
  have r_a := r_a.tr hE
  refine v_aload_n F dX7_number_4 0 rfl rfl ?_
  refine v_iconst (v := 3) F dX7_number_5 (by decide) ?_
  refine v_cI0 (v_runV F k_X7_151 rfl (c_X7_digits r_a h) r_a rfl rfl (Nat.le_of_ble_eq_true rfl) (by decide) (by decide) dX7_number_6) ⟨rfl, rfl⟩ (fun r3 S2 h hE => ?_)
  obtain ⟨nz_r3, h⟩ := h
  have r_a := r_a.tr hE
  refine v_if_eq (tgt := 27) F dX7_number_9 (by decide) h (fun h => ?_) (fun h => ?_)
  · refine v_iconst (v := 0) F dX7_number_27 (by decide) ?_
    exact v_zret F hQ (by decide) ⟨nz0, h⟩ (by decide) dX7_number_28
  · refine v_aload_n F dX7_number_12 0 rfl rfl ?_
    refine v_iload_n F dX7_number_13 1 rfl rfl ?_
    refine v_i2l F dX7_number_14 ?_
    refine v_iload_n F dX7_number_15 2 rfl rfl ?_
    refine v_i2l F dX7_number_16 ?_
    refine v_cI0 (v_runV F k_X7_154 rfl (c_X7_inRange r_a h) r_a rfl rfl (Nat.le_of_ble_eq_true rfl) (by decide) (by decide) dX7_number_17) ⟨rfl, rfl⟩ (fun r5 S4 h hE => ?_)
    obtain ⟨nz_r5, h⟩ := h
    have r_a := r_a.tr hE
    refine v_if_eq (tgt := 27) F dX7_number_20 (by decide) h (fun h => ?_) (fun h => ?_)
    · refine v_iconst (v := 0) F dX7_number_27 (by decide) ?_
      exact v_zret F hQ (by decide) ⟨nz0, h⟩ (by decide) dX7_number_28
    · refine v_iconst (v := 1) F dX7_number_23 (by decide) ?_
      refine v_goto (tgt := 28) F dX7_number_24 (by decide) ?_
      exact v_zret F hQ (by decide) ⟨nz1, h⟩ (by decide) dX7_number_28
theorem dX7_powerOfTwo_0 : decode cX7_powerOfTwo 0 = .ok (.aload_n 0, 1) := by decide +kernel
theorem dX7_powerOfTwo_1 : decode cX7_powerOfTwo 1 = .ok (.getfield 123, 3) := by decide +kernel
theorem dX7_powerOfTwo_4 : decode cX7_powerOfTwo 4 = .ok (.aload_n 0, 1) := by decide +kernel
theorem dX7_powerOfTwo_5 : decode cX7_powerOfTwo 5 = .ok (.getfield 123, 3) := by decide +kernel
theorem dX7_powerOfTwo_8 : decode cX7_powerOfTwo 8 = .ok (.lconst 1, 1) := by decide +kernel
theorem dX7_powerOfTwo_9 : decode cX7_powerOfTwo 9 = .ok (.lsub, 1) := by decide +kernel
theorem dX7_powerOfTwo_10 : decode cX7_powerOfTwo 10 = .ok (.land, 1) := by decide +kernel
theorem dX7_powerOfTwo_11 : decode cX7_powerOfTwo 11 = .ok (.lconst 0, 1) := by decide +kernel
theorem dX7_powerOfTwo_12 : decode cX7_powerOfTwo 12 = .ok (.lcmp, 1) := by decide +kernel
theorem dX7_powerOfTwo_13 : decode cX7_powerOfTwo 13 = .ok (.ifCond .eq 10, 3) := by decide +kernel
theorem dX7_powerOfTwo_16 : decode cX7_powerOfTwo 16 = .ok (.aload_n 0, 1) := by decide +kernel
theorem dX7_powerOfTwo_17 : decode cX7_powerOfTwo 17 = .ok (.invokevirtual 148, 3) := by decide +kernel
theorem dX7_powerOfTwo_20 : decode cX7_powerOfTwo 20 = .ok (.ifCond .eq 7, 3) := by decide +kernel
theorem dX7_powerOfTwo_23 : decode cX7_powerOfTwo 23 = .ok (.iconst 1, 1) := by decide +kernel
theorem dX7_powerOfTwo_24 : decode cX7_powerOfTwo 24 = .ok (.goto 4, 3) := by decide +kernel
theorem dX7_powerOfTwo_27 : decode cX7_powerOfTwo 27 = .ok (.iconst 0, 1) := by decide +kernel
theorem dX7_powerOfTwo_28 : decode cX7_powerOfTwo 28 = .ok (.ireturn, 1) := by decide +kernel
abbrev rm_X7_powerOfTwo : Room := { frames := 2, cells := 0, slots := 0, locals := 42 }
def wp_X7_powerOfTwo (a : Nat) (S : PS) (Q : Int32 → PS → Prop) : Prop :=
  (if (fL S 65 a) &&& ((fL S 65 a) - 1) = 0 then
 Q 1 S
 else
 wp_X7_refuseNumber a S (fun (r2 : Int32) (S1 : PS) => 
 (if r2 = 0 then
 Q 0 S1
 else
 Q 1 S1)))
set_option maxRecDepth 100000 in
set_option maxHeartbeats 4000000 in
theorem c_X7_powerOfTwo {l : Launch} {E : EE} {A : Nat → Prop} {a : Nat} {S : PS} {Q : Int32 → PS → Prop} (r_a : Rf S a 6) (h : wp_X7_powerOfTwo a S Q) : MtI l yX7_powerOfTwo (.code yX7_powerOfTwo cX7_powerOfTwo 1 (some .boolean)) rm_X7_powerOfTwo E A [.ref a] S (fun r S1 => nz r ∧ Q r S1) := by
  refine MtI.of (by decide) (Nat.le_of_ble_eq_true rfl) (fun X F hQ hN => ?_)
  show VV X (0, 0) S [(0, .ref a)] [] 0
  unfold wp_X7_powerOfTwo at h
  refine v_aload_n F dX7_powerOfTwo_0 0 rfl rfl ?_
  refine g_X7_123 F r_a dX7_powerOfTwo_1 ?_
  refine v_aload_n F dX7_powerOfTwo_4 0 rfl rfl ?_
  refine g_X7_123 F r_a dX7_powerOfTwo_5 ?_
  refine v_lconst (v := 1) F dX7_powerOfTwo_8 (by decide) ?_
  refine v_lsub F dX7_powerOfTwo_9 ?_
  refine v_land F dX7_powerOfTwo_10 ?_
  refine v_lconst (v := 0) F dX7_powerOfTwo_11 (by decide) ?_
  refine v_lcmp_eq (tgt := 23) F dX7_powerOfTwo_12 dX7_powerOfTwo_13 (by decide) h (fun h => ?_) (fun h => ?_)
  · refine v_iconst (v := 1) F dX7_powerOfTwo_23 (by decide) ?_
    refine v_goto (tgt := 28) F dX7_powerOfTwo_24 (by decide) ?_
    exact v_zret F hQ (by decide) ⟨nz1, h⟩ (by decide) dX7_powerOfTwo_28
  · refine v_aload_n F dX7_powerOfTwo_16 0 rfl rfl ?_
    refine v_cI0 (v_runV F k_X7_148 rfl (c_X7_refuseNumber r_a h) r_a rfl rfl (Nat.le_of_ble_eq_true rfl) (by decide) (by decide) dX7_powerOfTwo_17) ⟨rfl, rfl⟩ (fun r2 S1 h hE => ?_)
    obtain ⟨nz_r2, h⟩ := h
    have r_a := r_a.tr hE
    refine v_if_eq (tgt := 27) F dX7_powerOfTwo_20 (by decide) h (fun h => ?_) (fun h => ?_)
    · refine v_iconst (v := 0) F dX7_powerOfTwo_27 (by decide) ?_
      exact v_zret F hQ (by decide) ⟨nz0, h⟩ (by decide) dX7_powerOfTwo_28
    · refine v_iconst (v := 1) F dX7_powerOfTwo_23 (by decide) ?_
      refine v_goto (tgt := 28) F dX7_powerOfTwo_24 (by decide) ?_
      exact v_zret F hQ (by decide) ⟨nz1, h⟩ (by decide) dX7_powerOfTwo_28
theorem dX7_meter_0 : decode cX7_meter 0 = .ok (.aload_n 0, 1) := by decide +kernel
theorem dX7_meter_1 : decode cX7_meter 1 = .ok (.dup, 1) := by decide +kernel
theorem dX7_meter_2 : decode cX7_meter 2 = .ok (.getfield 23, 3) := by decide +kernel
theorem dX7_meter_5 : decode cX7_meter 5 = .ok (.iconst 1, 1) := by decide +kernel
theorem dX7_meter_6 : decode cX7_meter 6 = .ok (.iadd, 1) := by decide +kernel
theorem dX7_meter_7 : decode cX7_meter 7 = .ok (.putfield 23, 3) := by decide +kernel
theorem dX7_meter_10 : decode cX7_meter 10 = .ok (.aload_n 0, 1) := by decide +kernel
theorem dX7_meter_11 : decode cX7_meter 11 = .ok (.iconst 1, 1) := by decide +kernel
theorem dX7_meter_12 : decode cX7_meter 12 = .ok (.bipush 32, 2) := by decide +kernel
theorem dX7_meter_14 : decode cX7_meter 14 = .ok (.invokevirtual 120, 3) := by decide +kernel
theorem dX7_meter_17 : decode cX7_meter 17 = .ok (.ifCond .ne 5, 3) := by decide +kernel
theorem dX7_meter_20 : decode cX7_meter 20 = .ok (.iconst 0, 1) := by decide +kernel
theorem dX7_meter_21 : decode cX7_meter 21 = .ok (.ireturn, 1) := by decide +kernel
theorem dX7_meter_22 : decode cX7_meter 22 = .ok (.aload_n 0, 1) := by decide +kernel
theorem dX7_meter_23 : decode cX7_meter 23 = .ok (.getfield 123, 3) := by decide +kernel
theorem dX7_meter_26 : decode cX7_meter 26 = .ok (.l2i, 1) := by decide +kernel
theorem dX7_meter_27 : decode cX7_meter 27 = .ok (.istore_n 2, 1) := by decide +kernel
theorem dX7_meter_28 : decode cX7_meter 28 = .ok (.aload_n 0, 1) := by decide +kernel
theorem dX7_meter_29 : decode cX7_meter 29 = .ok (.bipush 47, 2) := by decide +kernel
theorem dX7_meter_31 : decode cX7_meter 31 = .ok (.invokevirtual 131, 3) := by decide +kernel
theorem dX7_meter_34 : decode cX7_meter 34 = .ok (.ifCond .eq 20, 3) := by decide +kernel
theorem dX7_meter_37 : decode cX7_meter 37 = .ok (.aload_n 0, 1) := by decide +kernel
theorem dX7_meter_38 : decode cX7_meter 38 = .ok (.iconst 1, 1) := by decide +kernel
theorem dX7_meter_39 : decode cX7_meter 39 = .ok (.bipush 32, 2) := by decide +kernel
theorem dX7_meter_41 : decode cX7_meter 41 = .ok (.invokevirtual 120, 3) := by decide +kernel
theorem dX7_meter_44 : decode cX7_meter 44 = .ok (.ifCond .eq 10, 3) := by decide +kernel
theorem dX7_meter_47 : decode cX7_meter 47 = .ok (.aload_n 0, 1) := by decide +kernel
theorem dX7_meter_48 : decode cX7_meter 48 = .ok (.invokevirtual 137, 3) := by decide +kernel
theorem dX7_meter_51 : decode cX7_meter 51 = .ok (.ifCond .ne 5, 3) := by decide +kernel
theorem dX7_meter_54 : decode cX7_meter 54 = .ok (.iconst 0, 1) := by decide +kernel
theorem dX7_meter_55 : decode cX7_meter 55 = .ok (.ireturn, 1) := by decide +kernel
theorem dX7_meter_56 : decode cX7_meter 56 = .ok (.aload_n 0, 1) := by decide +kernel
theorem dX7_meter_57 : decode cX7_meter 57 = .ok (.getfield 9, 3) := by decide +kernel
theorem dX7_meter_60 : decode cX7_meter 60 = .ok (.iload_n 1, 1) := by decide +kernel
theorem dX7_meter_61 : decode cX7_meter 61 = .ok (.iload_n 2, 1) := by decide +kernel
theorem dX7_meter_62 : decode cX7_meter 62 = .ok (.aload_n 0, 1) := by decide +kernel
theorem dX7_meter_63 : decode cX7_meter 63 = .ok (.getfield 123, 3) := by decide +kernel
theorem dX7_meter_66 : decode cX7_meter 66 = .ok (.l2i, 1) := by decide +kernel
theorem dX7_meter_67 : decode cX7_meter 67 = .ok (.invokevirtual 127, 3) := by decide +kernel
theorem dX7_meter_70 : decode cX7_meter 70 = .ok (.iconst 1, 1) := by decide +kernel
theorem dX7_meter_71 : decode cX7_meter 71 = .ok (.ireturn, 1) := by decide +kernel
abbrev rm_X7_meter : Room := { frames := 4, cells := 0, slots := 0, locals := 88 }
def wp_X7_meter (a : Nat) (p1 : Int32) (S : PS) (Q : Int32 → PS → Prop) : Prop :=
  (∀ S1, S1 = sI S 60 a ((fI S 60 a) + 1) → wp_X7_number a 1 32 S1 (fun (r3 : Int32) (S2 : PS) => 
 (if r3 = 0 then
 Q 0 S2
 else
 (∀ v4, v4 = (fL S2 65 a).toInt32 → wp_X7_mustBehindBlanks a 47 S2 (fun (r6 : Int32) (S5 : PS) => 
 (if r6 = 0 then
 Q 0 S5
 else
 wp_X7_number a 1 32 S5 (fun (r8 : Int32) (S7 : PS) => 
 (if r8 = 0 then
 Q 0 S7
 else
 wp_X7_powerOfTwo a S7 (fun (r10 : Int32) (S9 : PS) => 
 (if r10 = 0 then
 Q 0 S9
 else
 (∃ b11, fR S9 58 a = some b11 ∧ wp_X6_setNumbers b11 p1 v4 ((fL S9 65 a).toInt32) S9 (fun (S12 : PS) => 
 Q 1 S12))))))))))))
set_option maxRecDepth 100000 in
set_option maxHeartbeats 4000000 in
theorem c_X7_meter {l : Launch} {E : EE} {A : Nat → Prop} {a : Nat} {p1 : Int32} {S : PS} {Q : Int32 → PS → Prop} (r_a : Rf S a 6) (h : wp_X7_meter a p1 S Q) : MtI l yX7_meter (.code yX7_meter cX7_meter 3 (some .boolean)) rm_X7_meter E A [.ref a, .int p1] S (fun r S1 => nz r ∧ Q r S1) := by
  refine MtI.of (by decide) (Nat.le_of_ble_eq_true rfl) (fun X F hQ hN => ?_)
  show VV X (0, 0) S [(0, .ref a), (1, .int p1)] [] 0
  unfold wp_X7_meter at h
  refine v_aload_n F dX7_meter_0 0 rfl rfl ?_
  refine v_dup F dX7_meter_1 rfl ?_
  refine g_X7_23 F r_a dX7_meter_2 ?_
  refine v_iconst (v := 1) F dX7_meter_5 (by decide) ?_
  refine v_iadd F dX7_meter_6 ?_
  refine p_X7_23 F r_a h dX7_meter_7 (fun S1 h hE => ?_)
  have r_a := r_a.tr hE
  refine v_aload_n F dX7_meter_10 0 rfl rfl ?_
  refine v_iconst (v := 1) F dX7_meter_11 (by decide) ?_
  refine v_bipush (v := 32) F dX7_meter_12 (by decide) ?_
  refine v_cI0 (v_runV F k_X7_120 rfl (c_X7_number r_a h) r_a rfl rfl (Nat.le_of_ble_eq_true rfl) (by decide) (by decide) dX7_meter_14) ⟨rfl, rfl⟩ (fun r3 S2 h hE => ?_)
  obtain ⟨nz_r3, h⟩ := h
  have r_a := r_a.tr hE
  refine v_if_ne (tgt := 22) F dX7_meter_17 (by decide) h (fun h => ?_) (fun h => ?_)
  · refine v_aload_n F dX7_meter_22 0 rfl rfl ?_
    refine g_X7_123 F r_a dX7_meter_23 ?_
    refine v_l2i F dX7_meter_26 ?_
    refine v_topi (fun v4 e_v4 => ?_)
    have h := h v4 e_v4
    refine v_istore_n (lv1 := [(2, .int v4), (0, .ref a), (1, .int p1)]) F dX7_meter_27 rfl (by rw [hN]; decide) rfl ?_
    refine v_aload_n F dX7_meter_28 1 rfl rfl ?_
    refine v_bipush (v := 47) F dX7_meter_29 (by decide) ?_
    refine v_cI0 (v_runV F k_X7_131 rfl (c_X7_mustBehindBlanks r_a h) r_a rfl rfl (Nat.le_of_ble_eq_true rfl) (by decide) (by decide) dX7_meter_31) ⟨rfl, rfl⟩ (fun r6 S5 h hE => ?_)
    obtain ⟨nz_r6, h⟩ := h
    have r_a := r_a.tr hE
    refine v_if_eq (tgt := 54) F dX7_meter_34 (by decide) h (fun h => ?_) (fun h => ?_)
    · refine v_iconst (v := 0) F dX7_meter_54 (by decide) ?_
      exact v_zret F hQ (by decide) ⟨nz0, h⟩ (by decide) dX7_meter_55
    · refine v_aload_n F dX7_meter_37 1 rfl rfl ?_
      refine v_iconst (v := 1) F dX7_meter_38 (by decide) ?_
      refine v_bipush (v := 32) F dX7_meter_39 (by decide) ?_
      refine v_cI0 (v_runV F k_X7_120 rfl (c_X7_number r_a h) r_a rfl rfl (Nat.le_of_ble_eq_true rfl) (by decide) (by decide) dX7_meter_41) ⟨rfl, rfl⟩ (fun r8 S7 h hE => ?_)
      obtain ⟨nz_r8, h⟩ := h
      have r_a := r_a.tr hE
      refine v_if_eq (tgt := 54) F dX7_meter_44 (by decide) h (fun h => ?_) (fun h => ?_)
      · refine v_iconst (v := 0) F dX7_meter_54 (by decide) ?_
        exact v_zret F hQ (by decide) ⟨nz0, h⟩ (by decide) dX7_meter_55
      · refine v_aload_n F dX7_meter_47 1 rfl rfl ?_
        refine v_cI0 (v_runV F k_X7_137 rfl (c_X7_powerOfTwo r_a h) r_a rfl rfl (Nat.le_of_ble_eq_true rfl) (by decide) (by decide) dX7_meter_48) ⟨rfl, rfl⟩ (fun r10 S9 h hE => ?_)
        obtain ⟨nz_r10, h⟩ := h
        have r_a := r_a.tr hE
        refine v_if_ne (tgt := 56) F dX7_meter_51 (by decide) h (fun h => ?_) (fun h => ?_)
        · refine v_aload_n F dX7_meter_56 1 rfl rfl ?_
          refine g_X7_9 F r_a h dX7_meter_57 (fun b11 r_b11 h => ?_)
          refine v_iload_n F dX7_meter_60 2 rfl rfl ?_
          refine v_iload_n F dX7_meter_61 0 rfl rfl ?_
          refine v_aload_n F dX7_meter_62 1 rfl rfl ?_
          refine g_X7_123 F r_a dX7_meter_63 ?_
          refine v_l2i F dX7_meter_66 ?_
          refine v_cV0 (v_runV F k_X7_127 rfl (c_X6_setNumbers r_b11 h) r_b11 rfl rfl (Nat.le_of_ble_eq_true rfl) (by decide) (by decide) dX7_meter_67) ⟨rfl, rfl⟩ (fun  S12 h hE => ?_)
          have r_a := r_a.tr hE
          refine v_iconst (v := 1) F dX7_meter_70 (by decide) ?_
          exact v_zret F hQ (by decide) ⟨nz1, h⟩ (by decide) dX7_meter_71
        · refine v_iconst (v := 0) F dX7_meter_54 (by decide) ?_
          exact v_zret F hQ (by decide) ⟨nz0, h⟩ (by decide) dX7_meter_55
  · refine v_iconst (v := 0) F dX7_meter_20 (by decide) ?_
    exact v_zret F hQ (by decide) ⟨nz0, h⟩ (by decide) dX7_meter_21
theorem dX7_signed_0 : decode cX7_signed 0 = .ok (.aload_n 0, 1) := by decide +kernel
theorem dX7_signed_1 : decode cX7_signed 1 = .ok (.invokevirtual 67, 3) := by decide +kernel
theorem dX7_signed_4 : decode cX7_signed 4 = .ok (.aload_n 0, 1) := by decide +kernel
theorem dX7_signed_5 : decode cX7_signed 5 = .ok (.bipush 45, 2) := by decide +kernel
theorem dX7_signed_7 : decode cX7_signed 7 = .ok (.invokevirtual 63, 3) := by decide +kernel
theorem dX7_signed_10 : decode cX7_signed 10 = .ok (.istore_n 1, 1) := by decide +kernel
theorem dX7_signed_11 : decode cX7_signed 11 = .ok (.aload_n 0, 1) := by decide +kernel
theorem dX7_signed_12 : decode cX7_signed 12 = .ok (.iconst 2, 1) := by decide +kernel
theorem dX7_signed_13 : decode cX7_signed 13 = .ok (.invokevirtual 151, 3) := by decide +kernel
theorem dX7_signed_16 : decode cX7_signed 16 = .ok (.ifCond .ne 5, 3) := by decide +kernel
theorem dX7_signed_19 : decode cX7_signed 19 = .ok (.iconst 0, 1) := by decide +kernel
theorem dX7_signed_20 : decode cX7_signed 20 = .ok (.ireturn, 1) := by decide +kernel
theorem dX7_signed_21 : decode cX7_signed 21 = .ok (.iload_n 1, 1) := by decide +kernel
theorem dX7_signed_22 : decode cX7_signed 22 = .ok (.ifCond .eq 12, 3) := by decide +kernel
theorem dX7_signed_25 : decode cX7_signed 25 = .ok (.aload_n 0, 1) := by decide +kernel
theorem dX7_signed_26 : decode cX7_signed 26 = .ok (.aload_n 0, 1) := by decide +kernel
theorem dX7_signed_27 : decode cX7_signed 27 = .ok (.getfield 123, 3) := by decide +kernel
theorem dX7_signed_30 : decode cX7_signed 30 = .ok (.lneg, 1) := by decide +kernel
theorem dX7_signed_31 : decode cX7_signed 31 = .ok (.putfield 123, 3) := by decide +kernel
theorem dX7_signed_34 : decode cX7_signed 34 = .ok (.iconst 1, 1) := by decide +kernel
theorem dX7_signed_35 : decode cX7_signed 35 = .ok (.ireturn, 1) := by decide +kernel
abbrev rm_X7_signed : Room := { frames := 3, cells := 0, slots := 0, locals := 63 }
def wp_X7_signed (a : Nat) (S : PS) (Q : Int32 → PS → Prop) : Prop :=
  wp_X7_skipBlanks a S (fun (S1 : PS) => 
 wp_X7_take a 45 S1 (fun (r3 : Int32) (S2 : PS) => 
 wp_X7_digits a 2 S2 (fun (r5 : Int32) (S4 : PS) => 
 (if r5 = 0 then
 Q 0 S4
 else
 (if r3 = 0 then
 Q 1 S4
 else
 (∀ S6, S6 = sL S4 65 a (-(fL S4 65 a)) → Q 1 S6))))))
set_option maxRecDepth 100000 in
set_option maxHeartbeats 4000000 in
theorem c_X7_signed {l : Launch} {E : EE} {A : Nat → Prop} {a : Nat} {S : PS} {Q : Int32 → PS → Prop} (r_a : Rf S a 6) (h : wp_X7_signed a S Q) : MtI l yX7_signed (.code yX7_signed cX7_signed 2 (some .boolean)) rm_X7_signed E A [.ref a] S (fun r S1 => nz r ∧ Q r S1) := by
  refine MtI.of (by decide) (Nat.le_of_ble_eq_true rfl) (fun X F hQ hN => ?_)
  show VV X (0, 0) S [(0, .ref a)] [] 0
  unfold wp_X7_signed at h
  refine v_aload_n F dX7_signed_0 0 rfl rfl ?_
  refine v_cV0 (v_runV F k_X7_67 rfl (c_X7_skipBlanks r_a h) r_a rfl rfl (Nat.le_of_ble_eq_true rfl) (by decide) (by decide) dX7_signed_1) ⟨rfl, rfl⟩ (fun  S1 h hE => ?_)
  have r_a := r_a.tr hE
  refine v_aload_n F dX7_signed_4 0 rfl rfl ?_
  refine v_bipush (v := 45) F dX7_signed_5 (by decide) ?_
  refine v_cI0 (v_runV F k_X7_63 rfl (c_X7_take r_a h) r_a rfl rfl (Nat.le_of_ble_eq_true rfl) (by decide) (by decide) dX7_signed_7) ⟨rfl, rfl⟩ (fun r3 S2 h hE => ?_)
  obtain ⟨nz_r3, h⟩ := h
  have r_a := r_a.tr hE
  refine v_istore_n (lv1 := [(1, .int r3), (0, .ref a)]) F dX7_signed_10 rfl (by rw [hN]; decide) rfl ?_
  refine v_aload_n F dX7_signed_11 1 rfl rfl ?_
  refine v_iconst (v := 2) F dX7_signed_12 (by decide) ?_
  refine v_cI0 (v_runV F k_X7_151 rfl (c_X7_digits r_a h) r_a rfl rfl (Nat.le_of_ble_eq_true rfl) (by decide) (by decide) dX7_signed_13) ⟨rfl, rfl⟩ (fun r5 S4 h hE => ?_)
  obtain ⟨nz_r5, h⟩ := h
  have r_a := r_a.tr hE
  refine v_if_ne (tgt := 21) F dX7_signed_16 (by decide) h (fun h => ?_) (fun h => ?_)
  · refine v_iload_n F dX7_signed_21 0 rfl rfl ?_
    refine v_if_eq (tgt := 34) F dX7_signed_22 (by decide) h (fun h => ?_) (fun h => ?_)
    · refine v_iconst (v := 1) F dX7_signed_34 (by decide) ?_
      exact v_zret F hQ (by decide) ⟨nz1, h⟩ (by decide) dX7_signed_35
    · refine v_aload_n F dX7_signed_25 1 rfl rfl ?_
      refine v_aload_n F dX7_signed_26 1 rfl rfl ?_
      refine g_X7_123 F r_a dX7_signed_27 ?_
      refine v_lneg F dX7_signed_30 ?_
      refine p_X7_123 F r_a h dX7_signed_31 (fun S6 h hE => ?_)
      have r_a := r_a.tr hE
      refine v_iconst (v := 1) F dX7_signed_34 (by decide) ?_
      exact v_zret F hQ (by decide) ⟨nz1, h⟩ (by decide) dX7_signed_35
  · refine v_iconst (v := 0) F dX7_signed_19 (by decide) ?_
    exact v_zret F hQ (by decide) ⟨nz0, h⟩ (by decide) dX7_signed_20
theorem dX7_marks_0 : decode cX7_marks 0 = .ok (.iconst 0, 1) := by decide +kernel
theorem dX7_marks_1 : decode cX7_marks 1 = .ok (.istore_n 3, 1) := by decide +kernel
theorem dX7_marks_2 : decode cX7_marks 2 = .ok (.iload_n 3, 1) := by decide +kernel
theorem dX7_marks_3 : decode cX7_marks 3 = .ok (.iload_n 2, 1) := by decide +kernel
theorem dX7_marks_4 : decode cX7_marks 4 = .ok (.if_icmp .ge 27, 3) := by decide +kernel
theorem dX7_marks_7 : decode cX7_marks 7 = .ok (.aload_n 0, 1) := by decide +kernel
theorem dX7_marks_8 : decode cX7_marks 8 = .ok (.invokevirtual 41, 3) := by decide +kernel
theorem dX7_marks_11 : decode cX7_marks 11 = .ok (.iload_n 1, 1) := by decide +kernel
theorem dX7_marks_12 : decode cX7_marks 12 = .ok (.if_icmp .ne 19, 3) := by decide +kernel
theorem dX7_marks_15 : decode cX7_marks 15 = .ok (.aload_n 0, 1) := by decide +kernel
theorem dX7_marks_16 : decode cX7_marks 16 = .ok (.dup, 1) := by decide +kernel
theorem dX7_marks_17 : decode cX7_marks 17 = .ok (.getfield 23, 3) := by decide +kernel
theorem dX7_marks_20 : decode cX7_marks 20 = .ok (.iconst 1, 1) := by decide +kernel
theorem dX7_marks_21 : decode cX7_marks 21 = .ok (.iadd, 1) := by decide +kernel
theorem dX7_marks_22 : decode cX7_marks 22 = .ok (.putfield 23, 3) := by decide +kernel
theorem dX7_marks_25 : decode cX7_marks 25 = .ok (.iinc 3 1, 3) := by decide +kernel
theorem dX7_marks_28 : decode cX7_marks 28 = .ok (.goto (-26), 3) := by decide +kernel
theorem dX7_marks_31 : decode cX7_marks 31 = .ok (.iload_n 3, 1) := by decide +kernel
theorem dX7_marks_32 : decode cX7_marks 32 = .ok (.ireturn, 1) := by decide +kernel
abbrev rm_X7_marks : Room := { frames := 1, cells := 0, slots := 0, locals := 21 }
def wp_X7_marks (a : Nat) (p1 : Int32) (p2 : Int32) (S : PS) (Q : Int32 → PS → Prop) : Prop :=
  (∀ P2_1 : Int32 → PS → Prop, (∀ (x3_2 : Int32) (S3 : PS),
 (if p2 ≤ x3_2 then
 Q x3_2 S3
 else
 wp_X7_next a S3 (fun (r5 : Int32) (S4 : PS) => 
 (if r5 = p1 then
 (∀ S6, S6 = sI S4 60 a ((fI S4 60 a) + 1) → (∀ v7, v7 = x3_2 + 1 → P2_1 v7 S6))
 else
 Q x3_2 S4)))
 → P2_1 x3_2 S3) → P2_1 0 S)
set_option maxRecDepth 100000 in
set_option maxHeartbeats 4000000 in
theorem c_X7_marks {l : Launch} {E : EE} {A : Nat → Prop} {a : Nat} {p1 : Int32} {p2 : Int32} {S : PS} {Q : Int32 → PS → Prop} (r_a : Rf S a 6) (h : wp_X7_marks a p1 p2 S Q) : MtI l yX7_marks (.code yX7_marks cX7_marks 4 (some .int)) rm_X7_marks E A [.ref a, .int p1, .int p2] S Q := by
  refine MtI.of (by decide) (Nat.le_of_ble_eq_true rfl) (fun X F hQ hN => ?_)
  show VV X (0, 0) S [(0, .ref a), (1, .int p1), (2, .int p2)] [] 0
  unfold wp_X7_marks at h
  refine v_iconst (v := 0) F dX7_marks_0 (by decide) ?_
  refine v_istore_n (lv1 := [(3, .int 0), (0, .ref a), (1, .int p1), (2, .int p2)]) F dX7_marks_1 rfl (by rw [hN]; decide) rfl ?_
  refine v_sub [1, 2, 3, 0] rfl ?_
  refine h (fun (x3_2 : Int32) (S3 : PS) => Rf S3 a 6 → VV X (0, 0) S3 [(0, .ref a), (1, .int p1), (2, .int p2), (3, .int x3_2)] [] 2) (fun x3_2 S3 h r_a => ?_) r_a
  refine v_iload_n F dX7_marks_2 3 rfl rfl ?_
  refine v_iload_n F dX7_marks_3 2 rfl rfl ?_
  refine v_icmp_ge (tgt := 31) F dX7_marks_4 (by decide) h (fun h => ?_) (fun h => ?_)
  · refine v_iload_n F dX7_marks_31 3 rfl rfl ?_
    exact v_iret F hQ h (by decide) dX7_marks_32
  · refine v_aload_n F dX7_marks_7 0 rfl rfl ?_
    refine v_cI0 (v_runV F k_X7_41 rfl (c_X7_next r_a h) r_a rfl rfl (Nat.le_of_ble_eq_true rfl) (by decide) (by decide) dX7_marks_8) ⟨rfl, rfl⟩ (fun r5 S4 h hE => ?_)
    have r_a := r_a.tr hE
    refine v_iload_n F dX7_marks_11 1 rfl rfl ?_
    refine v_icmp_ne (tgt := 31) F dX7_marks_12 (by decide) h (fun h => ?_) (fun h => ?_)
    · refine v_iload_n F dX7_marks_31 3 rfl rfl ?_
      exact v_iret F hQ h (by decide) dX7_marks_32
    · refine v_aload_n F dX7_marks_15 0 rfl rfl ?_
      refine v_dup F dX7_marks_16 rfl ?_
      refine g_X7_23 F r_a dX7_marks_17 ?_
      refine v_iconst (v := 1) F dX7_marks_20 (by decide) ?_
      refine v_iadd F dX7_marks_21 ?_
      refine p_X7_23 F r_a h dX7_marks_22 (fun S6 h hE => ?_)
      have r_a := r_a.tr hE
      obtain ⟨v7, e_v7⟩ : ∃ y : Int32, y = x3_2 + 1 := ⟨_, rfl⟩
      have h := h v7 e_v7
      refine v_iinc (v := v7) (lv1 := [(3, .int v7), (0, .ref a), (1, .int p1), (2, .int p2)]) F dX7_marks_25 (q := 3) rfl (by rw [e_v7]; rfl) (by rw [hN]; decide) rfl ?_
      refine v_goto (tgt := 2) F dX7_marks_28 (by decide) ?_
      exact v_sub [1, 2, 3, 0] rfl (h r_a)
theorem dX7_written_0 : decode cX7_written 0 = .ok (.aload_n 0, 1) := by decide +kernel
theorem dX7_written_1 : decode cX7_written 1 = .ok (.invokevirtual 41, 3) := by decide +kernel
theorem dX7_written_4 : decode cX7_written 4 = .ok (.istore_n 1, 1) := by decide +kernel
theorem dX7_written_5 : decode cX7_written 5 = .ok (.iload_n 1, 1) := by decide +kernel
theorem dX7_written_6 : decode cX7_written 6 = .ok (.invokestatic 169, 3) := by decide +kernel
theorem dX7_written_9 : decode cX7_written 9 = .ok (.ifCond .ne 8, 3) := by decide +kernel
theorem dX7_written_12 : decode cX7_written 12 = .ok (.aload_n 0, 1) := by decide +kernel
theorem dX7_written_13 : decode cX7_written 13 = .ok (.invokevirtual 45, 3) := by decide +kernel
theorem dX7_written_16 : decode cX7_written 16 = .ok (.ireturn, 1) := by decide +kernel
theorem dX7_written_17 : decode cX7_written 17 = .ok (.aload_n 0, 1) := by decide +kernel
theorem dX7_written_18 : decode cX7_written 18 = .ok (.dup, 1) := by decide +kernel
theorem dX7_written_19 : decode cX7_written 19 = .ok (.getfield 23, 3) := by decide +kernel
theorem dX7_written_22 : decode cX7_written 22 = .ok (.iconst 1, 1) := by decide +kernel
theorem dX7_written_23 : decode cX7_written 23 = .ok (.iadd, 1) := by decide +kernel
theorem dX7_written_24 : decode cX7_written 24 = .ok (.putfield 23, 3) := by decide +kernel
theorem dX7_written_27 : decode cX7_written 27 = .ok (.aload_n 0, 1) := by decide +kernel
theorem dX7_written_28 : decode cX7_written 28 = .ok (.bipush 43, 2) := by decide +kernel
theorem dX7_written_30 : decode cX7_written 30 = .ok (.iconst 2, 1) := by decide +kernel
theorem dX7_written_31 : decode cX7_written 31 = .ok (.invokevirtual 172, 3) := by decide +kernel
theorem dX7_written_34 : decode cX7_written 34 = .ok (.istore_n 2, 1) := by decide +kernel
theorem dX7_written_35 : decode cX7_written 35 = .ok (.iload_n 2, 1) := by decide +kernel
theorem dX7_written_36 : decode cX7_written 36 = .ok (.ifCond .ne 12, 3) := by decide +kernel
theorem dX7_written_39 : decode cX7_written 39 = .ok (.aload_n 0, 1) := by decide +kernel
theorem dX7_written_40 : decode cX7_written 40 = .ok (.bipush 45, 2) := by decide +kernel
theorem dX7_written_42 : decode cX7_written 42 = .ok (.iconst 2, 1) := by decide +kernel
theorem dX7_written_43 : decode cX7_written 43 = .ok (.invokevirtual 172, 3) := by decide +kernel
theorem dX7_written_46 : decode cX7_written 46 = .ok (.ineg, 1) := by decide +kernel
theorem dX7_written_47 : decode cX7_written 47 = .ok (.istore_n 2, 1) := by decide +kernel
theorem dX7_written_48 : decode cX7_written 48 = .ok (.aload_n 0, 1) := by decide +kernel
theorem dX7_written_49 : decode cX7_written 49 = .ok (.bipush 39, 2) := by decide +kernel
theorem dX7_written_51 : decode cX7_written 51 = .ok (.bipush 9, 2) := by decide +kernel
theorem dX7_written_53 : decode cX7_written 53 = .ok (.invokevirtual 172, 3) := by decide +kernel
theorem dX7_written_56 : decode cX7_written 56 = .ok (.istore_n 3, 1) := by decide +kernel
theorem dX7_written_57 : decode cX7_written 57 = .ok (.iload_n 3, 1) := by decide +kernel
theorem dX7_written_58 : decode cX7_written 58 = .ok (.ifCond .ne 13, 3) := by decide +kernel
theorem dX7_written_61 : decode cX7_written 61 = .ok (.aload_n 0, 1) := by decide +kernel
theorem dX7_written_62 : decode cX7_written 62 = .ok (.bipush 44, 2) := by decide +kernel
theorem dX7_written_64 : decode cX7_written 64 = .ok (.bipush 9, 2) := by decide +kernel
theorem dX7_written_66 : decode cX7_written 66 = .ok (.invokevirtual 172, 3) := by decide +kernel
theorem dX7_written_69 : decode cX7_written 69 = .ok (.ineg, 1) := by decide +kernel
theorem dX7_written_70 : decode cX7_written 70 = .ok (.istore_n 3, 1) := by decide +kernel
theorem dX7_written_71 : decode cX7_written 71 = .ok (.iload_n 1, 1) := by decide +kernel
theorem dX7_written_72 : decode cX7_written 72 = .ok (.bipush 97, 2) := by decide +kernel
theorem dX7_written_74 : decode cX7_written 74 = .ok (.isub, 1) := by decide +kernel
theorem dX7_written_75 : decode cX7_written 75 = .ok (.iconst 5, 1) := by decide +kernel
theorem dX7_written_76 : decode cX7_written 76 = .ok (.iadd, 1) := by decide +kernel
theorem dX7_written_77 : decode cX7_written 77 = .ok (.bipush 7, 2) := by decide +kernel
theorem dX7_written_79 : decode cX7_written 79 = .ok (.irem, 1) := by decide +kernel
theorem dX7_written_80 : decode cX7_written 80 = .ok (.istore 4, 2) := by decide +kernel
theorem dX7_written_82 : decode cX7_written 82 = .ok (.aload_n 0, 1) := by decide +kernel
theorem dX7_written_83 : decode cX7_written 83 = .ok (.getfield 9, 3) := by decide +kernel
theorem dX7_written_86 : decode cX7_written 86 = .ok (.iload 4, 2) := by decide +kernel
theorem dX7_written_88 : decode cX7_written 88 = .ok (.iload_n 2, 1) := by decide +kernel
theorem dX7_written_89 : decode cX7_written 89 = .ok (.iload_n 3, 1) := by decide +kernel
theorem dX7_written_90 : decode cX7_written 90 = .ok (.invokestatic 178, 3) := by decide +kernel
theorem dX7_written_93 : decode cX7_written 93 = .ok (.invokevirtual 182, 3) := by decide +kernel
theorem dX7_written_96 : decode cX7_written 96 = .ok (.iconst 1, 1) := by decide +kernel
theorem dX7_written_97 : decode cX7_written 97 = .ok (.ireturn, 1) := by decide +kernel
abbrev rm_X7_written : Room := { frames := 2, cells := 0, slots := 0, locals := 44 }
def wp_X7_written (a : Nat) (S : PS) (Q : Int32 → PS → Prop) : Prop :=
  wp_X7_next a S (fun (r2 : Int32) (S1 : PS) => 
 wp_X7_isPitchLetter r2 S1 (fun (r4 : Int32) (S3 : PS) => 
 (if r4 = 0 then
 wp_X7_refuse a S3 (fun (r28 : Int32) (S27 : PS) => 
 Q r28 S27)
 else
 (∀ S5, S5 = sI S3 60 a ((fI S3 60 a) + 1) → wp_X7_marks a 43 2 S5 (fun (r7 : Int32) (S6 : PS) => 
 (∀ K48_10 : Int32 → PS → Prop, (∀ (x2_8 : Int32) (S9 : PS),
 wp_X7_marks a 39 9 S9 (fun (r12 : Int32) (S11 : PS) => 
 (∀ K71_15 : Int32 → PS → Prop, (∀ (x3_13 : Int32) (S14 : PS),
 (∀ v16, v16 = ((r2 - 97) + 5) - ((r2 - 97) + 5) / 7 * 7 → (∃ b17, fR S14 58 a = some b17 ∧ wp_X10_make v16 x2_8 x3_13 S14 (fun (r19 : Int32) (S18 : PS) => 
 wp_X6_addPart b17 r19 S18 (fun (S20 : PS) => 
 Q 1 S20))))
 → K71_15 x3_13 S14) →
 (if r12 = 0 then
 wp_X7_marks a 44 9 S11 (fun (r22 : Int32) (S21 : PS) => 
 (∀ v23, v23 = -r22 → K71_15 v23 S21))
 else
 K71_15 r12 S11)))
 → K48_10 x2_8 S9) →
 (if r7 = 0 then
 wp_X7_marks a 45 2 S6 (fun (r25 : Int32) (S24 : PS) => 
 (∀ v26, v26 = -r25 → K48_10 v26 S24))
 else
 K48_10 r7 S6)))))))
set_option maxRecDepth 100000 in
set_option maxHeartbeats 4000000 in
theorem c_X7_written {l : Launch} {E : EE} {A : Nat → Prop} {a : Nat} {S : PS} {Q : Int32 → PS → Prop} (r_a : Rf S a 6) (h : wp_X7_written a S Q) : MtI l yX7_written (.code yX7_written cX7_written 5 (some .boolean)) rm_X7_written E A [.ref a] S (fun r S1 => nz r ∧ Q r S1) := by
  refine MtI.of (by decide) (Nat.le_of_ble_eq_true rfl) (fun X F hQ hN => ?_)
  show VV X (0, 0) S [(0, .ref a)] [] 0
  unfold wp_X7_written at h
  refine v_aload_n F dX7_written_0 0 rfl rfl ?_
  refine v_cI0 (v_runV F k_X7_41 rfl (c_X7_next r_a h) r_a rfl rfl (Nat.le_of_ble_eq_true rfl) (by decide) (by decide) dX7_written_1) ⟨rfl, rfl⟩ (fun r2 S1 h hE => ?_)
  have r_a := r_a.tr hE
  refine v_istore_n (lv1 := [(1, .int r2), (0, .ref a)]) F dX7_written_4 rfl (by rw [hN]; decide) rfl ?_
  refine v_iload_n F dX7_written_5 0 rfl rfl ?_
  refine v_cI0 (v_runS F k_X7_169 (c_X7_isPitchLetter h) rfl rfl (Nat.le_of_ble_eq_true rfl) (by decide) (by decide) dX7_written_6) ⟨rfl, rfl⟩ (fun r4 S3 h hE => ?_)
  obtain ⟨nz_r4, h⟩ := h
  have r_a := r_a.tr hE
  refine v_if_ne (tgt := 17) F dX7_written_9 (by decide) h (fun h => ?_) (fun h => ?_)
  · refine v_aload_n F dX7_written_17 1 rfl rfl ?_
    refine v_dup F dX7_written_18 rfl ?_
    refine g_X7_23 F r_a dX7_written_19 ?_
    refine v_iconst (v := 1) F dX7_written_22 (by decide) ?_
    refine v_iadd F dX7_written_23 ?_
    refine p_X7_23 F r_a h dX7_written_24 (fun S5 h hE => ?_)
    have r_a := r_a.tr hE
    refine v_aload_n F dX7_written_27 1 rfl rfl ?_
    refine v_bipush (v := 43) F dX7_written_28 (by decide) ?_
    refine v_iconst (v := 2) F dX7_written_30 (by decide) ?_
    refine v_cI0 (v_runV F k_X7_172 rfl (c_X7_marks r_a h) r_a rfl rfl (Nat.le_of_ble_eq_true rfl) (by decide) (by decide) dX7_written_31) ⟨rfl, rfl⟩ (fun r7 S6 h hE => ?_)
    have r_a := r_a.tr hE
    refine v_istore_n (lv1 := [(2, .int r7), (1, .int r2), (0, .ref a)]) F dX7_written_34 rfl (by rw [hN]; decide) rfl ?_
    refine v_iload_n F dX7_written_35 0 rfl rfl ?_
    have h := h (fun (x2_8 : Int32) (S9 : PS) => Rf S9 a 6 → VV X (0, 0) S9 [(0, .ref a), (1, .int r2), (2, .int x2_8)] [] 48) (by
      intro x2_8 S9 h r_a
      refine v_aload_n F dX7_written_48 0 rfl rfl ?_
      refine v_bipush (v := 39) F dX7_written_49 (by decide) ?_
      refine v_bipush (v := 9) F dX7_written_51 (by decide) ?_
      refine v_cI0 (v_runV F k_X7_172 rfl (c_X7_marks r_a h) r_a rfl rfl (Nat.le_of_ble_eq_true rfl) (by decide) (by decide) dX7_written_53) ⟨rfl, rfl⟩ (fun r12 S11 h hE => ?_)
      have r_a := r_a.tr hE
      refine v_istore_n (lv1 := [(3, .int r12), (0, .ref a), (1, .int r2), (2, .int x2_8)]) F dX7_written_56 rfl (by rw [hN]; decide) rfl ?_
      refine v_iload_n F dX7_written_57 0 rfl rfl ?_
      have h := h (fun (x3_13 : Int32) (S14 : PS) => Rf S14 a 6 → VV X (0, 0) S14 [(0, .ref a), (1, .int r2), (2, .int x2_8), (3, .int x3_13)] [] 71) (by
        intro x3_13 S14 h r_a
        refine v_iload_n F dX7_written_71 1 rfl rfl ?_
        refine v_bipush (v := 97) F dX7_written_72 (by decide) ?_
        refine v_isub F dX7_written_74 ?_
        refine v_iconst (v := 5) F dX7_written_75 (by decide) ?_
        refine v_iadd F dX7_written_76 ?_
        refine v_bipush (v := 7) F dX7_written_77 (by decide) ?_
        refine v_irem F dX7_written_79 (by decide) ?_
        refine v_topi (fun v16 e_v16 => ?_)
        have h := h v16 e_v16
        refine v_istore (lv1 := [(4, .int v16), (0, .ref a), (1, .int r2), (2, .int x2_8), (3, .int x3_13)]) F dX7_written_80 (by rw [hN]; decide) rfl ?_
        refine v_aload_n F dX7_written_82 1 rfl rfl ?_
        refine g_X7_9 F r_a h dX7_written_83 (fun b17 r_b17 h => ?_)
        refine v_iload F dX7_written_86 0 rfl ?_
        refine v_iload_n F dX7_written_88 3 rfl rfl ?_
        refine v_iload_n F dX7_written_89 4 rfl rfl ?_
        refine v_cI0 (v_runS F k_X7_178 (c_X10_make h) rfl rfl (Nat.le_of_ble_eq_true rfl) (by decide) (by decide) dX7_written_90) ⟨rfl, rfl⟩ (fun r19 S18 h hE => ?_)
        have r_a := r_a.tr hE
        have r_b17 := r_b17.tr hE
        refine v_cV0 (v_runV F k_X7_182 rfl (c_X6_addPart r_b17 h) r_b17 rfl rfl (Nat.le_of_ble_eq_true rfl) (by decide) (by decide) dX7_written_93) ⟨rfl, rfl⟩ (fun  S20 h hE => ?_)
        have r_a := r_a.tr hE
        refine v_iconst (v := 1) F dX7_written_96 (by decide) ?_
        exact v_zret F hQ (by decide) ⟨nz1, h⟩ (by decide) dX7_written_97)
      refine v_if_ne (tgt := 71) F dX7_written_58 (by decide) h (fun h => ?_) (fun h => ?_)
      · exact v_sub [1, 2, 3, 0] rfl (h r_a)
      · refine v_aload_n F dX7_written_61 1 rfl rfl ?_
        refine v_bipush (v := 44) F dX7_written_62 (by decide) ?_
        refine v_bipush (v := 9) F dX7_written_64 (by decide) ?_
        refine v_cI0 (v_runV F k_X7_172 rfl (c_X7_marks r_a h) r_a rfl rfl (Nat.le_of_ble_eq_true rfl) (by decide) (by decide) dX7_written_66) ⟨rfl, rfl⟩ (fun r22 S21 h hE => ?_)
        have r_a := r_a.tr hE
        refine v_ineg F dX7_written_69 ?_
        refine v_topi (fun v23 e_v23 => ?_)
        have h := h v23 e_v23
        refine v_istore_n (lv1 := [(3, .int v23), (0, .ref a), (1, .int r2), (2, .int x2_8)]) F dX7_written_70 rfl (by rw [hN]; decide) rfl ?_
        exact v_sub [1, 2, 3, 0] rfl (h r_a))
    refine v_if_ne (tgt := 48) F dX7_written_36 (by decide) h (fun h => ?_) (fun h => ?_)
    · exact v_sub [2, 1, 0] rfl (h r_a)
    · refine v_aload_n F dX7_written_39 2 rfl rfl ?_
      refine v_bipush (v := 45) F dX7_written_40 (by decide) ?_
      refine v_iconst (v := 2) F dX7_written_42 (by decide) ?_
      refine v_cI0 (v_runV F k_X7_172 rfl (c_X7_marks r_a h) r_a rfl rfl (Nat.le_of_ble_eq_true rfl) (by decide) (by decide) dX7_written_43) ⟨rfl, rfl⟩ (fun r25 S24 h hE => ?_)
      have r_a := r_a.tr hE
      refine v_ineg F dX7_written_46 ?_
      refine v_topi (fun v26 e_v26 => ?_)
      have h := h v26 e_v26
      refine v_istore_n (lv1 := [(2, .int v26), (1, .int r2), (0, .ref a)]) F dX7_written_47 rfl (by rw [hN]; decide) rfl ?_
      exact v_sub [2, 1, 0] rfl (h r_a)
  · refine v_aload_n F dX7_written_12 1 rfl rfl ?_
    refine v_cI0 (v_runV F k_X7_45 rfl (c_X7_refuse r_a h) r_a rfl rfl (Nat.le_of_ble_eq_true rfl) (by decide) (by decide) dX7_written_13) ⟨rfl, rfl⟩ (fun r28 S27 h hE => ?_)
    obtain ⟨nz_r28, h⟩ := h
    have r_a := r_a.tr hE
    exact v_zret F hQ nz_r28 ⟨nz_r28, h⟩ (by decide) dX7_written_16
theorem dX7_chord_0 : decode cX7_chord 0 = .ok (.iconst 0, 1) := by decide +kernel
theorem dX7_chord_1 : decode cX7_chord 1 = .ok (.istore_n 1, 1) := by decide +kernel
theorem dX7_chord_2 : decode cX7_chord 2 = .ok (.iload_n 1, 1) := by decide +kernel
theorem dX7_chord_3 : decode cX7_chord 3 = .ok (.bipush 6, 2) := by decide +kernel
theorem dX7_chord_5 : decode cX7_chord 5 = .ok (.if_icmp .gt 66, 3) := by decide +kernel
theorem dX7_chord_8 : decode cX7_chord 8 = .ok (.aload_n 0, 1) := by decide +kernel
theorem dX7_chord_9 : decode cX7_chord 9 = .ok (.invokevirtual 67, 3) := by decide +kernel
theorem dX7_chord_12 : decode cX7_chord 12 = .ok (.iload_n 1, 1) := by decide +kernel
theorem dX7_chord_13 : decode cX7_chord 13 = .ok (.ifCond .le 14, 3) := by decide +kernel
theorem dX7_chord_16 : decode cX7_chord 16 = .ok (.aload_n 0, 1) := by decide +kernel
theorem dX7_chord_17 : decode cX7_chord 17 = .ok (.bipush 62, 2) := by decide +kernel
theorem dX7_chord_19 : decode cX7_chord 19 = .ok (.invokevirtual 63, 3) := by decide +kernel
theorem dX7_chord_22 : decode cX7_chord 22 = .ok (.ifCond .eq 5, 3) := by decide +kernel
theorem dX7_chord_25 : decode cX7_chord 25 = .ok (.iconst 1, 1) := by decide +kernel
theorem dX7_chord_26 : decode cX7_chord 26 = .ok (.ireturn, 1) := by decide +kernel
theorem dX7_chord_27 : decode cX7_chord 27 = .ok (.iload_n 1, 1) := by decide +kernel
theorem dX7_chord_28 : decode cX7_chord 28 = .ok (.bipush 6, 2) := by decide +kernel
theorem dX7_chord_30 : decode cX7_chord 30 = .ok (.if_icmp .ne 26, 3) := by decide +kernel
theorem dX7_chord_33 : decode cX7_chord 33 = .ok (.aload_n 0, 1) := by decide +kernel
theorem dX7_chord_34 : decode cX7_chord 34 = .ok (.invokevirtual 41, 3) := by decide +kernel
theorem dX7_chord_37 : decode cX7_chord 37 = .ok (.invokestatic 169, 3) := by decide +kernel
theorem dX7_chord_40 : decode cX7_chord 40 = .ok (.ifCond .eq 16, 3) := by decide +kernel
theorem dX7_chord_43 : decode cX7_chord 43 = .ok (.aload_n 0, 1) := by decide +kernel
theorem dX7_chord_44 : decode cX7_chord 44 = .ok (.getfield 15, 3) := by decide +kernel
theorem dX7_chord_47 : decode cX7_chord 47 = .ok (.iconst 5, 1) := by decide +kernel
theorem dX7_chord_48 : decode cX7_chord 48 = .ok (.aload_n 0, 1) := by decide +kernel
theorem dX7_chord_49 : decode cX7_chord 49 = .ok (.getfield 23, 3) := by decide +kernel
theorem dX7_chord_52 : decode cX7_chord 52 = .ok (.invokevirtual 48, 3) := by decide +kernel
theorem dX7_chord_55 : decode cX7_chord 55 = .ok (.ireturn, 1) := by decide +kernel
theorem dX7_chord_56 : decode cX7_chord 56 = .ok (.aload_n 0, 1) := by decide +kernel
theorem dX7_chord_57 : decode cX7_chord 57 = .ok (.invokevirtual 164, 3) := by decide +kernel
theorem dX7_chord_60 : decode cX7_chord 60 = .ok (.ifCond .ne 5, 3) := by decide +kernel
theorem dX7_chord_63 : decode cX7_chord 63 = .ok (.iconst 0, 1) := by decide +kernel
theorem dX7_chord_64 : decode cX7_chord 64 = .ok (.ireturn, 1) := by decide +kernel
theorem dX7_chord_65 : decode cX7_chord 65 = .ok (.iinc 1 1, 3) := by decide +kernel
theorem dX7_chord_68 : decode cX7_chord 68 = .ok (.goto (-66), 3) := by decide +kernel
theorem dX7_chord_71 : decode cX7_chord 71 = .ok (.aload_n 0, 1) := by decide +kernel
theorem dX7_chord_72 : decode cX7_chord 72 = .ok (.invokevirtual 45, 3) := by decide +kernel
theorem dX7_chord_75 : decode cX7_chord 75 = .ok (.ireturn, 1) := by decide +kernel
abbrev rm_X7_chord : Room := { frames := 3, cells := 0, slots := 0, locals := 68 }
def wp_X7_chord (a : Nat) (S : PS) (Q : Int32 → PS → Prop) : Prop :=
  (∀ P2_1 : Int32 → PS → Prop, (∀ (x1_2 : Int32) (S3 : PS),
 (if 6 < x1_2 then
 wp_X7_refuse a S3 (fun (r5 : Int32) (S4 : PS) => 
 Q r5 S4)
 else
 wp_X7_skipBlanks a S3 (fun (S6 : PS) => 
 (∀ K27_8 : PS → Prop, (∀ (S7 : PS),
 (∀ K56_10 : PS → Prop, (∀ (S9 : PS),
 wp_X7_written a S9 (fun (r12 : Int32) (S11 : PS) => 
 (if r12 = 0 then
 Q 0 S11
 else
 (∀ v13, v13 = x1_2 + 1 → P2_1 v13 S11)))
 → K56_10 S9) →
 (if x1_2 = 6 then
 wp_X7_next a S7 (fun (r15 : Int32) (S14 : PS) => 
 wp_X7_isPitchLetter r15 S14 (fun (r17 : Int32) (S16 : PS) => 
 (if r17 = 0 then
 K56_10 S16
 else
 (∃ b18, fR S16 59 a = some b18 ∧ wp_X0_tell b18 5 (fI S16 60 a) S16 (fun (r20 : Int32) (S19 : PS) => 
 Q r20 S19)))))
 else
 K56_10 S7))
 → K27_8 S7) →
 (if x1_2 ≤ 0 then
 K27_8 S6
 else
 wp_X7_take a 62 S6 (fun (r22 : Int32) (S21 : PS) => 
 (if r22 = 0 then
 K27_8 S21
 else
 Q 1 S21))))))
 → P2_1 x1_2 S3) → P2_1 0 S)
set_option maxRecDepth 100000 in
set_option maxHeartbeats 4000000 in
theorem c_X7_chord {l : Launch} {E : EE} {A : Nat → Prop} {a : Nat} {S : PS} {Q : Int32 → PS → Prop} (r_a : Rf S a 6) (h : wp_X7_chord a S Q) : MtI l yX7_chord (.code yX7_chord cX7_chord 2 (some .boolean)) rm_X7_chord E A [.ref a] S (fun r S1 => nz r ∧ Q r S1) := by
  refine MtI.of (by decide) (Nat.le_of_ble_eq_true rfl) (fun X F hQ hN => ?_)
  show VV X (0, 0) S [(0, .ref a)] [] 0
  unfold wp_X7_chord at h
  refine v_iconst (v := 0) F dX7_chord_0 (by decide) ?_
  refine v_istore_n (lv1 := [(1, .int 0), (0, .ref a)]) F dX7_chord_1 rfl (by rw [hN]; decide) rfl ?_
  refine v_sub [1, 0] rfl ?_
  refine h (fun (x1_2 : Int32) (S3 : PS) => Rf S3 a 6 → VV X (0, 0) S3 [(0, .ref a), (1, .int x1_2)] [] 2) (fun x1_2 S3 h r_a => ?_) r_a
  refine v_iload_n F dX7_chord_2 1 rfl rfl ?_
  refine v_bipush (v := 6) F dX7_chord_3 (by decide) ?_
  refine v_icmp_gt (tgt := 71) F dX7_chord_5 (by decide) h (fun h => ?_) (fun h => ?_)
  · refine v_aload_n F dX7_chord_71 0 rfl rfl ?_
    refine v_cI0 (v_runV F k_X7_45 rfl (c_X7_refuse r_a h) r_a rfl rfl (Nat.le_of_ble_eq_true rfl) (by decide) (by decide) dX7_chord_72) ⟨rfl, rfl⟩ (fun r5 S4 h hE => ?_)
    obtain ⟨nz_r5, h⟩ := h
    have r_a := r_a.tr hE
    exact v_zret F hQ nz_r5 ⟨nz_r5, h⟩ (by decide) dX7_chord_75
  · refine v_aload_n F dX7_chord_8 0 rfl rfl ?_
    refine v_cV0 (v_runV F k_X7_67 rfl (c_X7_skipBlanks r_a h) r_a rfl rfl (Nat.le_of_ble_eq_true rfl) (by decide) (by decide) dX7_chord_9) ⟨rfl, rfl⟩ (fun  S6 h hE => ?_)
    have r_a := r_a.tr hE
    refine v_iload_n F dX7_chord_12 1 rfl rfl ?_
    have h := h (fun (S7 : PS) => Rf S7 a 6 → VV X (0, 0) S7 [(0, .ref a), (1, .int x1_2)] [] 27) (by
      intro S7 h r_a
      refine v_iload_n F dX7_chord_27 1 rfl rfl ?_
      refine v_bipush (v := 6) F dX7_chord_28 (by decide) ?_
      have h := h (fun (S9 : PS) => Rf S9 a 6 → VV X (0, 0) S9 [(0, .ref a), (1, .int x1_2)] [] 56) (by
        intro S9 h r_a
        refine v_aload_n F dX7_chord_56 0 rfl rfl ?_
        refine v_cI0 (v_runV F k_X7_164 rfl (c_X7_written r_a h) r_a rfl rfl (Nat.le_of_ble_eq_true rfl) (by decide) (by decide) dX7_chord_57) ⟨rfl, rfl⟩ (fun r12 S11 h hE => ?_)
        obtain ⟨nz_r12, h⟩ := h
        have r_a := r_a.tr hE
        refine v_if_ne (tgt := 65) F dX7_chord_60 (by decide) h (fun h => ?_) (fun h => ?_)
        · obtain ⟨v13, e_v13⟩ : ∃ y : Int32, y = x1_2 + 1 := ⟨_, rfl⟩
          have h := h v13 e_v13
          refine v_iinc (v := v13) (lv1 := [(1, .int v13), (0, .ref a)]) F dX7_chord_65 (q := 1) rfl (by rw [e_v13]; rfl) (by rw [hN]; decide) rfl ?_
          refine v_goto (tgt := 2) F dX7_chord_68 (by decide) ?_
          exact v_sub [1, 0] rfl (h r_a)
        · refine v_iconst (v := 0) F dX7_chord_63 (by decide) ?_
          exact v_zret F hQ (by decide) ⟨nz0, h⟩ (by decide) dX7_chord_64)
      refine v_icmp_ne (tgt := 56) F dX7_chord_30 (by decide) h (fun h => ?_) (fun h => ?_)
      · exact v_sub [0, 1] rfl (h r_a)
      · refine v_aload_n F dX7_chord_33 0 rfl rfl ?_
        refine v_cI0 (v_runV F k_X7_41 rfl (c_X7_next r_a h) r_a rfl rfl (Nat.le_of_ble_eq_true rfl) (by decide) (by decide) dX7_chord_34) ⟨rfl, rfl⟩ (fun r15 S14 h hE => ?_)
        have r_a := r_a.tr hE
        refine v_cI0 (v_runS F k_X7_169 (c_X7_isPitchLetter h) rfl rfl (Nat.le_of_ble_eq_true rfl) (by decide) (by decide) dX7_chord_37) ⟨rfl, rfl⟩ (fun r17 S16 h hE => ?_)
        obtain ⟨nz_r17, h⟩ := h
        have r_a := r_a.tr hE
        refine v_if_eq (tgt := 56) F dX7_chord_40 (by decide) h (fun h => ?_) (fun h => ?_)
        · exact v_sub [0, 1] rfl (h r_a)
        · refine v_aload_n F dX7_chord_43 0 rfl rfl ?_
          refine g_X7_15 F r_a h dX7_chord_44 (fun b18 r_b18 h => ?_)
          refine v_iconst (v := 5) F dX7_chord_47 (by decide) ?_
          refine v_aload_n F dX7_chord_48 0 rfl rfl ?_
          refine g_X7_23 F r_a dX7_chord_49 ?_
          refine v_cI0 (v_runV F k_X7_48 rfl (c_X0_tell r_b18 h) r_b18 rfl rfl (Nat.le_of_ble_eq_true rfl) (by decide) (by decide) dX7_chord_52) ⟨rfl, rfl⟩ (fun r20 S19 h hE => ?_)
          obtain ⟨nz_r20, h⟩ := h
          have r_a := r_a.tr hE
          exact v_zret F hQ nz_r20 ⟨nz_r20, h⟩ (by decide) dX7_chord_55)
    refine v_if_le (tgt := 27) F dX7_chord_13 (by decide) h (fun h => ?_) (fun h => ?_)
    · exact v_sub [0, 1] rfl (h r_a)
    · refine v_aload_n F dX7_chord_16 0 rfl rfl ?_
      refine v_bipush (v := 62) F dX7_chord_17 (by decide) ?_
      refine v_cI0 (v_runV F k_X7_63 rfl (c_X7_take r_a h) r_a rfl rfl (Nat.le_of_ble_eq_true rfl) (by decide) (by decide) dX7_chord_19) ⟨rfl, rfl⟩ (fun r22 S21 h hE => ?_)
      obtain ⟨nz_r22, h⟩ := h
      have r_a := r_a.tr hE
      refine v_if_eq (tgt := 27) F dX7_chord_22 (by decide) h (fun h => ?_) (fun h => ?_)
      · exact v_sub [0, 1] rfl (h r_a)
      · refine v_iconst (v := 1) F dX7_chord_25 (by decide) ?_
        exact v_zret F hQ (by decide) ⟨nz1, h⟩ (by decide) dX7_chord_26
theorem dX7_length_0 : decode cX7_length 0 = .ok (.aload_n 0, 1) := by decide +kernel
theorem dX7_length_1 : decode cX7_length 1 = .ok (.bipush 58, 2) := by decide +kernel
theorem dX7_length_3 : decode cX7_length 3 = .ok (.invokevirtual 63, 3) := by decide +kernel
theorem dX7_length_6 : decode cX7_length 6 = .ok (.ifCond .eq 39, 3) := by decide +kernel
theorem dX7_length_9 : decode cX7_length 9 = .ok (.aload_n 0, 1) := by decide +kernel
theorem dX7_length_10 : decode cX7_length 10 = .ok (.bipush 10, 2) := by decide +kernel
theorem dX7_length_12 : decode cX7_length 12 = .ok (.invokevirtual 151, 3) := by decide +kernel
theorem dX7_length_15 : decode cX7_length 15 = .ok (.ifCond .eq 14, 3) := by decide +kernel
theorem dX7_length_18 : decode cX7_length 18 = .ok (.aload_n 0, 1) := by decide +kernel
theorem dX7_length_19 : decode cX7_length 19 = .ok (.lconst 1, 1) := by decide +kernel
theorem dX7_length_20 : decode cX7_length 20 = .ok (.ldc2_w 185, 3) := by decide +kernel
theorem dX7_length_23 : decode cX7_length 23 = .ok (.invokevirtual 154, 3) := by decide +kernel
theorem dX7_length_26 : decode cX7_length 26 = .ok (.ifCond .ne 5, 3) := by decide +kernel
theorem dX7_length_29 : decode cX7_length 29 = .ok (.iconst 0, 1) := by decide +kernel
theorem dX7_length_30 : decode cX7_length 30 = .ok (.ireturn, 1) := by decide +kernel
theorem dX7_length_31 : decode cX7_length 31 = .ok (.aload_n 0, 1) := by decide +kernel
theorem dX7_length_32 : decode cX7_length 32 = .ok (.getfield 9, 3) := by decide +kernel
theorem dX7_length_35 : decode cX7_length 35 = .ok (.iload_n 1, 1) := by decide +kernel
theorem dX7_length_36 : decode cX7_length 36 = .ok (.aload_n 0, 1) := by decide +kernel
theorem dX7_length_37 : decode cX7_length 37 = .ok (.getfield 123, 3) := by decide +kernel
theorem dX7_length_40 : decode cX7_length 40 = .ok (.invokevirtual 187, 3) := by decide +kernel
theorem dX7_length_43 : decode cX7_length 43 = .ok (.iconst 1, 1) := by decide +kernel
theorem dX7_length_44 : decode cX7_length 44 = .ok (.ireturn, 1) := by decide +kernel
theorem dX7_length_45 : decode cX7_length 45 = .ok (.aload_n 0, 1) := by decide +kernel
theorem dX7_length_46 : decode cX7_length 46 = .ok (.invokevirtual 41, 3) := by decide +kernel
theorem dX7_length_49 : decode cX7_length 49 = .ok (.invokestatic 143, 3) := by decide +kernel
theorem dX7_length_52 : decode cX7_length 52 = .ok (.ifCond .ne 5, 3) := by decide +kernel
theorem dX7_length_55 : decode cX7_length 55 = .ok (.iconst 1, 1) := by decide +kernel
theorem dX7_length_56 : decode cX7_length 56 = .ok (.ireturn, 1) := by decide +kernel
theorem dX7_length_57 : decode cX7_length 57 = .ok (.aload_n 0, 1) := by decide +kernel
theorem dX7_length_58 : decode cX7_length 58 = .ok (.iconst 3, 1) := by decide +kernel
theorem dX7_length_59 : decode cX7_length 59 = .ok (.invokevirtual 151, 3) := by decide +kernel
theorem dX7_length_62 : decode cX7_length 62 = .ok (.ifCond .eq 21, 3) := by decide +kernel
theorem dX7_length_65 : decode cX7_length 65 = .ok (.aload_n 0, 1) := by decide +kernel
theorem dX7_length_66 : decode cX7_length 66 = .ok (.lconst 1, 1) := by decide +kernel
theorem dX7_length_67 : decode cX7_length 67 = .ok (.ldc2_w 191, 3) := by decide +kernel
theorem dX7_length_70 : decode cX7_length 70 = .ok (.invokevirtual 154, 3) := by decide +kernel
theorem dX7_length_73 : decode cX7_length 73 = .ok (.ifCond .eq 10, 3) := by decide +kernel
theorem dX7_length_76 : decode cX7_length 76 = .ok (.aload_n 0, 1) := by decide +kernel
theorem dX7_length_77 : decode cX7_length 77 = .ok (.invokevirtual 137, 3) := by decide +kernel
theorem dX7_length_80 : decode cX7_length 80 = .ok (.ifCond .ne 5, 3) := by decide +kernel
theorem dX7_length_83 : decode cX7_length 83 = .ok (.iconst 0, 1) := by decide +kernel
theorem dX7_length_84 : decode cX7_length 84 = .ok (.ireturn, 1) := by decide +kernel
theorem dX7_length_85 : decode cX7_length 85 = .ok (.aload_n 0, 1) := by decide +kernel
theorem dX7_length_86 : decode cX7_length 86 = .ok (.getfield 123, 3) := by decide +kernel
theorem dX7_length_89 : decode cX7_length 89 = .ok (.lconst 1, 1) := by decide +kernel
theorem dX7_length_90 : decode cX7_length 90 = .ok (.lcmp, 1) := by decide +kernel
theorem dX7_length_91 : decode cX7_length 91 = .ok (.ifCond .ge 9, 3) := by decide +kernel
theorem dX7_length_94 : decode cX7_length 94 = .ok (.ldc2_w 193, 3) := by decide +kernel
theorem dX7_length_97 : decode cX7_length 97 = .ok (.goto 11, 3) := by decide +kernel
theorem dX7_length_100 : decode cX7_length 100 = .ok (.ldc2_w 193, 3) := by decide +kernel
theorem dX7_length_103 : decode cX7_length 103 = .ok (.aload_n 0, 1) := by decide +kernel
theorem dX7_length_104 : decode cX7_length 104 = .ok (.getfield 123, 3) := by decide +kernel
theorem dX7_length_107 : decode cX7_length 107 = .ok (.ldiv, 1) := by decide +kernel
theorem dX7_length_108 : decode cX7_length 108 = .ok (.lstore_n 2, 1) := by decide +kernel
theorem dX7_length_109 : decode cX7_length 109 = .ok (.aload_n 0, 1) := by decide +kernel
theorem dX7_length_110 : decode cX7_length 110 = .ok (.bipush 46, 2) := by decide +kernel
theorem dX7_length_112 : decode cX7_length 112 = .ok (.iconst 3, 1) := by decide +kernel
theorem dX7_length_113 : decode cX7_length 113 = .ok (.invokevirtual 172, 3) := by decide +kernel
theorem dX7_length_116 : decode cX7_length 116 = .ok (.istore 4, 2) := by decide +kernel
theorem dX7_length_118 : decode cX7_length 118 = .ok (.aload_n 0, 1) := by decide +kernel
theorem dX7_length_119 : decode cX7_length 119 = .ok (.getfield 9, 3) := by decide +kernel
theorem dX7_length_122 : decode cX7_length 122 = .ok (.iload_n 1, 1) := by decide +kernel
theorem dX7_length_123 : decode cX7_length 123 = .ok (.ldc2_w 195, 3) := by decide +kernel
theorem dX7_length_126 : decode cX7_length 126 = .ok (.lload_n 2, 1) := by decide +kernel
theorem dX7_length_127 : decode cX7_length 127 = .ok (.lmul, 1) := by decide +kernel
theorem dX7_length_128 : decode cX7_length 128 = .ok (.lload_n 2, 1) := by decide +kernel
theorem dX7_length_129 : decode cX7_length 129 = .ok (.iload 4, 2) := by decide +kernel
theorem dX7_length_131 : decode cX7_length 131 = .ok (.lshr, 1) := by decide +kernel
theorem dX7_length_132 : decode cX7_length 132 = .ok (.lsub, 1) := by decide +kernel
theorem dX7_length_133 : decode cX7_length 133 = .ok (.invokevirtual 187, 3) := by decide +kernel
theorem dX7_length_136 : decode cX7_length 136 = .ok (.iconst 1, 1) := by decide +kernel
theorem dX7_length_137 : decode cX7_length 137 = .ok (.ireturn, 1) := by decide +kernel
abbrev rm_X7_length : Room := { frames := 3, cells := 0, slots := 0, locals := 66 }
def wp_X7_length (a : Nat) (p1 : Int32) (S : PS) (Q : Int32 → PS → Prop) : Prop :=
  wp_X7_take a 58 S (fun (r2 : Int32) (S1 : PS) => 
 (if r2 = 0 then
 wp_X7_next a S1 (fun (r4 : Int32) (S3 : PS) => 
 wp_X7_isDigit r4 S3 (fun (r6 : Int32) (S5 : PS) => 
 (if r6 = 0 then
 Q 1 S5
 else
 wp_X7_digits a 3 S5 (fun (r8 : Int32) (S7 : PS) => 
 (if r8 = 0 then
 Q 0 S7
 else
 wp_X7_inRange a 1 64 S7 (fun (r10 : Int32) (S9 : PS) => 
 (if r10 = 0 then
 Q 0 S9
 else
 wp_X7_powerOfTwo a S9 (fun (r12 : Int32) (S11 : PS) => 
 (if r12 = 0 then
 Q 0 S11
 else
 (∀ K108_15 : Int64 → PS → Prop, (∀ (t13 : Int64) (S14 : PS),
 wp_X7_marks a 46 3 S14 (fun (r17 : Int32) (S16 : PS) => 
 (∃ b18, fR S16 58 a = some b18 ∧ wp_X6_setTicks b18 p1 (((2 : Int64) * t13) - (t13 >>> ((r17 : Int32).toInt64 &&& 63))) S16 (fun (S19 : PS) => 
 Q 1 S19)))
 → K108_15 t13 S14) →
 (if 1 ≤ fL S11 65 a then
 (¬ (fL S11 65 a) = 0 ∧ K108_15 (3870720 / (fL S11 65 a)) S11)
 else
 K108_15 3870720 S11)))))))))))
 else
 wp_X7_digits a 10 S1 (fun (r21 : Int32) (S20 : PS) => 
 (if r21 = 0 then
 Q 0 S20
 else
 wp_X7_inRange a 1 3870720000 S20 (fun (r23 : Int32) (S22 : PS) => 
 (if r23 = 0 then
 Q 0 S22
 else
 (∃ b24, fR S22 58 a = some b24 ∧ wp_X6_setTicks b24 p1 (fL S22 65 a) S22 (fun (S25 : PS) => 
 Q 1 S25))))))))
set_option maxRecDepth 100000 in
set_option maxHeartbeats 4000000 in
theorem c_X7_length {l : Launch} {E : EE} {A : Nat → Prop} {a : Nat} {p1 : Int32} {S : PS} {Q : Int32 → PS → Prop} (r_a : Rf S a 6) (h : wp_X7_length a p1 S Q) : MtI l yX7_length (.code yX7_length cX7_length 5 (some .boolean)) rm_X7_length E A [.ref a, .int p1] S (fun r S1 => nz r ∧ Q r S1) := by
  refine MtI.of (by decide) (Nat.le_of_ble_eq_true rfl) (fun X F hQ hN => ?_)
  show VV X (0, 0) S [(0, .ref a), (1, .int p1)] [] 0
  unfold wp_X7_length at h
  refine v_aload_n F dX7_length_0 0 rfl rfl ?_
  refine v_bipush (v := 58) F dX7_length_1 (by decide) ?_
  refine v_cI0 (v_runV F k_X7_63 rfl (c_X7_take r_a h) r_a rfl rfl (Nat.le_of_ble_eq_true rfl) (by decide) (by decide) dX7_length_3) ⟨rfl, rfl⟩ (fun r2 S1 h hE => ?_)
  obtain ⟨nz_r2, h⟩ := h
  have r_a := r_a.tr hE
  refine v_if_eq (tgt := 45) F dX7_length_6 (by decide) h (fun h => ?_) (fun h => ?_)
  · refine v_aload_n F dX7_length_45 0 rfl rfl ?_
    refine v_cI0 (v_runV F k_X7_41 rfl (c_X7_next r_a h) r_a rfl rfl (Nat.le_of_ble_eq_true rfl) (by decide) (by decide) dX7_length_46) ⟨rfl, rfl⟩ (fun r4 S3 h hE => ?_)
    have r_a := r_a.tr hE
    refine v_cI0 (v_runS F k_X7_143 (c_X7_isDigit h) rfl rfl (Nat.le_of_ble_eq_true rfl) (by decide) (by decide) dX7_length_49) ⟨rfl, rfl⟩ (fun r6 S5 h hE => ?_)
    obtain ⟨nz_r6, h⟩ := h
    have r_a := r_a.tr hE
    refine v_if_ne (tgt := 57) F dX7_length_52 (by decide) h (fun h => ?_) (fun h => ?_)
    · refine v_aload_n F dX7_length_57 0 rfl rfl ?_
      refine v_iconst (v := 3) F dX7_length_58 (by decide) ?_
      refine v_cI0 (v_runV F k_X7_151 rfl (c_X7_digits r_a h) r_a rfl rfl (Nat.le_of_ble_eq_true rfl) (by decide) (by decide) dX7_length_59) ⟨rfl, rfl⟩ (fun r8 S7 h hE => ?_)
      obtain ⟨nz_r8, h⟩ := h
      have r_a := r_a.tr hE
      refine v_if_eq (tgt := 83) F dX7_length_62 (by decide) h (fun h => ?_) (fun h => ?_)
      · refine v_iconst (v := 0) F dX7_length_83 (by decide) ?_
        exact v_zret F hQ (by decide) ⟨nz0, h⟩ (by decide) dX7_length_84
      · refine v_aload_n F dX7_length_65 0 rfl rfl ?_
        refine v_lconst (v := 1) F dX7_length_66 (by decide) ?_
        refine v_ldc2 F kc_X7_191 dX7_length_67 ?_
        refine v_cI0 (v_runV F k_X7_154 rfl (c_X7_inRange r_a h) r_a rfl rfl (Nat.le_of_ble_eq_true rfl) (by decide) (by decide) dX7_length_70) ⟨rfl, rfl⟩ (fun r10 S9 h hE => ?_)
        obtain ⟨nz_r10, h⟩ := h
        have r_a := r_a.tr hE
        refine v_if_eq (tgt := 83) F dX7_length_73 (by decide) h (fun h => ?_) (fun h => ?_)
        · refine v_iconst (v := 0) F dX7_length_83 (by decide) ?_
          exact v_zret F hQ (by decide) ⟨nz0, h⟩ (by decide) dX7_length_84
        · refine v_aload_n F dX7_length_76 0 rfl rfl ?_
          refine v_cI0 (v_runV F k_X7_137 rfl (c_X7_powerOfTwo r_a h) r_a rfl rfl (Nat.le_of_ble_eq_true rfl) (by decide) (by decide) dX7_length_77) ⟨rfl, rfl⟩ (fun r12 S11 h hE => ?_)
          obtain ⟨nz_r12, h⟩ := h
          have r_a := r_a.tr hE
          refine v_if_ne (tgt := 85) F dX7_length_80 (by decide) h (fun h => ?_) (fun h => ?_)
          · refine v_aload_n F dX7_length_85 0 rfl rfl ?_
            refine g_X7_123 F r_a dX7_length_86 ?_
            refine v_lconst (v := 1) F dX7_length_89 (by decide) ?_
            have h := h (fun (t13 : Int64) (S14 : PS) => Rf S14 a 6 → VV X (0, 0) S14 [(0, .ref a), (1, .int p1)] [.long t13] 108) (by
              intro t13 S14 h r_a
              refine v_lstore_n (lv1 := [(2, .long t13), (0, .ref a), (1, .int p1)]) F dX7_length_108 rfl (by rw [hN]; decide) rfl ?_
              refine v_aload_n F dX7_length_109 1 rfl rfl ?_
              refine v_bipush (v := 46) F dX7_length_110 (by decide) ?_
              refine v_iconst (v := 3) F dX7_length_112 (by decide) ?_
              refine v_cI0 (v_runV F k_X7_172 rfl (c_X7_marks r_a h) r_a rfl rfl (Nat.le_of_ble_eq_true rfl) (by decide) (by decide) dX7_length_113) ⟨rfl, rfl⟩ (fun r17 S16 h hE => ?_)
              have r_a := r_a.tr hE
              refine v_istore (lv1 := [(4, .int r17), (2, .long t13), (0, .ref a), (1, .int p1)]) F dX7_length_116 (by rw [hN]; decide) rfl ?_
              refine v_aload_n F dX7_length_118 2 rfl rfl ?_
              refine g_X7_9 F r_a h dX7_length_119 (fun b18 r_b18 h => ?_)
              refine v_iload_n F dX7_length_122 3 rfl rfl ?_
              refine v_ldc2 F kc_X7_195 dX7_length_123 ?_
              refine v_lload_n F dX7_length_126 1 rfl rfl ?_
              refine v_lmul F dX7_length_127 ?_
              refine v_lload_n F dX7_length_128 1 rfl rfl ?_
              refine v_iload F dX7_length_129 0 rfl ?_
              refine v_lshr F dX7_length_131 ?_
              refine v_lsub F dX7_length_132 ?_
              refine v_cV0 (v_runV F k_X7_187 rfl (c_X6_setTicks r_b18 h) r_b18 rfl rfl (Nat.le_of_ble_eq_true rfl) (by decide) (by decide) dX7_length_133) ⟨rfl, rfl⟩ (fun  S19 h hE => ?_)
              have r_a := r_a.tr hE
              refine v_iconst (v := 1) F dX7_length_136 (by decide) ?_
              exact v_zret F hQ (by decide) ⟨nz1, h⟩ (by decide) dX7_length_137)
            refine v_lcmp_ge (tgt := 100) F dX7_length_90 dX7_length_91 (by decide) h (fun h => ?_) (fun h => ?_)
            · refine v_ldc2 F kc_X7_193 dX7_length_100 ?_
              refine v_aload_n F dX7_length_103 0 rfl rfl ?_
              refine g_X7_123 F r_a dX7_length_104 ?_
              refine v_ldiv F dX7_length_107 h.1 ?_
              have h := h.2
              exact v_sub [0, 1] rfl (h r_a)
            · refine v_ldc2 F kc_X7_193 dX7_length_94 ?_
              refine v_goto (tgt := 108) F dX7_length_97 (by decide) ?_
              exact v_sub [0, 1] rfl (h r_a)
          · refine v_iconst (v := 0) F dX7_length_83 (by decide) ?_
            exact v_zret F hQ (by decide) ⟨nz0, h⟩ (by decide) dX7_length_84
    · refine v_iconst (v := 1) F dX7_length_55 (by decide) ?_
      exact v_zret F hQ (by decide) ⟨nz1, h⟩ (by decide) dX7_length_56
  · refine v_aload_n F dX7_length_9 0 rfl rfl ?_
    refine v_bipush (v := 10) F dX7_length_10 (by decide) ?_
    refine v_cI0 (v_runV F k_X7_151 rfl (c_X7_digits r_a h) r_a rfl rfl (Nat.le_of_ble_eq_true rfl) (by decide) (by decide) dX7_length_12) ⟨rfl, rfl⟩ (fun r21 S20 h hE => ?_)
    obtain ⟨nz_r21, h⟩ := h
    have r_a := r_a.tr hE
    refine v_if_eq (tgt := 29) F dX7_length_15 (by decide) h (fun h => ?_) (fun h => ?_)
    · refine v_iconst (v := 0) F dX7_length_29 (by decide) ?_
      exact v_zret F hQ (by decide) ⟨nz0, h⟩ (by decide) dX7_length_30
    · refine v_aload_n F dX7_length_18 0 rfl rfl ?_
      refine v_lconst (v := 1) F dX7_length_19 (by decide) ?_
      refine v_ldc2 F kc_X7_185 dX7_length_20 ?_
      refine v_cI0 (v_runV F k_X7_154 rfl (c_X7_inRange r_a h) r_a rfl rfl (Nat.le_of_ble_eq_true rfl) (by decide) (by decide) dX7_length_23) ⟨rfl, rfl⟩ (fun r23 S22 h hE => ?_)
      obtain ⟨nz_r23, h⟩ := h
      have r_a := r_a.tr hE
      refine v_if_ne (tgt := 31) F dX7_length_26 (by decide) h (fun h => ?_) (fun h => ?_)
      · refine v_aload_n F dX7_length_31 0 rfl rfl ?_
        refine g_X7_9 F r_a h dX7_length_32 (fun b24 r_b24 h => ?_)
        refine v_iload_n F dX7_length_35 1 rfl rfl ?_
        refine v_aload_n F dX7_length_36 0 rfl rfl ?_
        refine g_X7_123 F r_a dX7_length_37 ?_
        refine v_cV0 (v_runV F k_X7_187 rfl (c_X6_setTicks r_b24 h) r_b24 rfl rfl (Nat.le_of_ble_eq_true rfl) (by decide) (by decide) dX7_length_40) ⟨rfl, rfl⟩ (fun  S25 h hE => ?_)
        have r_a := r_a.tr hE
        refine v_iconst (v := 1) F dX7_length_43 (by decide) ?_
        exact v_zret F hQ (by decide) ⟨nz1, h⟩ (by decide) dX7_length_44
      · refine v_iconst (v := 0) F dX7_length_29 (by decide) ?_
        exact v_zret F hQ (by decide) ⟨nz0, h⟩ (by decide) dX7_length_30
theorem dX7_sound_0 : decode cX7_sound 0 = .ok (.aload_n 0, 1) := by decide +kernel
theorem dX7_sound_1 : decode cX7_sound 1 = .ok (.getfield 9, 3) := by decide +kernel
theorem dX7_sound_4 : decode cX7_sound 4 = .ok (.getfield 158, 3) := by decide +kernel
theorem dX7_sound_7 : decode cX7_sound 7 = .ok (.istore_n 2, 1) := by decide +kernel
theorem dX7_sound_8 : decode cX7_sound 8 = .ok (.aload_n 0, 1) := by decide +kernel
theorem dX7_sound_9 : decode cX7_sound 9 = .ok (.bipush 114, 2) := by decide +kernel
theorem dX7_sound_11 : decode cX7_sound 11 = .ok (.invokevirtual 63, 3) := by decide +kernel
theorem dX7_sound_14 : decode cX7_sound 14 = .ok (.istore_n 3, 1) := by decide +kernel
theorem dX7_sound_15 : decode cX7_sound 15 = .ok (.iload_n 3, 1) := by decide +kernel
theorem dX7_sound_16 : decode cX7_sound 16 = .ok (.ifCond .ne 31, 3) := by decide +kernel
theorem dX7_sound_19 : decode cX7_sound 19 = .ok (.aload_n 0, 1) := by decide +kernel
theorem dX7_sound_20 : decode cX7_sound 20 = .ok (.bipush 60, 2) := by decide +kernel
theorem dX7_sound_22 : decode cX7_sound 22 = .ok (.invokevirtual 63, 3) := by decide +kernel
theorem dX7_sound_25 : decode cX7_sound 25 = .ok (.ifCond .eq 13, 3) := by decide +kernel
theorem dX7_sound_28 : decode cX7_sound 28 = .ok (.aload_n 0, 1) := by decide +kernel
theorem dX7_sound_29 : decode cX7_sound 29 = .ok (.invokevirtual 161, 3) := by decide +kernel
theorem dX7_sound_32 : decode cX7_sound 32 = .ok (.ifCond .eq 13, 3) := by decide +kernel
theorem dX7_sound_35 : decode cX7_sound 35 = .ok (.goto 12, 3) := by decide +kernel
theorem dX7_sound_38 : decode cX7_sound 38 = .ok (.aload_n 0, 1) := by decide +kernel
theorem dX7_sound_39 : decode cX7_sound 39 = .ok (.invokevirtual 164, 3) := by decide +kernel
theorem dX7_sound_42 : decode cX7_sound 42 = .ok (.ifCond .ne 5, 3) := by decide +kernel
theorem dX7_sound_45 : decode cX7_sound 45 = .ok (.iconst 0, 1) := by decide +kernel
theorem dX7_sound_46 : decode cX7_sound 46 = .ok (.ireturn, 1) := by decide +kernel
theorem dX7_sound_47 : decode cX7_sound 47 = .ok (.aload_n 0, 1) := by decide +kernel
theorem dX7_sound_48 : decode cX7_sound 48 = .ok (.iload_n 1, 1) := by decide +kernel
theorem dX7_sound_49 : decode cX7_sound 49 = .ok (.invokevirtual 167, 3) := by decide +kernel
theorem dX7_sound_52 : decode cX7_sound 52 = .ok (.ifCond .ne 5, 3) := by decide +kernel
theorem dX7_sound_55 : decode cX7_sound 55 = .ok (.iconst 0, 1) := by decide +kernel
theorem dX7_sound_56 : decode cX7_sound 56 = .ok (.ireturn, 1) := by decide +kernel
theorem dX7_sound_57 : decode cX7_sound 57 = .ok (.iload_n 3, 1) := by decide +kernel
theorem dX7_sound_58 : decode cX7_sound 58 = .ok (.ifCond .ne 16, 3) := by decide +kernel
theorem dX7_sound_61 : decode cX7_sound 61 = .ok (.aload_n 0, 1) := by decide +kernel
theorem dX7_sound_62 : decode cX7_sound 62 = .ok (.bipush 126, 2) := by decide +kernel
theorem dX7_sound_64 : decode cX7_sound 64 = .ok (.invokevirtual 63, 3) := by decide +kernel
theorem dX7_sound_67 : decode cX7_sound 67 = .ok (.ifCond .eq 7, 3) := by decide +kernel
theorem dX7_sound_70 : decode cX7_sound 70 = .ok (.iconst 1, 1) := by decide +kernel
theorem dX7_sound_71 : decode cX7_sound 71 = .ok (.goto 4, 3) := by decide +kernel
theorem dX7_sound_74 : decode cX7_sound 74 = .ok (.iconst 0, 1) := by decide +kernel
theorem dX7_sound_75 : decode cX7_sound 75 = .ok (.istore 4, 2) := by decide +kernel
theorem dX7_sound_77 : decode cX7_sound 77 = .ok (.aload_n 0, 1) := by decide +kernel
theorem dX7_sound_78 : decode cX7_sound 78 = .ok (.getfield 9, 3) := by decide +kernel
theorem dX7_sound_81 : decode cX7_sound 81 = .ok (.iload_n 1, 1) := by decide +kernel
theorem dX7_sound_82 : decode cX7_sound 82 = .ok (.iload 4, 2) := by decide +kernel
theorem dX7_sound_84 : decode cX7_sound 84 = .ok (.ifCond .eq 7, 3) := by decide +kernel
theorem dX7_sound_87 : decode cX7_sound 87 = .ok (.iconst 1, 1) := by decide +kernel
theorem dX7_sound_88 : decode cX7_sound 88 = .ok (.goto 4, 3) := by decide +kernel
theorem dX7_sound_91 : decode cX7_sound 91 = .ok (.iconst 0, 1) := by decide +kernel
theorem dX7_sound_92 : decode cX7_sound 92 = .ok (.aload_n 0, 1) := by decide +kernel
theorem dX7_sound_93 : decode cX7_sound 93 = .ok (.getfield 9, 3) := by decide +kernel
theorem dX7_sound_96 : decode cX7_sound 96 = .ok (.getfield 158, 3) := by decide +kernel
theorem dX7_sound_99 : decode cX7_sound 99 = .ok (.iload_n 2, 1) := by decide +kernel
theorem dX7_sound_100 : decode cX7_sound 100 = .ok (.isub, 1) := by decide +kernel
theorem dX7_sound_101 : decode cX7_sound 101 = .ok (.invokevirtual 127, 3) := by decide +kernel
theorem dX7_sound_104 : decode cX7_sound 104 = .ok (.iconst 1, 1) := by decide +kernel
theorem dX7_sound_105 : decode cX7_sound 105 = .ok (.ireturn, 1) := by decide +kernel
abbrev rm_X7_sound : Room := { frames := 4, cells := 0, slots := 0, locals := 90 }
def wp_X7_sound (a : Nat) (p1 : Int32) (S : PS) (Q : Int32 → PS → Prop) : Prop :=
  (∃ b1, fR S 58 a = some b1 ∧ (∀ v2, v2 = fI S 53 b1 → wp_X7_take a 114 S (fun (r4 : Int32) (S3 : PS) => 
 (∀ K47_6 : PS → Prop, (∀ (S5 : PS),
 wp_X7_length a p1 S5 (fun (r8 : Int32) (S7 : PS) => 
 (if r8 = 0 then
 Q 0 S7
 else
 (∀ K75_11 : Int32 → PS → Prop, (∀ (t9 : Int32) (S10 : PS),
 (∃ b12, fR S10 58 a = some b12 ∧ (∀ K92_17 : Nat → Int32 → Int32 → PS → Prop, (∀ (t13 : Nat) (t14 : Int32) (t15 : Int32) (S16 : PS),
 (∃ b18, fR S16 58 a = some b18 ∧ wp_X6_setNumbers t13 t14 t15 ((fI S16 53 b18) - v2) S16 (fun (S19 : PS) => 
 Q 1 S19))
 → K92_17 t13 t14 t15 S16) →
 (if t9 = 0 then
 K92_17 b12 p1 0 S10
 else
 K92_17 b12 p1 1 S10)))
 → K75_11 t9 S10) →
 (if r4 = 0 then
 wp_X7_take a 126 S7 (fun (r21 : Int32) (S20 : PS) => 
 (if r21 = 0 then
 K75_11 0 S20
 else
 K75_11 1 S20))
 else
 K75_11 0 S7))))
 → K47_6 S5) →
 (if r4 = 0 then
 wp_X7_take a 60 S3 (fun (r23 : Int32) (S22 : PS) => 
 (if r23 = 0 then
 wp_X7_written a S22 (fun (r25 : Int32) (S24 : PS) => 
 (if r25 = 0 then
 Q 0 S24
 else
 K47_6 S24))
 else
 wp_X7_chord a S22 (fun (r27 : Int32) (S26 : PS) => 
 (if r27 = 0 then
 Q 0 S26
 else
 K47_6 S26))))
 else
 K47_6 S3)))))
set_option maxRecDepth 100000 in
set_option maxHeartbeats 4000000 in
theorem c_X7_sound {l : Launch} {E : EE} {A : Nat → Prop} {a : Nat} {p1 : Int32} {S : PS} {Q : Int32 → PS → Prop} (r_a : Rf S a 6) (h : wp_X7_sound a p1 S Q) : MtI l yX7_sound (.code yX7_sound cX7_sound 5 (some .boolean)) rm_X7_sound E A [.ref a, .int p1] S (fun r S1 => nz r ∧ Q r S1) := by
  refine MtI.of (by decide) (Nat.le_of_ble_eq_true rfl) (fun X F hQ hN => ?_)
  show VV X (0, 0) S [(0, .ref a), (1, .int p1)] [] 0
  unfold wp_X7_sound at h
  refine v_aload_n F dX7_sound_0 0 rfl rfl ?_
  refine g_X7_9 F r_a h dX7_sound_1 (fun b1 r_b1 h => ?_)
  refine g_X7_158 F r_b1 dX7_sound_4 ?_
  refine v_topi (fun v2 e_v2 => ?_)
  have h := h v2 e_v2
  refine v_istore_n (lv1 := [(2, .int v2), (0, .ref a), (1, .int p1)]) F dX7_sound_7 rfl (by rw [hN]; decide) rfl ?_
  refine v_aload_n F dX7_sound_8 1 rfl rfl ?_
  refine v_bipush (v := 114) F dX7_sound_9 (by decide) ?_
  refine v_cI0 (v_runV F k_X7_63 rfl (c_X7_take r_a h) r_a rfl rfl (Nat.le_of_ble_eq_true rfl) (by decide) (by decide) dX7_sound_11) ⟨rfl, rfl⟩ (fun r4 S3 h hE => ?_)
  obtain ⟨nz_r4, h⟩ := h
  have r_a := r_a.tr hE
  refine v_istore_n (lv1 := [(3, .int r4), (2, .int v2), (0, .ref a), (1, .int p1)]) F dX7_sound_14 rfl (by rw [hN]; decide) rfl ?_
  refine v_iload_n F dX7_sound_15 0 rfl rfl ?_
  have h := h (fun (S5 : PS) => Rf S5 a 6 → VV X (0, 0) S5 [(0, .ref a), (1, .int p1), (2, .int v2), (3, .int r4)] [] 47) (by
    intro S5 h r_a
    refine v_aload_n F dX7_sound_47 0 rfl rfl ?_
    refine v_iload_n F dX7_sound_48 1 rfl rfl ?_
    refine v_cI0 (v_runV F k_X7_167 rfl (c_X7_length r_a h) r_a rfl rfl (Nat.le_of_ble_eq_true rfl) (by decide) (by decide) dX7_sound_49) ⟨rfl, rfl⟩ (fun r8 S7 h hE => ?_)
    obtain ⟨nz_r8, h⟩ := h
    have r_a := r_a.tr hE
    refine v_if_ne (tgt := 57) F dX7_sound_52 (by decide) h (fun h => ?_) (fun h => ?_)
    · refine v_iload_n F dX7_sound_57 3 rfl rfl ?_
      have h := h (fun (t9 : Int32) (S10 : PS) => Rf S10 a 6 → VV X (0, 0) S10 [(0, .ref a), (1, .int p1), (2, .int v2)] [.int t9] 75) (by
        intro t9 S10 h r_a
        refine v_istore (lv1 := [(4, .int t9), (0, .ref a), (1, .int p1), (2, .int v2)]) F dX7_sound_75 (by rw [hN]; decide) rfl ?_
        refine v_aload_n F dX7_sound_77 1 rfl rfl ?_
        refine g_X7_9 F r_a h dX7_sound_78 (fun b12 r_b12 h => ?_)
        refine v_iload_n F dX7_sound_81 2 rfl rfl ?_
        refine v_iload F dX7_sound_82 0 rfl ?_
        have h := h (fun (t13 : Nat) (t14 : Int32) (t15 : Int32) (S16 : PS) => Rf S16 a 6 → Rf S16 t13 5 → VV X (0, 0) S16 [(0, .ref a), (2, .int v2)] [.int t15, .int t14, .ref t13] 92) (by
          intro t13 t14 t15 S16 h r_a r_t13
          refine v_aload_n F dX7_sound_92 0 rfl rfl ?_
          refine g_X7_9 F r_a h dX7_sound_93 (fun b18 r_b18 h => ?_)
          refine g_X7_158 F r_b18 dX7_sound_96 ?_
          refine v_iload_n F dX7_sound_99 1 rfl rfl ?_
          refine v_isub F dX7_sound_100 ?_
          refine v_cV0 (v_runV F k_X7_127 rfl (c_X6_setNumbers r_t13 h) r_t13 rfl rfl (Nat.le_of_ble_eq_true rfl) (by decide) (by decide) dX7_sound_101) ⟨rfl, rfl⟩ (fun  S19 h hE => ?_)
          have r_a := r_a.tr hE
          refine v_iconst (v := 1) F dX7_sound_104 (by decide) ?_
          exact v_zret F hQ (by decide) ⟨nz1, h⟩ (by decide) dX7_sound_105)
        refine v_if_eq (tgt := 91) F dX7_sound_84 (by decide) h (fun h => ?_) (fun h => ?_)
        · refine v_iconst (v := 0) F dX7_sound_91 (by decide) ?_
          exact v_sub [1, 3] rfl (h r_a r_b12)
        · refine v_iconst (v := 1) F dX7_sound_87 (by decide) ?_
          refine v_goto (tgt := 92) F dX7_sound_88 (by decide) ?_
          exact v_sub [1, 3] rfl (h r_a r_b12))
      refine v_if_ne (tgt := 74) F dX7_sound_58 (by decide) h (fun h => ?_) (fun h => ?_)
      · refine v_iconst (v := 0) F dX7_sound_74 (by decide) ?_
        exact v_sub [0, 1, 2] rfl (h r_a)
      · refine v_aload_n F dX7_sound_61 0 rfl rfl ?_
        refine v_bipush (v := 126) F dX7_sound_62 (by decide) ?_
        refine v_cI0 (v_runV F k_X7_63 rfl (c_X7_take r_a h) r_a rfl rfl (Nat.le_of_ble_eq_true rfl) (by decide) (by decide) dX7_sound_64) ⟨rfl, rfl⟩ (fun r21 S20 h hE => ?_)
        obtain ⟨nz_r21, h⟩ := h
        have r_a := r_a.tr hE
        refine v_if_eq (tgt := 74) F dX7_sound_67 (by decide) h (fun h => ?_) (fun h => ?_)
        · refine v_iconst (v := 0) F dX7_sound_74 (by decide) ?_
          exact v_sub [0, 1, 2] rfl (h r_a)
        · refine v_iconst (v := 1) F dX7_sound_70 (by decide) ?_
          refine v_goto (tgt := 75) F dX7_sound_71 (by decide) ?_
          exact v_sub [0, 1, 2] rfl (h r_a)
    · refine v_iconst (v := 0) F dX7_sound_55 (by decide) ?_
      exact v_zret F hQ (by decide) ⟨nz0, h⟩ (by decide) dX7_sound_56)
  refine v_if_ne (tgt := 47) F dX7_sound_16 (by decide) h (fun h => ?_) (fun h => ?_)
  · exact v_sub [2, 3, 1, 0] rfl (h r_a)
  · refine v_aload_n F dX7_sound_19 2 rfl rfl ?_
    refine v_bipush (v := 60) F dX7_sound_20 (by decide) ?_
    refine v_cI0 (v_runV F k_X7_63 rfl (c_X7_take r_a h) r_a rfl rfl (Nat.le_of_ble_eq_true rfl) (by decide) (by decide) dX7_sound_22) ⟨rfl, rfl⟩ (fun r23 S22 h hE => ?_)
    obtain ⟨nz_r23, h⟩ := h
    have r_a := r_a.tr hE
    refine v_if_eq (tgt := 38) F dX7_sound_25 (by decide) h (fun h => ?_) (fun h => ?_)
    · refine v_aload_n F dX7_sound_38 2 rfl rfl ?_
      refine v_cI0 (v_runV F k_X7_164 rfl (c_X7_written r_a h) r_a rfl rfl (Nat.le_of_ble_eq_true rfl) (by decide) (by decide) dX7_sound_39) ⟨rfl, rfl⟩ (fun r25 S24 h hE => ?_)
      obtain ⟨nz_r25, h⟩ := h
      have r_a := r_a.tr hE
      refine v_if_ne (tgt := 47) F dX7_sound_42 (by decide) h (fun h => ?_) (fun h => ?_)
      · exact v_sub [2, 3, 1, 0] rfl (h r_a)
      · refine v_iconst (v := 0) F dX7_sound_45 (by decide) ?_
        exact v_zret F hQ (by decide) ⟨nz0, h⟩ (by decide) dX7_sound_46
    · refine v_aload_n F dX7_sound_28 2 rfl rfl ?_
      refine v_cI0 (v_runV F k_X7_161 rfl (c_X7_chord r_a h) r_a rfl rfl (Nat.le_of_ble_eq_true rfl) (by decide) (by decide) dX7_sound_29) ⟨rfl, rfl⟩ (fun r27 S26 h hE => ?_)
      obtain ⟨nz_r27, h⟩ := h
      have r_a := r_a.tr hE
      refine v_if_eq (tgt := 45) F dX7_sound_32 (by decide) h (fun h => ?_) (fun h => ?_)
      · refine v_iconst (v := 0) F dX7_sound_45 (by decide) ?_
        exact v_zret F hQ (by decide) ⟨nz0, h⟩ (by decide) dX7_sound_46
      · refine v_goto (tgt := 47) F dX7_sound_35 (by decide) ?_
        exact v_sub [2, 3, 1, 0] rfl (h r_a)
theorem dX7_skipSpaces_0 : decode cX7_skipSpaces 0 = .ok (.aload_n 0, 1) := by decide +kernel
theorem dX7_skipSpaces_1 : decode cX7_skipSpaces 1 = .ok (.getfield 23, 3) := by decide +kernel
theorem dX7_skipSpaces_4 : decode cX7_skipSpaces 4 = .ok (.aload_n 0, 1) := by decide +kernel
theorem dX7_skipSpaces_5 : decode cX7_skipSpaces 5 = .ok (.getfield 9, 3) := by decide +kernel
theorem dX7_skipSpaces_8 : decode cX7_skipSpaces 8 = .ok (.getfield 54, 3) := by decide +kernel
theorem dX7_skipSpaces_11 : decode cX7_skipSpaces 11 = .ok (.if_icmp .ge 34, 3) := by decide +kernel
theorem dX7_skipSpaces_14 : decode cX7_skipSpaces 14 = .ok (.aload_n 0, 1) := by decide +kernel
theorem dX7_skipSpaces_15 : decode cX7_skipSpaces 15 = .ok (.invokevirtual 41, 3) := by decide +kernel
theorem dX7_skipSpaces_18 : decode cX7_skipSpaces 18 = .ok (.bipush 32, 2) := by decide +kernel
theorem dX7_skipSpaces_20 : decode cX7_skipSpaces 20 = .ok (.if_icmp .eq 12, 3) := by decide +kernel
theorem dX7_skipSpaces_23 : decode cX7_skipSpaces 23 = .ok (.aload_n 0, 1) := by decide +kernel
theorem dX7_skipSpaces_24 : decode cX7_skipSpaces 24 = .ok (.invokevirtual 41, 3) := by decide +kernel
theorem dX7_skipSpaces_27 : decode cX7_skipSpaces 27 = .ok (.bipush 10, 2) := by decide +kernel
theorem dX7_skipSpaces_29 : decode cX7_skipSpaces 29 = .ok (.if_icmp .ne 16, 3) := by decide +kernel
theorem dX7_skipSpaces_32 : decode cX7_skipSpaces 32 = .ok (.aload_n 0, 1) := by decide +kernel
theorem dX7_skipSpaces_33 : decode cX7_skipSpaces 33 = .ok (.dup, 1) := by decide +kernel
theorem dX7_skipSpaces_34 : decode cX7_skipSpaces 34 = .ok (.getfield 23, 3) := by decide +kernel
theorem dX7_skipSpaces_37 : decode cX7_skipSpaces 37 = .ok (.iconst 1, 1) := by decide +kernel
theorem dX7_skipSpaces_38 : decode cX7_skipSpaces 38 = .ok (.iadd, 1) := by decide +kernel
theorem dX7_skipSpaces_39 : decode cX7_skipSpaces 39 = .ok (.putfield 23, 3) := by decide +kernel
theorem dX7_skipSpaces_42 : decode cX7_skipSpaces 42 = .ok (.goto (-42), 3) := by decide +kernel
theorem dX7_skipSpaces_45 : decode cX7_skipSpaces 45 = .ok (.return_, 1) := by decide +kernel
abbrev rm_X7_skipSpaces : Room := { frames := 1, cells := 0, slots := 0, locals := 21 }
def wp_X7_skipSpaces (a : Nat) (S : PS) (Q : PS → Prop) : Prop :=
  (∀ P0_1 : PS → Prop, (∀ (S2 : PS),
 (∃ b3, fR S2 58 a = some b3 ∧ (if fI S2 44 b3 ≤ fI S2 60 a then
 Q S2
 else
 wp_X7_next a S2 (fun (r5 : Int32) (S4 : PS) => 
 (∀ K32_7 : PS → Prop, (∀ (S6 : PS),
 (∀ S8, S8 = sI S6 60 a ((fI S6 60 a) + 1) → P0_1 S8)
 → K32_7 S6) →
 (if r5 = 32 then
 K32_7 S4
 else
 wp_X7_next a S4 (fun (r10 : Int32) (S9 : PS) => 
 (if r10 = 10 then
 K32_7 S9
 else
 Q S9)))))))
 → P0_1 S2) → P0_1 S)
set_option maxRecDepth 100000 in
set_option maxHeartbeats 4000000 in
theorem c_X7_skipSpaces {l : Launch} {E : EE} {A : Nat → Prop} {a : Nat} {S : PS} {Q : PS → Prop} (r_a : Rf S a 6) (h : wp_X7_skipSpaces a S Q) : MtV l yX7_skipSpaces (.code yX7_skipSpaces cX7_skipSpaces 1 none) rm_X7_skipSpaces E A [.ref a] S Q := by
  refine MtV.of (by decide) (Nat.le_of_ble_eq_true rfl) (fun X F hQ hN => ?_)
  show VV X (0, 0) S [(0, .ref a)] [] 0
  unfold wp_X7_skipSpaces at h
  refine v_sub [0] rfl ?_
  refine h (fun (S2 : PS) => Rf S2 a 6 → VV X (0, 0) S2 [(0, .ref a)] [] 0) (fun S2 h r_a => ?_) r_a
  refine v_aload_n F dX7_skipSpaces_0 0 rfl rfl ?_
  refine g_X7_23 F r_a dX7_skipSpaces_1 ?_
  refine v_aload_n F dX7_skipSpaces_4 0 rfl rfl ?_
  refine g_X7_9 F r_a h dX7_skipSpaces_5 (fun b3 r_b3 h => ?_)
  refine g_X7_54 F r_b3 dX7_skipSpaces_8 ?_
  refine v_icmp_ge (tgt := 45) F dX7_skipSpaces_11 (by decide) h (fun h => ?_) (fun h => ?_)
  · exact v_vret F hQ h (by decide) dX7_skipSpaces_45
  · refine v_aload_n F dX7_skipSpaces_14 0 rfl rfl ?_
    refine v_cI0 (v_runV F k_X7_41 rfl (c_X7_next r_a h) r_a rfl rfl (Nat.le_of_ble_eq_true rfl) (by decide) (by decide) dX7_skipSpaces_15) ⟨rfl, rfl⟩ (fun r5 S4 h hE => ?_)
    have r_a := r_a.tr hE
    refine v_bipush (v := 32) F dX7_skipSpaces_18 (by decide) ?_
    have h := h (fun (S6 : PS) => Rf S6 a 6 → VV X (0, 0) S6 [(0, .ref a)] [] 32) (by
      intro S6 h r_a
      refine v_aload_n F dX7_skipSpaces_32 0 rfl rfl ?_
      refine v_dup F dX7_skipSpaces_33 rfl ?_
      refine g_X7_23 F r_a dX7_skipSpaces_34 ?_
      refine v_iconst (v := 1) F dX7_skipSpaces_37 (by decide) ?_
      refine v_iadd F dX7_skipSpaces_38 ?_
      refine p_X7_23 F r_a h dX7_skipSpaces_39 (fun S8 h hE => ?_)
      have r_a := r_a.tr hE
      refine v_goto (tgt := 0) F dX7_skipSpaces_42 (by decide) ?_
      exact v_sub [0] rfl (h r_a))
    refine v_icmp_eq (tgt := 32) F dX7_skipSpaces_20 (by decide) h (fun h => ?_) (fun h => ?_)
    · exact v_sub [0] rfl (h r_a)
    · refine v_aload_n F dX7_skipSpaces_23 0 rfl rfl ?_
      refine v_cI0 (v_runV F k_X7_41 rfl (c_X7_next r_a h) r_a rfl rfl (Nat.le_of_ble_eq_true rfl) (by decide) (by decide) dX7_skipSpaces_24) ⟨rfl, rfl⟩ (fun r10 S9 h hE => ?_)
      have r_a := r_a.tr hE
      refine v_bipush (v := 10) F dX7_skipSpaces_27 (by decide) ?_
      refine v_icmp_ne (tgt := 45) F dX7_skipSpaces_29 (by decide) h (fun h => ?_) (fun h => ?_)
      · exact v_vret F hQ h (by decide) dX7_skipSpaces_45
      · exact v_sub [0] rfl (h r_a)
theorem dX7_isSyllableByte_0 : decode cX7_isSyllableByte 0 = .ok (.iload_n 0, 1) := by decide +kernel
theorem dX7_isSyllableByte_1 : decode cX7_isSyllableByte 1 = .ok (.bipush 33, 2) := by decide +kernel
theorem dX7_isSyllableByte_3 : decode cX7_isSyllableByte 3 = .ok (.if_icmp .lt 19, 3) := by decide +kernel
theorem dX7_isSyllableByte_6 : decode cX7_isSyllableByte 6 = .ok (.iload_n 0, 1) := by decide +kernel
theorem dX7_isSyllableByte_7 : decode cX7_isSyllableByte 7 = .ok (.bipush 126, 2) := by decide +kernel
theorem dX7_isSyllableByte_9 : decode cX7_isSyllableByte 9 = .ok (.if_icmp .gt 13, 3) := by decide +kernel
theorem dX7_isSyllableByte_12 : decode cX7_isSyllableByte 12 = .ok (.iload_n 0, 1) := by decide +kernel
theorem dX7_isSyllableByte_13 : decode cX7_isSyllableByte 13 = .ok (.bipush 34, 2) := by decide +kernel
theorem dX7_isSyllableByte_15 : decode cX7_isSyllableByte 15 = .ok (.if_icmp .eq 7, 3) := by decide +kernel
theorem dX7_isSyllableByte_18 : decode cX7_isSyllableByte 18 = .ok (.iconst 1, 1) := by decide +kernel
theorem dX7_isSyllableByte_19 : decode cX7_isSyllableByte 19 = .ok (.goto 4, 3) := by decide +kernel
theorem dX7_isSyllableByte_22 : decode cX7_isSyllableByte 22 = .ok (.iconst 0, 1) := by decide +kernel
theorem dX7_isSyllableByte_23 : decode cX7_isSyllableByte 23 = .ok (.ireturn, 1) := by decide +kernel
abbrev rm_X7_isSyllableByte : Room := { frames := 0, cells := 0, slots := 0, locals := 0 }
def wp_X7_isSyllableByte (p1 : Int32) (S : PS) (Q : Int32 → PS → Prop) : Prop :=
  (if p1 < 33 then
 Q 0 S
 else
 (if 126 < p1 then
 Q 0 S
 else
 (if p1 = 34 then
 Q 0 S
 else
 Q 1 S)))
set_option maxRecDepth 100000 in
set_option maxHeartbeats 4000000 in
theorem c_X7_isSyllableByte {l : Launch} {E : EE} {A : Nat → Prop} {p1 : Int32} {S : PS} {Q : Int32 → PS → Prop} (h : wp_X7_isSyllableByte p1 S Q) : MtI l yX7_isSyllableByte (.code yX7_isSyllableByte cX7_isSyllableByte 1 (some .boolean)) rm_X7_isSyllableByte E A [.int p1] S (fun r S1 => nz r ∧ Q r S1) := by
  refine MtI.of (by decide) (Nat.le_of_ble_eq_true rfl) (fun X F hQ hN => ?_)
  show VV X (0, 0) S [(0, .int p1)] [] 0
  unfold wp_X7_isSyllableByte at h
  refine v_iload_n F dX7_isSyllableByte_0 0 rfl rfl ?_
  refine v_bipush (v := 33) F dX7_isSyllableByte_1 (by decide) ?_
  refine v_icmp_lt (tgt := 22) F dX7_isSyllableByte_3 (by decide) h (fun h => ?_) (fun h => ?_)
  · refine v_iconst (v := 0) F dX7_isSyllableByte_22 (by decide) ?_
    exact v_zret F hQ (by decide) ⟨nz0, h⟩ (by decide) dX7_isSyllableByte_23
  · refine v_iload_n F dX7_isSyllableByte_6 0 rfl rfl ?_
    refine v_bipush (v := 126) F dX7_isSyllableByte_7 (by decide) ?_
    refine v_icmp_gt (tgt := 22) F dX7_isSyllableByte_9 (by decide) h (fun h => ?_) (fun h => ?_)
    · refine v_iconst (v := 0) F dX7_isSyllableByte_22 (by decide) ?_
      exact v_zret F hQ (by decide) ⟨nz0, h⟩ (by decide) dX7_isSyllableByte_23
    · refine v_iload_n F dX7_isSyllableByte_12 0 rfl rfl ?_
      refine v_bipush (v := 34) F dX7_isSyllableByte_13 (by decide) ?_
      refine v_icmp_eq (tgt := 22) F dX7_isSyllableByte_15 (by decide) h (fun h => ?_) (fun h => ?_)
      · refine v_iconst (v := 0) F dX7_isSyllableByte_22 (by decide) ?_
        exact v_zret F hQ (by decide) ⟨nz0, h⟩ (by decide) dX7_isSyllableByte_23
      · refine v_iconst (v := 1) F dX7_isSyllableByte_18 (by decide) ?_
        refine v_goto (tgt := 23) F dX7_isSyllableByte_19 (by decide) ?_
        exact v_zret F hQ (by decide) ⟨nz1, h⟩ (by decide) dX7_isSyllableByte_23
theorem dX7_syllable_0 : decode cX7_syllable 0 = .ok (.aload_n 0, 1) := by decide +kernel
theorem dX7_syllable_1 : decode cX7_syllable 1 = .ok (.getfield 23, 3) := by decide +kernel
theorem dX7_syllable_4 : decode cX7_syllable 4 = .ok (.istore_n 1, 1) := by decide +kernel
theorem dX7_syllable_5 : decode cX7_syllable 5 = .ok (.aload_n 0, 1) := by decide +kernel
theorem dX7_syllable_6 : decode cX7_syllable 6 = .ok (.getfield 23, 3) := by decide +kernel
theorem dX7_syllable_9 : decode cX7_syllable 9 = .ok (.aload_n 0, 1) := by decide +kernel
theorem dX7_syllable_10 : decode cX7_syllable 10 = .ok (.getfield 9, 3) := by decide +kernel
theorem dX7_syllable_13 : decode cX7_syllable 13 = .ok (.getfield 54, 3) := by decide +kernel
theorem dX7_syllable_16 : decode cX7_syllable 16 = .ok (.if_icmp .ge 26, 3) := by decide +kernel
theorem dX7_syllable_19 : decode cX7_syllable 19 = .ok (.aload_n 0, 1) := by decide +kernel
theorem dX7_syllable_20 : decode cX7_syllable 20 = .ok (.invokevirtual 41, 3) := by decide +kernel
theorem dX7_syllable_23 : decode cX7_syllable 23 = .ok (.invokestatic 203, 3) := by decide +kernel
theorem dX7_syllable_26 : decode cX7_syllable 26 = .ok (.ifCond .eq 16, 3) := by decide +kernel
theorem dX7_syllable_29 : decode cX7_syllable 29 = .ok (.aload_n 0, 1) := by decide +kernel
theorem dX7_syllable_30 : decode cX7_syllable 30 = .ok (.dup, 1) := by decide +kernel
theorem dX7_syllable_31 : decode cX7_syllable 31 = .ok (.getfield 23, 3) := by decide +kernel
theorem dX7_syllable_34 : decode cX7_syllable 34 = .ok (.iconst 1, 1) := by decide +kernel
theorem dX7_syllable_35 : decode cX7_syllable 35 = .ok (.iadd, 1) := by decide +kernel
theorem dX7_syllable_36 : decode cX7_syllable 36 = .ok (.putfield 23, 3) := by decide +kernel
theorem dX7_syllable_39 : decode cX7_syllable 39 = .ok (.goto (-34), 3) := by decide +kernel
theorem dX7_syllable_42 : decode cX7_syllable 42 = .ok (.aload_n 0, 1) := by decide +kernel
theorem dX7_syllable_43 : decode cX7_syllable 43 = .ok (.getfield 23, 3) := by decide +kernel
theorem dX7_syllable_46 : decode cX7_syllable 46 = .ok (.iload_n 1, 1) := by decide +kernel
theorem dX7_syllable_47 : decode cX7_syllable 47 = .ok (.isub, 1) := by decide +kernel
theorem dX7_syllable_48 : decode cX7_syllable 48 = .ok (.istore_n 2, 1) := by decide +kernel
theorem dX7_syllable_49 : decode cX7_syllable 49 = .ok (.iload_n 2, 1) := by decide +kernel
theorem dX7_syllable_50 : decode cX7_syllable 50 = .ok (.ifCond .ne 8, 3) := by decide +kernel
theorem dX7_syllable_53 : decode cX7_syllable 53 = .ok (.aload_n 0, 1) := by decide +kernel
theorem dX7_syllable_54 : decode cX7_syllable 54 = .ok (.invokevirtual 45, 3) := by decide +kernel
theorem dX7_syllable_57 : decode cX7_syllable 57 = .ok (.ireturn, 1) := by decide +kernel
theorem dX7_syllable_58 : decode cX7_syllable 58 = .ok (.iload_n 2, 1) := by decide +kernel
theorem dX7_syllable_59 : decode cX7_syllable 59 = .ok (.bipush 12, 2) := by decide +kernel
theorem dX7_syllable_61 : decode cX7_syllable 61 = .ok (.if_icmp .le 13, 3) := by decide +kernel
theorem dX7_syllable_64 : decode cX7_syllable 64 = .ok (.aload_n 0, 1) := by decide +kernel
theorem dX7_syllable_65 : decode cX7_syllable 65 = .ok (.getfield 15, 3) := by decide +kernel
theorem dX7_syllable_68 : decode cX7_syllable 68 = .ok (.iconst 5, 1) := by decide +kernel
theorem dX7_syllable_69 : decode cX7_syllable 69 = .ok (.iload_n 1, 1) := by decide +kernel
theorem dX7_syllable_70 : decode cX7_syllable 70 = .ok (.invokevirtual 48, 3) := by decide +kernel
theorem dX7_syllable_73 : decode cX7_syllable 73 = .ok (.ireturn, 1) := by decide +kernel
theorem dX7_syllable_74 : decode cX7_syllable 74 = .ok (.iload_n 2, 1) := by decide +kernel
theorem dX7_syllable_75 : decode cX7_syllable 75 = .ok (.iconst 1, 1) := by decide +kernel
theorem dX7_syllable_76 : decode cX7_syllable 76 = .ok (.if_icmp .ne 20, 3) := by decide +kernel
theorem dX7_syllable_79 : decode cX7_syllable 79 = .ok (.aload_n 0, 1) := by decide +kernel
theorem dX7_syllable_80 : decode cX7_syllable 80 = .ok (.getfield 9, 3) := by decide +kernel
theorem dX7_syllable_83 : decode cX7_syllable 83 = .ok (.iload_n 1, 1) := by decide +kernel
theorem dX7_syllable_84 : decode cX7_syllable 84 = .ok (.invokevirtual 206, 3) := by decide +kernel
theorem dX7_syllable_87 : decode cX7_syllable 87 = .ok (.bipush 95, 2) := by decide +kernel
theorem dX7_syllable_89 : decode cX7_syllable 89 = .ok (.if_icmp .ne 7, 3) := by decide +kernel
theorem dX7_syllable_92 : decode cX7_syllable 92 = .ok (.iconst 1, 1) := by decide +kernel
theorem dX7_syllable_93 : decode cX7_syllable 93 = .ok (.goto 4, 3) := by decide +kernel
theorem dX7_syllable_96 : decode cX7_syllable 96 = .ok (.iconst 0, 1) := by decide +kernel
theorem dX7_syllable_97 : decode cX7_syllable 97 = .ok (.istore_n 3, 1) := by decide +kernel
theorem dX7_syllable_98 : decode cX7_syllable 98 = .ok (.aload_n 0, 1) := by decide +kernel
theorem dX7_syllable_99 : decode cX7_syllable 99 = .ok (.getfield 9, 3) := by decide +kernel
theorem dX7_syllable_102 : decode cX7_syllable 102 = .ok (.iload_n 1, 1) := by decide +kernel
theorem dX7_syllable_103 : decode cX7_syllable 103 = .ok (.iload_n 3, 1) := by decide +kernel
theorem dX7_syllable_104 : decode cX7_syllable 104 = .ok (.ifCond .eq 7, 3) := by decide +kernel
theorem dX7_syllable_107 : decode cX7_syllable 107 = .ok (.iconst 0, 1) := by decide +kernel
theorem dX7_syllable_108 : decode cX7_syllable 108 = .ok (.goto 4, 3) := by decide +kernel
theorem dX7_syllable_111 : decode cX7_syllable 111 = .ok (.iload_n 2, 1) := by decide +kernel
theorem dX7_syllable_112 : decode cX7_syllable 112 = .ok (.invokestatic 209, 3) := by decide +kernel
theorem dX7_syllable_115 : decode cX7_syllable 115 = .ok (.invokevirtual 182, 3) := by decide +kernel
theorem dX7_syllable_118 : decode cX7_syllable 118 = .ok (.iconst 1, 1) := by decide +kernel
theorem dX7_syllable_119 : decode cX7_syllable 119 = .ok (.ireturn, 1) := by decide +kernel
abbrev rm_X7_syllable : Room := { frames := 2, cells := 0, slots := 0, locals := 42 }
def wp_X7_syllable (a : Nat) (S : PS) (Q : Int32 → PS → Prop) : Prop :=
  (∀ v1, v1 = fI S 60 a → (∀ P5_2 : PS → Prop, (∀ (S3 : PS),
 (∃ b4, fR S3 58 a = some b4 ∧ (∀ K42_6 : PS → Prop, (∀ (S5 : PS),
 (∀ v7, v7 = (fI S5 60 a) - v1 → (if v7 = 0 then
 wp_X7_refuse a S5 (fun (r27 : Int32) (S26 : PS) => 
 Q r27 S26)
 else
 (if v7 ≤ 12 then
 (∀ K97_10 : Int32 → PS → Prop, (∀ (t8 : Int32) (S9 : PS),
 (∃ b11, fR S9 58 a = some b11 ∧ (∀ K112_16 : Nat → Int32 → Int32 → PS → Prop, (∀ (t12 : Nat) (t13 : Int32) (t14 : Int32) (S15 : PS),
 wp_X9_make t13 t14 S15 (fun (r18 : Int32) (S17 : PS) => 
 wp_X6_addPart t12 r18 S17 (fun (S19 : PS) => 
 Q 1 S19))
 → K112_16 t12 t13 t14 S15) →
 (if t8 = 0 then
 K112_16 b11 v1 v7 S9
 else
 K112_16 b11 v1 0 S9)))
 → K97_10 t8 S9) →
 (if v7 = 1 then
 (∃ b20, fR S5 58 a = some b20 ∧ wp_X6_byteAt b20 v1 S5 (fun (r22 : Int32) (S21 : PS) => 
 (if r22 = 95 then
 K97_10 1 S21
 else
 K97_10 0 S21)))
 else
 K97_10 0 S5))
 else
 (∃ b23, fR S5 59 a = some b23 ∧ wp_X0_tell b23 5 v1 S5 (fun (r25 : Int32) (S24 : PS) => 
 Q r25 S24)))))
 → K42_6 S5) →
 (if fI S3 44 b4 ≤ fI S3 60 a then
 K42_6 S3
 else
 wp_X7_next a S3 (fun (r29 : Int32) (S28 : PS) => 
 wp_X7_isSyllableByte r29 S28 (fun (r31 : Int32) (S30 : PS) => 
 (if r31 = 0 then
 K42_6 S30
 else
 (∀ S32, S32 = sI S30 60 a ((fI S30 60 a) + 1) → P5_2 S32)))))))
 → P5_2 S3) → P5_2 S))
set_option maxRecDepth 100000 in
set_option maxHeartbeats 4000000 in
theorem c_X7_syllable {l : Launch} {E : EE} {A : Nat → Prop} {a : Nat} {S : PS} {Q : Int32 → PS → Prop} (r_a : Rf S a 6) (h : wp_X7_syllable a S Q) : MtI l yX7_syllable (.code yX7_syllable cX7_syllable 4 (some .boolean)) rm_X7_syllable E A [.ref a] S (fun r S1 => nz r ∧ Q r S1) := by
  refine MtI.of (by decide) (Nat.le_of_ble_eq_true rfl) (fun X F hQ hN => ?_)
  show VV X (0, 0) S [(0, .ref a)] [] 0
  unfold wp_X7_syllable at h
  refine v_aload_n F dX7_syllable_0 0 rfl rfl ?_
  refine g_X7_23 F r_a dX7_syllable_1 ?_
  refine v_topi (fun v1 e_v1 => ?_)
  have h := h v1 e_v1
  refine v_istore_n (lv1 := [(1, .int v1), (0, .ref a)]) F dX7_syllable_4 rfl (by rw [hN]; decide) rfl ?_
  refine v_sub [1, 0] rfl ?_
  refine h (fun (S3 : PS) => Rf S3 a 6 → VV X (0, 0) S3 [(0, .ref a), (1, .int v1)] [] 5) (fun S3 h r_a => ?_) r_a
  refine v_aload_n F dX7_syllable_5 0 rfl rfl ?_
  refine g_X7_23 F r_a dX7_syllable_6 ?_
  refine v_aload_n F dX7_syllable_9 0 rfl rfl ?_
  refine g_X7_9 F r_a h dX7_syllable_10 (fun b4 r_b4 h => ?_)
  refine g_X7_54 F r_b4 dX7_syllable_13 ?_
  have h := h (fun (S5 : PS) => Rf S5 a 6 → VV X (0, 0) S5 [(0, .ref a), (1, .int v1)] [] 42) (by
    intro S5 h r_a
    refine v_aload_n F dX7_syllable_42 0 rfl rfl ?_
    refine g_X7_23 F r_a dX7_syllable_43 ?_
    refine v_iload_n F dX7_syllable_46 1 rfl rfl ?_
    refine v_isub F dX7_syllable_47 ?_
    refine v_topi (fun v7 e_v7 => ?_)
    have h := h v7 e_v7
    refine v_istore_n (lv1 := [(2, .int v7), (0, .ref a), (1, .int v1)]) F dX7_syllable_48 rfl (by rw [hN]; decide) rfl ?_
    refine v_iload_n F dX7_syllable_49 0 rfl rfl ?_
    refine v_if_ne (tgt := 58) F dX7_syllable_50 (by decide) h (fun h => ?_) (fun h => ?_)
    · refine v_iload_n F dX7_syllable_58 0 rfl rfl ?_
      refine v_bipush (v := 12) F dX7_syllable_59 (by decide) ?_
      refine v_icmp_le (tgt := 74) F dX7_syllable_61 (by decide) h (fun h => ?_) (fun h => ?_)
      · refine v_iload_n F dX7_syllable_74 0 rfl rfl ?_
        refine v_iconst (v := 1) F dX7_syllable_75 (by decide) ?_
        have h := h (fun (t8 : Int32) (S9 : PS) => Rf S9 a 6 → VV X (0, 0) S9 [(0, .ref a), (1, .int v1), (2, .int v7)] [.int t8] 97) (by
          intro t8 S9 h r_a
          refine v_istore_n (lv1 := [(3, .int t8), (0, .ref a), (1, .int v1), (2, .int v7)]) F dX7_syllable_97 rfl (by rw [hN]; decide) rfl ?_
          refine v_aload_n F dX7_syllable_98 1 rfl rfl ?_
          refine g_X7_9 F r_a h dX7_syllable_99 (fun b11 r_b11 h => ?_)
          refine v_iload_n F dX7_syllable_102 2 rfl rfl ?_
          refine v_iload_n F dX7_syllable_103 0 rfl rfl ?_
          have h := h (fun (t12 : Nat) (t13 : Int32) (t14 : Int32) (S15 : PS) => Rf S15 t12 5 → VV X (0, 0) S15 [] [.int t14, .int t13, .ref t12] 112) (by
            intro t12 t13 t14 S15 h r_t12
            refine v_cI0 (v_runS F k_X7_209 (c_X9_make h) rfl rfl (Nat.le_of_ble_eq_true rfl) (by decide) (by decide) dX7_syllable_112) ⟨rfl, rfl⟩ (fun r18 S17 h hE => ?_)
            have r_t12 := r_t12.tr hE
            refine v_cV0 (v_runV F k_X7_182 rfl (c_X6_addPart r_t12 h) r_t12 rfl rfl (Nat.le_of_ble_eq_true rfl) (by decide) (by decide) dX7_syllable_115) ⟨rfl, rfl⟩ (fun  S19 h hE => ?_)
            refine v_iconst (v := 1) F dX7_syllable_118 (by decide) ?_
            exact v_zret F hQ (by decide) ⟨nz1, h⟩ (by decide) dX7_syllable_119)
          refine v_if_eq (tgt := 111) F dX7_syllable_104 (by decide) h (fun h => ?_) (fun h => ?_)
          · refine v_iload_n F dX7_syllable_111 3 rfl rfl ?_
            exact v_sub [] rfl (h r_b11)
          · refine v_iconst (v := 0) F dX7_syllable_107 (by decide) ?_
            refine v_goto (tgt := 112) F dX7_syllable_108 (by decide) ?_
            exact v_sub [] rfl (h r_b11))
        refine v_icmp_ne (tgt := 96) F dX7_syllable_76 (by decide) h (fun h => ?_) (fun h => ?_)
        · refine v_iconst (v := 0) F dX7_syllable_96 (by decide) ?_
          exact v_sub [1, 2, 0] rfl (h r_a)
        · refine v_aload_n F dX7_syllable_79 1 rfl rfl ?_
          refine g_X7_9 F r_a h dX7_syllable_80 (fun b20 r_b20 h => ?_)
          refine v_iload_n F dX7_syllable_83 2 rfl rfl ?_
          refine v_cI0 (v_runV F k_X7_206 rfl (c_X6_byteAt r_b20 h) r_b20 rfl rfl (Nat.le_of_ble_eq_true rfl) (by decide) (by decide) dX7_syllable_84) ⟨rfl, rfl⟩ (fun r22 S21 h hE => ?_)
          have r_a := r_a.tr hE
          refine v_bipush (v := 95) F dX7_syllable_87 (by decide) ?_
          refine v_icmp_ne (tgt := 96) F dX7_syllable_89 (by decide) h (fun h => ?_) (fun h => ?_)
          · refine v_iconst (v := 0) F dX7_syllable_96 (by decide) ?_
            exact v_sub [1, 2, 0] rfl (h r_a)
          · refine v_iconst (v := 1) F dX7_syllable_92 (by decide) ?_
            refine v_goto (tgt := 97) F dX7_syllable_93 (by decide) ?_
            exact v_sub [1, 2, 0] rfl (h r_a)
      · refine v_aload_n F dX7_syllable_64 1 rfl rfl ?_
        refine g_X7_15 F r_a h dX7_syllable_65 (fun b23 r_b23 h => ?_)
        refine v_iconst (v := 5) F dX7_syllable_68 (by decide) ?_
        refine v_iload_n F dX7_syllable_69 2 rfl rfl ?_
        refine v_cI0 (v_runV F k_X7_48 rfl (c_X0_tell r_b23 h) r_b23 rfl rfl (Nat.le_of_ble_eq_true rfl) (by decide) (by decide) dX7_syllable_70) ⟨rfl, rfl⟩ (fun r25 S24 h hE => ?_)
        obtain ⟨nz_r25, h⟩ := h
        have r_a := r_a.tr hE
        exact v_zret F hQ nz_r25 ⟨nz_r25, h⟩ (by decide) dX7_syllable_73
    · refine v_aload_n F dX7_syllable_53 1 rfl rfl ?_
      refine v_cI0 (v_runV F k_X7_45 rfl (c_X7_refuse r_a h) r_a rfl rfl (Nat.le_of_ble_eq_true rfl) (by decide) (by decide) dX7_syllable_54) ⟨rfl, rfl⟩ (fun r27 S26 h hE => ?_)
      obtain ⟨nz_r27, h⟩ := h
      have r_a := r_a.tr hE
      exact v_zret F hQ nz_r27 ⟨nz_r27, h⟩ (by decide) dX7_syllable_57)
  refine v_icmp_ge (tgt := 42) F dX7_syllable_16 (by decide) h (fun h => ?_) (fun h => ?_)
  · exact v_sub [0, 1] rfl (h r_a)
  · refine v_aload_n F dX7_syllable_19 0 rfl rfl ?_
    refine v_cI0 (v_runV F k_X7_41 rfl (c_X7_next r_a h) r_a rfl rfl (Nat.le_of_ble_eq_true rfl) (by decide) (by decide) dX7_syllable_20) ⟨rfl, rfl⟩ (fun r29 S28 h hE => ?_)
    have r_a := r_a.tr hE
    refine v_cI0 (v_runS F k_X7_203 (c_X7_isSyllableByte h) rfl rfl (Nat.le_of_ble_eq_true rfl) (by decide) (by decide) dX7_syllable_23) ⟨rfl, rfl⟩ (fun r31 S30 h hE => ?_)
    obtain ⟨nz_r31, h⟩ := h
    have r_a := r_a.tr hE
    refine v_if_eq (tgt := 42) F dX7_syllable_26 (by decide) h (fun h => ?_) (fun h => ?_)
    · exact v_sub [0, 1] rfl (h r_a)
    · refine v_aload_n F dX7_syllable_29 0 rfl rfl ?_
      refine v_dup F dX7_syllable_30 rfl ?_
      refine g_X7_23 F r_a dX7_syllable_31 ?_
      refine v_iconst (v := 1) F dX7_syllable_34 (by decide) ?_
      refine v_iadd F dX7_syllable_35 ?_
      refine p_X7_23 F r_a h dX7_syllable_36 (fun S32 h hE => ?_)
      have r_a := r_a.tr hE
      refine v_goto (tgt := 5) F dX7_syllable_39 (by decide) ?_
      exact v_sub [0, 1] rfl (h r_a)
theorem dX7_words_0 : decode cX7_words 0 = .ok (.aload_n 0, 1) := by decide +kernel
theorem dX7_words_1 : decode cX7_words 1 = .ok (.dup, 1) := by decide +kernel
theorem dX7_words_2 : decode cX7_words 2 = .ok (.getfield 23, 3) := by decide +kernel
theorem dX7_words_5 : decode cX7_words 5 = .ok (.iconst 1, 1) := by decide +kernel
theorem dX7_words_6 : decode cX7_words 6 = .ok (.iadd, 1) := by decide +kernel
theorem dX7_words_7 : decode cX7_words 7 = .ok (.putfield 23, 3) := by decide +kernel
theorem dX7_words_10 : decode cX7_words 10 = .ok (.aload_n 0, 1) := by decide +kernel
theorem dX7_words_11 : decode cX7_words 11 = .ok (.iconst 1, 1) := by decide +kernel
theorem dX7_words_12 : decode cX7_words 12 = .ok (.iconst 3, 1) := by decide +kernel
theorem dX7_words_13 : decode cX7_words 13 = .ok (.invokevirtual 120, 3) := by decide +kernel
theorem dX7_words_16 : decode cX7_words 16 = .ok (.ifCond .ne 5, 3) := by decide +kernel
theorem dX7_words_19 : decode cX7_words 19 = .ok (.iconst 0, 1) := by decide +kernel
theorem dX7_words_20 : decode cX7_words 20 = .ok (.ireturn, 1) := by decide +kernel
theorem dX7_words_21 : decode cX7_words 21 = .ok (.aload_n 0, 1) := by decide +kernel
theorem dX7_words_22 : decode cX7_words 22 = .ok (.getfield 123, 3) := by decide +kernel
theorem dX7_words_25 : decode cX7_words 25 = .ok (.l2i, 1) := by decide +kernel
theorem dX7_words_26 : decode cX7_words 26 = .ok (.istore_n 2, 1) := by decide +kernel
theorem dX7_words_27 : decode cX7_words 27 = .ok (.aload_n 0, 1) := by decide +kernel
theorem dX7_words_28 : decode cX7_words 28 = .ok (.getfield 9, 3) := by decide +kernel
theorem dX7_words_31 : decode cX7_words 31 = .ok (.getfield 158, 3) := by decide +kernel
theorem dX7_words_34 : decode cX7_words 34 = .ok (.istore_n 3, 1) := by decide +kernel
theorem dX7_words_35 : decode cX7_words 35 = .ok (.aload_n 0, 1) := by decide +kernel
theorem dX7_words_36 : decode cX7_words 36 = .ok (.bipush 34, 2) := by decide +kernel
theorem dX7_words_38 : decode cX7_words 38 = .ok (.invokevirtual 131, 3) := by decide +kernel
theorem dX7_words_41 : decode cX7_words 41 = .ok (.ifCond .ne 5, 3) := by decide +kernel
theorem dX7_words_44 : decode cX7_words 44 = .ok (.iconst 0, 1) := by decide +kernel
theorem dX7_words_45 : decode cX7_words 45 = .ok (.ireturn, 1) := by decide +kernel
theorem dX7_words_46 : decode cX7_words 46 = .ok (.iconst 0, 1) := by decide +kernel
theorem dX7_words_47 : decode cX7_words 47 = .ok (.istore 4, 2) := by decide +kernel
theorem dX7_words_49 : decode cX7_words 49 = .ok (.iload 4, 2) := by decide +kernel
theorem dX7_words_51 : decode cX7_words 51 = .ok (.sipush 1500, 3) := by decide +kernel
theorem dX7_words_54 : decode cX7_words 54 = .ok (.if_icmp .gt 51, 3) := by decide +kernel
theorem dX7_words_57 : decode cX7_words 57 = .ok (.aload_n 0, 1) := by decide +kernel
theorem dX7_words_58 : decode cX7_words 58 = .ok (.invokevirtual 197, 3) := by decide +kernel
theorem dX7_words_61 : decode cX7_words 61 = .ok (.aload_n 0, 1) := by decide +kernel
theorem dX7_words_62 : decode cX7_words 62 = .ok (.bipush 34, 2) := by decide +kernel
theorem dX7_words_64 : decode cX7_words 64 = .ok (.invokevirtual 63, 3) := by decide +kernel
theorem dX7_words_67 : decode cX7_words 67 = .ok (.ifCond .eq 23, 3) := by decide +kernel
theorem dX7_words_70 : decode cX7_words 70 = .ok (.aload_n 0, 1) := by decide +kernel
theorem dX7_words_71 : decode cX7_words 71 = .ok (.getfield 9, 3) := by decide +kernel
theorem dX7_words_74 : decode cX7_words 74 = .ok (.iload_n 1, 1) := by decide +kernel
theorem dX7_words_75 : decode cX7_words 75 = .ok (.iload_n 2, 1) := by decide +kernel
theorem dX7_words_76 : decode cX7_words 76 = .ok (.aload_n 0, 1) := by decide +kernel
theorem dX7_words_77 : decode cX7_words 77 = .ok (.getfield 9, 3) := by decide +kernel
theorem dX7_words_80 : decode cX7_words 80 = .ok (.getfield 158, 3) := by decide +kernel
theorem dX7_words_83 : decode cX7_words 83 = .ok (.iload_n 3, 1) := by decide +kernel
theorem dX7_words_84 : decode cX7_words 84 = .ok (.isub, 1) := by decide +kernel
theorem dX7_words_85 : decode cX7_words 85 = .ok (.invokevirtual 127, 3) := by decide +kernel
theorem dX7_words_88 : decode cX7_words 88 = .ok (.iconst 1, 1) := by decide +kernel
theorem dX7_words_89 : decode cX7_words 89 = .ok (.ireturn, 1) := by decide +kernel
theorem dX7_words_90 : decode cX7_words 90 = .ok (.aload_n 0, 1) := by decide +kernel
theorem dX7_words_91 : decode cX7_words 91 = .ok (.invokevirtual 200, 3) := by decide +kernel
theorem dX7_words_94 : decode cX7_words 94 = .ok (.ifCond .ne 5, 3) := by decide +kernel
theorem dX7_words_97 : decode cX7_words 97 = .ok (.iconst 0, 1) := by decide +kernel
theorem dX7_words_98 : decode cX7_words 98 = .ok (.ireturn, 1) := by decide +kernel
theorem dX7_words_99 : decode cX7_words 99 = .ok (.iinc 4 1, 3) := by decide +kernel
theorem dX7_words_102 : decode cX7_words 102 = .ok (.goto (-53), 3) := by decide +kernel
theorem dX7_words_105 : decode cX7_words 105 = .ok (.aload_n 0, 1) := by decide +kernel
theorem dX7_words_106 : decode cX7_words 106 = .ok (.invokevirtual 45, 3) := by decide +kernel
theorem dX7_words_109 : decode cX7_words 109 = .ok (.ireturn, 1) := by decide +kernel
abbrev rm_X7_words : Room := { frames := 4, cells := 0, slots := 0, locals := 88 }
def wp_X7_words (a : Nat) (p1 : Int32) (S : PS) (Q : Int32 → PS → Prop) : Prop :=
  (∀ S1, S1 = sI S 60 a ((fI S 60 a) + 1) → wp_X7_number a 1 3 S1 (fun (r3 : Int32) (S2 : PS) => 
 (if r3 = 0 then
 Q 0 S2
 else
 (∀ v4, v4 = (fL S2 65 a).toInt32 → (∃ b5, fR S2 58 a = some b5 ∧ (∀ v6, v6 = fI S2 53 b5 → wp_X7_mustBehindBlanks a 34 S2 (fun (r8 : Int32) (S7 : PS) => 
 (if r8 = 0 then
 Q 0 S7
 else
 (∀ P49_9 : Int32 → PS → Prop, (∀ (x4_10 : Int32) (S11 : PS),
 (if 1500 < x4_10 then
 wp_X7_refuse a S11 (fun (r13 : Int32) (S12 : PS) => 
 Q r13 S12)
 else
 wp_X7_skipSpaces a S11 (fun (S14 : PS) => 
 wp_X7_take a 34 S14 (fun (r16 : Int32) (S15 : PS) => 
 (if r16 = 0 then
 wp_X7_syllable a S15 (fun (r18 : Int32) (S17 : PS) => 
 (if r18 = 0 then
 Q 0 S17
 else
 (∀ v19, v19 = x4_10 + 1 → P49_9 v19 S17)))
 else
 (∃ b20, fR S15 58 a = some b20 ∧ (∃ b21, fR S15 58 a = some b21 ∧ wp_X6_setNumbers b20 p1 v4 ((fI S15 53 b21) - v6) S15 (fun (S22 : PS) => 
 Q 1 S22)))))))
 → P49_9 x4_10 S11) → P49_9 0 S7)))))))))
set_option maxRecDepth 100000 in
set_option maxHeartbeats 4000000 in
theorem c_X7_words {l : Launch} {E : EE} {A : Nat → Prop} {a : Nat} {p1 : Int32} {S : PS} {Q : Int32 → PS → Prop} (r_a : Rf S a 6) (h : wp_X7_words a p1 S Q) : MtI l yX7_words (.code yX7_words cX7_words 5 (some .boolean)) rm_X7_words E A [.ref a, .int p1] S (fun r S1 => nz r ∧ Q r S1) := by
  refine MtI.of (by decide) (Nat.le_of_ble_eq_true rfl) (fun X F hQ hN => ?_)
  show VV X (0, 0) S [(0, .ref a), (1, .int p1)] [] 0
  unfold wp_X7_words at h
  refine v_aload_n F dX7_words_0 0 rfl rfl ?_
  refine v_dup F dX7_words_1 rfl ?_
  refine g_X7_23 F r_a dX7_words_2 ?_
  refine v_iconst (v := 1) F dX7_words_5 (by decide) ?_
  refine v_iadd F dX7_words_6 ?_
  refine p_X7_23 F r_a h dX7_words_7 (fun S1 h hE => ?_)
  have r_a := r_a.tr hE
  refine v_aload_n F dX7_words_10 0 rfl rfl ?_
  refine v_iconst (v := 1) F dX7_words_11 (by decide) ?_
  refine v_iconst (v := 3) F dX7_words_12 (by decide) ?_
  refine v_cI0 (v_runV F k_X7_120 rfl (c_X7_number r_a h) r_a rfl rfl (Nat.le_of_ble_eq_true rfl) (by decide) (by decide) dX7_words_13) ⟨rfl, rfl⟩ (fun r3 S2 h hE => ?_)
  obtain ⟨nz_r3, h⟩ := h
  have r_a := r_a.tr hE
  refine v_if_ne (tgt := 21) F dX7_words_16 (by decide) h (fun h => ?_) (fun h => ?_)
  · refine v_aload_n F dX7_words_21 0 rfl rfl ?_
    refine g_X7_123 F r_a dX7_words_22 ?_
    refine v_l2i F dX7_words_25 ?_
    refine v_topi (fun v4 e_v4 => ?_)
    have h := h v4 e_v4
    refine v_istore_n (lv1 := [(2, .int v4), (0, .ref a), (1, .int p1)]) F dX7_words_26 rfl (by rw [hN]; decide) rfl ?_
    refine v_aload_n F dX7_words_27 1 rfl rfl ?_
    refine g_X7_9 F r_a h dX7_words_28 (fun b5 r_b5 h => ?_)
    refine g_X7_158 F r_b5 dX7_words_31 ?_
    refine v_topi (fun v6 e_v6 => ?_)
    have h := h v6 e_v6
    refine v_istore_n (lv1 := [(3, .int v6), (2, .int v4), (0, .ref a), (1, .int p1)]) F dX7_words_34 rfl (by rw [hN]; decide) rfl ?_
    refine v_aload_n F dX7_words_35 2 rfl rfl ?_
    refine v_bipush (v := 34) F dX7_words_36 (by decide) ?_
    refine v_cI0 (v_runV F k_X7_131 rfl (c_X7_mustBehindBlanks r_a h) r_a rfl rfl (Nat.le_of_ble_eq_true rfl) (by decide) (by decide) dX7_words_38) ⟨rfl, rfl⟩ (fun r8 S7 h hE => ?_)
    obtain ⟨nz_r8, h⟩ := h
    have r_a := r_a.tr hE
    refine v_if_ne (tgt := 46) F dX7_words_41 (by decide) h (fun h => ?_) (fun h => ?_)
    · refine v_iconst (v := 0) F dX7_words_46 (by decide) ?_
      refine v_istore (lv1 := [(4, .int 0), (3, .int v6), (2, .int v4), (0, .ref a), (1, .int p1)]) F dX7_words_47 (by rw [hN]; decide) rfl ?_
      refine v_sub [3, 4, 2, 1, 0] rfl ?_
      refine h (fun (x4_10 : Int32) (S11 : PS) => Rf S11 a 6 → VV X (0, 0) S11 [(0, .ref a), (1, .int p1), (2, .int v4), (3, .int v6), (4, .int x4_10)] [] 49) (fun x4_10 S11 h r_a => ?_) r_a
      refine v_iload F dX7_words_49 4 rfl ?_
      refine v_sipush (v := 1500) F dX7_words_51 (by decide) ?_
      refine v_icmp_gt (tgt := 105) F dX7_words_54 (by decide) h (fun h => ?_) (fun h => ?_)
      · refine v_aload_n F dX7_words_105 0 rfl rfl ?_
        refine v_cI0 (v_runV F k_X7_45 rfl (c_X7_refuse r_a h) r_a rfl rfl (Nat.le_of_ble_eq_true rfl) (by decide) (by decide) dX7_words_106) ⟨rfl, rfl⟩ (fun r13 S12 h hE => ?_)
        obtain ⟨nz_r13, h⟩ := h
        have r_a := r_a.tr hE
        exact v_zret F hQ nz_r13 ⟨nz_r13, h⟩ (by decide) dX7_words_109
      · refine v_aload_n F dX7_words_57 0 rfl rfl ?_
        refine v_cV0 (v_runV F k_X7_197 rfl (c_X7_skipSpaces r_a h) r_a rfl rfl (Nat.le_of_ble_eq_true rfl) (by decide) (by decide) dX7_words_58) ⟨rfl, rfl⟩ (fun  S14 h hE => ?_)
        have r_a := r_a.tr hE
        refine v_aload_n F dX7_words_61 0 rfl rfl ?_
        refine v_bipush (v := 34) F dX7_words_62 (by decide) ?_
        refine v_cI0 (v_runV F k_X7_63 rfl (c_X7_take r_a h) r_a rfl rfl (Nat.le_of_ble_eq_true rfl) (by decide) (by decide) dX7_words_64) ⟨rfl, rfl⟩ (fun r16 S15 h hE => ?_)
        obtain ⟨nz_r16, h⟩ := h
        have r_a := r_a.tr hE
        refine v_if_eq (tgt := 90) F dX7_words_67 (by decide) h (fun h => ?_) (fun h => ?_)
        · refine v_aload_n F dX7_words_90 0 rfl rfl ?_
          refine v_cI0 (v_runV F k_X7_200 rfl (c_X7_syllable r_a h) r_a rfl rfl (Nat.le_of_ble_eq_true rfl) (by decide) (by decide) dX7_words_91) ⟨rfl, rfl⟩ (fun r18 S17 h hE => ?_)
          obtain ⟨nz_r18, h⟩ := h
          have r_a := r_a.tr hE
          refine v_if_ne (tgt := 99) F dX7_words_94 (by decide) h (fun h => ?_) (fun h => ?_)
          · obtain ⟨v19, e_v19⟩ : ∃ y : Int32, y = x4_10 + 1 := ⟨_, rfl⟩
            have h := h v19 e_v19
            refine v_iinc (v := v19) (lv1 := [(4, .int v19), (0, .ref a), (1, .int p1), (2, .int v4), (3, .int v6)]) F dX7_words_99 (q := 4) rfl (by rw [e_v19]; rfl) (by rw [hN]; decide) rfl ?_
            refine v_goto (tgt := 49) F dX7_words_102 (by decide) ?_
            exact v_sub [1, 2, 3, 4, 0] rfl (h r_a)
          · refine v_iconst (v := 0) F dX7_words_97 (by decide) ?_
            exact v_zret F hQ (by decide) ⟨nz0, h⟩ (by decide) dX7_words_98
        · refine v_aload_n F dX7_words_70 0 rfl rfl ?_
          refine g_X7_9 F r_a h dX7_words_71 (fun b20 r_b20 h => ?_)
          refine v_iload_n F dX7_words_74 1 rfl rfl ?_
          refine v_iload_n F dX7_words_75 2 rfl rfl ?_
          refine v_aload_n F dX7_words_76 0 rfl rfl ?_
          refine g_X7_9 F r_a h dX7_words_77 (fun b21 r_b21 h => ?_)
          refine g_X7_158 F r_b21 dX7_words_80 ?_
          refine v_iload_n F dX7_words_83 3 rfl rfl ?_
          refine v_isub F dX7_words_84 ?_
          refine v_cV0 (v_runV F k_X7_127 rfl (c_X6_setNumbers r_b20 h) r_b20 rfl rfl (Nat.le_of_ble_eq_true rfl) (by decide) (by decide) dX7_words_85) ⟨rfl, rfl⟩ (fun  S22 h hE => ?_)
          have r_a := r_a.tr hE
          refine v_iconst (v := 1) F dX7_words_88 (by decide) ?_
          exact v_zret F hQ (by decide) ⟨nz1, h⟩ (by decide) dX7_words_89
    · refine v_iconst (v := 0) F dX7_words_44 (by decide) ?_
      exact v_zret F hQ (by decide) ⟨nz0, h⟩ (by decide) dX7_words_45
  · refine v_iconst (v := 0) F dX7_words_19 (by decide) ?_
    exact v_zret F hQ (by decide) ⟨nz0, h⟩ (by decide) dX7_words_20
theorem dX7_findName_0 : decode cX7_findName 0 = .ok (.aload_n 0, 1) := by decide +kernel
theorem dX7_findName_1 : decode cX7_findName 1 = .ok (.invokevirtual 67, 3) := by decide +kernel
theorem dX7_findName_4 : decode cX7_findName 4 = .ok (.aload_n 0, 1) := by decide +kernel
theorem dX7_findName_5 : decode cX7_findName 5 = .ok (.aload_n 0, 1) := by decide +kernel
theorem dX7_findName_6 : decode cX7_findName 6 = .ok (.getfield 23, 3) := by decide +kernel
theorem dX7_findName_9 : decode cX7_findName 9 = .ok (.putfield 213, 3) := by decide +kernel
theorem dX7_findName_12 : decode cX7_findName 12 = .ok (.aload_n 0, 1) := by decide +kernel
theorem dX7_findName_13 : decode cX7_findName 13 = .ok (.iconst 0, 1) := by decide +kernel
theorem dX7_findName_14 : decode cX7_findName 14 = .ok (.putfield 216, 3) := by decide +kernel
theorem dX7_findName_17 : decode cX7_findName 17 = .ok (.aload_n 0, 1) := by decide +kernel
theorem dX7_findName_18 : decode cX7_findName 18 = .ok (.getfield 23, 3) := by decide +kernel
theorem dX7_findName_21 : decode cX7_findName 21 = .ok (.aload_n 0, 1) := by decide +kernel
theorem dX7_findName_22 : decode cX7_findName 22 = .ok (.getfield 9, 3) := by decide +kernel
theorem dX7_findName_25 : decode cX7_findName 25 = .ok (.getfield 54, 3) := by decide +kernel
theorem dX7_findName_28 : decode cX7_findName 28 = .ok (.if_icmp .ge 74, 3) := by decide +kernel
theorem dX7_findName_31 : decode cX7_findName 31 = .ok (.aload_n 0, 1) := by decide +kernel
theorem dX7_findName_32 : decode cX7_findName 32 = .ok (.invokevirtual 41, 3) := by decide +kernel
theorem dX7_findName_35 : decode cX7_findName 35 = .ok (.invokestatic 219, 3) := by decide +kernel
theorem dX7_findName_38 : decode cX7_findName 38 = .ok (.ifCond .eq 64, 3) := by decide +kernel
theorem dX7_findName_41 : decode cX7_findName 41 = .ok (.aload_n 0, 1) := by decide +kernel
theorem dX7_findName_42 : decode cX7_findName 42 = .ok (.getfield 23, 3) := by decide +kernel
theorem dX7_findName_45 : decode cX7_findName 45 = .ok (.aload_n 0, 1) := by decide +kernel
theorem dX7_findName_46 : decode cX7_findName 46 = .ok (.getfield 213, 3) := by decide +kernel
theorem dX7_findName_49 : decode cX7_findName 49 = .ok (.isub, 1) := by decide +kernel
theorem dX7_findName_50 : decode cX7_findName 50 = .ok (.bipush 6, 2) := by decide +kernel
theorem dX7_findName_52 : decode cX7_findName 52 = .ok (.if_icmp .ge 7, 3) := by decide +kernel
theorem dX7_findName_55 : decode cX7_findName 55 = .ok (.iconst 1, 1) := by decide +kernel
theorem dX7_findName_56 : decode cX7_findName 56 = .ok (.goto 4, 3) := by decide +kernel
theorem dX7_findName_59 : decode cX7_findName 59 = .ok (.iconst 0, 1) := by decide +kernel
theorem dX7_findName_60 : decode cX7_findName 60 = .ok (.istore_n 1, 1) := by decide +kernel
theorem dX7_findName_61 : decode cX7_findName 61 = .ok (.aload_n 0, 1) := by decide +kernel
theorem dX7_findName_62 : decode cX7_findName 62 = .ok (.iload_n 1, 1) := by decide +kernel
theorem dX7_findName_63 : decode cX7_findName 63 = .ok (.ifCond .eq 22, 3) := by decide +kernel
theorem dX7_findName_66 : decode cX7_findName 66 = .ok (.aload_n 0, 1) := by decide +kernel
theorem dX7_findName_67 : decode cX7_findName 67 = .ok (.getfield 216, 3) := by decide +kernel
theorem dX7_findName_70 : decode cX7_findName 70 = .ok (.iconst 5, 1) := by decide +kernel
theorem dX7_findName_71 : decode cX7_findName 71 = .ok (.ishl, 1) := by decide +kernel
theorem dX7_findName_72 : decode cX7_findName 72 = .ok (.aload_n 0, 1) := by decide +kernel
theorem dX7_findName_73 : decode cX7_findName 73 = .ok (.invokevirtual 41, 3) := by decide +kernel
theorem dX7_findName_76 : decode cX7_findName 76 = .ok (.bipush 97, 2) := by decide +kernel
theorem dX7_findName_78 : decode cX7_findName 78 = .ok (.isub, 1) := by decide +kernel
theorem dX7_findName_79 : decode cX7_findName 79 = .ok (.iconst 1, 1) := by decide +kernel
theorem dX7_findName_80 : decode cX7_findName 80 = .ok (.iadd, 1) := by decide +kernel
theorem dX7_findName_81 : decode cX7_findName 81 = .ok (.ior, 1) := by decide +kernel
theorem dX7_findName_82 : decode cX7_findName 82 = .ok (.goto 4, 3) := by decide +kernel
theorem dX7_findName_85 : decode cX7_findName 85 = .ok (.iconst (-1), 1) := by decide +kernel
theorem dX7_findName_86 : decode cX7_findName 86 = .ok (.putfield 216, 3) := by decide +kernel
theorem dX7_findName_89 : decode cX7_findName 89 = .ok (.aload_n 0, 1) := by decide +kernel
theorem dX7_findName_90 : decode cX7_findName 90 = .ok (.dup, 1) := by decide +kernel
theorem dX7_findName_91 : decode cX7_findName 91 = .ok (.getfield 23, 3) := by decide +kernel
theorem dX7_findName_94 : decode cX7_findName 94 = .ok (.iconst 1, 1) := by decide +kernel
theorem dX7_findName_95 : decode cX7_findName 95 = .ok (.iadd, 1) := by decide +kernel
theorem dX7_findName_96 : decode cX7_findName 96 = .ok (.putfield 23, 3) := by decide +kernel
theorem dX7_findName_99 : decode cX7_findName 99 = .ok (.goto (-82), 3) := by decide +kernel
theorem dX7_findName_102 : decode cX7_findName 102 = .ok (.aload_n 0, 1) := by decide +kernel
theorem dX7_findName_103 : decode cX7_findName 103 = .ok (.getfield 23, 3) := by decide +kernel
theorem dX7_findName_106 : decode cX7_findName 106 = .ok (.aload_n 0, 1) := by decide +kernel
theorem dX7_findName_107 : decode cX7_findName 107 = .ok (.getfield 213, 3) := by decide +kernel
theorem dX7_findName_110 : decode cX7_findName 110 = .ok (.if_icmp .gt 10, 3) := by decide +kernel
theorem dX7_findName_113 : decode cX7_findName 113 = .ok (.aload_n 0, 1) := by decide +kernel
theorem dX7_findName_114 : decode cX7_findName 114 = .ok (.invokevirtual 45, 3) := by decide +kernel
theorem dX7_findName_117 : decode cX7_findName 117 = .ok (.ifCond .eq 7, 3) := by decide +kernel
theorem dX7_findName_120 : decode cX7_findName 120 = .ok (.iconst 1, 1) := by decide +kernel
theorem dX7_findName_121 : decode cX7_findName 121 = .ok (.goto 4, 3) := by decide +kernel
theorem dX7_findName_124 : decode cX7_findName 124 = .ok (.iconst 0, 1) := by decide +kernel
theorem dX7_findName_125 : decode cX7_findName 125 = .ok (.ireturn, 1) := by decide +kernel
abbrev rm_X7_findName : Room := { frames := 2, cells := 0, slots := 0, locals := 43 }
def wp_X7_findName (a : Nat) (S : PS) (Q : Int32 → PS → Prop) : Prop :=
  wp_X7_skipBlanks a S (fun (S1 : PS) => 
 (∀ S2, S2 = sI S1 68 a (fI S1 60 a) → (∀ S3, S3 = sI S2 67 a 0 → (∀ P17_4 : PS → Prop, (∀ (S5 : PS),
 (∃ b6, fR S5 58 a = some b6 ∧ (∀ K102_8 : PS → Prop, (∀ (S7 : PS),
 (if fI S7 68 a < fI S7 60 a then
 Q 1 S7
 else
 wp_X7_refuse a S7 (fun (r10 : Int32) (S9 : PS) => 
 (if r10 = 0 then
 Q 0 S9
 else
 Q 1 S9)))
 → K102_8 S7) →
 (if fI S5 44 b6 ≤ fI S5 60 a then
 K102_8 S5
 else
 wp_X7_next a S5 (fun (r12 : Int32) (S11 : PS) => 
 wp_X7_isNameLetter r12 S11 (fun (r14 : Int32) (S13 : PS) => 
 (if r14 = 0 then
 K102_8 S13
 else
 (∀ K60_17 : Int32 → PS → Prop, (∀ (t15 : Int32) (S16 : PS),
 (∀ K86_21 : Nat → Int32 → PS → Prop, (∀ (t18 : Nat) (t19 : Int32) (S20 : PS),
 (∀ S22, S22 = sI S20 67 t18 t19 → (∀ S23, S23 = sI S22 60 a ((fI S22 60 a) + 1) → P17_4 S23))
 → K86_21 t18 t19 S20) →
 (if t15 = 0 then
 K86_21 a (-1) S16
 else
 wp_X7_next a S16 (fun (r25 : Int32) (S24 : PS) => 
 K86_21 a (((fI S16 67 a) <<< (5 &&& 31)) ||| ((r25 - 97) + 1)) S24)))
 → K60_17 t15 S16) →
 (if 6 ≤ (fI S13 60 a) - (fI S13 68 a) then
 K60_17 0 S13
 else
 K60_17 1 S13))))))))
 → P17_4 S5) → P17_4 S3))))
set_option maxRecDepth 100000 in
set_option maxHeartbeats 4000000 in
theorem c_X7_findName {l : Launch} {E : EE} {A : Nat → Prop} {a : Nat} {S : PS} {Q : Int32 → PS → Prop} (r_a : Rf S a 6) (h : wp_X7_findName a S Q) : MtI l yX7_findName (.code yX7_findName cX7_findName 2 (some .boolean)) rm_X7_findName E A [.ref a] S (fun r S1 => nz r ∧ Q r S1) := by
  refine MtI.of (by decide) (Nat.le_of_ble_eq_true rfl) (fun X F hQ hN => ?_)
  show VV X (0, 0) S [(0, .ref a)] [] 0
  unfold wp_X7_findName at h
  refine v_aload_n F dX7_findName_0 0 rfl rfl ?_
  refine v_cV0 (v_runV F k_X7_67 rfl (c_X7_skipBlanks r_a h) r_a rfl rfl (Nat.le_of_ble_eq_true rfl) (by decide) (by decide) dX7_findName_1) ⟨rfl, rfl⟩ (fun  S1 h hE => ?_)
  have r_a := r_a.tr hE
  refine v_aload_n F dX7_findName_4 0 rfl rfl ?_
  refine v_aload_n F dX7_findName_5 0 rfl rfl ?_
  refine g_X7_23 F r_a dX7_findName_6 ?_
  refine p_X7_213 F r_a h dX7_findName_9 (fun S2 h hE => ?_)
  have r_a := r_a.tr hE
  refine v_aload_n F dX7_findName_12 0 rfl rfl ?_
  refine v_iconst (v := 0) F dX7_findName_13 (by decide) ?_
  refine p_X7_216 F r_a h dX7_findName_14 (fun S3 h hE => ?_)
  have r_a := r_a.tr hE
  refine v_sub [0] rfl ?_
  refine h (fun (S5 : PS) => Rf S5 a 6 → VV X (0, 0) S5 [(0, .ref a)] [] 17) (fun S5 h r_a => ?_) r_a
  refine v_aload_n F dX7_findName_17 0 rfl rfl ?_
  refine g_X7_23 F r_a dX7_findName_18 ?_
  refine v_aload_n F dX7_findName_21 0 rfl rfl ?_
  refine g_X7_9 F r_a h dX7_findName_22 (fun b6 r_b6 h => ?_)
  refine g_X7_54 F r_b6 dX7_findName_25 ?_
  have h := h (fun (S7 : PS) => Rf S7 a 6 → VV X (0, 0) S7 [(0, .ref a)] [] 102) (by
    intro S7 h r_a
    refine v_aload_n F dX7_findName_102 0 rfl rfl ?_
    refine g_X7_23 F r_a dX7_findName_103 ?_
    refine v_aload_n F dX7_findName_106 0 rfl rfl ?_
    refine g_X7_213 F r_a dX7_findName_107 ?_
    refine v_icmp_gt (tgt := 120) F dX7_findName_110 (by decide) h (fun h => ?_) (fun h => ?_)
    · refine v_iconst (v := 1) F dX7_findName_120 (by decide) ?_
      refine v_goto (tgt := 125) F dX7_findName_121 (by decide) ?_
      exact v_zret F hQ (by decide) ⟨nz1, h⟩ (by decide) dX7_findName_125
    · refine v_aload_n F dX7_findName_113 0 rfl rfl ?_
      refine v_cI0 (v_runV F k_X7_45 rfl (c_X7_refuse r_a h) r_a rfl rfl (Nat.le_of_ble_eq_true rfl) (by decide) (by decide) dX7_findName_114) ⟨rfl, rfl⟩ (fun r10 S9 h hE => ?_)
      obtain ⟨nz_r10, h⟩ := h
      have r_a := r_a.tr hE
      refine v_if_eq (tgt := 124) F dX7_findName_117 (by decide) h (fun h => ?_) (fun h => ?_)
      · refine v_iconst (v := 0) F dX7_findName_124 (by decide) ?_
        exact v_zret F hQ (by decide) ⟨nz0, h⟩ (by decide) dX7_findName_125
      · refine v_iconst (v := 1) F dX7_findName_120 (by decide) ?_
        refine v_goto (tgt := 125) F dX7_findName_121 (by decide) ?_
        exact v_zret F hQ (by decide) ⟨nz1, h⟩ (by decide) dX7_findName_125)
  refine v_icmp_ge (tgt := 102) F dX7_findName_28 (by decide) h (fun h => ?_) (fun h => ?_)
  · exact v_sub [0] rfl (h r_a)
  · refine v_aload_n F dX7_findName_31 0 rfl rfl ?_
    refine v_cI0 (v_runV F k_X7_41 rfl (c_X7_next r_a h) r_a rfl rfl (Nat.le_of_ble_eq_true rfl) (by decide) (by decide) dX7_findName_32) ⟨rfl, rfl⟩ (fun r12 S11 h hE => ?_)
    have r_a := r_a.tr hE
    refine v_cI0 (v_runS F k_X7_219 (c_X7_isNameLetter h) rfl rfl (Nat.le_of_ble_eq_true rfl) (by decide) (by decide) dX7_findName_35) ⟨rfl, rfl⟩ (fun r14 S13 h hE => ?_)
    obtain ⟨nz_r14, h⟩ := h
    have r_a := r_a.tr hE
    refine v_if_eq (tgt := 102) F dX7_findName_38 (by decide) h (fun h => ?_) (fun h => ?_)
    · exact v_sub [0] rfl (h r_a)
    · refine v_aload_n F dX7_findName_41 0 rfl rfl ?_
      refine g_X7_23 F r_a dX7_findName_42 ?_
      refine v_aload_n F dX7_findName_45 0 rfl rfl ?_
      refine g_X7_213 F r_a dX7_findName_46 ?_
      refine v_isub F dX7_findName_49 ?_
      refine v_bipush (v := 6) F dX7_findName_50 (by decide) ?_
      have h := h (fun (t15 : Int32) (S16 : PS) => Rf S16 a 6 → VV X (0, 0) S16 [(0, .ref a)] [.int t15] 60) (by
        intro t15 S16 h r_a
        refine v_istore_n (lv1 := [(1, .int t15), (0, .ref a)]) F dX7_findName_60 rfl (by rw [hN]; decide) rfl ?_
        refine v_aload_n F dX7_findName_61 1 rfl rfl ?_
        refine v_iload_n F dX7_findName_62 0 rfl rfl ?_
        have h := h (fun (t18 : Nat) (t19 : Int32) (S20 : PS) => Rf S20 a 6 → Rf S20 t18 6 → VV X (0, 0) S20 [(0, .ref a)] [.int t19, .ref t18] 86) (by
          intro t18 t19 S20 h r_a r_t18
          refine p_X7_216 F r_t18 h dX7_findName_86 (fun S22 h hE => ?_)
          have r_a := r_a.tr hE
          refine v_aload_n F dX7_findName_89 0 rfl rfl ?_
          refine v_dup F dX7_findName_90 rfl ?_
          refine g_X7_23 F r_a dX7_findName_91 ?_
          refine v_iconst (v := 1) F dX7_findName_94 (by decide) ?_
          refine v_iadd F dX7_findName_95 ?_
          refine p_X7_23 F r_a h dX7_findName_96 (fun S23 h hE => ?_)
          have r_a := r_a.tr hE
          refine v_goto (tgt := 17) F dX7_findName_99 (by decide) ?_
          exact v_sub [0] rfl (h r_a))
        refine v_if_eq (tgt := 85) F dX7_findName_63 (by decide) h (fun h => ?_) (fun h => ?_)
        · refine v_iconst (v := (-1)) F dX7_findName_85 (by decide) ?_
          exact v_sub [1] rfl (h r_a r_a)
        · refine v_aload_n F dX7_findName_66 1 rfl rfl ?_
          refine g_X7_216 F r_a dX7_findName_67 ?_
          refine v_iconst (v := 5) F dX7_findName_70 (by decide) ?_
          refine v_ishl F dX7_findName_71 ?_
          refine v_aload_n F dX7_findName_72 1 rfl rfl ?_
          refine v_cI0 (v_runV F k_X7_41 rfl (c_X7_next r_a h) r_a rfl rfl (Nat.le_of_ble_eq_true rfl) (by decide) (by decide) dX7_findName_73) ⟨rfl, rfl⟩ (fun r25 S24 h hE => ?_)
          have r_a := r_a.tr hE
          refine v_bipush (v := 97) F dX7_findName_76 (by decide) ?_
          refine v_isub F dX7_findName_78 ?_
          refine v_iconst (v := 1) F dX7_findName_79 (by decide) ?_
          refine v_iadd F dX7_findName_80 ?_
          refine v_ior F dX7_findName_81 ?_
          refine v_goto (tgt := 86) F dX7_findName_82 (by decide) ?_
          exact v_sub [1] rfl (h r_a r_a))
      refine v_icmp_ge (tgt := 59) F dX7_findName_52 (by decide) h (fun h => ?_) (fun h => ?_)
      · refine v_iconst (v := 0) F dX7_findName_59 (by decide) ?_
        exact v_sub [0] rfl (h r_a)
      · refine v_iconst (v := 1) F dX7_findName_55 (by decide) ?_
        refine v_goto (tgt := 60) F dX7_findName_56 (by decide) ?_
        exact v_sub [0] rfl (h r_a)
theorem dX7_indexOfParameter_0 : decode cX7_indexOfParameter 0 = .ok (.iconst 0, 1) := by decide +kernel
theorem dX7_indexOfParameter_1 : decode cX7_indexOfParameter 1 = .ok (.istore_n 1, 1) := by decide +kernel
theorem dX7_indexOfParameter_2 : decode cX7_indexOfParameter 2 = .ok (.iload_n 1, 1) := by decide +kernel
theorem dX7_indexOfParameter_3 : decode cX7_indexOfParameter 3 = .ok (.aload_n 0, 1) := by decide +kernel
theorem dX7_indexOfParameter_4 : decode cX7_indexOfParameter 4 = .ok (.getfield 34, 3) := by decide +kernel
theorem dX7_indexOfParameter_7 : decode cX7_indexOfParameter 7 = .ok (.if_icmp .ge 24, 3) := by decide +kernel
theorem dX7_indexOfParameter_10 : decode cX7_indexOfParameter 10 = .ok (.aload_n 0, 1) := by decide +kernel
theorem dX7_indexOfParameter_11 : decode cX7_indexOfParameter 11 = .ok (.getfield 19, 3) := by decide +kernel
theorem dX7_indexOfParameter_14 : decode cX7_indexOfParameter 14 = .ok (.iload_n 1, 1) := by decide +kernel
theorem dX7_indexOfParameter_15 : decode cX7_indexOfParameter 15 = .ok (.iaload, 1) := by decide +kernel
theorem dX7_indexOfParameter_16 : decode cX7_indexOfParameter 16 = .ok (.aload_n 0, 1) := by decide +kernel
theorem dX7_indexOfParameter_17 : decode cX7_indexOfParameter 17 = .ok (.getfield 216, 3) := by decide +kernel
theorem dX7_indexOfParameter_20 : decode cX7_indexOfParameter 20 = .ok (.if_icmp .ne 5, 3) := by decide +kernel
theorem dX7_indexOfParameter_23 : decode cX7_indexOfParameter 23 = .ok (.iload_n 1, 1) := by decide +kernel
theorem dX7_indexOfParameter_24 : decode cX7_indexOfParameter 24 = .ok (.ireturn, 1) := by decide +kernel
theorem dX7_indexOfParameter_25 : decode cX7_indexOfParameter 25 = .ok (.iinc 1 1, 3) := by decide +kernel
theorem dX7_indexOfParameter_28 : decode cX7_indexOfParameter 28 = .ok (.goto (-26), 3) := by decide +kernel
theorem dX7_indexOfParameter_31 : decode cX7_indexOfParameter 31 = .ok (.iconst (-1), 1) := by decide +kernel
theorem dX7_indexOfParameter_32 : decode cX7_indexOfParameter 32 = .ok (.ireturn, 1) := by decide +kernel
abbrev rm_X7_indexOfParameter : Room := { frames := 0, cells := 0, slots := 0, locals := 0 }
def wp_X7_indexOfParameter (a : Nat) (S : PS) (Q : Int32 → PS → Prop) : Prop :=
  (∀ P2_1 : Int32 → PS → Prop, (∀ (x1_2 : Int32) (S3 : PS),
 (if fI S3 64 a ≤ x1_2 then
 Q (-1) S3
 else
 (∃ b4, fR S3 63 a = some b4 ∧ (vp_in x1_2 (aN S3 b4) ∧ (if aI S3 26 b4 (x1_2).toNatClampNeg = fI S3 67 a then
 Q x1_2 S3
 else
 (∀ v5, v5 = x1_2 + 1 → P2_1 v5 S3)))))
 → P2_1 x1_2 S3) → P2_1 0 S)
set_option maxRecDepth 100000 in
set_option maxHeartbeats 4000000 in
theorem c_X7_indexOfParameter {l : Launch} {E : EE} {A : Nat → Prop} {a : Nat} {S : PS} {Q : Int32 → PS → Prop} (r_a : Rf S a 6) (h : wp_X7_indexOfParameter a S Q) : MtI l yX7_indexOfParameter (.code yX7_indexOfParameter cX7_indexOfParameter 2 (some .int)) rm_X7_indexOfParameter E A [.ref a] S Q := by
  refine MtI.of (by decide) (Nat.le_of_ble_eq_true rfl) (fun X F hQ hN => ?_)
  show VV X (0, 0) S [(0, .ref a)] [] 0
  unfold wp_X7_indexOfParameter at h
  refine v_iconst (v := 0) F dX7_indexOfParameter_0 (by decide) ?_
  refine v_istore_n (lv1 := [(1, .int 0), (0, .ref a)]) F dX7_indexOfParameter_1 rfl (by rw [hN]; decide) rfl ?_
  refine v_sub [1, 0] rfl ?_
  refine h (fun (x1_2 : Int32) (S3 : PS) => Rf S3 a 6 → VV X (0, 0) S3 [(0, .ref a), (1, .int x1_2)] [] 2) (fun x1_2 S3 h r_a => ?_) r_a
  refine v_iload_n F dX7_indexOfParameter_2 1 rfl rfl ?_
  refine v_aload_n F dX7_indexOfParameter_3 0 rfl rfl ?_
  refine g_X7_34 F r_a dX7_indexOfParameter_4 ?_
  refine v_icmp_ge (tgt := 31) F dX7_indexOfParameter_7 (by decide) h (fun h => ?_) (fun h => ?_)
  · refine v_iconst (v := (-1)) F dX7_indexOfParameter_31 (by decide) ?_
    exact v_iret F hQ h (by decide) dX7_indexOfParameter_32
  · refine v_aload_n F dX7_indexOfParameter_10 0 rfl rfl ?_
    refine g_X7_19 F r_a h dX7_indexOfParameter_11 (fun b4 r_b4 h => ?_)
    refine v_iload_n F dX7_indexOfParameter_14 1 rfl rfl ?_
    refine v_iald F r_b4 o_26 h dX7_indexOfParameter_15 (fun h => ?_)
    refine v_aload_n F dX7_indexOfParameter_16 0 rfl rfl ?_
    refine g_X7_216 F r_a dX7_indexOfParameter_17 ?_
    refine v_icmp_ne (tgt := 25) F dX7_indexOfParameter_20 (by decide) h (fun h => ?_) (fun h => ?_)
    · obtain ⟨v5, e_v5⟩ : ∃ y : Int32, y = x1_2 + 1 := ⟨_, rfl⟩
      have h := h v5 e_v5
      refine v_iinc (v := v5) (lv1 := [(1, .int v5), (0, .ref a)]) F dX7_indexOfParameter_25 (q := 1) rfl (by rw [e_v5]; rfl) (by rw [hN]; decide) rfl ?_
      refine v_goto (tgt := 2) F dX7_indexOfParameter_28 (by decide) ?_
      exact v_sub [1, 0] rfl (h r_a)
    · refine v_iload_n F dX7_indexOfParameter_23 1 rfl rfl ?_
      exact v_iret F hQ h (by decide) dX7_indexOfParameter_24
theorem dX7_newName_0 : decode cX7_newName 0 = .ok (.aload_n 0, 1) := by decide +kernel
theorem dX7_newName_1 : decode cX7_newName 1 = .ok (.getfield 216, 3) := by decide +kernel
theorem dX7_newName_4 : decode cX7_newName 4 = .ok (.iconst (-1), 1) := by decide +kernel
theorem dX7_newName_5 : decode cX7_newName 5 = .ok (.if_icmp .ne 7, 3) := by decide +kernel
theorem dX7_newName_8 : decode cX7_newName 8 = .ok (.iconst 1, 1) := by decide +kernel
theorem dX7_newName_9 : decode cX7_newName 9 = .ok (.goto 4, 3) := by decide +kernel
theorem dX7_newName_12 : decode cX7_newName 12 = .ok (.iconst 0, 1) := by decide +kernel
theorem dX7_newName_13 : decode cX7_newName 13 = .ok (.istore_n 3, 1) := by decide +kernel
theorem dX7_newName_14 : decode cX7_newName 14 = .ok (.aload_n 0, 1) := by decide +kernel
theorem dX7_newName_15 : decode cX7_newName 15 = .ok (.getfield 216, 3) := by decide +kernel
theorem dX7_newName_18 : decode cX7_newName 18 = .ok (.iload_n 1, 1) := by decide +kernel
theorem dX7_newName_19 : decode cX7_newName 19 = .ok (.if_icmp .eq 26, 3) := by decide +kernel
theorem dX7_newName_22 : decode cX7_newName 22 = .ok (.aload_n 0, 1) := by decide +kernel
theorem dX7_newName_23 : decode cX7_newName 23 = .ok (.getfield 9, 3) := by decide +kernel
theorem dX7_newName_26 : decode cX7_newName 26 = .ok (.aload_n 0, 1) := by decide +kernel
theorem dX7_newName_27 : decode cX7_newName 27 = .ok (.getfield 216, 3) := by decide +kernel
theorem dX7_newName_30 : decode cX7_newName 30 = .ok (.invokevirtual 238, 3) := by decide +kernel
theorem dX7_newName_33 : decode cX7_newName 33 = .ok (.iconst (-1), 1) := by decide +kernel
theorem dX7_newName_34 : decode cX7_newName 34 = .ok (.if_icmp .ne 11, 3) := by decide +kernel
theorem dX7_newName_37 : decode cX7_newName 37 = .ok (.aload_n 0, 1) := by decide +kernel
theorem dX7_newName_38 : decode cX7_newName 38 = .ok (.invokevirtual 241, 3) := by decide +kernel
theorem dX7_newName_41 : decode cX7_newName 41 = .ok (.iconst (-1), 1) := by decide +kernel
theorem dX7_newName_42 : decode cX7_newName 42 = .ok (.if_icmp .eq 7, 3) := by decide +kernel
theorem dX7_newName_45 : decode cX7_newName 45 = .ok (.iconst 1, 1) := by decide +kernel
theorem dX7_newName_46 : decode cX7_newName 46 = .ok (.goto 4, 3) := by decide +kernel
theorem dX7_newName_49 : decode cX7_newName 49 = .ok (.iconst 0, 1) := by decide +kernel
theorem dX7_newName_50 : decode cX7_newName 50 = .ok (.istore 4, 2) := by decide +kernel
theorem dX7_newName_52 : decode cX7_newName 52 = .ok (.iload 4, 2) := by decide +kernel
theorem dX7_newName_54 : decode cX7_newName 54 = .ok (.ifCond .eq 20, 3) := by decide +kernel
theorem dX7_newName_57 : decode cX7_newName 57 = .ok (.iload_n 3, 1) := by decide +kernel
theorem dX7_newName_58 : decode cX7_newName 58 = .ok (.ifCond .ne 16, 3) := by decide +kernel
theorem dX7_newName_61 : decode cX7_newName 61 = .ok (.aload_n 0, 1) := by decide +kernel
theorem dX7_newName_62 : decode cX7_newName 62 = .ok (.getfield 15, 3) := by decide +kernel
theorem dX7_newName_65 : decode cX7_newName 65 = .ok (.iconst 4, 1) := by decide +kernel
theorem dX7_newName_66 : decode cX7_newName 66 = .ok (.aload_n 0, 1) := by decide +kernel
theorem dX7_newName_67 : decode cX7_newName 67 = .ok (.getfield 213, 3) := by decide +kernel
theorem dX7_newName_70 : decode cX7_newName 70 = .ok (.invokevirtual 48, 3) := by decide +kernel
theorem dX7_newName_73 : decode cX7_newName 73 = .ok (.ireturn, 1) := by decide +kernel
theorem dX7_newName_74 : decode cX7_newName 74 = .ok (.iload_n 3, 1) := by decide +kernel
theorem dX7_newName_75 : decode cX7_newName 75 = .ok (.ifCond .ne 7, 3) := by decide +kernel
theorem dX7_newName_78 : decode cX7_newName 78 = .ok (.iload_n 2, 1) := by decide +kernel
theorem dX7_newName_79 : decode cX7_newName 79 = .ok (.ifCond .eq 18, 3) := by decide +kernel
theorem dX7_newName_82 : decode cX7_newName 82 = .ok (.aload_n 0, 1) := by decide +kernel
theorem dX7_newName_83 : decode cX7_newName 83 = .ok (.getfield 15, 3) := by decide +kernel
theorem dX7_newName_86 : decode cX7_newName 86 = .ok (.iconst 5, 1) := by decide +kernel
theorem dX7_newName_87 : decode cX7_newName 87 = .ok (.aload_n 0, 1) := by decide +kernel
theorem dX7_newName_88 : decode cX7_newName 88 = .ok (.getfield 213, 3) := by decide +kernel
theorem dX7_newName_91 : decode cX7_newName 91 = .ok (.invokevirtual 48, 3) := by decide +kernel
theorem dX7_newName_94 : decode cX7_newName 94 = .ok (.ifCond .eq 7, 3) := by decide +kernel
theorem dX7_newName_97 : decode cX7_newName 97 = .ok (.iconst 1, 1) := by decide +kernel
theorem dX7_newName_98 : decode cX7_newName 98 = .ok (.goto 4, 3) := by decide +kernel
theorem dX7_newName_101 : decode cX7_newName 101 = .ok (.iconst 0, 1) := by decide +kernel
theorem dX7_newName_102 : decode cX7_newName 102 = .ok (.ireturn, 1) := by decide +kernel
abbrev rm_X7_newName : Room := { frames := 1, cells := 0, slots := 0, locals := 22 }
def wp_X7_newName (a : Nat) (p1 : Int32) (p2 : Int32) (S : PS) (Q : Int32 → PS → Prop) : Prop :=
  (∀ K13_3 : Int32 → PS → Prop, (∀ (t1 : Int32) (S2 : PS),
 (∀ K50_6 : Int32 → PS → Prop, (∀ (t4 : Int32) (S5 : PS),
 (∀ K74_8 : PS → Prop, (∀ (S7 : PS),
 (∀ K82_10 : PS → Prop, (∀ (S9 : PS),
 (∃ b11, fR S9 59 a = some b11 ∧ wp_X0_tell b11 5 (fI S9 68 a) S9 (fun (r13 : Int32) (S12 : PS) => 
 (if r13 = 0 then
 Q 0 S12
 else
 Q 1 S12)))
 → K82_10 S9) →
 (if t1 = 0 then
 (if p2 = 0 then
 Q 1 S7
 else
 K82_10 S7)
 else
 K82_10 S7))
 → K74_8 S7) →
 (if t4 = 0 then
 K74_8 S5
 else
 (if t1 = 0 then
 (∃ b14, fR S5 59 a = some b14 ∧ wp_X0_tell b14 4 (fI S5 68 a) S5 (fun (r16 : Int32) (S15 : PS) => 
 Q r16 S15))
 else
 K74_8 S5)))
 → K50_6 t4 S5) →
 (if fI S2 67 a = p1 then
 K50_6 1 S2
 else
 (∃ b17, fR S2 58 a = some b17 ∧ wp_X6_indexOfName b17 (fI S2 67 a) S2 (fun (r19 : Int32) (S18 : PS) => 
 (if r19 = (-1) then
 wp_X7_indexOfParameter a S18 (fun (r21 : Int32) (S20 : PS) => 
 (if r21 = (-1) then
 K50_6 0 S20
 else
 K50_6 1 S20))
 else
 K50_6 1 S18)))))
 → K13_3 t1 S2) →
 (if fI S 67 a = (-1) then
 K13_3 1 S
 else
 K13_3 0 S))
set_option maxRecDepth 100000 in
set_option maxHeartbeats 4000000 in
theorem c_X7_newName {l : Launch} {E : EE} {A : Nat → Prop} {a : Nat} {p1 : Int32} {p2 : Int32} {S : PS} {Q : Int32 → PS → Prop} (r_a : Rf S a 6) (h : wp_X7_newName a p1 p2 S Q) : MtI l yX7_newName (.code yX7_newName cX7_newName 5 (some .boolean)) rm_X7_newName E A [.ref a, .int p1, .int p2] S (fun r S1 => nz r ∧ Q r S1) := by
  refine MtI.of (by decide) (Nat.le_of_ble_eq_true rfl) (fun X F hQ hN => ?_)
  show VV X (0, 0) S [(0, .ref a), (1, .int p1), (2, .int p2)] [] 0
  unfold wp_X7_newName at h
  refine v_aload_n F dX7_newName_0 0 rfl rfl ?_
  refine g_X7_216 F r_a dX7_newName_1 ?_
  refine v_iconst (v := (-1)) F dX7_newName_4 (by decide) ?_
  have h := h (fun (t1 : Int32) (S2 : PS) => Rf S2 a 6 → VV X (0, 0) S2 [(0, .ref a), (1, .int p1), (2, .int p2)] [.int t1] 13) (by
    intro t1 S2 h r_a
    refine v_istore_n (lv1 := [(3, .int t1), (0, .ref a), (1, .int p1), (2, .int p2)]) F dX7_newName_13 rfl (by rw [hN]; decide) rfl ?_
    refine v_aload_n F dX7_newName_14 1 rfl rfl ?_
    refine g_X7_216 F r_a dX7_newName_15 ?_
    refine v_iload_n F dX7_newName_18 2 rfl rfl ?_
    have h := h (fun (t4 : Int32) (S5 : PS) => Rf S5 a 6 → VV X (0, 0) S5 [(0, .ref a), (2, .int p2), (3, .int t1)] [.int t4] 50) (by
      intro t4 S5 h r_a
      refine v_istore (lv1 := [(4, .int t4), (0, .ref a), (2, .int p2), (3, .int t1)]) F dX7_newName_50 (by rw [hN]; decide) rfl ?_
      refine v_iload F dX7_newName_52 0 rfl ?_
      have h := h (fun (S7 : PS) => Rf S7 a 6 → VV X (0, 0) S7 [(0, .ref a), (2, .int p2), (3, .int t1)] [] 74) (by
        intro S7 h r_a
        refine v_iload_n F dX7_newName_74 2 rfl rfl ?_
        have h := h (fun (S9 : PS) => Rf S9 a 6 → VV X (0, 0) S9 [(0, .ref a)] [] 82) (by
          intro S9 h r_a
          refine v_aload_n F dX7_newName_82 0 rfl rfl ?_
          refine g_X7_15 F r_a h dX7_newName_83 (fun b11 r_b11 h => ?_)
          refine v_iconst (v := 5) F dX7_newName_86 (by decide) ?_
          refine v_aload_n F dX7_newName_87 0 rfl rfl ?_
          refine g_X7_213 F r_a dX7_newName_88 ?_
          refine v_cI0 (v_runV F k_X7_48 rfl (c_X0_tell r_b11 h) r_b11 rfl rfl (Nat.le_of_ble_eq_true rfl) (by decide) (by decide) dX7_newName_91) ⟨rfl, rfl⟩ (fun r13 S12 h hE => ?_)
          obtain ⟨nz_r13, h⟩ := h
          have r_a := r_a.tr hE
          refine v_if_eq (tgt := 101) F dX7_newName_94 (by decide) h (fun h => ?_) (fun h => ?_)
          · refine v_iconst (v := 0) F dX7_newName_101 (by decide) ?_
            exact v_zret F hQ (by decide) ⟨nz0, h⟩ (by decide) dX7_newName_102
          · refine v_iconst (v := 1) F dX7_newName_97 (by decide) ?_
            refine v_goto (tgt := 102) F dX7_newName_98 (by decide) ?_
            exact v_zret F hQ (by decide) ⟨nz1, h⟩ (by decide) dX7_newName_102)
        refine v_if_ne (tgt := 82) F dX7_newName_75 (by decide) h (fun h => ?_) (fun h => ?_)
        · exact v_sub [0] rfl (h r_a)
        · refine v_iload_n F dX7_newName_78 1 rfl rfl ?_
          refine v_if_eq (tgt := 97) F dX7_newName_79 (by decide) h (fun h => ?_) (fun h => ?_)
          · refine v_iconst (v := 1) F dX7_newName_97 (by decide) ?_
            refine v_goto (tgt := 102) F dX7_newName_98 (by decide) ?_
            exact v_zret F hQ (by decide) ⟨nz1, h⟩ (by decide) dX7_newName_102
          · exact v_sub [0] rfl (h r_a))
      refine v_if_eq (tgt := 74) F dX7_newName_54 (by decide) h (fun h => ?_) (fun h => ?_)
      · exact v_sub [1, 2, 3] rfl (h r_a)
      · refine v_iload_n F dX7_newName_57 3 rfl rfl ?_
        refine v_if_ne (tgt := 74) F dX7_newName_58 (by decide) h (fun h => ?_) (fun h => ?_)
        · exact v_sub [1, 2, 3] rfl (h r_a)
        · refine v_aload_n F dX7_newName_61 1 rfl rfl ?_
          refine g_X7_15 F r_a h dX7_newName_62 (fun b14 r_b14 h => ?_)
          refine v_iconst (v := 4) F dX7_newName_65 (by decide) ?_
          refine v_aload_n F dX7_newName_66 1 rfl rfl ?_
          refine g_X7_213 F r_a dX7_newName_67 ?_
          refine v_cI0 (v_runV F k_X7_48 rfl (c_X0_tell r_b14 h) r_b14 rfl rfl (Nat.le_of_ble_eq_true rfl) (by decide) (by decide) dX7_newName_70) ⟨rfl, rfl⟩ (fun r16 S15 h hE => ?_)
          obtain ⟨nz_r16, h⟩ := h
          have r_a := r_a.tr hE
          exact v_zret F hQ nz_r16 ⟨nz_r16, h⟩ (by decide) dX7_newName_73)
    refine v_icmp_eq (tgt := 45) F dX7_newName_19 (by decide) h (fun h => ?_) (fun h => ?_)
    · refine v_iconst (v := 1) F dX7_newName_45 (by decide) ?_
      refine v_goto (tgt := 50) F dX7_newName_46 (by decide) ?_
      exact v_sub [1, 3, 0] rfl (h r_a)
    · refine v_aload_n F dX7_newName_22 1 rfl rfl ?_
      refine g_X7_9 F r_a h dX7_newName_23 (fun b17 r_b17 h => ?_)
      refine v_aload_n F dX7_newName_26 1 rfl rfl ?_
      refine g_X7_216 F r_a dX7_newName_27 ?_
      refine v_cI0 (v_runV F k_X7_238 rfl (c_X6_indexOfName r_b17 h) r_b17 rfl rfl (Nat.le_of_ble_eq_true rfl) (by decide) (by decide) dX7_newName_30) ⟨rfl, rfl⟩ (fun r19 S18 h hE => ?_)
      have r_a := r_a.tr hE
      refine v_iconst (v := (-1)) F dX7_newName_33 (by decide) ?_
      refine v_icmp_ne (tgt := 45) F dX7_newName_34 (by decide) h (fun h => ?_) (fun h => ?_)
      · refine v_iconst (v := 1) F dX7_newName_45 (by decide) ?_
        refine v_goto (tgt := 50) F dX7_newName_46 (by decide) ?_
        exact v_sub [1, 3, 0] rfl (h r_a)
      · refine v_aload_n F dX7_newName_37 1 rfl rfl ?_
        refine v_cI0 (v_runV F k_X7_241 rfl (c_X7_indexOfParameter r_a h) r_a rfl rfl (Nat.le_of_ble_eq_true rfl) (by decide) (by decide) dX7_newName_38) ⟨rfl, rfl⟩ (fun r21 S20 h hE => ?_)
        have r_a := r_a.tr hE
        refine v_iconst (v := (-1)) F dX7_newName_41 (by decide) ?_
        refine v_icmp_eq (tgt := 49) F dX7_newName_42 (by decide) h (fun h => ?_) (fun h => ?_)
        · refine v_iconst (v := 0) F dX7_newName_49 (by decide) ?_
          exact v_sub [1, 3, 0] rfl (h r_a)
        · refine v_iconst (v := 1) F dX7_newName_45 (by decide) ?_
          refine v_goto (tgt := 50) F dX7_newName_46 (by decide) ?_
          exact v_sub [1, 3, 0] rfl (h r_a))
  refine v_icmp_ne (tgt := 12) F dX7_newName_5 (by decide) h (fun h => ?_) (fun h => ?_)
  · refine v_iconst (v := 0) F dX7_newName_12 (by decide) ?_
    exact v_sub [0, 1, 2] rfl (h r_a)
  · refine v_iconst (v := 1) F dX7_newName_8 (by decide) ?_
    refine v_goto (tgt := 13) F dX7_newName_9 (by decide) ?_
    exact v_sub [0, 1, 2] rfl (h r_a)
theorem dX7_findParameters_0 : decode cX7_findParameters 0 = .ok (.iconst 0, 1) := by decide +kernel
theorem dX7_findParameters_1 : decode cX7_findParameters 1 = .ok (.istore_n 2, 1) := by decide +kernel
theorem dX7_findParameters_2 : decode cX7_findParameters 2 = .ok (.iload_n 2, 1) := by decide +kernel
theorem dX7_findParameters_3 : decode cX7_findParameters 3 = .ok (.iconst 4, 1) := by decide +kernel
theorem dX7_findParameters_4 : decode cX7_findParameters 4 = .ok (.if_icmp .gt 74, 3) := by decide +kernel
theorem dX7_findParameters_7 : decode cX7_findParameters 7 = .ok (.aload_n 0, 1) := by decide +kernel
theorem dX7_findParameters_8 : decode cX7_findParameters 8 = .ok (.invokevirtual 67, 3) := by decide +kernel
theorem dX7_findParameters_11 : decode cX7_findParameters 11 = .ok (.aload_n 0, 1) := by decide +kernel
theorem dX7_findParameters_12 : decode cX7_findParameters 12 = .ok (.invokevirtual 41, 3) := by decide +kernel
theorem dX7_findParameters_15 : decode cX7_findParameters 15 = .ok (.invokestatic 219, 3) := by decide +kernel
theorem dX7_findParameters_18 : decode cX7_findParameters 18 = .ok (.ifCond .ne 5, 3) := by decide +kernel
theorem dX7_findParameters_21 : decode cX7_findParameters 21 = .ok (.iconst 1, 1) := by decide +kernel
theorem dX7_findParameters_22 : decode cX7_findParameters 22 = .ok (.ireturn, 1) := by decide +kernel
theorem dX7_findParameters_23 : decode cX7_findParameters 23 = .ok (.aload_n 0, 1) := by decide +kernel
theorem dX7_findParameters_24 : decode cX7_findParameters 24 = .ok (.invokevirtual 225, 3) := by decide +kernel
theorem dX7_findParameters_27 : decode cX7_findParameters 27 = .ok (.ifCond .eq 21, 3) := by decide +kernel
theorem dX7_findParameters_30 : decode cX7_findParameters 30 = .ok (.aload_n 0, 1) := by decide +kernel
theorem dX7_findParameters_31 : decode cX7_findParameters 31 = .ok (.iload_n 1, 1) := by decide +kernel
theorem dX7_findParameters_32 : decode cX7_findParameters 32 = .ok (.iload_n 2, 1) := by decide +kernel
theorem dX7_findParameters_33 : decode cX7_findParameters 33 = .ok (.iconst 4, 1) := by decide +kernel
theorem dX7_findParameters_34 : decode cX7_findParameters 34 = .ok (.if_icmp .ne 7, 3) := by decide +kernel
theorem dX7_findParameters_37 : decode cX7_findParameters 37 = .ok (.iconst 1, 1) := by decide +kernel
theorem dX7_findParameters_38 : decode cX7_findParameters 38 = .ok (.goto 4, 3) := by decide +kernel
theorem dX7_findParameters_41 : decode cX7_findParameters 41 = .ok (.iconst 0, 1) := by decide +kernel
theorem dX7_findParameters_42 : decode cX7_findParameters 42 = .ok (.invokevirtual 228, 3) := by decide +kernel
theorem dX7_findParameters_45 : decode cX7_findParameters 45 = .ok (.ifCond .ne 5, 3) := by decide +kernel
theorem dX7_findParameters_48 : decode cX7_findParameters 48 = .ok (.iconst 0, 1) := by decide +kernel
theorem dX7_findParameters_49 : decode cX7_findParameters 49 = .ok (.ireturn, 1) := by decide +kernel
theorem dX7_findParameters_50 : decode cX7_findParameters 50 = .ok (.iload_n 2, 1) := by decide +kernel
theorem dX7_findParameters_51 : decode cX7_findParameters 51 = .ok (.iconst 4, 1) := by decide +kernel
theorem dX7_findParameters_52 : decode cX7_findParameters 52 = .ok (.if_icmp .ge 20, 3) := by decide +kernel
theorem dX7_findParameters_55 : decode cX7_findParameters 55 = .ok (.aload_n 0, 1) := by decide +kernel
theorem dX7_findParameters_56 : decode cX7_findParameters 56 = .ok (.getfield 19, 3) := by decide +kernel
theorem dX7_findParameters_59 : decode cX7_findParameters 59 = .ok (.iload_n 2, 1) := by decide +kernel
theorem dX7_findParameters_60 : decode cX7_findParameters 60 = .ok (.aload_n 0, 1) := by decide +kernel
theorem dX7_findParameters_61 : decode cX7_findParameters 61 = .ok (.getfield 216, 3) := by decide +kernel
theorem dX7_findParameters_64 : decode cX7_findParameters 64 = .ok (.iastore, 1) := by decide +kernel
theorem dX7_findParameters_65 : decode cX7_findParameters 65 = .ok (.aload_n 0, 1) := by decide +kernel
theorem dX7_findParameters_66 : decode cX7_findParameters 66 = .ok (.iload_n 2, 1) := by decide +kernel
theorem dX7_findParameters_67 : decode cX7_findParameters 67 = .ok (.iconst 1, 1) := by decide +kernel
theorem dX7_findParameters_68 : decode cX7_findParameters 68 = .ok (.iadd, 1) := by decide +kernel
theorem dX7_findParameters_69 : decode cX7_findParameters 69 = .ok (.putfield 34, 3) := by decide +kernel
theorem dX7_findParameters_72 : decode cX7_findParameters 72 = .ok (.iinc 2 1, 3) := by decide +kernel
theorem dX7_findParameters_75 : decode cX7_findParameters 75 = .ok (.goto (-73), 3) := by decide +kernel
theorem dX7_findParameters_78 : decode cX7_findParameters 78 = .ok (.aload_n 0, 1) := by decide +kernel
theorem dX7_findParameters_79 : decode cX7_findParameters 79 = .ok (.invokevirtual 45, 3) := by decide +kernel
theorem dX7_findParameters_82 : decode cX7_findParameters 82 = .ok (.ireturn, 1) := by decide +kernel
abbrev rm_X7_findParameters : Room := { frames := 3, cells := 0, slots := 0, locals := 64 }
def wp_X7_findParameters (a : Nat) (p1 : Int32) (S : PS) (Q : Int32 → PS → Prop) : Prop :=
  (∀ P2_1 : Int32 → PS → Prop, (∀ (x2_2 : Int32) (S3 : PS),
 (if 4 < x2_2 then
 wp_X7_refuse a S3 (fun (r5 : Int32) (S4 : PS) => 
 Q r5 S4)
 else
 wp_X7_skipBlanks a S3 (fun (S6 : PS) => 
 wp_X7_next a S6 (fun (r8 : Int32) (S7 : PS) => 
 wp_X7_isNameLetter r8 S7 (fun (r10 : Int32) (S9 : PS) => 
 (if r10 = 0 then
 Q 1 S9
 else
 wp_X7_findName a S9 (fun (r12 : Int32) (S11 : PS) => 
 (if r12 = 0 then
 Q 0 S11
 else
 (∀ K42_17 : Nat → Int32 → Int32 → PS → Prop, (∀ (t13 : Nat) (t14 : Int32) (t15 : Int32) (S16 : PS),
 wp_X7_newName t13 t14 t15 S16 (fun (r19 : Int32) (S18 : PS) => 
 (if r19 = 0 then
 Q 0 S18
 else
 (∀ K72_21 : PS → Prop, (∀ (S20 : PS),
 (∀ v22, v22 = x2_2 + 1 → P2_1 v22 S20)
 → K72_21 S20) →
 (if 4 ≤ x2_2 then
 K72_21 S18
 else
 (∃ b23, fR S18 63 a = some b23 ∧ (vp_in x2_2 (aN S18 b23) ∧ ∀ S24, S24 = wI S18 26 b23 (x2_2).toNatClampNeg (fI S18 67 a) → (∀ S25, S25 = sI S24 64 a (x2_2 + 1) → K72_21 S25)))))))
 → K42_17 t13 t14 t15 S16) →
 (if x2_2 = 4 then
 K42_17 a p1 1 S11
 else
 K42_17 a p1 0 S11)))))))))
 → P2_1 x2_2 S3) → P2_1 0 S)
set_option maxRecDepth 100000 in
set_option maxHeartbeats 4000000 in
theorem c_X7_findParameters {l : Launch} {E : EE} {A : Nat → Prop} {a : Nat} {p1 : Int32} {S : PS} {Q : Int32 → PS → Prop} (r_a : Rf S a 6) (h : wp_X7_findParameters a p1 S Q) : MtI l yX7_findParameters (.code yX7_findParameters cX7_findParameters 3 (some .boolean)) rm_X7_findParameters E A [.ref a, .int p1] S (fun r S1 => nz r ∧ Q r S1) := by
  refine MtI.of (by decide) (Nat.le_of_ble_eq_true rfl) (fun X F hQ hN => ?_)
  show VV X (0, 0) S [(0, .ref a), (1, .int p1)] [] 0
  unfold wp_X7_findParameters at h
  refine v_iconst (v := 0) F dX7_findParameters_0 (by decide) ?_
  refine v_istore_n (lv1 := [(2, .int 0), (0, .ref a), (1, .int p1)]) F dX7_findParameters_1 rfl (by rw [hN]; decide) rfl ?_
  refine v_sub [1, 2, 0] rfl ?_
  refine h (fun (x2_2 : Int32) (S3 : PS) => Rf S3 a 6 → VV X (0, 0) S3 [(0, .ref a), (1, .int p1), (2, .int x2_2)] [] 2) (fun x2_2 S3 h r_a => ?_) r_a
  refine v_iload_n F dX7_findParameters_2 2 rfl rfl ?_
  refine v_iconst (v := 4) F dX7_findParameters_3 (by decide) ?_
  refine v_icmp_gt (tgt := 78) F dX7_findParameters_4 (by decide) h (fun h => ?_) (fun h => ?_)
  · refine v_aload_n F dX7_findParameters_78 0 rfl rfl ?_
    refine v_cI0 (v_runV F k_X7_45 rfl (c_X7_refuse r_a h) r_a rfl rfl (Nat.le_of_ble_eq_true rfl) (by decide) (by decide) dX7_findParameters_79) ⟨rfl, rfl⟩ (fun r5 S4 h hE => ?_)
    obtain ⟨nz_r5, h⟩ := h
    have r_a := r_a.tr hE
    exact v_zret F hQ nz_r5 ⟨nz_r5, h⟩ (by decide) dX7_findParameters_82
  · refine v_aload_n F dX7_findParameters_7 0 rfl rfl ?_
    refine v_cV0 (v_runV F k_X7_67 rfl (c_X7_skipBlanks r_a h) r_a rfl rfl (Nat.le_of_ble_eq_true rfl) (by decide) (by decide) dX7_findParameters_8) ⟨rfl, rfl⟩ (fun  S6 h hE => ?_)
    have r_a := r_a.tr hE
    refine v_aload_n F dX7_findParameters_11 0 rfl rfl ?_
    refine v_cI0 (v_runV F k_X7_41 rfl (c_X7_next r_a h) r_a rfl rfl (Nat.le_of_ble_eq_true rfl) (by decide) (by decide) dX7_findParameters_12) ⟨rfl, rfl⟩ (fun r8 S7 h hE => ?_)
    have r_a := r_a.tr hE
    refine v_cI0 (v_runS F k_X7_219 (c_X7_isNameLetter h) rfl rfl (Nat.le_of_ble_eq_true rfl) (by decide) (by decide) dX7_findParameters_15) ⟨rfl, rfl⟩ (fun r10 S9 h hE => ?_)
    obtain ⟨nz_r10, h⟩ := h
    have r_a := r_a.tr hE
    refine v_if_ne (tgt := 23) F dX7_findParameters_18 (by decide) h (fun h => ?_) (fun h => ?_)
    · refine v_aload_n F dX7_findParameters_23 0 rfl rfl ?_
      refine v_cI0 (v_runV F k_X7_225 rfl (c_X7_findName r_a h) r_a rfl rfl (Nat.le_of_ble_eq_true rfl) (by decide) (by decide) dX7_findParameters_24) ⟨rfl, rfl⟩ (fun r12 S11 h hE => ?_)
      obtain ⟨nz_r12, h⟩ := h
      have r_a := r_a.tr hE
      refine v_if_eq (tgt := 48) F dX7_findParameters_27 (by decide) h (fun h => ?_) (fun h => ?_)
      · refine v_iconst (v := 0) F dX7_findParameters_48 (by decide) ?_
        exact v_zret F hQ (by decide) ⟨nz0, h⟩ (by decide) dX7_findParameters_49
      · refine v_aload_n F dX7_findParameters_30 0 rfl rfl ?_
        refine v_iload_n F dX7_findParameters_31 1 rfl rfl ?_
        refine v_iload_n F dX7_findParameters_32 2 rfl rfl ?_
        refine v_iconst (v := 4) F dX7_findParameters_33 (by decide) ?_
        have h := h (fun (t13 : Nat) (t14 : Int32) (t15 : Int32) (S16 : PS) => Rf S16 a 6 → Rf S16 t13 6 → VV X (0, 0) S16 [(0, .ref a), (1, .int p1), (2, .int x2_2)] [.int t15, .int t14, .ref t13] 42) (by
          intro t13 t14 t15 S16 h r_a r_t13
          refine v_cI0 (v_runV F k_X7_228 rfl (c_X7_newName r_t13 h) r_t13 rfl rfl (Nat.le_of_ble_eq_true rfl) (by decide) (by decide) dX7_findParameters_42) ⟨rfl, rfl⟩ (fun r19 S18 h hE => ?_)
          obtain ⟨nz_r19, h⟩ := h
          have r_a := r_a.tr hE
          refine v_if_ne (tgt := 50) F dX7_findParameters_45 (by decide) h (fun h => ?_) (fun h => ?_)
          · refine v_iload_n F dX7_findParameters_50 2 rfl rfl ?_
            refine v_iconst (v := 4) F dX7_findParameters_51 (by decide) ?_
            have h := h (fun (S20 : PS) => Rf S20 a 6 → VV X (0, 0) S20 [(0, .ref a), (1, .int p1), (2, .int x2_2)] [] 72) (by
              intro S20 h r_a
              obtain ⟨v22, e_v22⟩ : ∃ y : Int32, y = x2_2 + 1 := ⟨_, rfl⟩
              have h := h v22 e_v22
              refine v_iinc (v := v22) (lv1 := [(2, .int v22), (0, .ref a), (1, .int p1)]) F dX7_findParameters_72 (q := 2) rfl (by rw [e_v22]; rfl) (by rw [hN]; decide) rfl ?_
              refine v_goto (tgt := 2) F dX7_findParameters_75 (by decide) ?_
              exact v_sub [1, 2, 0] rfl (h r_a))
            refine v_icmp_ge (tgt := 72) F dX7_findParameters_52 (by decide) h (fun h => ?_) (fun h => ?_)
            · exact v_sub [0, 1, 2] rfl (h r_a)
            · refine v_aload_n F dX7_findParameters_55 0 rfl rfl ?_
              refine g_X7_19 F r_a h dX7_findParameters_56 (fun b23 r_b23 h => ?_)
              refine v_iload_n F dX7_findParameters_59 2 rfl rfl ?_
              refine v_aload_n F dX7_findParameters_60 0 rfl rfl ?_
              refine g_X7_216 F r_a dX7_findParameters_61 ?_
              refine v_iast F r_b23 o_26 h dX7_findParameters_64 (fun S24 h hE => ?_)
              have r_a := r_a.tr hE
              refine v_aload_n F dX7_findParameters_65 0 rfl rfl ?_
              refine v_iload_n F dX7_findParameters_66 2 rfl rfl ?_
              refine v_iconst (v := 1) F dX7_findParameters_67 (by decide) ?_
              refine v_iadd F dX7_findParameters_68 ?_
              refine p_X7_34 F r_a h dX7_findParameters_69 (fun S25 h hE => ?_)
              have r_a := r_a.tr hE
              exact v_sub [0, 1, 2] rfl (h r_a)
          · refine v_iconst (v := 0) F dX7_findParameters_48 (by decide) ?_
            exact v_zret F hQ (by decide) ⟨nz0, h⟩ (by decide) dX7_findParameters_49)
        refine v_icmp_ne (tgt := 41) F dX7_findParameters_34 (by decide) h (fun h => ?_) (fun h => ?_)
        · refine v_iconst (v := 0) F dX7_findParameters_41 (by decide) ?_
          exact v_sub [0, 1, 2] rfl (h r_a r_a)
        · refine v_iconst (v := 1) F dX7_findParameters_37 (by decide) ?_
          refine v_goto (tgt := 42) F dX7_findParameters_38 (by decide) ?_
          exact v_sub [0, 1, 2] rfl (h r_a r_a)
    · refine v_iconst (v := 1) F dX7_findParameters_21 (by decide) ?_
      exact v_zret F hQ (by decide) ⟨nz1, h⟩ (by decide) dX7_findParameters_22
