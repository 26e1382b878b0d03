theorem dX0_init_0 : decode cX0_init 0 = .ok (.aload_n 0, 1) := by decide +kernel
theorem dX0_init_1 : decode cX0_init 1 = .ok (.invokespecial 1, 3) := by decide +kernel
theorem dX0_init_4 : decode cX0_init 4 = .ok (.return_, 1) := by decide +kernel
abbrev rm_X0_init : Room := { frames := 1, cells := 0, slots := 0, locals := 60 }
def wp_X0_init (a : Nat) (S : PS) (Q : PS → Prop) : Prop :=
  Q S
set_option maxRecDepth 100000 in
set_option maxHeartbeats 4000000 in
theorem c_X0_init {l : Launch} {E : EE} {A : Nat → Prop} {a : Nat} {S : PS} {Q : PS → Prop} (r_a : Rf S a 0) (h : wp_X0_init a S Q) : MtV l yX0_init (.code yX0_init cX0_init 1 none) rm_X0_init E A [.ref a] S Q := by
  refine MtV.of2 (by decide) (Nat.le_of_ble_eq_true rfl) (fun X F hQ hX => ?_)
  show VV X (0, 0) S [(0, .ref a)] [] 0
  obtain ⟨hXl, hXE, hXA, hN, hnm⟩ := hX
  subst hXE
  subst hXA
  subst hXl
  unfold wp_X0_init at h
  refine v_aload_n F dX0_init_0 0 rfl rfl ?_
  refine v_obj F ko_X0_1 ko_i ko_c (by decide) (Nat.le_of_ble_eq_true rfl) dX0_init_1 ?_
  exact v_vret F hQ h (by decide) dX0_init_4
theorem dX1_init_0 : decode cX1_init 0 = .ok (.aload_n 0, 1) := by decide +kernel
theorem dX1_init_1 : decode cX1_init 1 = .ok (.invokespecial 1, 3) := by decide +kernel
theorem dX1_init_4 : decode cX1_init 4 = .ok (.return_, 1) := by decide +kernel
abbrev rm_X1_init : Room := { frames := 1, cells := 0, slots := 0, locals := 60 }
def wp_X1_init (a : Nat) (S : PS) (Q : PS → Prop) : Prop :=
  Q S
set_option maxRecDepth 100000 in
set_option maxHeartbeats 4000000 in
theorem c_X1_init {l : Launch} {E : EE} {A : Nat → Prop} {a : Nat} {S : PS} {Q : PS → Prop} (r_a : Rf S a 1) (h : wp_X1_init a S Q) : MtV l yX1_init (.code yX1_init cX1_init 1 none) rm_X1_init E A [.ref a] S Q := by
  refine MtV.of2 (by decide) (Nat.le_of_ble_eq_true rfl) (fun X F hQ hX => ?_)
  show VV X (0, 0) S [(0, .ref a)] [] 0
  obtain ⟨hXl, hXE, hXA, hN, hnm⟩ := hX
  subst hXE
  subst hXA
  subst hXl
  unfold wp_X1_init at h
  refine v_aload_n F dX1_init_0 0 rfl rfl ?_
  refine v_obj F ko_X1_1 ko_i ko_c (by decide) (Nat.le_of_ble_eq_true rfl) dX1_init_1 ?_
  exact v_vret F hQ h (by decide) dX1_init_4
theorem dX2_init_0 : decode cX2_init 0 = .ok (.aload_n 0, 1) := by decide +kernel
theorem dX2_init_1 : decode cX2_init 1 = .ok (.invokespecial 3, 3) := by decide +kernel
theorem dX2_init_4 : decode cX2_init 4 = .ok (.aload_n 0, 1) := by decide +kernel
theorem dX2_init_5 : decode cX2_init 5 = .ok (.bipush 40, 2) := by decide +kernel
theorem dX2_init_7 : decode cX2_init 7 = .ok (.newarray .long, 2) := by decide +kernel
theorem dX2_init_9 : decode cX2_init 9 = .ok (.putfield 9, 3) := by decide +kernel
theorem dX2_init_12 : decode cX2_init 12 = .ok (.aload_n 0, 1) := by decide +kernel
theorem dX2_init_13 : decode cX2_init 13 = .ok (.bipush 40, 2) := by decide +kernel
theorem dX2_init_15 : decode cX2_init 15 = .ok (.newarray .int, 2) := by decide +kernel
theorem dX2_init_17 : decode cX2_init 17 = .ok (.putfield 15, 3) := by decide +kernel
theorem dX2_init_20 : decode cX2_init 20 = .ok (.aload_n 0, 1) := by decide +kernel
theorem dX2_init_21 : decode cX2_init 21 = .ok (.bipush 40, 2) := by decide +kernel
theorem dX2_init_23 : decode cX2_init 23 = .ok (.newarray .int, 2) := by decide +kernel
theorem dX2_init_25 : decode cX2_init 25 = .ok (.putfield 19, 3) := by decide +kernel
theorem dX2_init_28 : decode cX2_init 28 = .ok (.aload_n 0, 1) := by decide +kernel
theorem dX2_init_29 : decode cX2_init 29 = .ok (.iconst 1, 1) := by decide +kernel
theorem dX2_init_30 : decode cX2_init 30 = .ok (.putfield 22, 3) := by decide +kernel
theorem dX2_init_33 : decode cX2_init 33 = .ok (.aload_n 0, 1) := by decide +kernel
theorem dX2_init_34 : decode cX2_init 34 = .ok (.getfield 15, 3) := by decide +kernel
theorem dX2_init_37 : decode cX2_init 37 = .ok (.iconst 0, 1) := by decide +kernel
theorem dX2_init_38 : decode cX2_init 38 = .ok (.iconst 4, 1) := by decide +kernel
theorem dX2_init_39 : decode cX2_init 39 = .ok (.iastore, 1) := by decide +kernel
theorem dX2_init_40 : decode cX2_init 40 = .ok (.aload_n 0, 1) := by decide +kernel
theorem dX2_init_41 : decode cX2_init 41 = .ok (.getfield 19, 3) := by decide +kernel
theorem dX2_init_44 : decode cX2_init 44 = .ok (.iconst 0, 1) := by decide +kernel
theorem dX2_init_45 : decode cX2_init 45 = .ok (.iconst 4, 1) := by decide +kernel
theorem dX2_init_46 : decode cX2_init 46 = .ok (.iastore, 1) := by decide +kernel
theorem dX2_init_47 : decode cX2_init 47 = .ok (.return_, 1) := by decide +kernel
abbrev rm_X2_init : Room := { frames := 1, cells := 3, slots := 120, locals := 60 }
def wp_X2_init (a : Nat) (S : PS) (Q : PS → Prop) : Prop :=
  (∀ q1, q1 ∉ pL S → ∀ S2, S2 = nA S 10 q1 40 → (∀ S3, S3 = sR S2 18 a (some q1) → (∀ q4, q4 ∉ pL S3 → ∀ S5, S5 = nA S3 11 q4 40 → (∀ S6, S6 = sR S5 19 a (some q4) → (∀ q7, q7 ∉ pL S6 → ∀ S8, S8 = nA S6 12 q7 40 → (∀ S9, S9 = sR S8 20 a (some q7) → (∀ S10, S10 = sI S9 17 a 1 → (∃ b11, fR S10 19 a = some b11 ∧ (vp_in 0 (aN S10 b11) ∧ ∀ S12, S12 = wI S10 11 b11 (0 : Int32).toNatClampNeg 4 → (∃ b13, fR S12 20 a = some b13 ∧ (vp_in 0 (aN S12 b13) ∧ ∀ S14, S14 = wI S12 12 b13 (0 : Int32).toNatClampNeg 4 → Q S14)))))))))))
set_option maxRecDepth 100000 in
set_option maxHeartbeats 4000000 in
theorem c_X2_init {l : Launch} {E : EE} {A : Nat → Prop} {a : Nat} {S : PS} {Q : PS → Prop} (r_a : Rf S a 2) (h : wp_X2_init a S Q) : MtV l yX2_init (.code yX2_init cX2_init 1 none) rm_X2_init E A [.ref a] S Q := by
  refine MtV.of2 (by decide) (Nat.le_of_ble_eq_true rfl) (fun X F hQ hX => ?_)
  show VV X (0, 0) S [(0, .ref a)] [] 0
  obtain ⟨hXl, hXE, hXA, hN, hnm⟩ := hX
  subst hXE
  subst hXA
  subst hXl
  unfold wp_X2_init at h
  refine v_aload_n F dX2_init_0 0 rfl rfl ?_
  refine v_obj F ko_X2_3 ko_i ko_c (by decide) (Nat.le_of_ble_eq_true rfl) dX2_init_1 ?_
  refine v_aload_n F dX2_init_4 0 rfl rfl ?_
  refine v_bipush (v := 40) F dX2_init_5 (by decide) ?_
  refine na_J (r := 10) (N := 40) F (by decide) rfl (by decide) (by decide) (by decide) (by decide) dX2_init_7 h (fun q1 S2 h hE r_q1 => v_widen (k := (1, 40)) (by decide) ?_)
  have r_a := r_a.tr hE
  refine pf_X2_9 F hnm r_a r_q1 h dX2_init_9 (fun S3 h hE => ?_)
  have r_a := r_a.tr hE
  refine v_aload_n F dX2_init_12 0 rfl rfl ?_
  refine v_bipush (v := 40) F dX2_init_13 (by decide) ?_
  refine na_I (r := 11) (N := 40) F (by decide) rfl (by decide) (by decide) (by decide) (by decide) dX2_init_15 h (fun q4 S5 h hE r_q4 => v_widen (k := (2, 80)) (by decide) ?_)
  have r_a := r_a.tr hE
  refine pf_X2_15 F hnm r_a r_q4 h dX2_init_17 (fun S6 h hE => ?_)
  have r_a := r_a.tr hE
  refine v_aload_n F dX2_init_20 0 rfl rfl ?_
  refine v_bipush (v := 40) F dX2_init_21 (by decide) ?_
  refine na_I (r := 12) (N := 40) F (by decide) rfl (by decide) (by decide) (by decide) (by decide) dX2_init_23 h (fun q7 S8 h hE r_q7 => v_widen (k := (3, 120)) (by decide) ?_)
  have r_a := r_a.tr hE
  refine pf_X2_19 F hnm r_a r_q7 h dX2_init_25 (fun S9 h hE => ?_)
  have r_a := r_a.tr hE
  refine v_aload_n F dX2_init_28 0 rfl rfl ?_
  refine v_iconst (v := 1) F dX2_init_29 (by decide) ?_
  refine p_X2_22 F r_a h dX2_init_30 (fun S10 h hE => ?_)
  have r_a := r_a.tr hE
  refine v_aload_n F dX2_init_33 0 rfl rfl ?_
  refine g_X2_15 F r_a h dX2_init_34 (fun b11 r_b11 h => ?_)
  refine v_iconst (v := 0) F dX2_init_37 (by decide) ?_
  refine v_iconst (v := 4) F dX2_init_38 (by decide) ?_
  refine v_iast F r_b11 o_11 h dX2_init_39 (fun S12 h hE => ?_)
  have r_a := r_a.tr hE
  refine v_aload_n F dX2_init_40 0 rfl rfl ?_
  refine g_X2_19 F r_a h dX2_init_41 (fun b13 r_b13 h => ?_)
  refine v_iconst (v := 0) F dX2_init_44 (by decide) ?_
  refine v_iconst (v := 4) F dX2_init_45 (by decide) ?_
  refine v_iast F r_b13 o_12 h dX2_init_46 (fun S14 h hE => ?_)
  have r_a := r_a.tr hE
  exact v_vret F hQ h (by decide) dX2_init_47
theorem dX5_init_0 : decode cX5_init 0 = .ok (.aload_n 0, 1) := by decide +kernel
theorem dX5_init_1 : decode cX5_init 1 = .ok (.invokespecial 3, 3) := by decide +kernel
theorem dX5_init_4 : decode cX5_init 4 = .ok (.aload_n 0, 1) := by decide +kernel
theorem dX5_init_5 : decode cX5_init 5 = .ok (.sipush 256, 3) := by decide +kernel
theorem dX5_init_8 : decode cX5_init 8 = .ok (.newarray .byte, 2) := by decide +kernel
theorem dX5_init_10 : decode cX5_init 10 = .ok (.putfield 11, 3) := by decide +kernel
theorem dX5_init_13 : decode cX5_init 13 = .ok (.aload_n 0, 1) := by decide +kernel
theorem dX5_init_14 : decode cX5_init 14 = .ok (.bipush 20, 2) := by decide +kernel
theorem dX5_init_16 : decode cX5_init 16 = .ok (.newarray .byte, 2) := by decide +kernel
theorem dX5_init_18 : decode cX5_init 18 = .ok (.putfield 15, 3) := by decide +kernel
theorem dX5_init_21 : decode cX5_init 21 = .ok (.return_, 1) := by decide +kernel
abbrev rm_X5_init : Room := { frames := 1, cells := 2, slots := 276, locals := 60 }
def wp_X5_init (a : Nat) (S : PS) (Q : PS → Prop) : Prop :=
  (∀ q1, q1 ∉ pL S → ∀ S2, S2 = nA S 14 q1 256 → (∀ S3, S3 = sR S2 40 a (some q1) → (∀ q4, q4 ∉ pL S3 → ∀ S5, S5 = nA S3 15 q4 20 → (∀ S6, S6 = sR S5 42 a (some q4) → Q S6))))
set_option maxRecDepth 100000 in
set_option maxHeartbeats 4000000 in
theorem c_X5_init {l : Launch} {E : EE} {A : Nat → Prop} {a : Nat} {S : PS} {Q : PS → Prop} (r_a : Rf S a 4) (h : wp_X5_init a S Q) : MtV l yX5_init (.code yX5_init cX5_init 1 none) rm_X5_init E A [.ref a] S Q := by
  refine MtV.of2 (by decide) (Nat.le_of_ble_eq_true rfl) (fun X F hQ hX => ?_)
  show VV X (0, 0) S [(0, .ref a)] [] 0
  obtain ⟨hXl, hXE, hXA, hN, hnm⟩ := hX
  subst hXE
  subst hXA
  subst hXl
  unfold wp_X5_init at h
  refine v_aload_n F dX5_init_0 0 rfl rfl ?_
  refine v_obj F ko_X5_3 ko_i ko_c (by decide) (Nat.le_of_ble_eq_true rfl) dX5_init_1 ?_
  refine v_aload_n F dX5_init_4 0 rfl rfl ?_
  refine v_sipush (v := 256) F dX5_init_5 (by decide) ?_
  refine na_B (r := 14) (N := 256) F (by decide) rfl (by decide) (by decide) (by decide) (by decide) dX5_init_8 h (fun q1 S2 h hE r_q1 => v_widen (k := (1, 256)) (by decide) ?_)
  have r_a := r_a.tr hE
  refine p_X5_11 F r_a r_q1 h dX5_init_10 (fun S3 h hE => ?_)
  have r_a := r_a.tr hE
  refine v_aload_n F dX5_init_13 0 rfl rfl ?_
  refine v_bipush (v := 20) F dX5_init_14 (by decide) ?_
  refine na_B (r := 15) (N := 20) F (by decide) rfl (by decide) (by decide) (by decide) (by decide) dX5_init_16 h (fun q4 S5 h hE r_q4 => v_widen (k := (2, 276)) (by decide) ?_)
  have r_a := r_a.tr hE
  refine pf_X5_15 F hnm r_a r_q4 h dX5_init_18 (fun S6 h hE => ?_)
  have r_a := r_a.tr hE
  exact v_vret F hQ h (by decide) dX5_init_21
theorem dX6_init_0 : decode cX6_init 0 = .ok (.aload_n 0, 1) := by decide +kernel
theorem dX6_init_1 : decode cX6_init 1 = .ok (.invokespecial 3, 3) := by decide +kernel
theorem dX6_init_4 : decode cX6_init 4 = .ok (.aload_n 0, 1) := by decide +kernel
theorem dX6_init_5 : decode cX6_init 5 = .ok (.iconst 0, 1) := by decide +kernel
theorem dX6_init_6 : decode cX6_init 6 = .ok (.newarray .byte, 2) := by decide +kernel
theorem dX6_init_8 : decode cX6_init 8 = .ok (.putfield 9, 3) := by decide +kernel
theorem dX6_init_11 : decode cX6_init 11 = .ok (.aload_n 0, 1) := by decide +kernel
theorem dX6_init_12 : decode cX6_init 12 = .ok (.sipush 1508, 3) := by decide +kernel
theorem dX6_init_15 : decode cX6_init 15 = .ok (.newarray .int, 2) := by decide +kernel
theorem dX6_init_17 : decode cX6_init 17 = .ok (.putfield 15, 3) := by decide +kernel
theorem dX6_init_20 : decode cX6_init 20 = .ok (.aload_n 0, 1) := by decide +kernel
theorem dX6_init_21 : decode cX6_init 21 = .ok (.sipush 1508, 3) := by decide +kernel
theorem dX6_init_24 : decode cX6_init 24 = .ok (.newarray .int, 2) := by decide +kernel
theorem dX6_init_26 : decode cX6_init 26 = .ok (.putfield 19, 3) := by decide +kernel
theorem dX6_init_29 : decode cX6_init 29 = .ok (.aload_n 0, 1) := by decide +kernel
theorem dX6_init_30 : decode cX6_init 30 = .ok (.sipush 1508, 3) := by decide +kernel
theorem dX6_init_33 : decode cX6_init 33 = .ok (.newarray .int, 2) := by decide +kernel
theorem dX6_init_35 : decode cX6_init 35 = .ok (.putfield 22, 3) := by decide +kernel
theorem dX6_init_38 : decode cX6_init 38 = .ok (.aload_n 0, 1) := by decide +kernel
theorem dX6_init_39 : decode cX6_init 39 = .ok (.sipush 1508, 3) := by decide +kernel
theorem dX6_init_42 : decode cX6_init 42 = .ok (.newarray .int, 2) := by decide +kernel
theorem dX6_init_44 : decode cX6_init 44 = .ok (.putfield 25, 3) := by decide +kernel
theorem dX6_init_47 : decode cX6_init 47 = .ok (.aload_n 0, 1) := by decide +kernel
theorem dX6_init_48 : decode cX6_init 48 = .ok (.sipush 1508, 3) := by decide +kernel
theorem dX6_init_51 : decode cX6_init 51 = .ok (.newarray .long, 2) := by decide +kernel
theorem dX6_init_53 : decode cX6_init 53 = .ok (.putfield 28, 3) := by decide +kernel
theorem dX6_init_56 : decode cX6_init 56 = .ok (.aload_n 0, 1) := by decide +kernel
theorem dX6_init_57 : decode cX6_init 57 = .ok (.sipush 1508, 3) := by decide +kernel
theorem dX6_init_60 : decode cX6_init 60 = .ok (.newarray .int, 2) := by decide +kernel
theorem dX6_init_62 : decode cX6_init 62 = .ok (.putfield 32, 3) := by decide +kernel
theorem dX6_init_65 : decode cX6_init 65 = .ok (.aload_n 0, 1) := by decide +kernel
theorem dX6_init_66 : decode cX6_init 66 = .ok (.sipush 1500, 3) := by decide +kernel
theorem dX6_init_69 : decode cX6_init 69 = .ok (.newarray .int, 2) := by decide +kernel
theorem dX6_init_71 : decode cX6_init 71 = .ok (.putfield 35, 3) := by decide +kernel
theorem dX6_init_74 : decode cX6_init 74 = .ok (.aload_n 0, 1) := by decide +kernel
theorem dX6_init_75 : decode cX6_init 75 = .ok (.bipush 20, 2) := by decide +kernel
theorem dX6_init_77 : decode cX6_init 77 = .ok (.newarray .int, 2) := by decide +kernel
theorem dX6_init_79 : decode cX6_init 79 = .ok (.putfield 38, 3) := by decide +kernel
theorem dX6_init_82 : decode cX6_init 82 = .ok (.aload_n 0, 1) := by decide +kernel
theorem dX6_init_83 : decode cX6_init 83 = .ok (.bipush 20, 2) := by decide +kernel
theorem dX6_init_85 : decode cX6_init 85 = .ok (.newarray .int, 2) := by decide +kernel
theorem dX6_init_87 : decode cX6_init 87 = .ok (.putfield 41, 3) := by decide +kernel
theorem dX6_init_90 : decode cX6_init 90 = .ok (.aload_n 0, 1) := by decide +kernel
theorem dX6_init_91 : decode cX6_init 91 = .ok (.bipush 20, 2) := by decide +kernel
theorem dX6_init_93 : decode cX6_init 93 = .ok (.newarray .int, 2) := by decide +kernel
theorem dX6_init_95 : decode cX6_init 95 = .ok (.putfield 44, 3) := by decide +kernel
theorem dX6_init_98 : decode cX6_init 98 = .ok (.return_, 1) := by decide +kernel
abbrev rm_X6_init : Room := { frames := 1, cells := 11, slots := 10608, locals := 60 }
def wp_X6_init (a : Nat) (S : PS) (Q : PS → Prop) : Prop :=
  (∀ q1, q1 ∉ pL S → ∀ S2, S2 = nA S 27 q1 0 → (∀ S3, S3 = sR S2 43 a (some q1) → (∀ q4, q4 ∉ pL S3 → ∀ S5, S5 = nA S3 16 q4 1508 → (∀ S6, S6 = sR S5 46 a (some q4) → (∀ q7, q7 ∉ pL S6 → ∀ S8, S8 = nA S6 17 q7 1508 → (∀ S9, S9 = sR S8 47 a (some q7) → (∀ q10, q10 ∉ pL S9 → ∀ S11, S11 = nA S9 18 q10 1508 → (∀ S12, S12 = sR S11 48 a (some q10) → (∀ q13, q13 ∉ pL S12 → ∀ S14, S14 = nA S12 19 q13 1508 → (∀ S15, S15 = sR S14 49 a (some q13) → (∀ q16, q16 ∉ pL S15 → ∀ S17, S17 = nA S15 20 q16 1508 → (∀ S18, S18 = sR S17 50 a (some q16) → (∀ q19, q19 ∉ pL S18 → ∀ S20, S20 = nA S18 21 q19 1508 → (∀ S21, S21 = sR S20 51 a (some q19) → (∀ q22, q22 ∉ pL S21 → ∀ S23, S23 = nA S21 22 q22 1500 → (∀ S24, S24 = sR S23 52 a (some q22) → (∀ q25, q25 ∉ pL S24 → ∀ S26, S26 = nA S24 23 q25 20 → (∀ S27, S27 = sR S26 55 a (some q25) → (∀ q28, q28 ∉ pL S27 → ∀ S29, S29 = nA S27 24 q28 20 → (∀ S30, S30 = sR S29 56 a (some q28) → (∀ q31, q31 ∉ pL S30 → ∀ S32, S32 = nA S30 25 q31 20 → (∀ S33, S33 = sR S32 57 a (some q31) → Q S33))))))))))))))))))))))
set_option maxRecDepth 100000 in
set_option maxHeartbeats 4000000 in
theorem c_X6_init {l : Launch} {E : EE} {A : Nat → Prop} {a : Nat} {S : PS} {Q : PS → Prop} (r_a : Rf S a 5) (h : wp_X6_init a S Q) : MtV l yX6_init (.code yX6_init cX6_init 1 none) rm_X6_init E A [.ref a] S Q := by
  refine MtV.of2 (by decide) (Nat.le_of_ble_eq_true rfl) (fun X F hQ hX => ?_)
  show VV X (0, 0) S [(0, .ref a)] [] 0
  obtain ⟨hXl, hXE, hXA, hN, hnm⟩ := hX
  subst hXE
  subst hXA
  subst hXl
  unfold wp_X6_init at h
  refine v_aload_n F dX6_init_0 0 rfl rfl ?_
  refine v_obj F ko_X6_3 ko_i ko_c (by decide) (Nat.le_of_ble_eq_true rfl) dX6_init_1 ?_
  refine v_aload_n F dX6_init_4 0 rfl rfl ?_
  refine v_iconst (v := 0) F dX6_init_5 (by decide) ?_
  refine na_B (r := 27) (N := 0) F (by decide) rfl (by decide) (by decide) (by decide) (by decide) dX6_init_6 h (fun q1 S2 h hE r_q1 => v_widen (k := (1, 0)) (by decide) ?_)
  have r_a := r_a.tr hE
  refine p_X6_9 F r_a r_q1 h dX6_init_8 (fun S3 h hE => ?_)
  have r_a := r_a.tr hE
  refine v_aload_n F dX6_init_11 0 rfl rfl ?_
  refine v_sipush (v := 1508) F dX6_init_12 (by decide) ?_
  refine na_I (r := 16) (N := 1508) F (by decide) rfl (by decide) (by decide) (by decide) (by decide) dX6_init_15 h (fun q4 S5 h hE r_q4 => v_widen (k := (2, 1508)) (by decide) ?_)
  have r_a := r_a.tr hE
  refine pf_X6_15 F hnm r_a r_q4 h dX6_init_17 (fun S6 h hE => ?_)
  have r_a := r_a.tr hE
  refine v_aload_n F dX6_init_20 0 rfl rfl ?_
  refine v_sipush (v := 1508) F dX6_init_21 (by decide) ?_
  refine na_I (r := 17) (N := 1508) F (by decide) rfl (by decide) (by decide) (by decide) (by decide) dX6_init_24 h (fun q7 S8 h hE r_q7 => v_widen (k := (3, 3016)) (by decide) ?_)
  have r_a := r_a.tr hE
  refine pf_X6_19 F hnm r_a r_q7 h dX6_init_26 (fun S9 h hE => ?_)
  have r_a := r_a.tr hE
  refine v_aload_n F dX6_init_29 0 rfl rfl ?_
  refine v_sipush (v := 1508) F dX6_init_30 (by decide) ?_
  refine na_I (r := 18) (N := 1508) F (by decide) rfl (by decide) (by decide) (by decide) (by decide) dX6_init_33 h (fun q10 S11 h hE r_q10 => v_widen (k := (4, 4524)) (by decide) ?_)
  have r_a := r_a.tr hE
  refine pf_X6_22 F hnm r_a r_q10 h dX6_init_35 (fun S12 h hE => ?_)
  have r_a := r_a.tr hE
  refine v_aload_n F dX6_init_38 0 rfl rfl ?_
  refine v_sipush (v := 1508) F dX6_init_39 (by decide) ?_
  refine na_I (r := 19) (N := 1508) F (by decide) rfl (by decide) (by decide) (by decide) (by decide) dX6_init_42 h (fun q13 S14 h hE r_q13 => v_widen (k := (5, 6032)) (by decide) ?_)
  have r_a := r_a.tr hE
  refine pf_X6_25 F hnm r_a r_q13 h dX6_init_44 (fun S15 h hE => ?_)
  have r_a := r_a.tr hE
  refine v_aload_n F dX6_init_47 0 rfl rfl ?_
  refine v_sipush (v := 1508) F dX6_init_48 (by decide) ?_
  refine na_J (r := 20) (N := 1508) F (by decide) rfl (by decide) (by decide) (by decide) (by decide) dX6_init_51 h (fun q16 S17 h hE r_q16 => v_widen (k := (6, 7540)) (by decide) ?_)
  have r_a := r_a.tr hE
  refine pf_X6_28 F hnm r_a r_q16 h dX6_init_53 (fun S18 h hE => ?_)
  have r_a := r_a.tr hE
  refine v_aload_n F dX6_init_56 0 rfl rfl ?_
  refine v_sipush (v := 1508) F dX6_init_57 (by decide) ?_
  refine na_I (r := 21) (N := 1508) F (by decide) rfl (by decide) (by decide) (by decide) (by decide) dX6_init_60 h (fun q19 S20 h hE r_q19 => v_widen (k := (7, 9048)) (by decide) ?_)
  have r_a := r_a.tr hE
  refine pf_X6_32 F hnm r_a r_q19 h dX6_init_62 (fun S21 h hE => ?_)
  have r_a := r_a.tr hE
  refine v_aload_n F dX6_init_65 0 rfl rfl ?_
  refine v_sipush (v := 1500) F dX6_init_66 (by decide) ?_
  refine na_I (r := 22) (N := 1500) F (by decide) rfl (by decide) (by decide) (by decide) (by decide) dX6_init_69 h (fun q22 S23 h hE r_q22 => v_widen (k := (8, 10548)) (by decide) ?_)
  have r_a := r_a.tr hE
  refine pf_X6_35 F hnm r_a r_q22 h dX6_init_71 (fun S24 h hE => ?_)
  have r_a := r_a.tr hE
  refine v_aload_n F dX6_init_74 0 rfl rfl ?_
  refine v_bipush (v := 20) F dX6_init_75 (by decide) ?_
  refine na_I (r := 23) (N := 20) F (by decide) rfl (by decide) (by decide) (by decide) (by decide) dX6_init_77 h (fun q25 S26 h hE r_q25 => v_widen (k := (9, 10568)) (by decide) ?_)
  have r_a := r_a.tr hE
  refine pf_X6_38 F hnm r_a r_q25 h dX6_init_79 (fun S27 h hE => ?_)
  have r_a := r_a.tr hE
  refine v_aload_n F dX6_init_82 0 rfl rfl ?_
  refine v_bipush (v := 20) F dX6_init_83 (by decide) ?_
  refine na_I (r := 24) (N := 20) F (by decide) rfl (by decide) (by decide) (by decide) (by decide) dX6_init_85 h (fun q28 S29 h hE r_q28 => v_widen (k := (10, 10588)) (by decide) ?_)
  have r_a := r_a.tr hE
  refine pf_X6_41 F hnm r_a r_q28 h dX6_init_87 (fun S30 h hE => ?_)
  have r_a := r_a.tr hE
  refine v_aload_n F dX6_init_90 0 rfl rfl ?_
  refine v_bipush (v := 20) F dX6_init_91 (by decide) ?_
  refine na_I (r := 25) (N := 20) F (by decide) rfl (by decide) (by decide) (by decide) (by decide) dX6_init_93 h (fun q31 S32 h hE r_q31 => v_widen (k := (11, 10608)) (by decide) ?_)
  have r_a := r_a.tr hE
  refine pf_X6_44 F hnm r_a r_q31 h dX6_init_95 (fun S33 h hE => ?_)
  have r_a := r_a.tr hE
  exact v_vret F hQ h (by decide) dX6_init_98
theorem dX7_init_0 : decode cX7_init 0 = .ok (.aload_n 0, 1) := by decide +kernel
theorem dX7_init_1 : decode cX7_init 1 = .ok (.invokespecial 3, 3) := by decide +kernel
theorem dX7_init_4 : decode cX7_init 4 = .ok (.aload_n 0, 1) := by decide +kernel
theorem dX7_init_5 : decode cX7_init 5 = .ok (.aload_n 1, 1) := by decide +kernel
theorem dX7_init_6 : decode cX7_init 6 = .ok (.putfield 9, 3) := by decide +kernel
theorem dX7_init_9 : decode cX7_init 9 = .ok (.aload_n 0, 1) := by decide +kernel
theorem dX7_init_10 : decode cX7_init 10 = .ok (.aload_n 2, 1) := by decide +kernel
theorem dX7_init_11 : decode cX7_init 11 = .ok (.putfield 15, 3) := by decide +kernel
theorem dX7_init_14 : decode cX7_init 14 = .ok (.aload_n 0, 1) := by decide +kernel
theorem dX7_init_15 : decode cX7_init 15 = .ok (.iconst 4, 1) := by decide +kernel
theorem dX7_init_16 : decode cX7_init 16 = .ok (.newarray .int, 2) := by decide +kernel
theorem dX7_init_18 : decode cX7_init 18 = .ok (.putfield 19, 3) := by decide +kernel
theorem dX7_init_21 : decode cX7_init 21 = .ok (.return_, 1) := by decide +kernel
abbrev rm_X7_init : Room := { frames := 1, cells := 1, slots := 4, locals := 60 }
def wp_X7_init (a : Nat) (p1 : Nat) (p2 : Nat) (S : PS) (Q : PS → Prop) : Prop :=
  (∀ S1, S1 = sR S 58 a (some p1) → (∀ S2, S2 = sR S1 59 a (some p2) → (∀ q3, q3 ∉ pL S2 → ∀ S4, S4 = nA S2 26 q3 4 → (∀ S5, S5 = sR S4 63 a (some q3) → Q S5))))
set_option maxRecDepth 100000 in
set_option maxHeartbeats 4000000 in
theorem c_X7_init {l : Launch} {E : EE} {A : Nat → Prop} {a : Nat} {p1 : Nat} {p2 : Nat} {S : PS} {Q : PS → Prop} (r_a : Rf S a 6) (r_p1 : Rf S p1 5) (r_p2 : Rf S p2 0) (h : wp_X7_init a p1 p2 S Q) : MtV l yX7_init (.code yX7_init cX7_init 3 none) rm_X7_init E A [.ref a, .ref p1, .ref p2] S Q := by
  refine MtV.of2 (by decide) (Nat.le_of_ble_eq_true rfl) (fun X F hQ hX => ?_)
  show VV X (0, 0) S [(0, .ref a), (1, .ref p1), (2, .ref p2)] [] 0
  obtain ⟨hXl, hXE, hXA, hN, hnm⟩ := hX
  subst hXE
  subst hXA
  subst hXl
  unfold wp_X7_init at h
  refine v_aload_n F dX7_init_0 0 rfl rfl ?_
  refine v_obj F ko_X7_3 ko_i ko_c (by decide) (Nat.le_of_ble_eq_true rfl) dX7_init_1 ?_
  refine v_aload_n F dX7_init_4 0 rfl rfl ?_
  refine v_aload_n F dX7_init_5 1 rfl rfl ?_
  refine pf_X7_9 F hnm r_a r_p1 h dX7_init_6 (fun S1 h hE => ?_)
  have r_a := r_a.tr hE
  have r_p1 := r_p1.tr hE
  have r_p2 := r_p2.tr hE
  refine v_aload_n F dX7_init_9 0 rfl rfl ?_
  refine v_aload_n F dX7_init_10 2 rfl rfl ?_
  refine pf_X7_15 F hnm r_a r_p2 h dX7_init_11 (fun S2 h hE => ?_)
  have r_a := r_a.tr hE
  have r_p1 := r_p1.tr hE
  have r_p2 := r_p2.tr hE
  refine v_aload_n F dX7_init_14 0 rfl rfl ?_
  refine v_iconst (v := 4) F dX7_init_15 (by decide) ?_
  refine na_I (r := 26) (N := 4) F (by decide) rfl (by decide) (by decide) (by decide) (by decide) dX7_init_16 h (fun q3 S4 h hE r_q3 => v_widen (k := (1, 4)) (by decide) ?_)
  have r_a := r_a.tr hE
  have r_p1 := r_p1.tr hE
  have r_p2 := r_p2.tr hE
  refine pf_X7_19 F hnm r_a r_q3 h dX7_init_18 (fun S5 h hE => ?_)
  have r_a := r_a.tr hE
  have r_p1 := r_p1.tr hE
  have r_p2 := r_p2.tr hE
  exact v_vret F hQ h (by decide) dX7_init_21
theorem dX8_init_0 : decode cX8_init 0 = .ok (.aload_n 0, 1) := by decide +kernel
theorem dX8_init_1 : decode cX8_init 1 = .ok (.invokespecial 3, 3) := by decide +kernel
theorem dX8_init_4 : decode cX8_init 4 = .ok (.aload_n 0, 1) := by decide +kernel
theorem dX8_init_5 : decode cX8_init 5 = .ok (.sipush 1500, 3) := by decide +kernel
theorem dX8_init_8 : decode cX8_init 8 = .ok (.newarray .byte, 2) := by decide +kernel
theorem dX8_init_10 : decode cX8_init 10 = .ok (.putfield 9, 3) := by decide +kernel
theorem dX8_init_13 : decode cX8_init 13 = .ok (.aload_n 0, 1) := by decide +kernel
theorem dX8_init_14 : decode cX8_init 14 = .ok (.sipush 300, 3) := by decide +kernel
theorem dX8_init_17 : decode cX8_init 17 = .ok (.newarray .int, 2) := by decide +kernel
theorem dX8_init_19 : decode cX8_init 19 = .ok (.putfield 15, 3) := by decide +kernel
theorem dX8_init_22 : decode cX8_init 22 = .ok (.aload_n 0, 1) := by decide +kernel
theorem dX8_init_23 : decode cX8_init 23 = .ok (.sipush 300, 3) := by decide +kernel
theorem dX8_init_26 : decode cX8_init 26 = .ok (.newarray .long, 2) := by decide +kernel
theorem dX8_init_28 : decode cX8_init 28 = .ok (.putfield 19, 3) := by decide +kernel
theorem dX8_init_31 : decode cX8_init 31 = .ok (.aload_n 0, 1) := by decide +kernel
theorem dX8_init_32 : decode cX8_init 32 = .ok (.sipush 300, 3) := by decide +kernel
theorem dX8_init_35 : decode cX8_init 35 = .ok (.newarray .long, 2) := by decide +kernel
theorem dX8_init_37 : decode cX8_init 37 = .ok (.putfield 23, 3) := by decide +kernel
theorem dX8_init_40 : decode cX8_init 40 = .ok (.aload_n 0, 1) := by decide +kernel
theorem dX8_init_41 : decode cX8_init 41 = .ok (.sipush 300, 3) := by decide +kernel
theorem dX8_init_44 : decode cX8_init 44 = .ok (.newarray .long, 2) := by decide +kernel
theorem dX8_init_46 : decode cX8_init 46 = .ok (.putfield 26, 3) := by decide +kernel
theorem dX8_init_49 : decode cX8_init 49 = .ok (.aload_n 0, 1) := by decide +kernel
theorem dX8_init_50 : decode cX8_init 50 = .ok (.sipush 300, 3) := by decide +kernel
theorem dX8_init_53 : decode cX8_init 53 = .ok (.newarray .boolean, 2) := by decide +kernel
theorem dX8_init_55 : decode cX8_init 55 = .ok (.putfield 29, 3) := by decide +kernel
theorem dX8_init_58 : decode cX8_init 58 = .ok (.aload_n 0, 1) := by decide +kernel
theorem dX8_init_59 : decode cX8_init 59 = .ok (.sipush 300, 3) := by decide +kernel
theorem dX8_init_62 : decode cX8_init 62 = .ok (.newarray .boolean, 2) := by decide +kernel
theorem dX8_init_64 : decode cX8_init 64 = .ok (.putfield 33, 3) := by decide +kernel
theorem dX8_init_67 : decode cX8_init 67 = .ok (.aload_n 0, 1) := by decide +kernel
theorem dX8_init_68 : decode cX8_init 68 = .ok (.sipush 900, 3) := by decide +kernel
theorem dX8_init_71 : decode cX8_init 71 = .ok (.newarray .int, 2) := by decide +kernel
theorem dX8_init_73 : decode cX8_init 73 = .ok (.putfield 36, 3) := by decide +kernel
theorem dX8_init_76 : decode cX8_init 76 = .ok (.aload_n 0, 1) := by decide +kernel
theorem dX8_init_77 : decode cX8_init 77 = .ok (.sipush 300, 3) := by decide +kernel
theorem dX8_init_80 : decode cX8_init 80 = .ok (.newarray .int, 2) := by decide +kernel
theorem dX8_init_82 : decode cX8_init 82 = .ok (.putfield 39, 3) := by decide +kernel
theorem dX8_init_85 : decode cX8_init 85 = .ok (.aload_n 0, 1) := by decide +kernel
theorem dX8_init_86 : decode cX8_init 86 = .ok (.bipush 12, 2) := by decide +kernel
theorem dX8_init_88 : decode cX8_init 88 = .ok (.newarray .long, 2) := by decide +kernel
theorem dX8_init_90 : decode cX8_init 90 = .ok (.putfield 42, 3) := by decide +kernel
theorem dX8_init_93 : decode cX8_init 93 = .ok (.aload_n 0, 1) := by decide +kernel
theorem dX8_init_94 : decode cX8_init 94 = .ok (.bipush 12, 2) := by decide +kernel
theorem dX8_init_96 : decode cX8_init 96 = .ok (.newarray .int, 2) := by decide +kernel
theorem dX8_init_98 : decode cX8_init 98 = .ok (.putfield 45, 3) := by decide +kernel
theorem dX8_init_101 : decode cX8_init 101 = .ok (.aload_n 0, 1) := by decide +kernel
theorem dX8_init_102 : decode cX8_init 102 = .ok (.bipush 12, 2) := by decide +kernel
theorem dX8_init_104 : decode cX8_init 104 = .ok (.newarray .int, 2) := by decide +kernel
theorem dX8_init_106 : decode cX8_init 106 = .ok (.putfield 48, 3) := by decide +kernel
theorem dX8_init_109 : decode cX8_init 109 = .ok (.aload_n 0, 1) := by decide +kernel
theorem dX8_init_110 : decode cX8_init 110 = .ok (.new 51, 3) := by decide +kernel
theorem dX8_init_113 : decode cX8_init 113 = .ok (.dup, 1) := by decide +kernel
theorem dX8_init_114 : decode cX8_init 114 = .ok (.invokespecial 53, 3) := by decide +kernel
theorem dX8_init_117 : decode cX8_init 117 = .ok (.putfield 54, 3) := by decide +kernel
theorem dX8_init_120 : decode cX8_init 120 = .ok (.aload_n 0, 1) := by decide +kernel
theorem dX8_init_121 : decode cX8_init 121 = .ok (.iconst 1, 1) := by decide +kernel
theorem dX8_init_122 : decode cX8_init 122 = .ok (.putfield 58, 3) := by decide +kernel
theorem dX8_init_125 : decode cX8_init 125 = .ok (.return_, 1) := by decide +kernel
abbrev rm_X8_init : Room := { frames := 2, cells := 16, slots := 4660, locals := 80 }
def wp_X8_init (a : Nat) (S : PS) (Q : PS → Prop) : Prop :=
  (∀ q1, q1 ∉ pL S → ∀ S2, S2 = nA S 27 q1 1500 → (∀ S3, S3 = sR S2 69 a (some q1) → (∀ q4, q4 ∉ pL S3 → ∀ S5, S5 = nA S3 28 q4 300 → (∀ S6, S6 = sR S5 71 a (some q4) → (∀ q7, q7 ∉ pL S6 → ∀ S8, S8 = nA S6 29 q7 300 → (∀ S9, S9 = sR S8 72 a (some q7) → (∀ q10, q10 ∉ pL S9 → ∀ S11, S11 = nA S9 30 q10 300 → (∀ S12, S12 = sR S11 73 a (some q10) → (∀ q13, q13 ∉ pL S12 → ∀ S14, S14 = nA S12 31 q13 300 → (∀ S15, S15 = sR S14 74 a (some q13) → (∀ q16, q16 ∉ pL S15 → ∀ S17, S17 = nA S15 32 q16 300 → (∀ S18, S18 = sR S17 75 a (some q16) → (∀ q19, q19 ∉ pL S18 → ∀ S20, S20 = nA S18 33 q19 300 → (∀ S21, S21 = sR S20 76 a (some q19) → (∀ q22, q22 ∉ pL S21 → ∀ S23, S23 = nA S21 34 q22 900 → (∀ S24, S24 = sR S23 77 a (some q22) → (∀ q25, q25 ∉ pL S24 → ∀ S26, S26 = nA S24 35 q25 300 → (∀ S27, S27 = sR S26 78 a (some q25) → (∀ q28, q28 ∉ pL S27 → ∀ S29, S29 = nA S27 36 q28 12 → (∀ S30, S30 = sR S29 80 a (some q28) → (∀ q31, q31 ∉ pL S30 → ∀ S32, S32 = nA S30 37 q31 12 → (∀ S33, S33 = sR S32 81 a (some q31) → (∀ q34, q34 ∉ pL S33 → ∀ S35, S35 = nA S33 38 q34 12 → (∀ S36, S36 = sR S35 82 a (some q34) → (∀ q37, q37 ∉ pL S36 → ∀ S38, S38 = nO S36 2 q37 → wp_X2_init q37 S38 (fun (S39 : PS) => 
 (∀ S40, S40 = sR S39 83 a (some q37) → (∀ S41, S41 = sI S40 79 a 1 → Q S41))))))))))))))))))))))))))))
set_option maxRecDepth 100000 in
set_option maxHeartbeats 4000000 in
theorem c_X8_init {l : Launch} {E : EE} {A : Nat → Prop} {a : Nat} {S : PS} {Q : PS → Prop} (r_a : Rf S a 7) (h : wp_X8_init a S Q) : MtV l yX8_init (.code yX8_init cX8_init 1 none) rm_X8_init E A [.ref a] S Q := by
  refine MtV.of2 (by decide) (Nat.le_of_ble_eq_true rfl) (fun X F hQ hX => ?_)
  show VV X (0, 0) S [(0, .ref a)] [] 0
  obtain ⟨hXl, hXE, hXA, hN, hnm⟩ := hX
  subst hXE
  subst hXA
  subst hXl
  unfold wp_X8_init at h
  refine v_aload_n F dX8_init_0 0 rfl rfl ?_
  refine v_obj F ko_X8_3 ko_i ko_c (by decide) (Nat.le_of_ble_eq_true rfl) dX8_init_1 ?_
  refine v_aload_n F dX8_init_4 0 rfl rfl ?_
  refine v_sipush (v := 1500) F dX8_init_5 (by decide) ?_
  refine na_B (r := 27) (N := 1500) F (by decide) rfl (by decide) (by decide) (by decide) (by decide) dX8_init_8 h (fun q1 S2 h hE r_q1 => v_widen (k := (1, 1500)) (by decide) ?_)
  have r_a := r_a.tr hE
  refine pf_X8_9 F hnm r_a r_q1 h dX8_init_10 (fun S3 h hE => ?_)
  have r_a := r_a.tr hE
  refine v_aload_n F dX8_init_13 0 rfl rfl ?_
  refine v_sipush (v := 300) F dX8_init_14 (by decide) ?_
  refine na_I (r := 28) (N := 300) F (by decide) rfl (by decide) (by decide) (by decide) (by decide) dX8_init_17 h (fun q4 S5 h hE r_q4 => v_widen (k := (2, 1800)) (by decide) ?_)
  have r_a := r_a.tr hE
  refine pf_X8_15 F hnm r_a r_q4 h dX8_init_19 (fun S6 h hE => ?_)
  have r_a := r_a.tr hE
  refine v_aload_n F dX8_init_22 0 rfl rfl ?_
  refine v_sipush (v := 300) F dX8_init_23 (by decide) ?_
  refine na_J (r := 29) (N := 300) F (by decide) rfl (by decide) (by decide) (by decide) (by decide) dX8_init_26 h (fun q7 S8 h hE r_q7 => v_widen (k := (3, 2100)) (by decide) ?_)
  have r_a := r_a.tr hE
  refine pf_X8_19 F hnm r_a r_q7 h dX8_init_28 (fun S9 h hE => ?_)
  have r_a := r_a.tr hE
  refine v_aload_n F dX8_init_31 0 rfl rfl ?_
  refine v_sipush (v := 300) F dX8_init_32 (by decide) ?_
  refine na_J (r := 30) (N := 300) F (by decide) rfl (by decide) (by decide) (by decide) (by decide) dX8_init_35 h (fun q10 S11 h hE r_q10 => v_widen (k := (4, 2400)) (by decide) ?_)
  have r_a := r_a.tr hE
  refine pf_X8_23 F hnm r_a r_q10 h dX8_init_37 (fun S12 h hE => ?_)
  have r_a := r_a.tr hE
  refine v_aload_n F dX8_init_40 0 rfl rfl ?_
  refine v_sipush (v := 300) F dX8_init_41 (by decide) ?_
  refine na_J (r := 31) (N := 300) F (by decide) rfl (by decide) (by decide) (by decide) (by decide) dX8_init_44 h (fun q13 S14 h hE r_q13 => v_widen (k := (5, 2700)) (by decide) ?_)
  have r_a := r_a.tr hE
  refine pf_X8_26 F hnm r_a r_q13 h dX8_init_46 (fun S15 h hE => ?_)
  have r_a := r_a.tr hE
  refine v_aload_n F dX8_init_49 0 rfl rfl ?_
  refine v_sipush (v := 300) F dX8_init_50 (by decide) ?_
  refine na_Z (r := 32) (N := 300) F (by decide) rfl (by decide) (by decide) (by decide) (by decide) dX8_init_53 h (fun q16 S17 h hE r_q16 => v_widen (k := (6, 3000)) (by decide) ?_)
  have r_a := r_a.tr hE
  refine pf_X8_29 F hnm r_a r_q16 h dX8_init_55 (fun S18 h hE => ?_)
  have r_a := r_a.tr hE
  refine v_aload_n F dX8_init_58 0 rfl rfl ?_
  refine v_sipush (v := 300) F dX8_init_59 (by decide) ?_
  refine na_Z (r := 33) (N := 300) F (by decide) rfl (by decide) (by decide) (by decide) (by decide) dX8_init_62 h (fun q19 S20 h hE r_q19 => v_widen (k := (7, 3300)) (by decide) ?_)
  have r_a := r_a.tr hE
  refine pf_X8_33 F hnm r_a r_q19 h dX8_init_64 (fun S21 h hE => ?_)
  have r_a := r_a.tr hE
  refine v_aload_n F dX8_init_67 0 rfl rfl ?_
  refine v_sipush (v := 900) F dX8_init_68 (by decide) ?_
  refine na_I (r := 34) (N := 900) F (by decide) rfl (by decide) (by decide) (by decide) (by decide) dX8_init_71 h (fun q22 S23 h hE r_q22 => v_widen (k := (8, 4200)) (by decide) ?_)
  have r_a := r_a.tr hE
  refine pf_X8_36 F hnm r_a r_q22 h dX8_init_73 (fun S24 h hE => ?_)
  have r_a := r_a.tr hE
  refine v_aload_n F dX8_init_76 0 rfl rfl ?_
  refine v_sipush (v := 300) F dX8_init_77 (by decide) ?_
  refine na_I (r := 35) (N := 300) F (by decide) rfl (by decide) (by decide) (by decide) (by decide) dX8_init_80 h (fun q25 S26 h hE r_q25 => v_widen (k := (9, 4500)) (by decide) ?_)
  have r_a := r_a.tr hE
  refine pf_X8_39 F hnm r_a r_q25 h dX8_init_82 (fun S27 h hE => ?_)
  have r_a := r_a.tr hE
  refine v_aload_n F dX8_init_85 0 rfl rfl ?_
  refine v_bipush (v := 12) F dX8_init_86 (by decide) ?_
  refine na_J (r := 36) (N := 12) F (by decide) rfl (by decide) (by decide) (by decide) (by decide) dX8_init_88 h (fun q28 S29 h hE r_q28 => v_widen (k := (10, 4512)) (by decide) ?_)
  have r_a := r_a.tr hE
  refine pf_X8_42 F hnm r_a r_q28 h dX8_init_90 (fun S30 h hE => ?_)
  have r_a := r_a.tr hE
  refine v_aload_n F dX8_init_93 0 rfl rfl ?_
  refine v_bipush (v := 12) F dX8_init_94 (by decide) ?_
  refine na_I (r := 37) (N := 12) F (by decide) rfl (by decide) (by decide) (by decide) (by decide) dX8_init_96 h (fun q31 S32 h hE r_q31 => v_widen (k := (11, 4524)) (by decide) ?_)
  have r_a := r_a.tr hE
  refine pf_X8_45 F hnm r_a r_q31 h dX8_init_98 (fun S33 h hE => ?_)
  have r_a := r_a.tr hE
  refine v_aload_n F dX8_init_101 0 rfl rfl ?_
  refine v_bipush (v := 12) F dX8_init_102 (by decide) ?_
  refine na_I (r := 38) (N := 12) F (by decide) rfl (by decide) (by decide) (by decide) (by decide) dX8_init_104 h (fun q34 S35 h hE r_q34 => v_widen (k := (12, 4536)) (by decide) ?_)
  have r_a := r_a.tr hE
  refine pf_X8_48 F hnm r_a r_q34 h dX8_init_106 (fun S36 h hE => ?_)
  have r_a := r_a.tr hE
  refine v_aload_n F dX8_init_109 0 rfl rfl ?_
  refine n_X8_51 F (by decide) dX8_init_110 h (fun q37 S38 h hE r_q37 => v_widen (k := (13, 4540)) (by decide) ?_)
  have r_a := r_a.tr hE
  refine v_dup F dX8_init_113 rfl ?_
  refine v_cVn (n1 := (16, 4660)) (v_runI F k_X8_53 (c_X2_init r_q37 h) rfl rfl (Nat.le_of_ble_eq_true rfl) (by decide) (by decide) dX8_init_114) (by decide) (fun S39 h hE => ?_)
  have r_a := r_a.tr hE
  have r_q37 := r_q37.tr hE
  refine pf_X8_54 F hnm r_a r_q37 h dX8_init_117 (fun S40 h hE => ?_)
  have r_a := r_a.tr hE
  refine v_aload_n F dX8_init_120 0 rfl rfl ?_
  refine v_iconst (v := 1) F dX8_init_121 (by decide) ?_
  refine p_X8_58 F r_a h dX8_init_122 (fun S41 h hE => ?_)
  have r_a := r_a.tr hE
  exact v_vret F hQ h (by decide) dX8_init_125
theorem dX3_init_0 : decode cX3_init 0 = .ok (.aload_n 0, 1) := by decide +kernel
theorem dX3_init_1 : decode cX3_init 1 = .ok (.invokespecial 3, 3) := by decide +kernel
theorem dX3_init_4 : decode cX3_init 4 = .ok (.aload_n 0, 1) := by decide +kernel
theorem dX3_init_5 : decode cX3_init 5 = .ok (.aload_n 1, 1) := by decide +kernel
theorem dX3_init_6 : decode cX3_init 6 = .ok (.putfield 9, 3) := by decide +kernel
theorem dX3_init_9 : decode cX3_init 9 = .ok (.aload_n 0, 1) := by decide +kernel
theorem dX3_init_10 : decode cX3_init 10 = .ok (.aload_n 2, 1) := by decide +kernel
theorem dX3_init_11 : decode cX3_init 11 = .ok (.putfield 15, 3) := by decide +kernel
theorem dX3_init_14 : decode cX3_init 14 = .ok (.aload_n 0, 1) := by decide +kernel
theorem dX3_init_15 : decode cX3_init 15 = .ok (.sipush 201, 3) := by decide +kernel
theorem dX3_init_18 : decode cX3_init 18 = .ok (.anewarray 19, 3) := by decide +kernel
theorem dX3_init_21 : decode cX3_init 21 = .ok (.putfield 21, 3) := by decide +kernel
theorem dX3_init_24 : decode cX3_init 24 = .ok (.aload_n 0, 1) := by decide +kernel
theorem dX3_init_25 : decode cX3_init 25 = .ok (.aconst_null, 1) := by decide +kernel
theorem dX3_init_26 : decode cX3_init 26 = .ok (.putfield 25, 3) := by decide +kernel
theorem dX3_init_29 : decode cX3_init 29 = .ok (.return_, 1) := by decide +kernel
abbrev rm_X3_init : Room := { frames := 1, cells := 1, slots := 201, locals := 60 }
def wp_X3_init (a : Nat) (p1 : Nat) (p2 : Nat) (S : PS) (Q : PS → Prop) : Prop :=
  (∀ S1, S1 = sR S 21 a (some p1) → (∀ S2, S2 = sR S1 22 a (some p2) → (∀ q3, q3 ∉ pL S2 → ∀ S4, S4 = nA S2 13 q3 201 → (∀ S5, S5 = sR S4 23 a (some q3) → (∀ S6, S6 = sR S5 25 a none → Q S6)))))
set_option maxRecDepth 100000 in
set_option maxHeartbeats 4000000 in
theorem c_X3_init {l : Launch} {E : EE} {A : Nat → Prop} {a : Nat} {p1 : Nat} {p2 : Nat} {S : PS} {Q : PS → Prop} (hO : hasAO E) (r_a : Rf S a 3) (r_p1 : Rf S p1 5) (r_p2 : Rf S p2 0) (h : wp_X3_init a p1 p2 S Q) : MtV l yX3_init (.code yX3_init cX3_init 3 none) rm_X3_init E A [.ref a, .ref p1, .ref p2] S Q := by
  refine MtV.of2 (by decide) (Nat.le_of_ble_eq_true rfl) (fun X F hQ hX => ?_)
  show VV X (0, 0) S [(0, .ref a), (1, .ref p1), (2, .ref p2)] [] 0
  obtain ⟨hXl, hXE, hXA, hN, hnm⟩ := hX
  subst hXE
  subst hXA
  subst hXl
  unfold wp_X3_init at h
  refine v_aload_n F dX3_init_0 0 rfl rfl ?_
  refine v_obj F ko_X3_3 ko_i ko_c (by decide) (Nat.le_of_ble_eq_true rfl) dX3_init_1 ?_
  refine v_aload_n F dX3_init_4 0 rfl rfl ?_
  refine v_aload_n F dX3_init_5 1 rfl rfl ?_
  refine pf_X3_9 F hnm r_a r_p1 h dX3_init_6 (fun S1 h hE => ?_)
  have r_a := r_a.tr hE
  have r_p1 := r_p1.tr hE
  have r_p2 := r_p2.tr hE
  refine v_aload_n F dX3_init_9 0 rfl rfl ?_
  refine v_aload_n F dX3_init_10 2 rfl rfl ?_
  refine pf_X3_15 F hnm r_a r_p2 h dX3_init_11 (fun S2 h hE => ?_)
  have r_a := r_a.tr hE
  have r_p1 := r_p1.tr hE
  have r_p2 := r_p2.tr hE
  refine v_aload_n F dX3_init_14 0 rfl rfl ?_
  refine v_sipush (v := 201) F dX3_init_15 (by decide) ?_
  refine v_newq (N := 201) F hO kcl_X3_19 (by decide) (by decide) (by decide) (by decide) dX3_init_18 h (fun q3 S4 h hE r_q3 => v_widen (k := (1, 201)) (by decide) ?_)
  have r_a := r_a.tr hE
  have r_p1 := r_p1.tr hE
  have r_p2 := r_p2.tr hE
  refine pf_X3_21 F hnm r_a r_q3 h dX3_init_21 (fun S5 h hE => ?_)
  have r_a := r_a.tr hE
  have r_p1 := r_p1.tr hE
  have r_p2 := r_p2.tr hE
  refine v_aload_n F dX3_init_24 0 rfl rfl ?_
  refine v_null F dX3_init_25 ?_
  refine pn_X3_25 F r_a h dX3_init_26 (fun S6 h hE => ?_)
  have r_a := r_a.tr hE
  have r_p1 := r_p1.tr hE
  have r_p2 := r_p2.tr hE
  exact v_vret F hQ h (by decide) dX3_init_29
theorem dX11_init_0 : decode cX11_init 0 = .ok (.aload_n 0, 1) := by decide +kernel
theorem dX11_init_1 : decode cX11_init 1 = .ok (.invokespecial 3, 3) := by decide +kernel
theorem dX11_init_4 : decode cX11_init 4 = .ok (.aload_n 0, 1) := by decide +kernel
theorem dX11_init_5 : decode cX11_init 5 = .ok (.sipush 1500, 3) := by decide +kernel
theorem dX11_init_8 : decode cX11_init 8 = .ok (.newarray .byte, 2) := by decide +kernel
theorem dX11_init_10 : decode cX11_init 10 = .ok (.putfield 9, 3) := by decide +kernel
theorem dX11_init_13 : decode cX11_init 13 = .ok (.aload_n 0, 1) := by decide +kernel
theorem dX11_init_14 : decode cX11_init 14 = .ok (.iconst 0, 1) := by decide +kernel
theorem dX11_init_15 : decode cX11_init 15 = .ok (.putfield 13, 3) := by decide +kernel
theorem dX11_init_18 : decode cX11_init 18 = .ok (.aload_n 0, 1) := by decide +kernel
theorem dX11_init_19 : decode cX11_init 19 = .ok (.new 17, 3) := by decide +kernel
theorem dX11_init_22 : decode cX11_init 22 = .ok (.dup, 1) := by decide +kernel
theorem dX11_init_23 : decode cX11_init 23 = .ok (.invokespecial 19, 3) := by decide +kernel
theorem dX11_init_26 : decode cX11_init 26 = .ok (.putfield 20, 3) := by decide +kernel
theorem dX11_init_29 : decode cX11_init 29 = .ok (.aload_n 0, 1) := by decide +kernel
theorem dX11_init_30 : decode cX11_init 30 = .ok (.new 24, 3) := by decide +kernel
theorem dX11_init_33 : decode cX11_init 33 = .ok (.dup, 1) := by decide +kernel
theorem dX11_init_34 : decode cX11_init 34 = .ok (.invokespecial 26, 3) := by decide +kernel
theorem dX11_init_37 : decode cX11_init 37 = .ok (.putfield 27, 3) := by decide +kernel
theorem dX11_init_40 : decode cX11_init 40 = .ok (.aload_n 0, 1) := by decide +kernel
theorem dX11_init_41 : decode cX11_init 41 = .ok (.new 31, 3) := by decide +kernel
theorem dX11_init_44 : decode cX11_init 44 = .ok (.dup, 1) := by decide +kernel
theorem dX11_init_45 : decode cX11_init 45 = .ok (.aload_n 0, 1) := by decide +kernel
theorem dX11_init_46 : decode cX11_init 46 = .ok (.getfield 27, 3) := by decide +kernel
theorem dX11_init_49 : decode cX11_init 49 = .ok (.aload_n 0, 1) := by decide +kernel
theorem dX11_init_50 : decode cX11_init 50 = .ok (.getfield 20, 3) := by decide +kernel
theorem dX11_init_53 : decode cX11_init 53 = .ok (.invokespecial 33, 3) := by decide +kernel
theorem dX11_init_56 : decode cX11_init 56 = .ok (.putfield 36, 3) := by decide +kernel
theorem dX11_init_59 : decode cX11_init 59 = .ok (.aload_n 0, 1) := by decide +kernel
theorem dX11_init_60 : decode cX11_init 60 = .ok (.new 40, 3) := by decide +kernel
theorem dX11_init_63 : decode cX11_init 63 = .ok (.dup, 1) := by decide +kernel
theorem dX11_init_64 : decode cX11_init 64 = .ok (.aload_n 0, 1) := by decide +kernel
theorem dX11_init_65 : decode cX11_init 65 = .ok (.getfield 27, 3) := by decide +kernel
theorem dX11_init_68 : decode cX11_init 68 = .ok (.aload_n 0, 1) := by decide +kernel
theorem dX11_init_69 : decode cX11_init 69 = .ok (.getfield 20, 3) := by decide +kernel
theorem dX11_init_72 : decode cX11_init 72 = .ok (.invokespecial 42, 3) := by decide +kernel
theorem dX11_init_75 : decode cX11_init 75 = .ok (.putfield 43, 3) := by decide +kernel
theorem dX11_init_78 : decode cX11_init 78 = .ok (.aload_n 0, 1) := by decide +kernel
theorem dX11_init_79 : decode cX11_init 79 = .ok (.new 47, 3) := by decide +kernel
theorem dX11_init_82 : decode cX11_init 82 = .ok (.dup, 1) := by decide +kernel
theorem dX11_init_83 : decode cX11_init 83 = .ok (.invokespecial 49, 3) := by decide +kernel
theorem dX11_init_86 : decode cX11_init 86 = .ok (.putfield 50, 3) := by decide +kernel
theorem dX11_init_89 : decode cX11_init 89 = .ok (.aload_n 0, 1) := by decide +kernel
theorem dX11_init_90 : decode cX11_init 90 = .ok (.new 54, 3) := by decide +kernel
theorem dX11_init_93 : decode cX11_init 93 = .ok (.dup, 1) := by decide +kernel
theorem dX11_init_94 : decode cX11_init 94 = .ok (.invokespecial 56, 3) := by decide +kernel
theorem dX11_init_97 : decode cX11_init 97 = .ok (.putfield 57, 3) := by decide +kernel
theorem dX11_init_100 : decode cX11_init 100 = .ok (.aload_n 0, 1) := by decide +kernel
theorem dX11_init_101 : decode cX11_init 101 = .ok (.new 54, 3) := by decide +kernel
theorem dX11_init_104 : decode cX11_init 104 = .ok (.dup, 1) := by decide +kernel
theorem dX11_init_105 : decode cX11_init 105 = .ok (.invokespecial 56, 3) := by decide +kernel
theorem dX11_init_108 : decode cX11_init 108 = .ok (.putfield 61, 3) := by decide +kernel
theorem dX11_init_111 : decode cX11_init 111 = .ok (.return_, 1) := by decide +kernel
abbrev rm_X11_init : Room := { frames := 3, cells := 55, slots := 21995, locals := 100 }
def wp_X11_init (a : Nat) (S : PS) (Q : PS → Prop) : Prop :=
  (∀ q1, q1 ∉ pL S → ∀ S2, S2 = nA S 39 q1 1500 → (∀ S3, S3 = sR S2 87 a (some q1) → (∀ S4, S4 = sI S3 88 a 0 → (∀ q5, q5 ∉ pL S4 → ∀ S6, S6 = nO S4 0 q5 → wp_X0_init q5 S6 (fun (S7 : PS) => 
 (∀ S8, S8 = sR S7 89 a (some q5) → (∀ q9, q9 ∉ pL S8 → ∀ S10, S10 = nO S8 5 q9 → wp_X6_init q9 S10 (fun (S11 : PS) => 
 (∀ S12, S12 = sR S11 90 a (some q9) → (∀ q13, q13 ∉ pL S12 → ∀ S14, S14 = nO S12 6 q13 → (∃ b15, fR S14 90 a = some b15 ∧ (∃ b16, fR S14 89 a = some b16 ∧ wp_X7_init q13 b15 b16 S14 (fun (S17 : PS) => 
 (∀ S18, S18 = sR S17 91 a (some q13) → (∀ q19, q19 ∉ pL S18 → ∀ S20, S20 = nO S18 3 q19 → (∃ b21, fR S20 90 a = some b21 ∧ (∃ b22, fR S20 89 a = some b22 ∧ wp_X3_init q19 b21 b22 S20 (fun (S23 : PS) => 
 (∀ S24, S24 = sR S23 92 a (some q19) → (∀ q25, q25 ∉ pL S24 → ∀ S26, S26 = nO S24 4 q25 → wp_X5_init q25 S26 (fun (S27 : PS) => 
 (∀ S28, S28 = sR S27 93 a (some q25) → (∀ q29, q29 ∉ pL S28 → ∀ S30, S30 = nO S28 7 q29 → wp_X8_init q29 S30 (fun (S31 : PS) => 
 (∀ S32, S32 = sR S31 94 a (some q29) → (∀ q33, q33 ∉ pL S32 → ∀ S34, S34 = nO S32 7 q33 → wp_X8_init q33 S34 (fun (S35 : PS) => 
 (∀ S36, S36 = sR S35 95 a (some q33) → Q S36))))))))))))))))))))))))))))
set_option maxRecDepth 100000 in
set_option maxHeartbeats 4000000 in
theorem c_X11_init {l : Launch} {E : EE} {A : Nat → Prop} {a : Nat} {S : PS} {Q : PS → Prop} (hO : hasAO E) (r_a : Rf S a 8) (h : wp_X11_init a S Q) : MtV l yX11_init (.code yX11_init cX11_init 1 none) rm_X11_init E A [.ref a] S Q := by
  refine MtV.of2 (by decide) (Nat.le_of_ble_eq_true rfl) (fun X F hQ hX => ?_)
  show VV X (0, 0) S [(0, .ref a)] [] 0
  obtain ⟨hXl, hXE, hXA, hN, hnm⟩ := hX
  subst hXE
  subst hXA
  subst hXl
  unfold wp_X11_init at h
  refine v_aload_n F dX11_init_0 0 rfl rfl ?_
  refine v_obj F ko_X11_3 ko_i ko_c (by decide) (Nat.le_of_ble_eq_true rfl) dX11_init_1 ?_
  refine v_aload_n F dX11_init_4 0 rfl rfl ?_
  refine v_sipush (v := 1500) F dX11_init_5 (by decide) ?_
  refine na_B (r := 39) (N := 1500) F (by decide) rfl (by decide) (by decide) (by decide) (by decide) dX11_init_8 h (fun q1 S2 h hE r_q1 => v_widen (k := (1, 1500)) (by decide) ?_)
  have r_a := r_a.tr hE
  refine pf_X11_9 F hnm r_a r_q1 h dX11_init_10 (fun S3 h hE => ?_)
  have r_a := r_a.tr hE
  refine v_aload_n F dX11_init_13 0 rfl rfl ?_
  refine v_iconst (v := 0) F dX11_init_14 (by decide) ?_
  refine p_X11_13 F r_a h dX11_init_15 (fun S4 h hE => ?_)
  have r_a := r_a.tr hE
  refine v_aload_n F dX11_init_18 0 rfl rfl ?_
  refine n_X11_17 F (by decide) dX11_init_19 h (fun q5 S6 h hE r_q5 => v_widen (k := (2, 1502)) (by decide) ?_)
  have r_a := r_a.tr hE
  refine v_dup F dX11_init_22 rfl ?_
  refine v_cV0 (v_runN F k_X11_19 (c_X0_init r_q5 h) rfl rfl (Nat.le_of_ble_eq_true rfl) (by decide) (by decide) dX11_init_23) ⟨rfl, rfl⟩ (fun  S7 h hE => ?_)
  have r_a := r_a.tr hE
  have r_q5 := r_q5.tr hE
  refine pf_X11_20 F hnm r_a r_q5 h dX11_init_26 (fun S8 h hE => ?_)
  have r_a := r_a.tr hE
  refine v_aload_n F dX11_init_29 0 rfl rfl ?_
  refine n_X11_24 F (by decide) dX11_init_30 h (fun q9 S10 h hE r_q9 => v_widen (k := (3, 1517)) (by decide) ?_)
  have r_a := r_a.tr hE
  refine v_dup F dX11_init_33 rfl ?_
  refine v_cVn (n1 := (14, 12125)) (v_runI F k_X11_26 (c_X6_init r_q9 h) rfl rfl (Nat.le_of_ble_eq_true rfl) (by decide) (by decide) dX11_init_34) (by decide) (fun S11 h hE => ?_)
  have r_a := r_a.tr hE
  have r_q9 := r_q9.tr hE
  refine pf_X11_27 F hnm r_a r_q9 h dX11_init_37 (fun S12 h hE => ?_)
  have r_a := r_a.tr hE
  refine v_aload_n F dX11_init_40 0 rfl rfl ?_
  refine n_X11_31 F (by decide) dX11_init_41 h (fun q13 S14 h hE r_q13 => v_widen (k := (15, 12136)) (by decide) ?_)
  have r_a := r_a.tr hE
  refine v_dup F dX11_init_44 rfl ?_
  refine v_aload_n F dX11_init_45 0 rfl rfl ?_
  refine g_X11_27 F r_a h dX11_init_46 (fun b15 r_b15 h => ?_)
  refine v_aload_n F dX11_init_49 0 rfl rfl ?_
  refine g_X11_20 F r_a h dX11_init_50 (fun b16 r_b16 h => ?_)
  refine v_cVn (n1 := (16, 12140)) (v_runI F k_X11_33 (c_X7_init r_q13 r_b15 r_b16 h) rfl rfl (Nat.le_of_ble_eq_true rfl) (by decide) (by decide) dX11_init_53) (by decide) (fun S17 h hE => ?_)
  have r_a := r_a.tr hE
  have r_q13 := r_q13.tr hE
  refine pf_X11_36 F hnm r_a r_q13 h dX11_init_56 (fun S18 h hE => ?_)
  have r_a := r_a.tr hE
  refine v_aload_n F dX11_init_59 0 rfl rfl ?_
  refine n_X11_40 F (by decide) dX11_init_60 h (fun q19 S20 h hE r_q19 => v_widen (k := (17, 12159)) (by decide) ?_)
  have r_a := r_a.tr hE
  refine v_dup F dX11_init_63 rfl ?_
  refine v_aload_n F dX11_init_64 0 rfl rfl ?_
  refine g_X11_27 F r_a h dX11_init_65 (fun b21 r_b21 h => ?_)
  refine v_aload_n F dX11_init_68 0 rfl rfl ?_
  refine g_X11_20 F r_a h dX11_init_69 (fun b22 r_b22 h => ?_)
  refine v_cVn (n1 := (18, 12360)) (v_runI F k_X11_42 (c_X3_init hO r_q19 r_b21 r_b22 h) rfl rfl (Nat.le_of_ble_eq_true rfl) (by decide) (by decide) dX11_init_72) (by decide) (fun S23 h hE => ?_)
  have r_a := r_a.tr hE
  have r_q19 := r_q19.tr hE
  refine pf_X11_43 F hnm r_a r_q19 h dX11_init_75 (fun S24 h hE => ?_)
  have r_a := r_a.tr hE
  refine v_aload_n F dX11_init_78 0 rfl rfl ?_
  refine n_X11_47 F (by decide) dX11_init_79 h (fun q25 S26 h hE r_q25 => v_widen (k := (19, 12363)) (by decide) ?_)
  have r_a := r_a.tr hE
  refine v_dup F dX11_init_82 rfl ?_
  refine v_cVn (n1 := (21, 12639)) (v_runI F k_X11_49 (c_X5_init r_q25 h) rfl rfl (Nat.le_of_ble_eq_true rfl) (by decide) (by decide) dX11_init_83) (by decide) (fun S27 h hE => ?_)
  have r_a := r_a.tr hE
  have r_q25 := r_q25.tr hE
  refine pf_X11_50 F hnm r_a r_q25 h dX11_init_86 (fun S28 h hE => ?_)
  have r_a := r_a.tr hE
  refine v_aload_n F dX11_init_89 0 rfl rfl ?_
  refine n_X11_54 F (by decide) dX11_init_90 h (fun q29 S30 h hE r_q29 => v_widen (k := (22, 12657)) (by decide) ?_)
  have r_a := r_a.tr hE
  refine v_dup F dX11_init_93 rfl ?_
  refine v_cVn (n1 := (38, 17317)) (v_runI F k_X11_56 (c_X8_init r_q29 h) rfl rfl (Nat.le_of_ble_eq_true rfl) (by decide) (by decide) dX11_init_94) (by decide) (fun S31 h hE => ?_)
  have r_a := r_a.tr hE
  have r_q29 := r_q29.tr hE
  refine p_X11_57 F r_a r_q29 h dX11_init_97 (fun S32 h hE => ?_)
  have r_a := r_a.tr hE
  refine v_aload_n F dX11_init_100 0 rfl rfl ?_
  refine n_X11_54 F (by decide) dX11_init_101 h (fun q33 S34 h hE r_q33 => v_widen (k := (39, 17335)) (by decide) ?_)
  have r_a := r_a.tr hE
  refine v_dup F dX11_init_104 rfl ?_
  refine v_cVn (n1 := (55, 21995)) (v_runI F k_X11_56 (c_X8_init r_q33 h) rfl rfl (Nat.le_of_ble_eq_true rfl) (by decide) (by decide) dX11_init_105) (by decide) (fun S35 h hE => ?_)
  have r_a := r_a.tr hE
  have r_q33 := r_q33.tr hE
  refine p_X11_61 F r_a r_q33 h dX11_init_108 (fun S36 h hE => ?_)
  have r_a := r_a.tr hE
  exact v_vret F hQ h (by decide) dX11_init_111
theorem dX12_init_0 : decode cX12_init 0 = .ok (.aload_n 0, 1) := by decide +kernel
theorem dX12_init_1 : decode cX12_init 1 = .ok (.invokespecial 502, 3) := by decide +kernel
theorem dX12_init_4 : decode cX12_init 4 = .ok (.aload_n 0, 1) := by decide +kernel
theorem dX12_init_5 : decode cX12_init 5 = .ok (.sipush 1500, 3) := by decide +kernel
theorem dX12_init_8 : decode cX12_init 8 = .ok (.newarray .byte, 2) := by decide +kernel
theorem dX12_init_10 : decode cX12_init 10 = .ok (.putfield 16, 3) := by decide +kernel
theorem dX12_init_13 : decode cX12_init 13 = .ok (.aload_n 0, 1) := by decide +kernel
theorem dX12_init_14 : decode cX12_init 14 = .ok (.sipush 1500, 3) := by decide +kernel
theorem dX12_init_17 : decode cX12_init 17 = .ok (.newarray .byte, 2) := by decide +kernel
theorem dX12_init_19 : decode cX12_init 19 = .ok (.putfield 35, 3) := by decide +kernel
theorem dX12_init_22 : decode cX12_init 22 = .ok (.aload_n 0, 1) := by decide +kernel
theorem dX12_init_23 : decode cX12_init 23 = .ok (.sipush 3100, 3) := by decide +kernel
theorem dX12_init_26 : decode cX12_init 26 = .ok (.newarray .int, 2) := by decide +kernel
theorem dX12_init_28 : decode cX12_init 28 = .ok (.putfield 86, 3) := by decide +kernel
theorem dX12_init_31 : decode cX12_init 31 = .ok (.aload_n 0, 1) := by decide +kernel
theorem dX12_init_32 : decode cX12_init 32 = .ok (.sipush 3100, 3) := by decide +kernel
theorem dX12_init_35 : decode cX12_init 35 = .ok (.newarray .int, 2) := by decide +kernel
theorem dX12_init_37 : decode cX12_init 37 = .ok (.putfield 90, 3) := by decide +kernel
theorem dX12_init_40 : decode cX12_init 40 = .ok (.aload_n 0, 1) := by decide +kernel
theorem dX12_init_41 : decode cX12_init 41 = .ok (.sipush 3100, 3) := by decide +kernel
theorem dX12_init_44 : decode cX12_init 44 = .ok (.newarray .int, 2) := by decide +kernel
theorem dX12_init_46 : decode cX12_init 46 = .ok (.putfield 93, 3) := by decide +kernel
theorem dX12_init_49 : decode cX12_init 49 = .ok (.aload_n 0, 1) := by decide +kernel
theorem dX12_init_50 : decode cX12_init 50 = .ok (.sipush 3100, 3) := by decide +kernel
theorem dX12_init_53 : decode cX12_init 53 = .ok (.newarray .int, 2) := by decide +kernel
theorem dX12_init_55 : decode cX12_init 55 = .ok (.putfield 96, 3) := by decide +kernel
theorem dX12_init_58 : decode cX12_init 58 = .ok (.aload_n 0, 1) := by decide +kernel
theorem dX12_init_59 : decode cX12_init 59 = .ok (.sipush 3100, 3) := by decide +kernel
theorem dX12_init_62 : decode cX12_init 62 = .ok (.newarray .int, 2) := by decide +kernel
theorem dX12_init_64 : decode cX12_init 64 = .ok (.putfield 99, 3) := by decide +kernel
theorem dX12_init_67 : decode cX12_init 67 = .ok (.aload_n 0, 1) := by decide +kernel
theorem dX12_init_68 : decode cX12_init 68 = .ok (.sipush 3100, 3) := by decide +kernel
theorem dX12_init_71 : decode cX12_init 71 = .ok (.newarray .int, 2) := by decide +kernel
theorem dX12_init_73 : decode cX12_init 73 = .ok (.putfield 102, 3) := by decide +kernel
theorem dX12_init_76 : decode cX12_init 76 = .ok (.aload_n 0, 1) := by decide +kernel
theorem dX12_init_77 : decode cX12_init 77 = .ok (.sipush 3100, 3) := by decide +kernel
theorem dX12_init_80 : decode cX12_init 80 = .ok (.newarray .long, 2) := by decide +kernel
theorem dX12_init_82 : decode cX12_init 82 = .ok (.putfield 105, 3) := by decide +kernel
theorem dX12_init_85 : decode cX12_init 85 = .ok (.aload_n 0, 1) := by decide +kernel
theorem dX12_init_86 : decode cX12_init 86 = .ok (.sipush 3100, 3) := by decide +kernel
theorem dX12_init_89 : decode cX12_init 89 = .ok (.newarray .boolean, 2) := by decide +kernel
theorem dX12_init_91 : decode cX12_init 91 = .ok (.putfield 109, 3) := by decide +kernel
theorem dX12_init_94 : decode cX12_init 94 = .ok (.aload_n 0, 1) := by decide +kernel
theorem dX12_init_95 : decode cX12_init 95 = .ok (.sipush 1500, 3) := by decide +kernel
theorem dX12_init_98 : decode cX12_init 98 = .ok (.newarray .int, 2) := by decide +kernel
theorem dX12_init_100 : decode cX12_init 100 = .ok (.putfield 198, 3) := by decide +kernel
theorem dX12_init_103 : decode cX12_init 103 = .ok (.aload_n 0, 1) := by decide +kernel
theorem dX12_init_104 : decode cX12_init 104 = .ok (.sipush 1500, 3) := by decide +kernel
theorem dX12_init_107 : decode cX12_init 107 = .ok (.newarray .int, 2) := by decide +kernel
theorem dX12_init_109 : decode cX12_init 109 = .ok (.putfield 201, 3) := by decide +kernel
theorem dX12_init_112 : decode cX12_init 112 = .ok (.aload_n 0, 1) := by decide +kernel
theorem dX12_init_113 : decode cX12_init 113 = .ok (.sipush 1500, 3) := by decide +kernel
theorem dX12_init_116 : decode cX12_init 116 = .ok (.newarray .int, 2) := by decide +kernel
theorem dX12_init_118 : decode cX12_init 118 = .ok (.putfield 207, 3) := by decide +kernel
theorem dX12_init_121 : decode cX12_init 121 = .ok (.aload_n 0, 1) := by decide +kernel
theorem dX12_init_122 : decode cX12_init 122 = .ok (.sipush 1500, 3) := by decide +kernel
theorem dX12_init_125 : decode cX12_init 125 = .ok (.newarray .int, 2) := by decide +kernel
theorem dX12_init_127 : decode cX12_init 127 = .ok (.putfield 221, 3) := by decide +kernel
theorem dX12_init_130 : decode cX12_init 130 = .ok (.aload_n 0, 1) := by decide +kernel
theorem dX12_init_131 : decode cX12_init 131 = .ok (.sipush 1500, 3) := by decide +kernel
theorem dX12_init_134 : decode cX12_init 134 = .ok (.newarray .int, 2) := by decide +kernel
theorem dX12_init_136 : decode cX12_init 136 = .ok (.putfield 224, 3) := by decide +kernel
theorem dX12_init_139 : decode cX12_init 139 = .ok (.aload_n 0, 1) := by decide +kernel
theorem dX12_init_140 : decode cX12_init 140 = .ok (.bipush 20, 2) := by decide +kernel
theorem dX12_init_142 : decode cX12_init 142 = .ok (.newarray .int, 2) := by decide +kernel
theorem dX12_init_144 : decode cX12_init 144 = .ok (.putfield 233, 3) := by decide +kernel
theorem dX12_init_147 : decode cX12_init 147 = .ok (.aload_n 0, 1) := by decide +kernel
theorem dX12_init_148 : decode cX12_init 148 = .ok (.bipush 20, 2) := by decide +kernel
theorem dX12_init_150 : decode cX12_init 150 = .ok (.newarray .int, 2) := by decide +kernel
theorem dX12_init_152 : decode cX12_init 152 = .ok (.putfield 236, 3) := by decide +kernel
theorem dX12_init_155 : decode cX12_init 155 = .ok (.aload_n 0, 1) := by decide +kernel
theorem dX12_init_156 : decode cX12_init 156 = .ok (.bipush 20, 2) := by decide +kernel
theorem dX12_init_158 : decode cX12_init 158 = .ok (.newarray .int, 2) := by decide +kernel
theorem dX12_init_160 : decode cX12_init 160 = .ok (.putfield 265, 3) := by decide +kernel
theorem dX12_init_163 : decode cX12_init 163 = .ok (.aload_n 0, 1) := by decide +kernel
theorem dX12_init_164 : decode cX12_init 164 = .ok (.bipush 20, 2) := by decide +kernel
theorem dX12_init_166 : decode cX12_init 166 = .ok (.newarray .int, 2) := by decide +kernel
theorem dX12_init_168 : decode cX12_init 168 = .ok (.putfield 268, 3) := by decide +kernel
theorem dX12_init_171 : decode cX12_init 171 = .ok (.aload_n 0, 1) := by decide +kernel
theorem dX12_init_172 : decode cX12_init 172 = .ok (.iconst 5, 1) := by decide +kernel
theorem dX12_init_173 : decode cX12_init 173 = .ok (.newarray .int, 2) := by decide +kernel
theorem dX12_init_175 : decode cX12_init 175 = .ok (.putfield 250, 3) := by decide +kernel
theorem dX12_init_178 : decode cX12_init 178 = .ok (.aload_n 0, 1) := by decide +kernel
theorem dX12_init_179 : decode cX12_init 179 = .ok (.iconst 5, 1) := by decide +kernel
theorem dX12_init_180 : decode cX12_init 180 = .ok (.newarray .int, 2) := by decide +kernel
theorem dX12_init_182 : decode cX12_init 182 = .ok (.putfield 253, 3) := by decide +kernel
theorem dX12_init_185 : decode cX12_init 185 = .ok (.aload_n 0, 1) := by decide +kernel
theorem dX12_init_186 : decode cX12_init 186 = .ok (.bipush 10, 2) := by decide +kernel
theorem dX12_init_188 : decode cX12_init 188 = .ok (.newarray .int, 2) := by decide +kernel
theorem dX12_init_190 : decode cX12_init 190 = .ok (.putfield 113, 3) := by decide +kernel
theorem dX12_init_193 : decode cX12_init 193 = .ok (.aload_n 0, 1) := by decide +kernel
theorem dX12_init_194 : decode cX12_init 194 = .ok (.bipush 10, 2) := by decide +kernel
theorem dX12_init_196 : decode cX12_init 196 = .ok (.newarray .int, 2) := by decide +kernel
theorem dX12_init_198 : decode cX12_init 198 = .ok (.putfield 119, 3) := by decide +kernel
theorem dX12_init_201 : decode cX12_init 201 = .ok (.aload_n 0, 1) := by decide +kernel
theorem dX12_init_202 : decode cX12_init 202 = .ok (.bipush 10, 2) := by decide +kernel
theorem dX12_init_204 : decode cX12_init 204 = .ok (.newarray .int, 2) := by decide +kernel
theorem dX12_init_206 : decode cX12_init 206 = .ok (.putfield 122, 3) := by decide +kernel
theorem dX12_init_209 : decode cX12_init 209 = .ok (.aload_n 0, 1) := by decide +kernel
theorem dX12_init_210 : decode cX12_init 210 = .ok (.bipush 10, 2) := by decide +kernel
theorem dX12_init_212 : decode cX12_init 212 = .ok (.newarray .int, 2) := by decide +kernel
theorem dX12_init_214 : decode cX12_init 214 = .ok (.putfield 125, 3) := by decide +kernel
theorem dX12_init_217 : decode cX12_init 217 = .ok (.aload_n 0, 1) := by decide +kernel
theorem dX12_init_218 : decode cX12_init 218 = .ok (.sipush 300, 3) := by decide +kernel
theorem dX12_init_221 : decode cX12_init 221 = .ok (.newarray .int, 2) := by decide +kernel
theorem dX12_init_223 : decode cX12_init 223 = .ok (.putfield 444, 3) := by decide +kernel
theorem dX12_init_226 : decode cX12_init 226 = .ok (.aload_n 0, 1) := by decide +kernel
theorem dX12_init_227 : decode cX12_init 227 = .ok (.sipush 300, 3) := by decide +kernel
theorem dX12_init_230 : decode cX12_init 230 = .ok (.newarray .int, 2) := by decide +kernel
theorem dX12_init_232 : decode cX12_init 232 = .ok (.putfield 420, 3) := by decide +kernel
theorem dX12_init_235 : decode cX12_init 235 = .ok (.aload_n 0, 1) := by decide +kernel
theorem dX12_init_236 : decode cX12_init 236 = .ok (.sipush 300, 3) := by decide +kernel
theorem dX12_init_239 : decode cX12_init 239 = .ok (.newarray .boolean, 2) := by decide +kernel
theorem dX12_init_241 : decode cX12_init 241 = .ok (.putfield 447, 3) := by decide +kernel
theorem dX12_init_244 : decode cX12_init 244 = .ok (.aload_n 0, 1) := by decide +kernel
theorem dX12_init_245 : decode cX12_init 245 = .ok (.sipush 300, 3) := by decide +kernel
theorem dX12_init_248 : decode cX12_init 248 = .ok (.newarray .boolean, 2) := by decide +kernel
theorem dX12_init_250 : decode cX12_init 250 = .ok (.putfield 450, 3) := by decide +kernel
theorem dX12_init_253 : decode cX12_init 253 = .ok (.aload_n 0, 1) := by decide +kernel
theorem dX12_init_254 : decode cX12_init 254 = .ok (.sipush 300, 3) := by decide +kernel
theorem dX12_init_257 : decode cX12_init 257 = .ok (.newarray .long, 2) := by decide +kernel
theorem dX12_init_259 : decode cX12_init 259 = .ok (.putfield 453, 3) := by decide +kernel
theorem dX12_init_262 : decode cX12_init 262 = .ok (.aload_n 0, 1) := by decide +kernel
theorem dX12_init_263 : decode cX12_init 263 = .ok (.sipush 300, 3) := by decide +kernel
theorem dX12_init_266 : decode cX12_init 266 = .ok (.newarray .long, 2) := by decide +kernel
theorem dX12_init_268 : decode cX12_init 268 = .ok (.putfield 456, 3) := by decide +kernel
theorem dX12_init_271 : decode cX12_init 271 = .ok (.aload_n 0, 1) := by decide +kernel
theorem dX12_init_272 : decode cX12_init 272 = .ok (.sipush 300, 3) := by decide +kernel
theorem dX12_init_275 : decode cX12_init 275 = .ok (.newarray .int, 2) := by decide +kernel
theorem dX12_init_277 : decode cX12_init 277 = .ok (.putfield 438, 3) := by decide +kernel
theorem dX12_init_280 : decode cX12_init 280 = .ok (.aload_n 0, 1) := by decide +kernel
theorem dX12_init_281 : decode cX12_init 281 = .ok (.sipush 1800, 3) := by decide +kernel
theorem dX12_init_284 : decode cX12_init 284 = .ok (.newarray .int, 2) := by decide +kernel
theorem dX12_init_286 : decode cX12_init 286 = .ok (.putfield 423, 3) := by decide +kernel
theorem dX12_init_289 : decode cX12_init 289 = .ok (.aload_n 0, 1) := by decide +kernel
theorem dX12_init_290 : decode cX12_init 290 = .ok (.sipush 1800, 3) := by decide +kernel
theorem dX12_init_293 : decode cX12_init 293 = .ok (.newarray .int, 2) := by decide +kernel
theorem dX12_init_295 : decode cX12_init 295 = .ok (.putfield 426, 3) := by decide +kernel
theorem dX12_init_298 : decode cX12_init 298 = .ok (.aload_n 0, 1) := by decide +kernel
theorem dX12_init_299 : decode cX12_init 299 = .ok (.sipush 1800, 3) := by decide +kernel
theorem dX12_init_302 : decode cX12_init 302 = .ok (.newarray .int, 2) := by decide +kernel
theorem dX12_init_304 : decode cX12_init 304 = .ok (.putfield 429, 3) := by decide +kernel
theorem dX12_init_307 : decode cX12_init 307 = .ok (.aload_n 0, 1) := by decide +kernel
theorem dX12_init_308 : decode cX12_init 308 = .ok (.sipush 900, 3) := by decide +kernel
theorem dX12_init_311 : decode cX12_init 311 = .ok (.newarray .int, 2) := by decide +kernel
theorem dX12_init_313 : decode cX12_init 313 = .ok (.putfield 459, 3) := by decide +kernel
theorem dX12_init_316 : decode cX12_init 316 = .ok (.aload_n 0, 1) := by decide +kernel
theorem dX12_init_317 : decode cX12_init 317 = .ok (.bipush 12, 2) := by decide +kernel
theorem dX12_init_319 : decode cX12_init 319 = .ok (.newarray .long, 2) := by decide +kernel
theorem dX12_init_321 : decode cX12_init 321 = .ok (.putfield 493, 3) := by decide +kernel
theorem dX12_init_324 : decode cX12_init 324 = .ok (.aload_n 0, 1) := by decide +kernel
theorem dX12_init_325 : decode cX12_init 325 = .ok (.bipush 12, 2) := by decide +kernel
theorem dX12_init_327 : decode cX12_init 327 = .ok (.newarray .int, 2) := by decide +kernel
theorem dX12_init_329 : decode cX12_init 329 = .ok (.putfield 432, 3) := by decide +kernel
theorem dX12_init_332 : decode cX12_init 332 = .ok (.aload_n 0, 1) := by decide +kernel
theorem dX12_init_333 : decode cX12_init 333 = .ok (.bipush 40, 2) := by decide +kernel
theorem dX12_init_335 : decode cX12_init 335 = .ok (.newarray .long, 2) := by decide +kernel
theorem dX12_init_337 : decode cX12_init 337 = .ok (.putfield 465, 3) := by decide +kernel
theorem dX12_init_340 : decode cX12_init 340 = .ok (.aload_n 0, 1) := by decide +kernel
theorem dX12_init_341 : decode cX12_init 341 = .ok (.bipush 40, 2) := by decide +kernel
theorem dX12_init_343 : decode cX12_init 343 = .ok (.newarray .int, 2) := by decide +kernel
theorem dX12_init_345 : decode cX12_init 345 = .ok (.putfield 468, 3) := by decide +kernel
theorem dX12_init_348 : decode cX12_init 348 = .ok (.aload_n 0, 1) := by decide +kernel
theorem dX12_init_349 : decode cX12_init 349 = .ok (.bipush 40, 2) := by decide +kernel
theorem dX12_init_351 : decode cX12_init 351 = .ok (.newarray .int, 2) := by decide +kernel
theorem dX12_init_353 : decode cX12_init 353 = .ok (.putfield 471, 3) := by decide +kernel
theorem dX12_init_356 : decode cX12_init 356 = .ok (.aload_n 0, 1) := by decide +kernel
theorem dX12_init_357 : decode cX12_init 357 = .ok (.bipush 24, 2) := by decide +kernel
theorem dX12_init_359 : decode cX12_init 359 = .ok (.newarray .int, 2) := by decide +kernel
theorem dX12_init_361 : decode cX12_init 361 = .ok (.putfield 496, 3) := by decide +kernel
theorem dX12_init_364 : decode cX12_init 364 = .ok (.aload_n 0, 1) := by decide +kernel
theorem dX12_init_365 : decode cX12_init 365 = .ok (.bipush 24, 2) := by decide +kernel
theorem dX12_init_367 : decode cX12_init 367 = .ok (.newarray .int, 2) := by decide +kernel
theorem dX12_init_369 : decode cX12_init 369 = .ok (.putfield 499, 3) := by decide +kernel
theorem dX12_init_372 : decode cX12_init 372 = .ok (.aload_n 0, 1) := by decide +kernel
theorem dX12_init_373 : decode cX12_init 373 = .ok (.bipush 6, 2) := by decide +kernel
theorem dX12_init_375 : decode cX12_init 375 = .ok (.newarray .int, 2) := by decide +kernel
theorem dX12_init_377 : decode cX12_init 377 = .ok (.putfield 399, 3) := by decide +kernel
theorem dX12_init_380 : decode cX12_init 380 = .ok (.aload_n 0, 1) := by decide +kernel
theorem dX12_init_381 : decode cX12_init 381 = .ok (.bipush 6, 2) := by decide +kernel
theorem dX12_init_383 : decode cX12_init 383 = .ok (.newarray .int, 2) := by decide +kernel
theorem dX12_init_385 : decode cX12_init 385 = .ok (.putfield 402, 3) := by decide +kernel
theorem dX12_init_388 : decode cX12_init 388 = .ok (.aload_n 0, 1) := by decide +kernel
theorem dX12_init_389 : decode cX12_init 389 = .ok (.bipush 6, 2) := by decide +kernel
theorem dX12_init_391 : decode cX12_init 391 = .ok (.newarray .int, 2) := by decide +kernel
theorem dX12_init_393 : decode cX12_init 393 = .ok (.putfield 396, 3) := by decide +kernel
theorem dX12_init_396 : decode cX12_init 396 = .ok (.aload_n 0, 1) := by decide +kernel
theorem dX12_init_397 : decode cX12_init 397 = .ok (.sipush 260, 3) := by decide +kernel
theorem dX12_init_400 : decode cX12_init 400 = .ok (.newarray .int, 2) := by decide +kernel
theorem dX12_init_402 : decode cX12_init 402 = .ok (.putfield 285, 3) := by decide +kernel
theorem dX12_init_405 : decode cX12_init 405 = .ok (.aload_n 0, 1) := by decide +kernel
theorem dX12_init_406 : decode cX12_init 406 = .ok (.sipush 260, 3) := by decide +kernel
theorem dX12_init_409 : decode cX12_init 409 = .ok (.newarray .int, 2) := by decide +kernel
theorem dX12_init_411 : decode cX12_init 411 = .ok (.putfield 279, 3) := by decide +kernel
theorem dX12_init_414 : decode cX12_init 414 = .ok (.aload_n 0, 1) := by decide +kernel
theorem dX12_init_415 : decode cX12_init 415 = .ok (.sipush 260, 3) := by decide +kernel
theorem dX12_init_418 : decode cX12_init 418 = .ok (.newarray .int, 2) := by decide +kernel
theorem dX12_init_420 : decode cX12_init 420 = .ok (.putfield 291, 3) := by decide +kernel
theorem dX12_init_423 : decode cX12_init 423 = .ok (.aload_n 0, 1) := by decide +kernel
theorem dX12_init_424 : decode cX12_init 424 = .ok (.sipush 260, 3) := by decide +kernel
theorem dX12_init_427 : decode cX12_init 427 = .ok (.newarray .int, 2) := by decide +kernel
theorem dX12_init_429 : decode cX12_init 429 = .ok (.putfield 329, 3) := by decide +kernel
theorem dX12_init_432 : decode cX12_init 432 = .ok (.aload_n 0, 1) := by decide +kernel
theorem dX12_init_433 : decode cX12_init 433 = .ok (.sipush 260, 3) := by decide +kernel
theorem dX12_init_436 : decode cX12_init 436 = .ok (.newarray .int, 2) := by decide +kernel
theorem dX12_init_438 : decode cX12_init 438 = .ok (.putfield 320, 3) := by decide +kernel
theorem dX12_init_441 : decode cX12_init 441 = .ok (.aload_n 0, 1) := by decide +kernel
theorem dX12_init_442 : decode cX12_init 442 = .ok (.sipush 260, 3) := by decide +kernel
theorem dX12_init_445 : decode cX12_init 445 = .ok (.newarray .int, 2) := by decide +kernel
theorem dX12_init_447 : decode cX12_init 447 = .ok (.putfield 341, 3) := by decide +kernel
theorem dX12_init_450 : decode cX12_init 450 = .ok (.aload_n 0, 1) := by decide +kernel
theorem dX12_init_451 : decode cX12_init 451 = .ok (.sipush 260, 3) := by decide +kernel
theorem dX12_init_454 : decode cX12_init 454 = .ok (.newarray .int, 2) := by decide +kernel
theorem dX12_init_456 : decode cX12_init 456 = .ok (.putfield 288, 3) := by decide +kernel
theorem dX12_init_459 : decode cX12_init 459 = .ok (.aload_n 0, 1) := by decide +kernel
theorem dX12_init_460 : decode cX12_init 460 = .ok (.sipush 260, 3) := by decide +kernel
theorem dX12_init_463 : decode cX12_init 463 = .ok (.newarray .int, 2) := by decide +kernel
theorem dX12_init_465 : decode cX12_init 465 = .ok (.putfield 487, 3) := by decide +kernel
theorem dX12_init_468 : decode cX12_init 468 = .ok (.aload_n 0, 1) := by decide +kernel
theorem dX12_init_469 : decode cX12_init 469 = .ok (.sipush 260, 3) := by decide +kernel
theorem dX12_init_472 : decode cX12_init 472 = .ok (.newarray .long, 2) := by decide +kernel
theorem dX12_init_474 : decode cX12_init 474 = .ok (.putfield 371, 3) := by decide +kernel
theorem dX12_init_477 : decode cX12_init 477 = .ok (.aload_n 0, 1) := by decide +kernel
theorem dX12_init_478 : decode cX12_init 478 = .ok (.sipush 260, 3) := by decide +kernel
theorem dX12_init_481 : decode cX12_init 481 = .ok (.newarray .long, 2) := by decide +kernel
theorem dX12_init_483 : decode cX12_init 483 = .ok (.putfield 377, 3) := by decide +kernel
theorem dX12_init_486 : decode cX12_init 486 = .ok (.aload_n 0, 1) := by decide +kernel
theorem dX12_init_487 : decode cX12_init 487 = .ok (.sipush 260, 3) := by decide +kernel
theorem dX12_init_490 : decode cX12_init 490 = .ok (.newarray .long, 2) := by decide +kernel
theorem dX12_init_492 : decode cX12_init 492 = .ok (.putfield 347, 3) := by decide +kernel
theorem dX12_init_495 : decode cX12_init 495 = .ok (.aload_n 0, 1) := by decide +kernel
theorem dX12_init_496 : decode cX12_init 496 = .ok (.sipush 260, 3) := by decide +kernel
theorem dX12_init_499 : decode cX12_init 499 = .ok (.newarray .long, 2) := by decide +kernel
theorem dX12_init_501 : decode cX12_init 501 = .ok (.putfield 350, 3) := by decide +kernel
theorem dX12_init_504 : decode cX12_init 504 = .ok (.aload_n 0, 1) := by decide +kernel
theorem dX12_init_505 : decode cX12_init 505 = .ok (.sipush 260, 3) := by decide +kernel
theorem dX12_init_508 : decode cX12_init 508 = .ok (.newarray .long, 2) := by decide +kernel
theorem dX12_init_510 : decode cX12_init 510 = .ok (.putfield 484, 3) := by decide +kernel
theorem dX12_init_513 : decode cX12_init 513 = .ok (.aload_n 0, 1) := by decide +kernel
theorem dX12_init_514 : decode cX12_init 514 = .ok (.sipush 260, 3) := by decide +kernel
theorem dX12_init_517 : decode cX12_init 517 = .ok (.newarray .long, 2) := by decide +kernel
theorem dX12_init_519 : decode cX12_init 519 = .ok (.putfield 478, 3) := by decide +kernel
theorem dX12_init_522 : decode cX12_init 522 = .ok (.aload_n 0, 1) := by decide +kernel
theorem dX12_init_523 : decode cX12_init 523 = .ok (.sipush 260, 3) := by decide +kernel
theorem dX12_init_526 : decode cX12_init 526 = .ok (.newarray .long, 2) := by decide +kernel
theorem dX12_init_528 : decode cX12_init 528 = .ok (.putfield 481, 3) := by decide +kernel
theorem dX12_init_531 : decode cX12_init 531 = .ok (.aload_n 0, 1) := by decide +kernel
theorem dX12_init_532 : decode cX12_init 532 = .ok (.sipush 1500, 3) := by decide +kernel
theorem dX12_init_535 : decode cX12_init 535 = .ok (.newarray .byte, 2) := by decide +kernel
theorem dX12_init_537 : decode cX12_init 537 = .ok (.putfield 507, 3) := by decide +kernel
theorem dX12_init_540 : decode cX12_init 540 = .ok (.aload_n 0, 1) := by decide +kernel
theorem dX12_init_541 : decode cX12_init 541 = .ok (.sipush 300, 3) := by decide +kernel
theorem dX12_init_544 : decode cX12_init 544 = .ok (.newarray .int, 2) := by decide +kernel
theorem dX12_init_546 : decode cX12_init 546 = .ok (.putfield 510, 3) := by decide +kernel
theorem dX12_init_549 : decode cX12_init 549 = .ok (.aload_n 0, 1) := by decide +kernel
theorem dX12_init_550 : decode cX12_init 550 = .ok (.sipush 300, 3) := by decide +kernel
theorem dX12_init_553 : decode cX12_init 553 = .ok (.newarray .int, 2) := by decide +kernel
theorem dX12_init_555 : decode cX12_init 555 = .ok (.putfield 513, 3) := by decide +kernel
theorem dX12_init_558 : decode cX12_init 558 = .ok (.aload_n 0, 1) := by decide +kernel
theorem dX12_init_559 : decode cX12_init 559 = .ok (.sipush 300, 3) := by decide +kernel
theorem dX12_init_562 : decode cX12_init 562 = .ok (.newarray .boolean, 2) := by decide +kernel
theorem dX12_init_564 : decode cX12_init 564 = .ok (.putfield 516, 3) := by decide +kernel
theorem dX12_init_567 : decode cX12_init 567 = .ok (.aload_n 0, 1) := by decide +kernel
theorem dX12_init_568 : decode cX12_init 568 = .ok (.sipush 300, 3) := by decide +kernel
theorem dX12_init_571 : decode cX12_init 571 = .ok (.newarray .boolean, 2) := by decide +kernel
theorem dX12_init_573 : decode cX12_init 573 = .ok (.putfield 519, 3) := by decide +kernel
theorem dX12_init_576 : decode cX12_init 576 = .ok (.aload_n 0, 1) := by decide +kernel
theorem dX12_init_577 : decode cX12_init 577 = .ok (.sipush 300, 3) := by decide +kernel
theorem dX12_init_580 : decode cX12_init 580 = .ok (.newarray .long, 2) := by decide +kernel
theorem dX12_init_582 : decode cX12_init 582 = .ok (.putfield 522, 3) := by decide +kernel
theorem dX12_init_585 : decode cX12_init 585 = .ok (.aload_n 0, 1) := by decide +kernel
theorem dX12_init_586 : decode cX12_init 586 = .ok (.sipush 300, 3) := by decide +kernel
theorem dX12_init_589 : decode cX12_init 589 = .ok (.newarray .long, 2) := by decide +kernel
theorem dX12_init_591 : decode cX12_init 591 = .ok (.putfield 525, 3) := by decide +kernel
theorem dX12_init_594 : decode cX12_init 594 = .ok (.aload_n 0, 1) := by decide +kernel
theorem dX12_init_595 : decode cX12_init 595 = .ok (.sipush 1800, 3) := by decide +kernel
theorem dX12_init_598 : decode cX12_init 598 = .ok (.newarray .int, 2) := by decide +kernel
theorem dX12_init_600 : decode cX12_init 600 = .ok (.putfield 528, 3) := by decide +kernel
theorem dX12_init_603 : decode cX12_init 603 = .ok (.aload_n 0, 1) := by decide +kernel
theorem dX12_init_604 : decode cX12_init 604 = .ok (.sipush 1800, 3) := by decide +kernel
theorem dX12_init_607 : decode cX12_init 607 = .ok (.newarray .int, 2) := by decide +kernel
theorem dX12_init_609 : decode cX12_init 609 = .ok (.putfield 531, 3) := by decide +kernel
theorem dX12_init_612 : decode cX12_init 612 = .ok (.aload_n 0, 1) := by decide +kernel
theorem dX12_init_613 : decode cX12_init 613 = .ok (.sipush 1800, 3) := by decide +kernel
theorem dX12_init_616 : decode cX12_init 616 = .ok (.newarray .int, 2) := by decide +kernel
theorem dX12_init_618 : decode cX12_init 618 = .ok (.putfield 534, 3) := by decide +kernel
theorem dX12_init_621 : decode cX12_init 621 = .ok (.aload_n 0, 1) := by decide +kernel
theorem dX12_init_622 : decode cX12_init 622 = .ok (.sipush 900, 3) := by decide +kernel
theorem dX12_init_625 : decode cX12_init 625 = .ok (.newarray .int, 2) := by decide +kernel
theorem dX12_init_627 : decode cX12_init 627 = .ok (.putfield 537, 3) := by decide +kernel
theorem dX12_init_630 : decode cX12_init 630 = .ok (.aload_n 0, 1) := by decide +kernel
theorem dX12_init_631 : decode cX12_init 631 = .ok (.sipush 900, 3) := by decide +kernel
theorem dX12_init_634 : decode cX12_init 634 = .ok (.newarray .int, 2) := by decide +kernel
theorem dX12_init_636 : decode cX12_init 636 = .ok (.putfield 540, 3) := by decide +kernel
theorem dX12_init_639 : decode cX12_init 639 = .ok (.aload_n 0, 1) := by decide +kernel
theorem dX12_init_640 : decode cX12_init 640 = .ok (.sipush 300, 3) := by decide +kernel
theorem dX12_init_643 : decode cX12_init 643 = .ok (.newarray .int, 2) := by decide +kernel
theorem dX12_init_645 : decode cX12_init 645 = .ok (.putfield 543, 3) := by decide +kernel
theorem dX12_init_648 : decode cX12_init 648 = .ok (.aload_n 0, 1) := by decide +kernel
theorem dX12_init_649 : decode cX12_init 649 = .ok (.bipush 12, 2) := by decide +kernel
theorem dX12_init_651 : decode cX12_init 651 = .ok (.newarray .long, 2) := by decide +kernel
theorem dX12_init_653 : decode cX12_init 653 = .ok (.putfield 546, 3) := by decide +kernel
theorem dX12_init_656 : decode cX12_init 656 = .ok (.aload_n 0, 1) := by decide +kernel
theorem dX12_init_657 : decode cX12_init 657 = .ok (.bipush 40, 2) := by decide +kernel
theorem dX12_init_659 : decode cX12_init 659 = .ok (.newarray .long, 2) := by decide +kernel
theorem dX12_init_661 : decode cX12_init 661 = .ok (.putfield 549, 3) := by decide +kernel
theorem dX12_init_664 : decode cX12_init 664 = .ok (.aload_n 0, 1) := by decide +kernel
theorem dX12_init_665 : decode cX12_init 665 = .ok (.bipush 40, 2) := by decide +kernel
theorem dX12_init_667 : decode cX12_init 667 = .ok (.newarray .int, 2) := by decide +kernel
theorem dX12_init_669 : decode cX12_init 669 = .ok (.putfield 552, 3) := by decide +kernel
theorem dX12_init_672 : decode cX12_init 672 = .ok (.aload_n 0, 1) := by decide +kernel
theorem dX12_init_673 : decode cX12_init 673 = .ok (.bipush 40, 2) := by decide +kernel
theorem dX12_init_675 : decode cX12_init 675 = .ok (.newarray .int, 2) := by decide +kernel
theorem dX12_init_677 : decode cX12_init 677 = .ok (.putfield 555, 3) := by decide +kernel
theorem dX12_init_680 : decode cX12_init 680 = .ok (.aload_n 0, 1) := by decide +kernel
theorem dX12_init_681 : decode cX12_init 681 = .ok (.iconst 1, 1) := by decide +kernel
theorem dX12_init_682 : decode cX12_init 682 = .ok (.putfield 558, 3) := by decide +kernel
theorem dX12_init_685 : decode cX12_init 685 = .ok (.aload_n 0, 1) := by decide +kernel
theorem dX12_init_686 : decode cX12_init 686 = .ok (.iconst 1, 1) := by decide +kernel
theorem dX12_init_687 : decode cX12_init 687 = .ok (.putfield 561, 3) := by decide +kernel
theorem dX12_init_690 : decode cX12_init 690 = .ok (.aload_n 0, 1) := by decide +kernel
theorem dX12_init_691 : decode cX12_init 691 = .ok (.ldc_w 564, 3) := by decide +kernel
theorem dX12_init_694 : decode cX12_init 694 = .ok (.newarray .byte, 2) := by decide +kernel
theorem dX12_init_696 : decode cX12_init 696 = .ok (.putfield 565, 3) := by decide +kernel
theorem dX12_init_699 : decode cX12_init 699 = .ok (.aload_n 0, 1) := by decide +kernel
theorem dX12_init_700 : decode cX12_init 700 = .ok (.getfield 552, 3) := by decide +kernel
theorem dX12_init_703 : decode cX12_init 703 = .ok (.iconst 0, 1) := by decide +kernel
theorem dX12_init_704 : decode cX12_init 704 = .ok (.iconst 4, 1) := by decide +kernel
theorem dX12_init_705 : decode cX12_init 705 = .ok (.iastore, 1) := by decide +kernel
theorem dX12_init_706 : decode cX12_init 706 = .ok (.aload_n 0, 1) := by decide +kernel
theorem dX12_init_707 : decode cX12_init 707 = .ok (.getfield 555, 3) := by decide +kernel
theorem dX12_init_710 : decode cX12_init 710 = .ok (.iconst 0, 1) := by decide +kernel
theorem dX12_init_711 : decode cX12_init 711 = .ok (.iconst 4, 1) := by decide +kernel
theorem dX12_init_712 : decode cX12_init 712 = .ok (.iastore, 1) := by decide +kernel
theorem dX12_init_713 : decode cX12_init 713 = .ok (.return_, 1) := by decide +kernel
abbrev rm_X12_init : Room := { frames := 1, cells := 79, slots := 98872, locals := 60 }
set_option maxRecDepth 100000 in
def wp_X12_init (a : Nat) (S : PS) (Q : PS → Prop) : Prop :=
  (∀ q1, q1 ∉ pL S → ∀ S2, S2 = nA S 40 q1 1500 → (∀ S3, S3 = sR S2 97 a (some q1) → (∀ q4, q4 ∉ pL S3 → ∀ S5, S5 = nA S3 41 q4 1500 → (∀ S6, S6 = sR S5 99 a (some q4) → (∀ q7, q7 ∉ pL S6 → ∀ S8, S8 = nA S6 42 q7 3100 → (∀ S9, S9 = sR S8 105 a (some q7) → (∀ q10, q10 ∉ pL S9 → ∀ S11, S11 = nA S9 43 q10 3100 → (∀ S12, S12 = sR S11 106 a (some q10) → (∀ q13, q13 ∉ pL S12 → ∀ S14, S14 = nA S12 44 q13 3100 → (∀ S15, S15 = sR S14 107 a (some q13) → (∀ q16, q16 ∉ pL S15 → ∀ S17, S17 = nA S15 45 q16 3100 → (∀ S18, S18 = sR S17 108 a (some q16) → (∀ q19, q19 ∉ pL S18 → ∀ S20, S20 = nA S18 46 q19 3100 → (∀ S21, S21 = sR S20 109 a (some q19) → (∀ q22, q22 ∉ pL S21 → ∀ S23, S23 = nA S21 47 q22 3100 → (∀ S24, S24 = sR S23 110 a (some q22) → (∀ q25, q25 ∉ pL S24 → ∀ S26, S26 = nA S24 48 q25 3100 → (∀ S27, S27 = sR S26 111 a (some q25) → (∀ q28, q28 ∉ pL S27 → ∀ S29, S29 = nA S27 49 q28 3100 → (∀ S30, S30 = sR S29 112 a (some q28) → (∀ q31, q31 ∉ pL S30 → ∀ S32, S32 = nA S30 50 q31 1500 → (∀ S33, S33 = sR S32 114 a (some q31) → (∀ q34, q34 ∉ pL S33 → ∀ S35, S35 = nA S33 51 q34 1500 → (∀ S36, S36 = sR S35 115 a (some q34) → (∀ q37, q37 ∉ pL S36 → ∀ S38, S38 = nA S36 52 q37 1500 → (∀ S39, S39 = sR S38 116 a (some q37) → (∀ q40, q40 ∉ pL S39 → ∀ S41, S41 = nA S39 53 q40 1500 → (∀ S42, S42 = sR S41 118 a (some q40) → (∀ q43, q43 ∉ pL S42 → ∀ S44, S44 = nA S42 54 q43 1500 → (∀ S45, S45 = sR S44 119 a (some q43) → (∀ q46, q46 ∉ pL S45 → ∀ S47, S47 = nA S45 55 q46 20 → (∀ S48, S48 = sR S47 121 a (some q46) → (∀ q49, q49 ∉ pL S48 → ∀ S50, S50 = nA S48 56 q49 20 → (∀ S51, S51 = sR S50 122 a (some q49) → (∀ q52, q52 ∉ pL S51 → ∀ S53, S53 = nA S51 57 q52 20 → (∀ S54, S54 = sR S53 123 a (some q52) → (∀ q55, q55 ∉ pL S54 → ∀ S56, S56 = nA S54 58 q55 20 → (∀ S57, S57 = sR S56 124 a (some q55) → (∀ q58, q58 ∉ pL S57 → ∀ S59, S59 = nA S57 59 q58 5 → (∀ S60, S60 = sR S59 127 a (some q58) → (∀ q61, q61 ∉ pL S60 → ∀ S62, S62 = nA S60 60 q61 5 → (∀ S63, S63 = sR S62 128 a (some q61) → (∀ q64, q64 ∉ pL S63 → ∀ S65, S65 = nA S63 61 q64 10 → (∀ S66, S66 = sR S65 130 a (some q64) → (∀ q67, q67 ∉ pL S66 → ∀ S68, S68 = nA S66 62 q67 10 → (∀ S69, S69 = sR S68 131 a (some q67) → (∀ q70, q70 ∉ pL S69 → ∀ S71, S71 = nA S69 63 q70 10 → (∀ S72, S72 = sR S71 132 a (some q70) → (∀ q73, q73 ∉ pL S72 → ∀ S74, S74 = nA S72 64 q73 10 → (∀ S75, S75 = sR S74 133 a (some q73) → (∀ q76, q76 ∉ pL S75 → ∀ S77, S77 = nA S75 65 q76 300 → (∀ S78, S78 = sR S77 135 a (some q76) → (∀ q79, q79 ∉ pL S78 → ∀ S80, S80 = nA S78 66 q79 300 → (∀ S81, S81 = sR S80 136 a (some q79) → (∀ q82, q82 ∉ pL S81 → ∀ S83, S83 = nA S81 67 q82 300 → (∀ S84, S84 = sR S83 137 a (some q82) → (∀ q85, q85 ∉ pL S84 → ∀ S86, S86 = nA S84 68 q85 300 → (∀ S87, S87 = sR S86 138 a (some q85) → (∀ q88, q88 ∉ pL S87 → ∀ S89, S89 = nA S87 69 q88 300 → (∀ S90, S90 = sR S89 139 a (some q88) → (∀ q91, q91 ∉ pL S90 → ∀ S92, S92 = nA S90 70 q91 300 → (∀ S93, S93 = sR S92 140 a (some q91) → (∀ q94, q94 ∉ pL S93 → ∀ S95, S95 = nA S93 71 q94 300 → (∀ S96, S96 = sR S95 141 a (some q94) → (∀ q97, q97 ∉ pL S96 → ∀ S98, S98 = nA S96 72 q97 1800 → (∀ S99, S99 = sR S98 142 a (some q97) → (∀ q100, q100 ∉ pL S99 → ∀ S101, S101 = nA S99 73 q100 1800 → (∀ S102, S102 = sR S101 143 a (some q100) → (∀ q103, q103 ∉ pL S102 → ∀ S104, S104 = nA S102 74 q103 1800 → (∀ S105, S105 = sR S104 144 a (some q103) → (∀ q106, q106 ∉ pL S105 → ∀ S107, S107 = nA S105 75 q106 900 → (∀ S108, S108 = sR S107 145 a (some q106) → (∀ q109, q109 ∉ pL S108 → ∀ S110, S110 = nA S108 76 q109 12 → (∀ S111, S111 = sR S110 147 a (some q109) → (∀ q112, q112 ∉ pL S111 → ∀ S113, S113 = nA S111 77 q112 12 → (∀ S114, S114 = sR S113 148 a (some q112) → (∀ q115, q115 ∉ pL S114 → ∀ S116, S116 = nA S114 78 q115 40 → (∀ S117, S117 = sR S116 150 a (some q115) → (∀ q118, q118 ∉ pL S117 → ∀ S119, S119 = nA S117 79 q118 40 → (∀ S120, S120 = sR S119 151 a (some q118) → (∀ q121, q121 ∉ pL S120 → ∀ S122, S122 = nA S120 80 q121 40 → (∀ S123, S123 = sR S122 152 a (some q121) → (∀ q124, q124 ∉ pL S123 → ∀ S125, S125 = nA S123 81 q124 24 → (∀ S126, S126 = sR S125 167 a (some q124) → (∀ q127, q127 ∉ pL S126 → ∀ S128, S128 = nA S126 82 q127 24 → (∀ S129, S129 = sR S128 168 a (some q127) → (∀ q130, q130 ∉ pL S129 → ∀ S131, S131 = nA S129 83 q130 6 → (∀ S132, S132 = sR S131 170 a (some q130) → (∀ q133, q133 ∉ pL S132 → ∀ S134, S134 = nA S132 84 q133 6 → (∀ S135, S135 = sR S134 171 a (some q133) → (∀ q136, q136 ∉ pL S135 → ∀ S137, S137 = nA S135 85 q136 6 → (∀ S138, S138 = sR S137 172 a (some q136) → (∀ q139, q139 ∉ pL S138 → ∀ S140, S140 = nA S138 86 q139 260 → (∀ S141, S141 = sR S140 173 a (some q139) → (∀ q142, q142 ∉ pL S141 → ∀ S143, S143 = nA S141 87 q142 260 → (∀ S144, S144 = sR S143 174 a (some q142) → (∀ q145, q145 ∉ pL S144 → ∀ S146, S146 = nA S144 88 q145 260 → (∀ S147, S147 = sR S146 175 a (some q145) → (∀ q148, q148 ∉ pL S147 → ∀ S149, S149 = nA S147 89 q148 260 → (∀ S150, S150 = sR S149 176 a (some q148) → (∀ q151, q151 ∉ pL S150 → ∀ S152, S152 = nA S150 90 q151 260 → (∀ S153, S153 = sR S152 177 a (some q151) → (∀ q154, q154 ∉ pL S153 → ∀ S155, S155 = nA S153 91 q154 260 → (∀ S156, S156 = sR S155 178 a (some q154) → (∀ q157, q157 ∉ pL S156 → ∀ S158, S158 = nA S156 92 q157 260 → (∀ S159, S159 = sR S158 179 a (some q157) → (∀ q160, q160 ∉ pL S159 → ∀ S161, S161 = nA S159 93 q160 260 → (∀ S162, S162 = sR S161 180 a (some q160) → (∀ q163, q163 ∉ pL S162 → ∀ S164, S164 = nA S162 94 q163 260 → (∀ S165, S165 = sR S164 181 a (some q163) → (∀ q166, q166 ∉ pL S165 → ∀ S167, S167 = nA S165 95 q166 260 → (∀ S168, S168 = sR S167 182 a (some q166) → (∀ q169, q169 ∉ pL S168 → ∀ S170, S170 = nA S168 96 q169 260 → (∀ S171, S171 = sR S170 183 a (some q169) → (∀ q172, q172 ∉ pL S171 → ∀ S173, S173 = nA S171 97 q172 260 → (∀ S174, S174 = sR S173 184 a (some q172) → (∀ q175, q175 ∉ pL S174 → ∀ S176, S176 = nA S174 98 q175 260 → (∀ S177, S177 = sR S176 185 a (some q175) → (∀ q178, q178 ∉ pL S177 → ∀ S179, S179 = nA S177 99 q178 260 → (∀ S180, S180 = sR S179 186 a (some q178) → (∀ q181, q181 ∉ pL S180 → ∀ S182, S182 = nA S180 100 q181 260 → (∀ S183, S183 = sR S182 187 a (some q181) → (∀ q184, q184 ∉ pL S183 → ∀ S185, S185 = nA S183 101 q184 1500 → (∀ S186, S186 = sR S185 189 a (some q184) → (∀ q187, q187 ∉ pL S186 → ∀ S188, S188 = nA S186 102 q187 300 → (∀ S189, S189 = sR S188 190 a (some q187) → (∀ q190, q190 ∉ pL S189 → ∀ S191, S191 = nA S189 103 q190 300 → (∀ S192, S192 = sR S191 191 a (some q190) → (∀ q193, q193 ∉ pL S192 → ∀ S194, S194 = nA S192 104 q193 300 → (∀ S195, S195 = sR S194 192 a (some q193) → (∀ q196, q196 ∉ pL S195 → ∀ S197, S197 = nA S195 105 q196 300 → (∀ S198, S198 = sR S197 193 a (some q196) → (∀ q199, q199 ∉ pL S198 → ∀ S200, S200 = nA S198 106 q199 300 → (∀ S201, S201 = sR S200 194 a (some q199) → (∀ q202, q202 ∉ pL S201 → ∀ S203, S203 = nA S201 107 q202 300 → (∀ S204, S204 = sR S203 195 a (some q202) → (∀ q205, q205 ∉ pL S204 → ∀ S206, S206 = nA S204 108 q205 1800 → (∀ S207, S207 = sR S206 196 a (some q205) → (∀ q208, q208 ∉ pL S207 → ∀ S209, S209 = nA S207 109 q208 1800 → (∀ S210, S210 = sR S209 197 a (some q208) → (∀ q211, q211 ∉ pL S210 → ∀ S212, S212 = nA S210 110 q211 1800 → (∀ S213, S213 = sR S212 198 a (some q211) → (∀ q214, q214 ∉ pL S213 → ∀ S215, S215 = nA S213 111 q214 900 → (∀ S216, S216 = sR S215 199 a (some q214) → (∀ q217, q217 ∉ pL S216 → ∀ S218, S218 = nA S216 112 q217 900 → (∀ S219, S219 = sR S218 200 a (some q217) → (∀ q220, q220 ∉ pL S219 → ∀ S221, S221 = nA S219 113 q220 300 → (∀ S222, S222 = sR S221 201 a (some q220) → (∀ q223, q223 ∉ pL S222 → ∀ S224, S224 = nA S222 114 q223 12 → (∀ S225, S225 = sR S224 202 a (some q223) → (∀ q226, q226 ∉ pL S225 → ∀ S227, S227 = nA S225 115 q226 40 → (∀ S228, S228 = sR S227 203 a (some q226) → (∀ q229, q229 ∉ pL S228 → ∀ S230, S230 = nA S228 116 q229 40 → (∀ S231, S231 = sR S230 204 a (some q229) → (∀ q232, q232 ∉ pL S231 → ∀ S233, S233 = nA S231 117 q232 40 → (∀ S234, S234 = sR S233 205 a (some q232) → (∀ S235, S235 = sI S234 207 a 1 → (∀ S236, S236 = sI S235 210 a 1 → (∀ q237, q237 ∉ pL S236 → ∀ S238, S238 = nA S236 118 q237 40000 → (∀ S239, S239 = sR S238 212 a (some q237) → (∃ b240, fR S239 204 a = some b240 ∧ (vp_in 0 (aN S239 b240) ∧ ∀ S241, S241 = wI S239 116 b240 (0 : Int32).toNatClampNeg 4 → (∃ b242, fR S241 205 a = some b242 ∧ (vp_in 0 (aN S241 b242) ∧ ∀ S243, S243 = wI S241 117 b242 (0 : Int32).toNatClampNeg 4 → Q S243))))))))))))))))))))))))))))))))))))))))))))))))))))))))))))))))))))))))))))))))))))))))))))))))))))))))))))))))))))))))))))))))))))))))))))))))))))))))))))))))))))
set_option maxRecDepth 100000 in
set_option maxHeartbeats 4000000 in
theorem c_X12_init {l : Launch} {E : EE} {A : Nat → Prop} {a : Nat} {S : PS} {Q : PS → Prop} (r_a : Rf S a 9) (h : wp_X12_init a S Q) : MtV l yX12_init (.code yX12_init cX12_init 1 none) rm_X12_init E A [.ref a] S Q := by
  refine MtV.of2 (by decide) (Nat.le_of_ble_eq_true rfl) (fun X F hQ hX => ?_)
  show VV X (0, 0) S [(0, .ref a)] [] 0
  obtain ⟨hXl, hXE, hXA, hN, hnm⟩ := hX
  subst hXE
  subst hXA
  subst hXl
  unfold wp_X12_init at h
  refine v_aload_n F dX12_init_0 0 rfl rfl ?_
  refine v_obj F ko_X12_502 ko_i ko_c (by decide) (Nat.le_of_ble_eq_true rfl) dX12_init_1 ?_
  refine v_aload_n F dX12_init_4 0 rfl rfl ?_
  refine v_sipush (v := 1500) F dX12_init_5 (by decide) ?_
  refine na_B (r := 40) (N := 1500) F (by decide) rfl (by decide) (by decide) (by decide) (by decide) dX12_init_8 h (fun q1 S2 h hE r_q1 => v_widen (k := (1, 1500)) (by decide) ?_)
  have r_a := r_a.tr hE
  refine pf_X12_16 F hnm r_a r_q1 h dX12_init_10 (fun S3 h hE => ?_)
  have r_a := r_a.tr hE
  refine v_aload_n F dX12_init_13 0 rfl rfl ?_
  refine v_sipush (v := 1500) F dX12_init_14 (by decide) ?_
  refine na_B (r := 41) (N := 1500) F (by decide) rfl (by decide) (by decide) (by decide) (by decide) dX12_init_17 h (fun q4 S5 h hE r_q4 => v_widen (k := (2, 3000)) (by decide) ?_)
  have r_a := r_a.tr hE
  refine pf_X12_35 F hnm r_a r_q4 h dX12_init_19 (fun S6 h hE => ?_)
  have r_a := r_a.tr hE
  refine v_aload_n F dX12_init_22 0 rfl rfl ?_
  refine v_sipush (v := 3100) F dX12_init_23 (by decide) ?_
  refine na_I (r := 42) (N := 3100) F (by decide) rfl (by decide) (by decide) (by decide) (by decide) dX12_init_26 h (fun q7 S8 h hE r_q7 => v_widen (k := (3, 6100)) (by decide) ?_)
  have r_a := r_a.tr hE
  refine pf_X12_86 F hnm r_a r_q7 h dX12_init_28 (fun S9 h hE => ?_)
  have r_a := r_a.tr hE
  refine v_aload_n F dX12_init_31 0 rfl rfl ?_
  refine v_sipush (v := 3100) F dX12_init_32 (by decide) ?_
  refine na_I (r := 43) (N := 3100) F (by decide) rfl (by decide) (by decide) (by decide) (by decide) dX12_init_35 h (fun q10 S11 h hE r_q10 => v_widen (k := (4, 9200)) (by decide) ?_)
  have r_a := r_a.tr hE
  refine pf_X12_90 F hnm r_a r_q10 h dX12_init_37 (fun S12 h hE => ?_)
  have r_a := r_a.tr hE
  refine v_aload_n F dX12_init_40 0 rfl rfl ?_
  refine v_sipush (v := 3100) F dX12_init_41 (by decide) ?_
  refine na_I (r := 44) (N := 3100) F (by decide) rfl (by decide) (by decide) (by decide) (by decide) dX12_init_44 h (fun q13 S14 h hE r_q13 => v_widen (k := (5, 12300)) (by decide) ?_)
  have r_a := r_a.tr hE
  refine pf_X12_93 F hnm r_a r_q13 h dX12_init_46 (fun S15 h hE => ?_)
  have r_a := r_a.tr hE
  refine v_aload_n F dX12_init_49 0 rfl rfl ?_
  refine v_sipush (v := 3100) F dX12_init_50 (by decide) ?_
  refine na_I (r := 45) (N := 3100) F (by decide) rfl (by decide) (by decide) (by decide) (by decide) dX12_init_53 h (fun q16 S17 h hE r_q16 => v_widen (k := (6, 15400)) (by decide) ?_)
  have r_a := r_a.tr hE
  refine pf_X12_96 F hnm r_a r_q16 h dX12_init_55 (fun S18 h hE => ?_)
  have r_a := r_a.tr hE
  refine v_aload_n F dX12_init_58 0 rfl rfl ?_
  refine v_sipush (v := 3100) F dX12_init_59 (by decide) ?_
  refine na_I (r := 46) (N := 3100) F (by decide) rfl (by decide) (by decide) (by decide) (by decide) dX12_init_62 h (fun q19 S20 h hE r_q19 => v_widen (k := (7, 18500)) (by decide) ?_)
  have r_a := r_a.tr hE
  refine pf_X12_99 F hnm r_a r_q19 h dX12_init_64 (fun S21 h hE => ?_)
  have r_a := r_a.tr hE
  refine v_aload_n F dX12_init_67 0 rfl rfl ?_
  refine v_sipush (v := 3100) F dX12_init_68 (by decide) ?_
  refine na_I (r := 47) (N := 3100) F (by decide) rfl (by decide) (by decide) (by decide) (by decide) dX12_init_71 h (fun q22 S23 h hE r_q22 => v_widen (k := (8, 21600)) (by decide) ?_)
  have r_a := r_a.tr hE
  refine pf_X12_102 F hnm r_a r_q22 h dX12_init_73 (fun S24 h hE => ?_)
  have r_a := r_a.tr hE
  refine v_aload_n F dX12_init_76 0 rfl rfl ?_
  refine v_sipush (v := 3100) F dX12_init_77 (by decide) ?_
  refine na_J (r := 48) (N := 3100) F (by decide) rfl (by decide) (by decide) (by decide) (by decide) dX12_init_80 h (fun q25 S26 h hE r_q25 => v_widen (k := (9, 24700)) (by decide) ?_)
  have r_a := r_a.tr hE
  refine pf_X12_105 F hnm r_a r_q25 h dX12_init_82 (fun S27 h hE => ?_)
  have r_a := r_a.tr hE
  refine v_aload_n F dX12_init_85 0 rfl rfl ?_
  refine v_sipush (v := 3100) F dX12_init_86 (by decide) ?_
  refine na_Z (r := 49) (N := 3100) F (by decide) rfl (by decide) (by decide) (by decide) (by decide) dX12_init_89 h (fun q28 S29 h hE r_q28 => v_widen (k := (10, 27800)) (by decide) ?_)
  have r_a := r_a.tr hE
  refine pf_X12_109 F hnm r_a r_q28 h dX12_init_91 (fun S30 h hE => ?_)
  have r_a := r_a.tr hE
  refine v_aload_n F dX12_init_94 0 rfl rfl ?_
  refine v_sipush (v := 1500) F dX12_init_95 (by decide) ?_
  refine na_I (r := 50) (N := 1500) F (by decide) rfl (by decide) (by decide) (by decide) (by decide) dX12_init_98 h (fun q31 S32 h hE r_q31 => v_widen (k := (11, 29300)) (by decide) ?_)
  have r_a := r_a.tr hE
  refine pf_X12_198 F hnm r_a r_q31 h dX12_init_100 (fun S33 h hE => ?_)
  have r_a := r_a.tr hE
  refine v_aload_n F dX12_init_103 0 rfl rfl ?_
  refine v_sipush (v := 1500) F dX12_init_104 (by decide) ?_
  refine na_I (r := 51) (N := 1500) F (by decide) rfl (by decide) (by decide) (by decide) (by decide) dX12_init_107 h (fun q34 S35 h hE r_q34 => v_widen (k := (12, 30800)) (by decide) ?_)
  have r_a := r_a.tr hE
  refine pf_X12_201 F hnm r_a r_q34 h dX12_init_109 (fun S36 h hE => ?_)
  have r_a := r_a.tr hE
  refine v_aload_n F dX12_init_112 0 rfl rfl ?_
  refine v_sipush (v := 1500) F dX12_init_113 (by decide) ?_
  refine na_I (r := 52) (N := 1500) F (by decide) rfl (by decide) (by decide) (by decide) (by decide) dX12_init_116 h (fun q37 S38 h hE r_q37 => v_widen (k := (13, 32300)) (by decide) ?_)
  have r_a := r_a.tr hE
  refine pf_X12_207 F hnm r_a r_q37 h dX12_init_118 (fun S39 h hE => ?_)
  have r_a := r_a.tr hE
  refine v_aload_n F dX12_init_121 0 rfl rfl ?_
  refine v_sipush (v := 1500) F dX12_init_122 (by decide) ?_
  refine na_I (r := 53) (N := 1500) F (by decide) rfl (by decide) (by decide) (by decide) (by decide) dX12_init_125 h (fun q40 S41 h hE r_q40 => v_widen (k := (14, 33800)) (by decide) ?_)
  have r_a := r_a.tr hE
  refine pf_X12_221 F hnm r_a r_q40 h dX12_init_127 (fun S42 h hE => ?_)
  have r_a := r_a.tr hE
  refine v_aload_n F dX12_init_130 0 rfl rfl ?_
  refine v_sipush (v := 1500) F dX12_init_131 (by decide) ?_
  refine na_I (r := 54) (N := 1500) F (by decide) rfl (by decide) (by decide) (by decide) (by decide) dX12_init_134 h (fun q43 S44 h hE r_q43 => v_widen (k := (15, 35300)) (by decide) ?_)
  have r_a := r_a.tr hE
  refine pf_X12_224 F hnm r_a r_q43 h dX12_init_136 (fun S45 h hE => ?_)
  have r_a := r_a.tr hE
  refine v_aload_n F dX12_init_139 0 rfl rfl ?_
  refine v_bipush (v := 20) F dX12_init_140 (by decide) ?_
  refine na_I (r := 55) (N := 20) F (by decide) rfl (by decide) (by decide) (by decide) (by decide) dX12_init_142 h (fun q46 S47 h hE r_q46 => v_widen (k := (16, 35320)) (by decide) ?_)
  have r_a := r_a.tr hE
  refine pf_X12_233 F hnm r_a r_q46 h dX12_init_144 (fun S48 h hE => ?_)
  have r_a := r_a.tr hE
  refine v_aload_n F dX12_init_147 0 rfl rfl ?_
  refine v_bipush (v := 20) F dX12_init_148 (by decide) ?_
  refine na_I (r := 56) (N := 20) F (by decide) rfl (by decide) (by decide) (by decide) (by decide) dX12_init_150 h (fun q49 S50 h hE r_q49 => v_widen (k := (17, 35340)) (by decide) ?_)
  have r_a := r_a.tr hE
  refine pf_X12_236 F hnm r_a r_q49 h dX12_init_152 (fun S51 h hE => ?_)
  have r_a := r_a.tr hE
  refine v_aload_n F dX12_init_155 0 rfl rfl ?_
  refine v_bipush (v := 20) F dX12_init_156 (by decide) ?_
  refine na_I (r := 57) (N := 20) F (by decide) rfl (by decide) (by decide) (by decide) (by decide) dX12_init_158 h (fun q52 S53 h hE r_q52 => v_widen (k := (18, 35360)) (by decide) ?_)
  have r_a := r_a.tr hE
  refine pf_X12_265 F hnm r_a r_q52 h dX12_init_160 (fun S54 h hE => ?_)
  have r_a := r_a.tr hE
  refine v_aload_n F dX12_init_163 0 rfl rfl ?_
  refine v_bipush (v := 20) F dX12_init_164 (by decide) ?_
  refine na_I (r := 58) (N := 20) F (by decide) rfl (by decide) (by decide) (by decide) (by decide) dX12_init_166 h (fun q55 S56 h hE r_q55 => v_widen (k := (19, 35380)) (by decide) ?_)
  have r_a := r_a.tr hE
  refine pf_X12_268 F hnm r_a r_q55 h dX12_init_168 (fun S57 h hE => ?_)
  have r_a := r_a.tr hE
  refine v_aload_n F dX12_init_171 0 rfl rfl ?_
  refine v_iconst (v := 5) F dX12_init_172 (by decide) ?_
  refine na_I (r := 59) (N := 5) F (by decide) rfl (by decide) (by decide) (by decide) (by decide) dX12_init_173 h (fun q58 S59 h hE r_q58 => v_widen (k := (20, 35385)) (by decide) ?_)
  have r_a := r_a.tr hE
  refine pf_X12_250 F hnm r_a r_q58 h dX12_init_175 (fun S60 h hE => ?_)
  have r_a := r_a.tr hE
  refine v_aload_n F dX12_init_178 0 rfl rfl ?_
  refine v_iconst (v := 5) F dX12_init_179 (by decide) ?_
  refine na_I (r := 60) (N := 5) F (by decide) rfl (by decide) (by decide) (by decide) (by decide) dX12_init_180 h (fun q61 S62 h hE r_q61 => v_widen (k := (21, 35390)) (by decide) ?_)
  have r_a := r_a.tr hE
  refine pf_X12_253 F hnm r_a r_q61 h dX12_init_182 (fun S63 h hE => ?_)
  have r_a := r_a.tr hE
  refine v_aload_n F dX12_init_185 0 rfl rfl ?_
  refine v_bipush (v := 10) F dX12_init_186 (by decide) ?_
  refine na_I (r := 61) (N := 10) F (by decide) rfl (by decide) (by decide) (by decide) (by decide) dX12_init_188 h (fun q64 S65 h hE r_q64 => v_widen (k := (22, 35400)) (by decide) ?_)
  have r_a := r_a.tr hE
  refine pf_X12_113 F hnm r_a r_q64 h dX12_init_190 (fun S66 h hE => ?_)
  have r_a := r_a.tr hE
  refine v_aload_n F dX12_init_193 0 rfl rfl ?_
  refine v_bipush (v := 10) F dX12_init_194 (by decide) ?_
  refine na_I (r := 62) (N := 10) F (by decide) rfl (by decide) (by decide) (by decide) (by decide) dX12_init_196 h (fun q67 S68 h hE r_q67 => v_widen (k := (23, 35410)) (by decide) ?_)
  have r_a := r_a.tr hE
  refine pf_X12_119 F hnm r_a r_q67 h dX12_init_198 (fun S69 h hE => ?_)
  have r_a := r_a.tr hE
  refine v_aload_n F dX12_init_201 0 rfl rfl ?_
  refine v_bipush (v := 10) F dX12_init_202 (by decide) ?_
  refine na_I (r := 63) (N := 10) F (by decide) rfl (by decide) (by decide) (by decide) (by decide) dX12_init_204 h (fun q70 S71 h hE r_q70 => v_widen (k := (24, 35420)) (by decide) ?_)
  have r_a := r_a.tr hE
  refine pf_X12_122 F hnm r_a r_q70 h dX12_init_206 (fun S72 h hE => ?_)
  have r_a := r_a.tr hE
  refine v_aload_n F dX12_init_209 0 rfl rfl ?_
  refine v_bipush (v := 10) F dX12_init_210 (by decide) ?_
  refine na_I (r := 64) (N := 10) F (by decide) rfl (by decide) (by decide) (by decide) (by decide) dX12_init_212 h (fun q73 S74 h hE r_q73 => v_widen (k := (25, 35430)) (by decide) ?_)
  have r_a := r_a.tr hE
  refine pf_X12_125 F hnm r_a r_q73 h dX12_init_214 (fun S75 h hE => ?_)
  have r_a := r_a.tr hE
  refine v_aload_n F dX12_init_217 0 rfl rfl ?_
  refine v_sipush (v := 300) F dX12_init_218 (by decide) ?_
  refine na_I (r := 65) (N := 300) F (by decide) rfl (by decide) (by decide) (by decide) (by decide) dX12_init_221 h (fun q76 S77 h hE r_q76 => v_widen (k := (26, 35730)) (by decide) ?_)
  have r_a := r_a.tr hE
  refine pf_X12_444 F hnm r_a r_q76 h dX12_init_223 (fun S78 h hE => ?_)
  have r_a := r_a.tr hE
  refine v_aload_n F dX12_init_226 0 rfl rfl ?_
  refine v_sipush (v := 300) F dX12_init_227 (by decide) ?_
  refine na_I (r := 66) (N := 300) F (by decide) rfl (by decide) (by decide) (by decide) (by decide) dX12_init_230 h (fun q79 S80 h hE r_q79 => v_widen (k := (27, 36030)) (by decide) ?_)
  have r_a := r_a.tr hE
  refine pf_X12_420 F hnm r_a r_q79 h dX12_init_232 (fun S81 h hE => ?_)
  have r_a := r_a.tr hE
  refine v_aload_n F dX12_init_235 0 rfl rfl ?_
  refine v_sipush (v := 300) F dX12_init_236 (by decide) ?_
  refine na_Z (r := 67) (N := 300) F (by decide) rfl (by decide) (by decide) (by decide) (by decide) dX12_init_239 h (fun q82 S83 h hE r_q82 => v_widen (k := (28, 36330)) (by decide) ?_)
  have r_a := r_a.tr hE
  refine pf_X12_447 F hnm r_a r_q82 h dX12_init_241 (fun S84 h hE => ?_)
  have r_a := r_a.tr hE
  refine v_aload_n F dX12_init_244 0 rfl rfl ?_
  refine v_sipush (v := 300) F dX12_init_245 (by decide) ?_
  refine na_Z (r := 68) (N := 300) F (by decide) rfl (by decide) (by decide) (by decide) (by decide) dX12_init_248 h (fun q85 S86 h hE r_q85 => v_widen (k := (29, 36630)) (by decide) ?_)
  have r_a := r_a.tr hE
  refine pf_X12_450 F hnm r_a r_q85 h dX12_init_250 (fun S87 h hE => ?_)
  have r_a := r_a.tr hE
  refine v_aload_n F dX12_init_253 0 rfl rfl ?_
  refine v_sipush (v := 300) F dX12_init_254 (by decide) ?_
  refine na_J (r := 69) (N := 300) F (by decide) rfl (by decide) (by decide) (by decide) (by decide) dX12_init_257 h (fun q88 S89 h hE r_q88 => v_widen (k := (30, 36930)) (by decide) ?_)
  have r_a := r_a.tr hE
  refine pf_X12_453 F hnm r_a r_q88 h dX12_init_259 (fun S90 h hE => ?_)
  have r_a := r_a.tr hE
  refine v_aload_n F dX12_init_262 0 rfl rfl ?_
  refine v_sipush (v := 300) F dX12_init_263 (by decide) ?_
  refine na_J (r := 70) (N := 300) F (by decide) rfl (by decide) (by decide) (by decide) (by decide) dX12_init_266 h (fun q91 S92 h hE r_q91 => v_widen (k := (31, 37230)) (by decide) ?_)
  have r_a := r_a.tr hE
  refine pf_X12_456 F hnm r_a r_q91 h dX12_init_268 (fun S93 h hE => ?_)
  have r_a := r_a.tr hE
  refine v_aload_n F dX12_init_271 0 rfl rfl ?_
  refine v_sipush (v := 300) F dX12_init_272 (by decide) ?_
  refine na_I (r := 71) (N := 300) F (by decide) rfl (by decide) (by decide) (by decide) (by decide) dX12_init_275 h (fun q94 S95 h hE r_q94 => v_widen (k := (32, 37530)) (by decide) ?_)
  have r_a := r_a.tr hE
  refine pf_X12_438 F hnm r_a r_q94 h dX12_init_277 (fun S96 h hE => ?_)
  have r_a := r_a.tr hE
  refine v_aload_n F dX12_init_280 0 rfl rfl ?_
  refine v_sipush (v := 1800) F dX12_init_281 (by decide) ?_
  refine na_I (r := 72) (N := 1800) F (by decide) rfl (by decide) (by decide) (by decide) (by decide) dX12_init_284 h (fun q97 S98 h hE r_q97 => v_widen (k := (33, 39330)) (by decide) ?_)
  have r_a := r_a.tr hE
  refine pf_X12_423 F hnm r_a r_q97 h dX12_init_286 (fun S99 h hE => ?_)
  have r_a := r_a.tr hE
  refine v_aload_n F dX12_init_289 0 rfl rfl ?_
  refine v_sipush (v := 1800) F dX12_init_290 (by decide) ?_
  refine na_I (r := 73) (N := 1800) F (by decide) rfl (by decide) (by decide) (by decide) (by decide) dX12_init_293 h (fun q100 S101 h hE r_q100 => v_widen (k := (34, 41130)) (by decide) ?_)
  have r_a := r_a.tr hE
  refine pf_X12_426 F hnm r_a r_q100 h dX12_init_295 (fun S102 h hE => ?_)
  have r_a := r_a.tr hE
  refine v_aload_n F dX12_init_298 0 rfl rfl ?_
  refine v_sipush (v := 1800) F dX12_init_299 (by decide) ?_
  refine na_I (r := 74) (N := 1800) F (by decide) rfl (by decide) (by decide) (by decide) (by decide) dX12_init_302 h (fun q103 S104 h hE r_q103 => v_widen (k := (35, 42930)) (by decide) ?_)
  have r_a := r_a.tr hE
  refine pf_X12_429 F hnm r_a r_q103 h dX12_init_304 (fun S105 h hE => ?_)
  have r_a := r_a.tr hE
  refine v_aload_n F dX12_init_307 0 rfl rfl ?_
  refine v_sipush (v := 900) F dX12_init_308 (by decide) ?_
  refine na_I (r := 75) (N := 900) F (by decide) rfl (by decide) (by decide) (by decide) (by decide) dX12_init_311 h (fun q106 S107 h hE r_q106 => v_widen (k := (36, 43830)) (by decide) ?_)
  have r_a := r_a.tr hE
  refine pf_X12_459 F hnm r_a r_q106 h dX12_init_313 (fun S108 h hE => ?_)
  have r_a := r_a.tr hE
  refine v_aload_n F dX12_init_316 0 rfl rfl ?_
  refine v_bipush (v := 12) F dX12_init_317 (by decide) ?_
  refine na_J (r := 76) (N := 12) F (by decide) rfl (by decide) (by decide) (by decide) (by decide) dX12_init_319 h (fun q109 S110 h hE r_q109 => v_widen (k := (37, 43842)) (by decide) ?_)
  have r_a := r_a.tr hE
  refine pf_X12_493 F hnm r_a r_q109 h dX12_init_321 (fun S111 h hE => ?_)
  have r_a := r_a.tr hE
  refine v_aload_n F dX12_init_324 0 rfl rfl ?_
  refine v_bipush (v := 12) F dX12_init_325 (by decide) ?_
  refine na_I (r := 77) (N := 12) F (by decide) rfl (by decide) (by decide) (by decide) (by decide) dX12_init_327 h (fun q112 S113 h hE r_q112 => v_widen (k := (38, 43854)) (by decide) ?_)
  have r_a := r_a.tr hE
  refine pf_X12_432 F hnm r_a r_q112 h dX12_init_329 (fun S114 h hE => ?_)
  have r_a := r_a.tr hE
  refine v_aload_n F dX12_init_332 0 rfl rfl ?_
  refine v_bipush (v := 40) F dX12_init_333 (by decide) ?_
  refine na_J (r := 78) (N := 40) F (by decide) rfl (by decide) (by decide) (by decide) (by decide) dX12_init_335 h (fun q115 S116 h hE r_q115 => v_widen (k := (39, 43894)) (by decide) ?_)
  have r_a := r_a.tr hE
  refine pf_X12_465 F hnm r_a r_q115 h dX12_init_337 (fun S117 h hE => ?_)
  have r_a := r_a.tr hE
  refine v_aload_n F dX12_init_340 0 rfl rfl ?_
  refine v_bipush (v := 40) F dX12_init_341 (by decide) ?_
  refine na_I (r := 79) (N := 40) F (by decide) rfl (by decide) (by decide) (by decide) (by decide) dX12_init_343 h (fun q118 S119 h hE r_q118 => v_widen (k := (40, 43934)) (by decide) ?_)
  have r_a := r_a.tr hE
  refine pf_X12_468 F hnm r_a r_q118 h dX12_init_345 (fun S120 h hE => ?_)
  have r_a := r_a.tr hE
  refine v_aload_n F dX12_init_348 0 rfl rfl ?_
  refine v_bipush (v := 40) F dX12_init_349 (by decide) ?_
  refine na_I (r := 80) (N := 40) F (by decide) rfl (by decide) (by decide) (by decide) (by decide) dX12_init_351 h (fun q121 S122 h hE r_q121 => v_widen (k := (41, 43974)) (by decide) ?_)
  have r_a := r_a.tr hE
  refine pf_X12_471 F hnm r_a r_q121 h dX12_init_353 (fun S123 h hE => ?_)
  have r_a := r_a.tr hE
  refine v_aload_n F dX12_init_356 0 rfl rfl ?_
  refine v_bipush (v := 24) F dX12_init_357 (by decide) ?_
  refine na_I (r := 81) (N := 24) F (by decide) rfl (by decide) (by decide) (by decide) (by decide) dX12_init_359 h (fun q124 S125 h hE r_q124 => v_widen (k := (42, 43998)) (by decide) ?_)
  have r_a := r_a.tr hE
  refine pf_X12_496 F hnm r_a r_q124 h dX12_init_361 (fun S126 h hE => ?_)
  have r_a := r_a.tr hE
  refine v_aload_n F dX12_init_364 0 rfl rfl ?_
  refine v_bipush (v := 24) F dX12_init_365 (by decide) ?_
  refine na_I (r := 82) (N := 24) F (by decide) rfl (by decide) (by decide) (by decide) (by decide) dX12_init_367 h (fun q127 S128 h hE r_q127 => v_widen (k := (43, 44022)) (by decide) ?_)
  have r_a := r_a.tr hE
  refine pf_X12_499 F hnm r_a r_q127 h dX12_init_369 (fun S129 h hE => ?_)
  have r_a := r_a.tr hE
  refine v_aload_n F dX12_init_372 0 rfl rfl ?_
  refine v_bipush (v := 6) F dX12_init_373 (by decide) ?_
  refine na_I (r := 83) (N := 6) F (by decide) rfl (by decide) (by decide) (by decide) (by decide) dX12_init_375 h (fun q130 S131 h hE r_q130 => v_widen (k := (44, 44028)) (by decide) ?_)
  have r_a := r_a.tr hE
  refine pf_X12_399 F hnm r_a r_q130 h dX12_init_377 (fun S132 h hE => ?_)
  have r_a := r_a.tr hE
  refine v_aload_n F dX12_init_380 0 rfl rfl ?_
  refine v_bipush (v := 6) F dX12_init_381 (by decide) ?_
  refine na_I (r := 84) (N := 6) F (by decide) rfl (by decide) (by decide) (by decide) (by decide) dX12_init_383 h (fun q133 S134 h hE r_q133 => v_widen (k := (45, 44034)) (by decide) ?_)
  have r_a := r_a.tr hE
  refine pf_X12_402 F hnm r_a r_q133 h dX12_init_385 (fun S135 h hE => ?_)
  have r_a := r_a.tr hE
  refine v_aload_n F dX12_init_388 0 rfl rfl ?_
  refine v_bipush (v := 6) F dX12_init_389 (by decide) ?_
  refine na_I (r := 85) (N := 6) F (by decide) rfl (by decide) (by decide) (by decide) (by decide) dX12_init_391 h (fun q136 S137 h hE r_q136 => v_widen (k := (46, 44040)) (by decide) ?_)
  have r_a := r_a.tr hE
  refine pf_X12_396 F hnm r_a r_q136 h dX12_init_393 (fun S138 h hE => ?_)
  have r_a := r_a.tr hE
  refine v_aload_n F dX12_init_396 0 rfl rfl ?_
  refine v_sipush (v := 260) F dX12_init_397 (by decide) ?_
  refine na_I (r := 86) (N := 260) F (by decide) rfl (by decide) (by decide) (by decide) (by decide) dX12_init_400 h (fun q139 S140 h hE r_q139 => v_widen (k := (47, 44300)) (by decide) ?_)
  have r_a := r_a.tr hE
  refine pf_X12_285 F hnm r_a r_q139 h dX12_init_402 (fun S141 h hE => ?_)
  have r_a := r_a.tr hE
  refine v_aload_n F dX12_init_405 0 rfl rfl ?_
  refine v_sipush (v := 260) F dX12_init_406 (by decide) ?_
  refine na_I (r := 87) (N := 260) F (by decide) rfl (by decide) (by decide) (by decide) (by decide) dX12_init_409 h (fun q142 S143 h hE r_q142 => v_widen (k := (48, 44560)) (by decide) ?_)
  have r_a := r_a.tr hE
  refine pf_X12_279 F hnm r_a r_q142 h dX12_init_411 (fun S144 h hE => ?_)
  have r_a := r_a.tr hE
  refine v_aload_n F dX12_init_414 0 rfl rfl ?_
  refine v_sipush (v := 260) F dX12_init_415 (by decide) ?_
  refine na_I (r := 88) (N := 260) F (by decide) rfl (by decide) (by decide) (by decide) (by decide) dX12_init_418 h (fun q145 S146 h hE r_q145 => v_widen (k := (49, 44820)) (by decide) ?_)
  have r_a := r_a.tr hE
  refine pf_X12_291 F hnm r_a r_q145 h dX12_init_420 (fun S147 h hE => ?_)
  have r_a := r_a.tr hE
  refine v_aload_n F dX12_init_423 0 rfl rfl ?_
  refine v_sipush (v := 260) F dX12_init_424 (by decide) ?_
  refine na_I (r := 89) (N := 260) F (by decide) rfl (by decide) (by decide) (by decide) (by decide) dX12_init_427 h (fun q148 S149 h hE r_q148 => v_widen (k := (50, 45080)) (by decide) ?_)
  have r_a := r_a.tr hE
  refine pf_X12_329 F hnm r_a r_q148 h dX12_init_429 (fun S150 h hE => ?_)
  have r_a := r_a.tr hE
  refine v_aload_n F dX12_init_432 0 rfl rfl ?_
  refine v_sipush (v := 260) F dX12_init_433 (by decide) ?_
  refine na_I (r := 90) (N := 260) F (by decide) rfl (by decide) (by decide) (by decide) (by decide) dX12_init_436 h (fun q151 S152 h hE r_q151 => v_widen (k := (51, 45340)) (by decide) ?_)
  have r_a := r_a.tr hE
  refine pf_X12_320 F hnm r_a r_q151 h dX12_init_438 (fun S153 h hE => ?_)
  have r_a := r_a.tr hE
  refine v_aload_n F dX12_init_441 0 rfl rfl ?_
  refine v_sipush (v := 260) F dX12_init_442 (by decide) ?_
  refine na_I (r := 91) (N := 260) F (by decide) rfl (by decide) (by decide) (by decide) (by decide) dX12_init_445 h (fun q154 S155 h hE r_q154 => v_widen (k := (52, 45600)) (by decide) ?_)
  have r_a := r_a.tr hE
  refine pf_X12_341 F hnm r_a r_q154 h dX12_init_447 (fun S156 h hE => ?_)
  have r_a := r_a.tr hE
  refine v_aload_n F dX12_init_450 0 rfl rfl ?_
  refine v_sipush (v := 260) F dX12_init_451 (by decide) ?_
  refine na_I (r := 92) (N := 260) F (by decide) rfl (by decide) (by decide) (by decide) (by decide) dX12_init_454 h (fun q157 S158 h hE r_q157 => v_widen (k := (53, 45860)) (by decide) ?_)
  have r_a := r_a.tr hE
  refine pf_X12_288 F hnm r_a r_q157 h dX12_init_456 (fun S159 h hE => ?_)
  have r_a := r_a.tr hE
  refine v_aload_n F dX12_init_459 0 rfl rfl ?_
  refine v_sipush (v := 260) F dX12_init_460 (by decide) ?_
  refine na_I (r := 93) (N := 260) F (by decide) rfl (by decide) (by decide) (by decide) (by decide) dX12_init_463 h (fun q160 S161 h hE r_q160 => v_widen (k := (54, 46120)) (by decide) ?_)
  have r_a := r_a.tr hE
  refine pf_X12_487 F hnm r_a r_q160 h dX12_init_465 (fun S162 h hE => ?_)
  have r_a := r_a.tr hE
  refine v_aload_n F dX12_init_468 0 rfl rfl ?_
  refine v_sipush (v := 260) F dX12_init_469 (by decide) ?_
  refine na_J (r := 94) (N := 260) F (by decide) rfl (by decide) (by decide) (by decide) (by decide) dX12_init_472 h (fun q163 S164 h hE r_q163 => v_widen (k := (55, 46380)) (by decide) ?_)
  have r_a := r_a.tr hE
  refine pf_X12_371 F hnm r_a r_q163 h dX12_init_474 (fun S165 h hE => ?_)
  have r_a := r_a.tr hE
  refine v_aload_n F dX12_init_477 0 rfl rfl ?_
  refine v_sipush (v := 260) F dX12_init_478 (by decide) ?_
  refine na_J (r := 95) (N := 260) F (by decide) rfl (by decide) (by decide) (by decide) (by decide) dX12_init_481 h (fun q166 S167 h hE r_q166 => v_widen (k := (56, 46640)) (by decide) ?_)
  have r_a := r_a.tr hE
  refine pf_X12_377 F hnm r_a r_q166 h dX12_init_483 (fun S168 h hE => ?_)
  have r_a := r_a.tr hE
  refine v_aload_n F dX12_init_486 0 rfl rfl ?_
  refine v_sipush (v := 260) F dX12_init_487 (by decide) ?_
  refine na_J (r := 96) (N := 260) F (by decide) rfl (by decide) (by decide) (by decide) (by decide) dX12_init_490 h (fun q169 S170 h hE r_q169 => v_widen (k := (57, 46900)) (by decide) ?_)
  have r_a := r_a.tr hE
  refine pf_X12_347 F hnm r_a r_q169 h dX12_init_492 (fun S171 h hE => ?_)
  have r_a := r_a.tr hE
  refine v_aload_n F dX12_init_495 0 rfl rfl ?_
  refine v_sipush (v := 260) F dX12_init_496 (by decide) ?_
  refine na_J (r := 97) (N := 260) F (by decide) rfl (by decide) (by decide) (by decide) (by decide) dX12_init_499 h (fun q172 S173 h hE r_q172 => v_widen (k := (58, 47160)) (by decide) ?_)
  have r_a := r_a.tr hE
  refine pf_X12_350 F hnm r_a r_q172 h dX12_init_501 (fun S174 h hE => ?_)
  have r_a := r_a.tr hE
  refine v_aload_n F dX12_init_504 0 rfl rfl ?_
  refine v_sipush (v := 260) F dX12_init_505 (by decide) ?_
  refine na_J (r := 98) (N := 260) F (by decide) rfl (by decide) (by decide) (by decide) (by decide) dX12_init_508 h (fun q175 S176 h hE r_q175 => v_widen (k := (59, 47420)) (by decide) ?_)
  have r_a := r_a.tr hE
  refine pf_X12_484 F hnm r_a r_q175 h dX12_init_510 (fun S177 h hE => ?_)
  have r_a := r_a.tr hE
  refine v_aload_n F dX12_init_513 0 rfl rfl ?_
  refine v_sipush (v := 260) F dX12_init_514 (by decide) ?_
  refine na_J (r := 99) (N := 260) F (by decide) rfl (by decide) (by decide) (by decide) (by decide) dX12_init_517 h (fun q178 S179 h hE r_q178 => v_widen (k := (60, 47680)) (by decide) ?_)
  have r_a := r_a.tr hE
  refine pf_X12_478 F hnm r_a r_q178 h dX12_init_519 (fun S180 h hE => ?_)
  have r_a := r_a.tr hE
  refine v_aload_n F dX12_init_522 0 rfl rfl ?_
  refine v_sipush (v := 260) F dX12_init_523 (by decide) ?_
  refine na_J (r := 100) (N := 260) F (by decide) rfl (by decide) (by decide) (by decide) (by decide) dX12_init_526 h (fun q181 S182 h hE r_q181 => v_widen (k := (61, 47940)) (by decide) ?_)
  have r_a := r_a.tr hE
  refine pf_X12_481 F hnm r_a r_q181 h dX12_init_528 (fun S183 h hE => ?_)
  have r_a := r_a.tr hE
  refine v_aload_n F dX12_init_531 0 rfl rfl ?_
  refine v_sipush (v := 1500) F dX12_init_532 (by decide) ?_
  refine na_B (r := 101) (N := 1500) F (by decide) rfl (by decide) (by decide) (by decide) (by decide) dX12_init_535 h (fun q184 S185 h hE r_q184 => v_widen (k := (62, 49440)) (by decide) ?_)
  have r_a := r_a.tr hE
  refine pf_X12_507 F hnm r_a r_q184 h dX12_init_537 (fun S186 h hE => ?_)
  have r_a := r_a.tr hE
  refine v_aload_n F dX12_init_540 0 rfl rfl ?_
  refine v_sipush (v := 300) F dX12_init_541 (by decide) ?_
  refine na_I (r := 102) (N := 300) F (by decide) rfl (by decide) (by decide) (by decide) (by decide) dX12_init_544 h (fun q187 S188 h hE r_q187 => v_widen (k := (63, 49740)) (by decide) ?_)
  have r_a := r_a.tr hE
  refine pf_X12_510 F hnm r_a r_q187 h dX12_init_546 (fun S189 h hE => ?_)
  have r_a := r_a.tr hE
  refine v_aload_n F dX12_init_549 0 rfl rfl ?_
  refine v_sipush (v := 300) F dX12_init_550 (by decide) ?_
  refine na_I (r := 103) (N := 300) F (by decide) rfl (by decide) (by decide) (by decide) (by decide) dX12_init_553 h (fun q190 S191 h hE r_q190 => v_widen (k := (64, 50040)) (by decide) ?_)
  have r_a := r_a.tr hE
  refine pf_X12_513 F hnm r_a r_q190 h dX12_init_555 (fun S192 h hE => ?_)
  have r_a := r_a.tr hE
  refine v_aload_n F dX12_init_558 0 rfl rfl ?_
  refine v_sipush (v := 300) F dX12_init_559 (by decide) ?_
  refine na_Z (r := 104) (N := 300) F (by decide) rfl (by decide) (by decide) (by decide) (by decide) dX12_init_562 h (fun q193 S194 h hE r_q193 => v_widen (k := (65, 50340)) (by decide) ?_)
  have r_a := r_a.tr hE
  refine pf_X12_516 F hnm r_a r_q193 h dX12_init_564 (fun S195 h hE => ?_)
  have r_a := r_a.tr hE
  refine v_aload_n F dX12_init_567 0 rfl rfl ?_
  refine v_sipush (v := 300) F dX12_init_568 (by decide) ?_
  refine na_Z (r := 105) (N := 300) F (by decide) rfl (by decide) (by decide) (by decide) (by decide) dX12_init_571 h (fun q196 S197 h hE r_q196 => v_widen (k := (66, 50640)) (by decide) ?_)
  have r_a := r_a.tr hE
  refine pf_X12_519 F hnm r_a r_q196 h dX12_init_573 (fun S198 h hE => ?_)
  have r_a := r_a.tr hE
  refine v_aload_n F dX12_init_576 0 rfl rfl ?_
  refine v_sipush (v := 300) F dX12_init_577 (by decide) ?_
  refine na_J (r := 106) (N := 300) F (by decide) rfl (by decide) (by decide) (by decide) (by decide) dX12_init_580 h (fun q199 S200 h hE r_q199 => v_widen (k := (67, 50940)) (by decide) ?_)
  have r_a := r_a.tr hE
  refine pf_X12_522 F hnm r_a r_q199 h dX12_init_582 (fun S201 h hE => ?_)
  have r_a := r_a.tr hE
  refine v_aload_n F dX12_init_585 0 rfl rfl ?_
  refine v_sipush (v := 300) F dX12_init_586 (by decide) ?_
  refine na_J (r := 107) (N := 300) F (by decide) rfl (by decide) (by decide) (by decide) (by decide) dX12_init_589 h (fun q202 S203 h hE r_q202 => v_widen (k := (68, 51240)) (by decide) ?_)
  have r_a := r_a.tr hE
  refine pf_X12_525 F hnm r_a r_q202 h dX12_init_591 (fun S204 h hE => ?_)
  have r_a := r_a.tr hE
  refine v_aload_n F dX12_init_594 0 rfl rfl ?_
  refine v_sipush (v := 1800) F dX12_init_595 (by decide) ?_
  refine na_I (r := 108) (N := 1800) F (by decide) rfl (by decide) (by decide) (by decide) (by decide) dX12_init_598 h (fun q205 S206 h hE r_q205 => v_widen (k := (69, 53040)) (by decide) ?_)
  have r_a := r_a.tr hE
  refine pf_X12_528 F hnm r_a r_q205 h dX12_init_600 (fun S207 h hE => ?_)
  have r_a := r_a.tr hE
  refine v_aload_n F dX12_init_603 0 rfl rfl ?_
  refine v_sipush (v := 1800) F dX12_init_604 (by decide) ?_
  refine na_I (r := 109) (N := 1800) F (by decide) rfl (by decide) (by decide) (by decide) (by decide) dX12_init_607 h (fun q208 S209 h hE r_q208 => v_widen (k := (70, 54840)) (by decide) ?_)
  have r_a := r_a.tr hE
  refine pf_X12_531 F hnm r_a r_q208 h dX12_init_609 (fun S210 h hE => ?_)
  have r_a := r_a.tr hE
  refine v_aload_n F dX12_init_612 0 rfl rfl ?_
  refine v_sipush (v := 1800) F dX12_init_613 (by decide) ?_
  refine na_I (r := 110) (N := 1800) F (by decide) rfl (by decide) (by decide) (by decide) (by decide) dX12_init_616 h (fun q211 S212 h hE r_q211 => v_widen (k := (71, 56640)) (by decide) ?_)
  have r_a := r_a.tr hE
  refine pf_X12_534 F hnm r_a r_q211 h dX12_init_618 (fun S213 h hE => ?_)
  have r_a := r_a.tr hE
  refine v_aload_n F dX12_init_621 0 rfl rfl ?_
  refine v_sipush (v := 900) F dX12_init_622 (by decide) ?_
  refine na_I (r := 111) (N := 900) F (by decide) rfl (by decide) (by decide) (by decide) (by decide) dX12_init_625 h (fun q214 S215 h hE r_q214 => v_widen (k := (72, 57540)) (by decide) ?_)
  have r_a := r_a.tr hE
  refine pf_X12_537 F hnm r_a r_q214 h dX12_init_627 (fun S216 h hE => ?_)
  have r_a := r_a.tr hE
  refine v_aload_n F dX12_init_630 0 rfl rfl ?_
  refine v_sipush (v := 900) F dX12_init_631 (by decide) ?_
  refine na_I (r := 112) (N := 900) F (by decide) rfl (by decide) (by decide) (by decide) (by decide) dX12_init_634 h (fun q217 S218 h hE r_q217 => v_widen (k := (73, 58440)) (by decide) ?_)
  have r_a := r_a.tr hE
  refine pf_X12_540 F hnm r_a r_q217 h dX12_init_636 (fun S219 h hE => ?_)
  have r_a := r_a.tr hE
  refine v_aload_n F dX12_init_639 0 rfl rfl ?_
  refine v_sipush (v := 300) F dX12_init_640 (by decide) ?_
  refine na_I (r := 113) (N := 300) F (by decide) rfl (by decide) (by decide) (by decide) (by decide) dX12_init_643 h (fun q220 S221 h hE r_q220 => v_widen (k := (74, 58740)) (by decide) ?_)
  have r_a := r_a.tr hE
  refine pf_X12_543 F hnm r_a r_q220 h dX12_init_645 (fun S222 h hE => ?_)
  have r_a := r_a.tr hE
  refine v_aload_n F dX12_init_648 0 rfl rfl ?_
  refine v_bipush (v := 12) F dX12_init_649 (by decide) ?_
  refine na_J (r := 114) (N := 12) F (by decide) rfl (by decide) (by decide) (by decide) (by decide) dX12_init_651 h (fun q223 S224 h hE r_q223 => v_widen (k := (75, 58752)) (by decide) ?_)
  have r_a := r_a.tr hE
  refine pf_X12_546 F hnm r_a r_q223 h dX12_init_653 (fun S225 h hE => ?_)
  have r_a := r_a.tr hE
  refine v_aload_n F dX12_init_656 0 rfl rfl ?_
  refine v_bipush (v := 40) F dX12_init_657 (by decide) ?_
  refine na_J (r := 115) (N := 40) F (by decide) rfl (by decide) (by decide) (by decide) (by decide) dX12_init_659 h (fun q226 S227 h hE r_q226 => v_widen (k := (76, 58792)) (by decide) ?_)
  have r_a := r_a.tr hE
  refine pf_X12_549 F hnm r_a r_q226 h dX12_init_661 (fun S228 h hE => ?_)
  have r_a := r_a.tr hE
  refine v_aload_n F dX12_init_664 0 rfl rfl ?_
  refine v_bipush (v := 40) F dX12_init_665 (by decide) ?_
  refine na_I (r := 116) (N := 40) F (by decide) rfl (by decide) (by decide) (by decide) (by decide) dX12_init_667 h (fun q229 S230 h hE r_q229 => v_widen (k := (77, 58832)) (by decide) ?_)
  have r_a := r_a.tr hE
  refine pf_X12_552 F hnm r_a r_q229 h dX12_init_669 (fun S231 h hE => ?_)
  have r_a := r_a.tr hE
  refine v_aload_n F dX12_init_672 0 rfl rfl ?_
  refine v_bipush (v := 40) F dX12_init_673 (by decide) ?_
  refine na_I (r := 117) (N := 40) F (by decide) rfl (by decide) (by decide) (by decide) (by decide) dX12_init_675 h (fun q232 S233 h hE r_q232 => v_widen (k := (78, 58872)) (by decide) ?_)
  have r_a := r_a.tr hE
  refine pf_X12_555 F hnm r_a r_q232 h dX12_init_677 (fun S234 h hE => ?_)
  have r_a := r_a.tr hE
  refine v_aload_n F dX12_init_680 0 rfl rfl ?_
  refine v_iconst (v := 1) F dX12_init_681 (by decide) ?_
  refine p_X12_558 F r_a h dX12_init_682 (fun S235 h hE => ?_)
  have r_a := r_a.tr hE
  refine v_aload_n F dX12_init_685 0 rfl rfl ?_
  refine v_iconst (v := 1) F dX12_init_686 (by decide) ?_
  refine p_X12_561 F r_a h dX12_init_687 (fun S236 h hE => ?_)
  have r_a := r_a.tr hE
  refine v_aload_n F dX12_init_690 0 rfl rfl ?_
  refine v_ldcw F kc_X12_564 dX12_init_691 ?_
  refine na_B (r := 118) (N := 40000) F (by decide) rfl (by decide) (by decide) (by decide) (by decide) dX12_init_694 h (fun q237 S238 h hE r_q237 => v_widen (k := (79, 98872)) (by decide) ?_)
  have r_a := r_a.tr hE
  refine pf_X12_565 F hnm r_a r_q237 h dX12_init_696 (fun S239 h hE => ?_)
  have r_a := r_a.tr hE
  refine v_aload_n F dX12_init_699 0 rfl rfl ?_
  refine g_X12_552 F r_a h dX12_init_700 (fun b240 r_b240 h => ?_)
  refine v_iconst (v := 0) F dX12_init_703 (by decide) ?_
  refine v_iconst (v := 4) F dX12_init_704 (by decide) ?_
  refine v_iast F r_b240 o_116 h dX12_init_705 (fun S241 h hE => ?_)
  have r_a := r_a.tr hE
  refine v_aload_n F dX12_init_706 0 rfl rfl ?_
  refine g_X12_555 F r_a h dX12_init_707 (fun b242 r_b242 h => ?_)
  refine v_iconst (v := 0) F dX12_init_710 (by decide) ?_
  refine v_iconst (v := 4) F dX12_init_711 (by decide) ?_
  refine v_iast F r_b242 o_117 h dX12_init_712 (fun S243 h hE => ?_)
  have r_a := r_a.tr hE
  exact v_vret F hQ h (by decide) dX12_init_713
