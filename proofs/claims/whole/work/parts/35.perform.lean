theorem dJ9_floorDiv_7cf53_0 : decode cJ9_floorDiv_7cf53 0 = .ok (.iload_n 0, 1) := by decide +kernel
theorem dJ9_floorDiv_7cf53_1 : decode cJ9_floorDiv_7cf53 1 = .ok (.iload_n 1, 1) := by decide +kernel
theorem dJ9_floorDiv_7cf53_2 : decode cJ9_floorDiv_7cf53 2 = .ok (.idiv, 1) := by decide +kernel
theorem dJ9_floorDiv_7cf53_3 : decode cJ9_floorDiv_7cf53 3 = .ok (.istore_n 2, 1) := by decide +kernel
theorem dJ9_floorDiv_7cf53_4 : decode cJ9_floorDiv_7cf53 4 = .ok (.iload_n 0, 1) := by decide +kernel
theorem dJ9_floorDiv_7cf53_5 : decode cJ9_floorDiv_7cf53 5 = .ok (.iload_n 1, 1) := by decide +kernel
theorem dJ9_floorDiv_7cf53_6 : decode cJ9_floorDiv_7cf53 6 = .ok (.ixor, 1) := by decide +kernel
theorem dJ9_floorDiv_7cf53_7 : decode cJ9_floorDiv_7cf53 7 = .ok (.ifCond .ge 14, 3) := by decide +kernel
theorem dJ9_floorDiv_7cf53_10 : decode cJ9_floorDiv_7cf53 10 = .ok (.iload_n 2, 1) := by decide +kernel
theorem dJ9_floorDiv_7cf53_11 : decode cJ9_floorDiv_7cf53 11 = .ok (.iload_n 1, 1) := by decide +kernel
theorem dJ9_floorDiv_7cf53_12 : decode cJ9_floorDiv_7cf53 12 = .ok (.imul, 1) := by decide +kernel
theorem dJ9_floorDiv_7cf53_13 : decode cJ9_floorDiv_7cf53 13 = .ok (.iload_n 0, 1) := by decide +kernel
theorem dJ9_floorDiv_7cf53_14 : decode cJ9_floorDiv_7cf53 14 = .ok (.if_icmp .eq 7, 3) := by decide +kernel
theorem dJ9_floorDiv_7cf53_17 : decode cJ9_floorDiv_7cf53 17 = .ok (.iload_n 2, 1) := by decide +kernel
theorem dJ9_floorDiv_7cf53_18 : decode cJ9_floorDiv_7cf53 18 = .ok (.iconst 1, 1) := by decide +kernel
theorem dJ9_floorDiv_7cf53_19 : decode cJ9_floorDiv_7cf53 19 = .ok (.isub, 1) := by decide +kernel
theorem dJ9_floorDiv_7cf53_20 : decode cJ9_floorDiv_7cf53 20 = .ok (.ireturn, 1) := by decide +kernel
theorem dJ9_floorDiv_7cf53_21 : decode cJ9_floorDiv_7cf53 21 = .ok (.iload_n 2, 1) := by decide +kernel
theorem dJ9_floorDiv_7cf53_22 : decode cJ9_floorDiv_7cf53 22 = .ok (.ireturn, 1) := by decide +kernel
abbrev rm_J9_floorDiv_7cf53 : Room := { frames := 0, cells := 0, slots := 0, locals := 0 }
def wp_J9_floorDiv_7cf53 (p1 : Int32) (p2 : Int32) (S : PS) (Q : Int32 → PS → Prop) : Prop :=
  (¬ p2 = 0 ∧ (∀ v1, v1 = p1 / p2 → (if 0 ≤ p1 ^^^ p2 then
 Q v1 S
 else
 (if v1 * p2 = p1 then
 Q v1 S
 else
 Q (v1 - 1) S))))
set_option maxRecDepth 100000 in
set_option maxHeartbeats 4000000 in
theorem c_J9_floorDiv_7cf53 {l : Launch} {E : EE} {A : Nat → Prop} {p1 : Int32} {p2 : Int32} {S : PS} {Q : Int32 → PS → Prop} (h : wp_J9_floorDiv_7cf53 p1 p2 S Q) : MtI l yJ9_floorDiv_7cf53 (.code yJ9_floorDiv_7cf53 cJ9_floorDiv_7cf53 3 (some .int)) rm_J9_floorDiv_7cf53 E A [.int p1, .int p2] S Q := by
  refine MtI.ofJ (by decide +kernel) (Nat.le_of_ble_eq_true rfl) (fun X F hQ hN => ?_)
  show VV X (0, 0) S [(0, .int p1), (1, .int p2)] [] 0
  unfold wp_J9_floorDiv_7cf53 at h
  refine v_iload_n F dJ9_floorDiv_7cf53_0 0 rfl rfl ?_
  refine v_iload_n F dJ9_floorDiv_7cf53_1 1 rfl rfl ?_
  refine v_idiv F dJ9_floorDiv_7cf53_2 h.1 ?_
  have h := h.2
  refine v_topi (fun v1 e_v1 => ?_)
  have h := h v1 e_v1
  refine v_istore_n (lv1 := [(2, .int v1), (0, .int p1), (1, .int p2)]) F dJ9_floorDiv_7cf53_3 rfl (by rw [hN]; decide) rfl ?_
  refine v_iload_n F dJ9_floorDiv_7cf53_4 1 rfl rfl ?_
  refine v_iload_n F dJ9_floorDiv_7cf53_5 2 rfl rfl ?_
  refine v_ixor F dJ9_floorDiv_7cf53_6 ?_
  refine v_if_ge (tgt := 21) F dJ9_floorDiv_7cf53_7 (by decide) h (fun h => ?_) (fun h => ?_)
  · refine v_iload_n F dJ9_floorDiv_7cf53_21 0 rfl rfl ?_
    exact v_iret F hQ h (by decide) dJ9_floorDiv_7cf53_22
  · refine v_iload_n F dJ9_floorDiv_7cf53_10 0 rfl rfl ?_
    refine v_iload_n F dJ9_floorDiv_7cf53_11 2 rfl rfl ?_
    refine v_imul F dJ9_floorDiv_7cf53_12 ?_
    refine v_iload_n F dJ9_floorDiv_7cf53_13 1 rfl rfl ?_
    refine v_icmp_eq (tgt := 21) F dJ9_floorDiv_7cf53_14 (by decide) h (fun h => ?_) (fun h => ?_)
    · refine v_iload_n F dJ9_floorDiv_7cf53_21 0 rfl rfl ?_
      exact v_iret F hQ h (by decide) dJ9_floorDiv_7cf53_22
    · refine v_iload_n F dJ9_floorDiv_7cf53_17 0 rfl rfl ?_
      refine v_iconst (v := 1) F dJ9_floorDiv_7cf53_18 (by decide) ?_
      refine v_isub F dJ9_floorDiv_7cf53_19 ?_
      exact v_iret F hQ h (by decide) dJ9_floorDiv_7cf53_20
theorem dJ9_floorMod_7cf53_0 : decode cJ9_floorMod_7cf53 0 = .ok (.iload_n 0, 1) := by decide +kernel
theorem dJ9_floorMod_7cf53_1 : decode cJ9_floorMod_7cf53 1 = .ok (.iload_n 1, 1) := by decide +kernel
theorem dJ9_floorMod_7cf53_2 : decode cJ9_floorMod_7cf53 2 = .ok (.irem, 1) := by decide +kernel
theorem dJ9_floorMod_7cf53_3 : decode cJ9_floorMod_7cf53 3 = .ok (.istore_n 2, 1) := by decide +kernel
theorem dJ9_floorMod_7cf53_4 : decode cJ9_floorMod_7cf53 4 = .ok (.iload_n 0, 1) := by decide +kernel
theorem dJ9_floorMod_7cf53_5 : decode cJ9_floorMod_7cf53 5 = .ok (.iload_n 1, 1) := by decide +kernel
theorem dJ9_floorMod_7cf53_6 : decode cJ9_floorMod_7cf53 6 = .ok (.ixor, 1) := by decide +kernel
theorem dJ9_floorMod_7cf53_7 : decode cJ9_floorMod_7cf53 7 = .ok (.ifCond .ge 11, 3) := by decide +kernel
theorem dJ9_floorMod_7cf53_10 : decode cJ9_floorMod_7cf53 10 = .ok (.iload_n 2, 1) := by decide +kernel
theorem dJ9_floorMod_7cf53_11 : decode cJ9_floorMod_7cf53 11 = .ok (.ifCond .eq 7, 3) := by decide +kernel
theorem dJ9_floorMod_7cf53_14 : decode cJ9_floorMod_7cf53 14 = .ok (.iload_n 2, 1) := by decide +kernel
theorem dJ9_floorMod_7cf53_15 : decode cJ9_floorMod_7cf53 15 = .ok (.iload_n 1, 1) := by decide +kernel
theorem dJ9_floorMod_7cf53_16 : decode cJ9_floorMod_7cf53 16 = .ok (.iadd, 1) := by decide +kernel
theorem dJ9_floorMod_7cf53_17 : decode cJ9_floorMod_7cf53 17 = .ok (.ireturn, 1) := by decide +kernel
theorem dJ9_floorMod_7cf53_18 : decode cJ9_floorMod_7cf53 18 = .ok (.iload_n 2, 1) := by decide +kernel
theorem dJ9_floorMod_7cf53_19 : decode cJ9_floorMod_7cf53 19 = .ok (.ireturn, 1) := by decide +kernel
abbrev rm_J9_floorMod_7cf53 : Room := { frames := 0, cells := 0, slots := 0, locals := 0 }
def wp_J9_floorMod_7cf53 (p1 : Int32) (p2 : Int32) (S : PS) (Q : Int32 → PS → Prop) : Prop :=
  (¬ p2 = 0 ∧ (∀ v1, v1 = p1 - p1 / p2 * p2 → (if 0 ≤ p1 ^^^ p2 then
 Q v1 S
 else
 (if v1 = 0 then
 Q v1 S
 else
 Q (v1 + p2) S))))
set_option maxRecDepth 100000 in
set_option maxHeartbeats 4000000 in
theorem c_J9_floorMod_7cf53 {l : Launch} {E : EE} {A : Nat → Prop} {p1 : Int32} {p2 : Int32} {S : PS} {Q : Int32 → PS → Prop} (h : wp_J9_floorMod_7cf53 p1 p2 S Q) : MtI l yJ9_floorMod_7cf53 (.code yJ9_floorMod_7cf53 cJ9_floorMod_7cf53 3 (some .int)) rm_J9_floorMod_7cf53 E A [.int p1, .int p2] S Q := by
  refine MtI.ofJ (by decide +kernel) (Nat.le_of_ble_eq_true rfl) (fun X F hQ hN => ?_)
  show VV X (0, 0) S [(0, .int p1), (1, .int p2)] [] 0
  unfold wp_J9_floorMod_7cf53 at h
  refine v_iload_n F dJ9_floorMod_7cf53_0 0 rfl rfl ?_
  refine v_iload_n F dJ9_floorMod_7cf53_1 1 rfl rfl ?_
  refine v_irem F dJ9_floorMod_7cf53_2 h.1 ?_
  have h := h.2
  refine v_topi (fun v1 e_v1 => ?_)
  have h := h v1 e_v1
  refine v_istore_n (lv1 := [(2, .int v1), (0, .int p1), (1, .int p2)]) F dJ9_floorMod_7cf53_3 rfl (by rw [hN]; decide) rfl ?_
  refine v_iload_n F dJ9_floorMod_7cf53_4 1 rfl rfl ?_
  refine v_iload_n F dJ9_floorMod_7cf53_5 2 rfl rfl ?_
  refine v_ixor F dJ9_floorMod_7cf53_6 ?_
  refine v_if_ge (tgt := 18) F dJ9_floorMod_7cf53_7 (by decide) h (fun h => ?_) (fun h => ?_)
  · refine v_iload_n F dJ9_floorMod_7cf53_18 0 rfl rfl ?_
    exact v_iret F hQ h (by decide) dJ9_floorMod_7cf53_19
  · refine v_iload_n F dJ9_floorMod_7cf53_10 0 rfl rfl ?_
    refine v_if_eq (tgt := 18) F dJ9_floorMod_7cf53_11 (by decide) h (fun h => ?_) (fun h => ?_)
    · refine v_iload_n F dJ9_floorMod_7cf53_18 0 rfl rfl ?_
      exact v_iret F hQ h (by decide) dJ9_floorMod_7cf53_19
    · refine v_iload_n F dJ9_floorMod_7cf53_14 0 rfl rfl ?_
      refine v_iload_n F dJ9_floorMod_7cf53_15 2 rfl rfl ?_
      refine v_iadd F dJ9_floorMod_7cf53_16 ?_
      exact v_iret F hQ h (by decide) dJ9_floorMod_7cf53_17
theorem dX4_halfTones_0 : decode cX4_halfTones 0 = .ok (.iload_n 0, 1) := by decide +kernel
theorem dX4_halfTones_1 : decode cX4_halfTones 1 = .ok (.bipush 7, 2) := by decide +kernel
theorem dX4_halfTones_3 : decode cX4_halfTones 3 = .ok (.invokestatic 15, 3) := by decide +kernel
theorem dX4_halfTones_6 : decode cX4_halfTones 6 = .ok (.bipush 12, 2) := by decide +kernel
theorem dX4_halfTones_8 : decode cX4_halfTones 8 = .ok (.imul, 1) := by decide +kernel
theorem dX4_halfTones_9 : decode cX4_halfTones 9 = .ok (.getstatic 21, 3) := by decide +kernel
theorem dX4_halfTones_12 : decode cX4_halfTones 12 = .ok (.iload_n 0, 1) := by decide +kernel
theorem dX4_halfTones_13 : decode cX4_halfTones 13 = .ok (.bipush 7, 2) := by decide +kernel
theorem dX4_halfTones_15 : decode cX4_halfTones 15 = .ok (.invokestatic 25, 3) := by decide +kernel
theorem dX4_halfTones_18 : decode cX4_halfTones 18 = .ok (.iaload, 1) := by decide +kernel
theorem dX4_halfTones_19 : decode cX4_halfTones 19 = .ok (.iadd, 1) := by decide +kernel
theorem dX4_halfTones_20 : decode cX4_halfTones 20 = .ok (.ireturn, 1) := by decide +kernel
abbrev rm_X4_halfTones : Room := { frames := 1, cells := 0, slots := 0, locals := 60 }
def wp_X4_halfTones (p1 : Int32) (S : PS) (Q : Int32 → PS → Prop) : Prop :=
  wp_J9_floorDiv_7cf53 p1 7 S (fun (r2 : Int32) (S1 : PS) => 
 wp_J9_floorMod_7cf53 p1 7 S1 (fun (r5 : Int32) (S4 : PS) => 
 (vp_in r5 7 ∧ Q ((r2 * 12) + (htab (r5).toNatClampNeg)) S4)))
set_option maxRecDepth 100000 in
set_option maxHeartbeats 4000000 in
theorem c_X4_halfTones {l : Launch} {E : EE} {A : Nat → Prop} {p1 : Int32} {S : PS} {Q : Int32 → PS → Prop} (hH : hasHT E) (h : wp_X4_halfTones p1 S Q) : MtI l yX4_halfTones (.code yX4_halfTones cX4_halfTones 1 (some .int)) rm_X4_halfTones E A [.int p1] S Q := by
  refine MtI.of2 (by decide) (Nat.le_of_ble_eq_true rfl) (fun X F hQ hX => ?_)
  show VV X (0, 0) S [(0, .int p1)] [] 0
  obtain ⟨hXl, hXE, hXA, hN, hnm⟩ := hX
  subst hXE
  subst hXA
  subst hXl
  unfold wp_X4_halfTones at h
  refine v_iload_n F dX4_halfTones_0 0 rfl rfl ?_
  refine v_bipush (v := 7) F dX4_halfTones_1 (by decide) ?_
  refine v_cI0 (v_runS F k_X4_15 (c_J9_floorDiv_7cf53 h) rfl rfl (Nat.le_of_ble_eq_true rfl) (by decide) (by decide) dX4_halfTones_3) ⟨rfl, rfl⟩ (fun r2 S1 h hE => ?_)
  refine v_bipush (v := 12) F dX4_halfTones_6 (by decide) ?_
  refine v_imul F dX4_halfTones_8 ?_
  refine v_getHT F hH kst_X4_21 dX4_halfTones_9 (fun t3 h_t3 => ?_)
  refine v_iload_n F dX4_halfTones_12 0 rfl rfl ?_
  refine v_bipush (v := 7) F dX4_halfTones_13 (by decide) ?_
  refine v_cI0 (v_runS F k_X4_25 (c_J9_floorMod_7cf53 h) rfl rfl (Nat.le_of_ble_eq_true rfl) (by decide) (by decide) dX4_halfTones_15) ⟨rfl, rfl⟩ (fun r5 S4 h hE => ?_)
  refine v_htald F h_t3 h dX4_halfTones_18 (fun h => ?_)
  refine v_iadd F dX4_halfTones_19 ?_
  exact v_iret F hQ h (by decide) dX4_halfTones_20
theorem dX8_clear_0 : decode cX8_clear 0 = .ok (.iload_n 2, 1) := by decide +kernel
theorem dX8_clear_1 : decode cX8_clear 1 = .ok (.ifCond .lt 29, 3) := by decide +kernel
theorem dX8_clear_4 : decode cX8_clear 4 = .ok (.iload_n 2, 1) := by decide +kernel
theorem dX8_clear_5 : decode cX8_clear 5 = .ok (.aload_n 1, 1) := by decide +kernel
theorem dX8_clear_6 : decode cX8_clear 6 = .ok (.arraylength, 1) := by decide +kernel
theorem dX8_clear_7 : decode cX8_clear 7 = .ok (.if_icmp .gt 23, 3) := by decide +kernel
theorem dX8_clear_10 : decode cX8_clear 10 = .ok (.iload_n 2, 1) := by decide +kernel
theorem dX8_clear_11 : decode cX8_clear 11 = .ok (.aload_n 0, 1) := by decide +kernel
theorem dX8_clear_12 : decode cX8_clear 12 = .ok (.getfield 9, 3) := by decide +kernel
theorem dX8_clear_15 : decode cX8_clear 15 = .ok (.arraylength, 1) := by decide +kernel
theorem dX8_clear_16 : decode cX8_clear 16 = .ok (.if_icmp .gt 14, 3) := by decide +kernel
theorem dX8_clear_19 : decode cX8_clear 19 = .ok (.aload_n 1, 1) := by decide +kernel
theorem dX8_clear_20 : decode cX8_clear 20 = .ok (.iconst 0, 1) := by decide +kernel
theorem dX8_clear_21 : decode cX8_clear 21 = .ok (.aload_n 0, 1) := by decide +kernel
theorem dX8_clear_22 : decode cX8_clear 22 = .ok (.getfield 9, 3) := by decide +kernel
theorem dX8_clear_25 : decode cX8_clear 25 = .ok (.iconst 0, 1) := by decide +kernel
theorem dX8_clear_26 : decode cX8_clear 26 = .ok (.iload_n 2, 1) := by decide +kernel
theorem dX8_clear_27 : decode cX8_clear 27 = .ok (.invokestatic 62, 3) := by decide +kernel
theorem dX8_clear_30 : decode cX8_clear 30 = .ok (.aload_n 0, 1) := by decide +kernel
theorem dX8_clear_31 : decode cX8_clear 31 = .ok (.iconst 0, 1) := by decide +kernel
theorem dX8_clear_32 : decode cX8_clear 32 = .ok (.putfield 68, 3) := by decide +kernel
theorem dX8_clear_35 : decode cX8_clear 35 = .ok (.aload_n 0, 1) := by decide +kernel
theorem dX8_clear_36 : decode cX8_clear 36 = .ok (.iconst 0, 1) := by decide +kernel
theorem dX8_clear_37 : decode cX8_clear 37 = .ok (.putfield 58, 3) := by decide +kernel
theorem dX8_clear_40 : decode cX8_clear 40 = .ok (.aload_n 0, 1) := by decide +kernel
theorem dX8_clear_41 : decode cX8_clear 41 = .ok (.getfield 54, 3) := by decide +kernel
theorem dX8_clear_44 : decode cX8_clear 44 = .ok (.invokevirtual 71, 3) := by decide +kernel
theorem dX8_clear_47 : decode cX8_clear 47 = .ok (.aload_n 0, 1) := by decide +kernel
theorem dX8_clear_48 : decode cX8_clear 48 = .ok (.iconst 0, 1) := by decide +kernel
theorem dX8_clear_49 : decode cX8_clear 49 = .ok (.putfield 74, 3) := by decide +kernel
theorem dX8_clear_52 : decode cX8_clear 52 = .ok (.aload_n 0, 1) := by decide +kernel
theorem dX8_clear_53 : decode cX8_clear 53 = .ok (.iconst 0, 1) := by decide +kernel
theorem dX8_clear_54 : decode cX8_clear 54 = .ok (.putfield 77, 3) := by decide +kernel
theorem dX8_clear_57 : decode cX8_clear 57 = .ok (.aload_n 0, 1) := by decide +kernel
theorem dX8_clear_58 : decode cX8_clear 58 = .ok (.lconst 0, 1) := by decide +kernel
theorem dX8_clear_59 : decode cX8_clear 59 = .ok (.putfield 80, 3) := by decide +kernel
theorem dX8_clear_62 : decode cX8_clear 62 = .ok (.aload_n 0, 1) := by decide +kernel
theorem dX8_clear_63 : decode cX8_clear 63 = .ok (.lconst 0, 1) := by decide +kernel
theorem dX8_clear_64 : decode cX8_clear 64 = .ok (.invokevirtual 84, 3) := by decide +kernel
theorem dX8_clear_67 : decode cX8_clear 67 = .ok (.pop, 1) := by decide +kernel
theorem dX8_clear_68 : decode cX8_clear 68 = .ok (.return_, 1) := by decide +kernel
abbrev rm_X8_clear : Room := { frames := 1, cells := 0, slots := 0, locals := 60 }
def wp_X8_clear (a : Nat) (p1 : Nat) (p2 : Int32) (S : PS) (Q : PS → Prop) : Prop :=
  (∀ K30_2 : PS → Prop, (∀ (S1 : PS),
 (∀ S3, S3 = sI S1 70 a 0 → (∀ S4, S4 = sI S3 79 a 0 → (∃ b5, fR S4 83 a = some b5 ∧ wp_X2_clear b5 S4 (fun (S6 : PS) => 
 (∀ S7, S7 = sI S6 84 a 0 → (∀ S8, S8 = sI S7 85 a 0 → (∀ S9, S9 = sL S8 86 a 0 → wp_X8_addVoice a 0 S9 (fun (r11 : Int32) (S10 : PS) => 
 Q S10))))))))
 → K30_2 S1) →
 (if p2 < 0 then
 K30_2 S
 else
 (if nI (aN S p1) < p2 then
 K30_2 S
 else
 (∃ b12, fR S 69 a = some b12 ∧ (if nI (aN S b12) < p2 then
 K30_2 S
 else
 (∃ b13, fR S 69 a = some b13 ∧ ((¬ (0 : Int32) < 0 ∧ ¬ (0 : Int32) < 0 ∧ ¬ (p2 : Int32) < 0 ∧ (0 : Int32).toNatClampNeg + (p2 : Int32).toNatClampNeg ≤ aN S p1 ∧ (0 : Int32).toNatClampNeg + (p2 : Int32).toNatClampNeg ≤ aN S b13 ∧ ∀ i, i < (p2 : Int32).toNatClampNeg → fits .byte (.int (aI S 39 p1 ((0 : Int32).toNatClampNeg + i))) = true) ∧ ∀ S14, S14 = wW S 27 b13 (va_cpy (aI S 39 p1) (aI S 27 b13) (0 : Int32).toNatClampNeg (0 : Int32).toNatClampNeg (p2 : Int32).toNatClampNeg) → K30_2 S14)))))))
set_option maxRecDepth 100000 in
set_option maxHeartbeats 4000000 in
theorem c_X8_clear {l : Launch} {E : EE} {A : Nat → Prop} {a : Nat} {p1 : Nat} {p2 : Int32} {S : PS} {Q : PS → Prop} (r_a : Rf S a 7) (r_p1 : Rf S p1 39) (h : wp_X8_clear a p1 p2 S Q) : MtV l yX8_clear (.code yX8_clear cX8_clear 3 none) rm_X8_clear E A [.ref a, .ref p1, .int p2] S Q := by
  refine MtV.of (by decide) (Nat.le_of_ble_eq_true rfl) (fun X F hQ hN => ?_)
  show VV X (0, 0) S [(0, .ref a), (1, .ref p1), (2, .int p2)] [] 0
  unfold wp_X8_clear at h
  refine v_iload_n F dX8_clear_0 2 rfl rfl ?_
  have h := h (fun (S1 : PS) => Rf S1 a 7 → VV X (0, 0) S1 [(0, .ref a)] [] 30) (by
    intro S1 h r_a
    refine v_aload_n F dX8_clear_30 0 rfl rfl ?_
    refine v_iconst (v := 0) F dX8_clear_31 (by decide) ?_
    refine p_X8_68 F r_a h dX8_clear_32 (fun S3 h hE => ?_)
    have r_a := r_a.tr hE
    refine v_aload_n F dX8_clear_35 0 rfl rfl ?_
    refine v_iconst (v := 0) F dX8_clear_36 (by decide) ?_
    refine p_X8_58 F r_a h dX8_clear_37 (fun S4 h hE => ?_)
    have r_a := r_a.tr hE
    refine v_aload_n F dX8_clear_40 0 rfl rfl ?_
    refine g_X8_54 F r_a h dX8_clear_41 (fun b5 r_b5 h => ?_)
    refine v_cV0 (v_runV F k_X8_71 rfl (c_X2_clear r_b5 h) r_b5 rfl rfl (Nat.le_of_ble_eq_true rfl) (by decide) (by decide) dX8_clear_44) ⟨rfl, rfl⟩ (fun  S6 h hE => ?_)
    have r_a := r_a.tr hE
    refine v_aload_n F dX8_clear_47 0 rfl rfl ?_
    refine v_iconst (v := 0) F dX8_clear_48 (by decide) ?_
    refine p_X8_74 F r_a h dX8_clear_49 (fun S7 h hE => ?_)
    have r_a := r_a.tr hE
    refine v_aload_n F dX8_clear_52 0 rfl rfl ?_
    refine v_iconst (v := 0) F dX8_clear_53 (by decide) ?_
    refine p_X8_77 F r_a h dX8_clear_54 (fun S8 h hE => ?_)
    have r_a := r_a.tr hE
    refine v_aload_n F dX8_clear_57 0 rfl rfl ?_
    refine v_lconst (v := 0) F dX8_clear_58 (by decide) ?_
    refine p_X8_80 F r_a h dX8_clear_59 (fun S9 h hE => ?_)
    have r_a := r_a.tr hE
    refine v_aload_n F dX8_clear_62 0 rfl rfl ?_
    refine v_lconst (v := 0) F dX8_clear_63 (by decide) ?_
    refine v_cI0 (v_runV F k_X8_84 rfl (c_X8_addVoice r_a h) r_a rfl rfl (Nat.le_of_ble_eq_true rfl) (by decide) (by decide) dX8_clear_64) ⟨rfl, rfl⟩ (fun r11 S10 h hE => ?_)
    have r_a := r_a.tr hE
    refine v_pop F dX8_clear_67 rfl ?_
    exact v_vret F hQ h (by decide) dX8_clear_68)
  refine v_if_lt (tgt := 30) F dX8_clear_1 (by decide) h (fun h => ?_) (fun h => ?_)
  · exact v_sub [0] rfl (h r_a)
  · refine v_iload_n F dX8_clear_4 2 rfl rfl ?_
    refine v_aload_n F dX8_clear_5 1 rfl rfl ?_
    refine v_alen F r_p1 (by decide) dX8_clear_6 ?_
    refine v_icmp_gt (tgt := 30) F dX8_clear_7 (by decide) h (fun h => ?_) (fun h => ?_)
    · exact v_sub [0] rfl (h r_a)
    · refine v_iload_n F dX8_clear_10 2 rfl rfl ?_
      refine v_aload_n F dX8_clear_11 0 rfl rfl ?_
      refine g_X8_9 F r_a h dX8_clear_12 (fun b12 r_b12 h => ?_)
      refine v_alen F r_b12 (by decide) dX8_clear_15 ?_
      refine v_icmp_gt (tgt := 30) F dX8_clear_16 (by decide) h (fun h => ?_) (fun h => ?_)
      · exact v_sub [0] rfl (h r_a)
      · refine v_aload_n F dX8_clear_19 1 rfl rfl ?_
        refine v_iconst (v := 0) F dX8_clear_20 (by decide) ?_
        refine v_aload_n F dX8_clear_21 0 rfl rfl ?_
        refine g_X8_9 F r_a h dX8_clear_22 (fun b13 r_b13 h => ?_)
        refine v_iconst (v := 0) F dX8_clear_25 (by decide) ?_
        refine v_iload_n F dX8_clear_26 2 rfl rfl ?_
        refine v_copyb F k_X8_62 r_p1 r_b13 o_39 o_27 h (Nat.le_of_ble_eq_true rfl) (Nat.le_of_ble_eq_true rfl) dX8_clear_27 (fun S14 h hE => ?_)
        have r_a := r_a.tr hE
        have r_p1 := r_p1.tr hE
        exact v_sub [0] rfl (h r_a)
theorem dX3_stepOf_0 : decode cX3_stepOf 0 = .ok (.iload_n 1, 1) := by decide +kernel
theorem dX3_stepOf_1 : decode cX3_stepOf 1 = .ok (.invokestatic 296, 3) := by decide +kernel
theorem dX3_stepOf_4 : decode cX3_stepOf 4 = .ok (.istore_n 3, 1) := by decide +kernel
theorem dX3_stepOf_5 : decode cX3_stepOf 5 = .ok (.iconst 4, 1) := by decide +kernel
theorem dX3_stepOf_6 : decode cX3_stepOf 6 = .ok (.istore 4, 2) := by decide +kernel
theorem dX3_stepOf_8 : decode cX3_stepOf 8 = .ok (.aload_n 0, 1) := by decide +kernel
theorem dX3_stepOf_9 : decode cX3_stepOf 9 = .ok (.getfield 98, 3) := by decide +kernel
theorem dX3_stepOf_12 : decode cX3_stepOf 12 = .ok (.ifCond .le 15, 3) := by decide +kernel
theorem dX3_stepOf_15 : decode cX3_stepOf 15 = .ok (.iload_n 2, 1) := by decide +kernel
theorem dX3_stepOf_16 : decode cX3_stepOf 16 = .ok (.iconst 3, 1) := by decide +kernel
theorem dX3_stepOf_17 : decode cX3_stepOf 17 = .ok (.iadd, 1) := by decide +kernel
theorem dX3_stepOf_18 : decode cX3_stepOf 18 = .ok (.iload_n 3, 1) := by decide +kernel
theorem dX3_stepOf_19 : decode cX3_stepOf 19 = .ok (.isub, 1) := by decide +kernel
theorem dX3_stepOf_20 : decode cX3_stepOf 20 = .ok (.bipush 7, 2) := by decide +kernel
theorem dX3_stepOf_22 : decode cX3_stepOf 22 = .ok (.invokestatic 299, 3) := by decide +kernel
theorem dX3_stepOf_25 : decode cX3_stepOf 25 = .ok (.istore 4, 2) := by decide +kernel
theorem dX3_stepOf_27 : decode cX3_stepOf 27 = .ok (.iload 4, 2) := by decide +kernel
theorem dX3_stepOf_29 : decode cX3_stepOf 29 = .ok (.iload_n 1, 1) := by decide +kernel
theorem dX3_stepOf_30 : decode cX3_stepOf 30 = .ok (.invokestatic 302, 3) := by decide +kernel
theorem dX3_stepOf_33 : decode cX3_stepOf 33 = .ok (.iadd, 1) := by decide +kernel
theorem dX3_stepOf_34 : decode cX3_stepOf 34 = .ok (.bipush 7, 2) := by decide +kernel
theorem dX3_stepOf_36 : decode cX3_stepOf 36 = .ok (.imul, 1) := by decide +kernel
theorem dX3_stepOf_37 : decode cX3_stepOf 37 = .ok (.iload_n 3, 1) := by decide +kernel
theorem dX3_stepOf_38 : decode cX3_stepOf 38 = .ok (.iadd, 1) := by decide +kernel
theorem dX3_stepOf_39 : decode cX3_stepOf 39 = .ok (.ireturn, 1) := by decide +kernel
abbrev rm_X3_stepOf : Room := { frames := 1, cells := 0, slots := 0, locals := 60 }
def wp_X3_stepOf (a : Nat) (p1 : Int32) (p2 : Int32) (S : PS) (Q : Int32 → PS → Prop) : Prop :=
  wp_X10_letter p1 S (fun (r2 : Int32) (S1 : PS) => 
 (∀ K27_5 : Int32 → PS → Prop, (∀ (x4_3 : Int32) (S4 : PS),
 wp_X10_shift p1 S4 (fun (r7 : Int32) (S6 : PS) => 
 Q (((x4_3 + r7) * 7) + r2) S6)
 → K27_5 x4_3 S4) →
 (if fI S1 31 a ≤ 0 then
 K27_5 4 S1
 else
 wp_J9_floorDiv_7cf53 ((p2 + 3) - r2) 7 S1 (fun (r9 : Int32) (S8 : PS) => 
 K27_5 r9 S8))))
set_option maxRecDepth 100000 in
set_option maxHeartbeats 4000000 in
theorem c_X3_stepOf {l : Launch} {E : EE} {A : Nat → Prop} {a : Nat} {p1 : Int32} {p2 : Int32} {S : PS} {Q : Int32 → PS → Prop} (r_a : Rf S a 3) (h : wp_X3_stepOf a p1 p2 S Q) : MtI l yX3_stepOf (.code yX3_stepOf cX3_stepOf 5 (some .int)) rm_X3_stepOf E A [.ref a, .int p1, .int p2] S Q := by
  refine MtI.of (by decide) (Nat.le_of_ble_eq_true rfl) (fun X F hQ hN => ?_)
  show VV X (0, 0) S [(0, .ref a), (1, .int p1), (2, .int p2)] [] 0
  unfold wp_X3_stepOf at h
  refine v_iload_n F dX3_stepOf_0 1 rfl rfl ?_
  refine v_cI0 (v_runS F k_X3_296 (c_X10_letter h) rfl rfl (Nat.le_of_ble_eq_true rfl) (by decide) (by decide) dX3_stepOf_1) ⟨rfl, rfl⟩ (fun r2 S1 h hE => ?_)
  have r_a := r_a.tr hE
  refine v_istore_n (lv1 := [(3, .int r2), (0, .ref a), (1, .int p1), (2, .int p2)]) F dX3_stepOf_4 rfl (by rw [hN]; decide) rfl ?_
  refine v_iconst (v := 4) F dX3_stepOf_5 (by decide) ?_
  refine v_istore (lv1 := [(4, .int 4), (3, .int r2), (0, .ref a), (1, .int p1), (2, .int p2)]) F dX3_stepOf_6 (by rw [hN]; decide) rfl ?_
  refine v_aload_n F dX3_stepOf_8 2 rfl rfl ?_
  refine g_X3_98 F r_a dX3_stepOf_9 ?_
  have h := h (fun (x4_3 : Int32) (S4 : PS) => VV X (0, 0) S4 [(1, .int p1), (3, .int r2), (4, .int x4_3)] [] 27) (by
    intro x4_3 S4 h
    refine v_iload F dX3_stepOf_27 2 rfl ?_
    refine v_iload_n F dX3_stepOf_29 0 rfl rfl ?_
    refine v_cI0 (v_runS F k_X3_302 (c_X10_shift h) rfl rfl (Nat.le_of_ble_eq_true rfl) (by decide) (by decide) dX3_stepOf_30) ⟨rfl, rfl⟩ (fun r7 S6 h hE => ?_)
    refine v_iadd F dX3_stepOf_33 ?_
    refine v_bipush (v := 7) F dX3_stepOf_34 (by decide) ?_
    refine v_imul F dX3_stepOf_36 ?_
    refine v_iload_n F dX3_stepOf_37 1 rfl rfl ?_
    refine v_iadd F dX3_stepOf_38 ?_
    exact v_iret F hQ h (by decide) dX3_stepOf_39)
  refine v_if_le (tgt := 27) F dX3_stepOf_12 (by decide) h (fun h => ?_) (fun h => ?_)
  · exact v_sub [3, 1, 0] rfl (h)
  · refine v_iload_n F dX3_stepOf_15 4 rfl rfl ?_
    refine v_iconst (v := 3) F dX3_stepOf_16 (by decide) ?_
    refine v_iadd F dX3_stepOf_17 ?_
    refine v_iload_n F dX3_stepOf_18 1 rfl rfl ?_
    refine v_isub F dX3_stepOf_19 ?_
    refine v_bipush (v := 7) F dX3_stepOf_20 (by decide) ?_
    refine v_cI0 (v_runS F k_X3_299 (c_J9_floorDiv_7cf53 h) rfl rfl (Nat.le_of_ble_eq_true rfl) (by decide) (by decide) dX3_stepOf_22) ⟨rfl, rfl⟩ (fun r9 S8 h hE => ?_)
    have r_a := r_a.tr hE
    refine v_istore (lv1 := [(4, .int r9), (3, .int r2), (0, .ref a), (1, .int p1), (2, .int p2)]) F dX3_stepOf_25 (by rw [hN]; decide) rfl ?_
    exact v_sub [3, 1, 0] rfl (h)
theorem dX3_moved_0 : decode cX3_moved 0 = .ok (.iload_n 1, 1) := by decide +kernel
theorem dX3_moved_1 : decode cX3_moved 1 = .ok (.aload_n 0, 1) := by decide +kernel
theorem dX3_moved_2 : decode cX3_moved 2 = .ok (.getfield 110, 3) := by decide +kernel
theorem dX3_moved_5 : decode cX3_moved 5 = .ok (.iadd, 1) := by decide +kernel
theorem dX3_moved_6 : decode cX3_moved 6 = .ok (.istore_n 3, 1) := by decide +kernel
theorem dX3_moved_7 : decode cX3_moved 7 = .ok (.iload_n 3, 1) := by decide +kernel
theorem dX3_moved_8 : decode cX3_moved 8 = .ok (.bipush 7, 2) := by decide +kernel
theorem dX3_moved_10 : decode cX3_moved 10 = .ok (.invokestatic 299, 3) := by decide +kernel
theorem dX3_moved_13 : decode cX3_moved 13 = .ok (.istore 4, 2) := by decide +kernel
theorem dX3_moved_15 : decode cX3_moved 15 = .ok (.iload_n 1, 1) := by decide +kernel
theorem dX3_moved_16 : decode cX3_moved 16 = .ok (.invokestatic 305, 3) := by decide +kernel
theorem dX3_moved_19 : decode cX3_moved 19 = .ok (.iload_n 2, 1) := by decide +kernel
theorem dX3_moved_20 : decode cX3_moved 20 = .ok (.iadd, 1) := by decide +kernel
theorem dX3_moved_21 : decode cX3_moved 21 = .ok (.aload_n 0, 1) := by decide +kernel
theorem dX3_moved_22 : decode cX3_moved 22 = .ok (.getfield 113, 3) := by decide +kernel
theorem dX3_moved_25 : decode cX3_moved 25 = .ok (.iadd, 1) := by decide +kernel
theorem dX3_moved_26 : decode cX3_moved 26 = .ok (.istore 5, 2) := by decide +kernel
theorem dX3_moved_28 : decode cX3_moved 28 = .ok (.iload 5, 2) := by decide +kernel
theorem dX3_moved_30 : decode cX3_moved 30 = .ok (.iload_n 3, 1) := by decide +kernel
theorem dX3_moved_31 : decode cX3_moved 31 = .ok (.invokestatic 305, 3) := by decide +kernel
theorem dX3_moved_34 : decode cX3_moved 34 = .ok (.isub, 1) := by decide +kernel
theorem dX3_moved_35 : decode cX3_moved 35 = .ok (.istore 6, 2) := by decide +kernel
theorem dX3_moved_37 : decode cX3_moved 37 = .ok (.iload 4, 2) := by decide +kernel
theorem dX3_moved_39 : decode cX3_moved 39 = .ok (.ifCond .lt 27, 3) := by decide +kernel
theorem dX3_moved_42 : decode cX3_moved 42 = .ok (.iload 4, 2) := by decide +kernel
theorem dX3_moved_44 : decode cX3_moved 44 = .ok (.bipush 9, 2) := by decide +kernel
theorem dX3_moved_46 : decode cX3_moved 46 = .ok (.if_icmp .gt 20, 3) := by decide +kernel
theorem dX3_moved_49 : decode cX3_moved 49 = .ok (.iload 6, 2) := by decide +kernel
theorem dX3_moved_51 : decode cX3_moved 51 = .ok (.bipush (-2), 2) := by decide +kernel
theorem dX3_moved_53 : decode cX3_moved 53 = .ok (.if_icmp .lt 13, 3) := by decide +kernel
theorem dX3_moved_56 : decode cX3_moved 56 = .ok (.iload 6, 2) := by decide +kernel
theorem dX3_moved_58 : decode cX3_moved 58 = .ok (.iconst 2, 1) := by decide +kernel
theorem dX3_moved_59 : decode cX3_moved 59 = .ok (.if_icmp .gt 7, 3) := by decide +kernel
theorem dX3_moved_62 : decode cX3_moved 62 = .ok (.iconst 1, 1) := by decide +kernel
theorem dX3_moved_63 : decode cX3_moved 63 = .ok (.goto 4, 3) := by decide +kernel
theorem dX3_moved_66 : decode cX3_moved 66 = .ok (.iconst 0, 1) := by decide +kernel
theorem dX3_moved_67 : decode cX3_moved 67 = .ok (.istore 7, 2) := by decide +kernel
theorem dX3_moved_69 : decode cX3_moved 69 = .ok (.iload 7, 2) := by decide +kernel
theorem dX3_moved_71 : decode cX3_moved 71 = .ok (.ifCond .eq 12, 3) := by decide +kernel
theorem dX3_moved_74 : decode cX3_moved 74 = .ok (.iload_n 3, 1) := by decide +kernel
theorem dX3_moved_75 : decode cX3_moved 75 = .ok (.iload 6, 2) := by decide +kernel
theorem dX3_moved_77 : decode cX3_moved 77 = .ok (.invokestatic 308, 3) := by decide +kernel
theorem dX3_moved_80 : decode cX3_moved 80 = .ok (.goto 4, 3) := by decide +kernel
theorem dX3_moved_83 : decode cX3_moved 83 = .ok (.iconst (-1), 1) := by decide +kernel
theorem dX3_moved_84 : decode cX3_moved 84 = .ok (.ireturn, 1) := by decide +kernel
abbrev rm_X3_moved : Room := { frames := 2, cells := 0, slots := 0, locals := 80 }
def wp_X3_moved (a : Nat) (p1 : Int32) (p2 : Int32) (S : PS) (Q : Int32 → PS → Prop) : Prop :=
  (∀ v1, v1 = p1 + (fI S 35 a) → wp_J9_floorDiv_7cf53 v1 7 S (fun (r3 : Int32) (S2 : PS) => 
 wp_X4_halfTones p1 S2 (fun (r5 : Int32) (S4 : PS) => 
 (∀ v6, v6 = (r5 + p2) + (fI S4 36 a) → wp_X4_halfTones v1 S4 (fun (r8 : Int32) (S7 : PS) => 
 (∀ v9, v9 = v6 - r8 → (∀ K67_12 : Int32 → PS → Prop, (∀ (t10 : Int32) (S11 : PS),
 (if t10 = 0 then
 Q (-1) S11
 else
 wp_X4_code v1 v9 S11 (fun (r14 : Int32) (S13 : PS) => 
 Q r14 S13))
 → K67_12 t10 S11) →
 (if r3 < 0 then
 K67_12 0 S7
 else
 (if 9 < r3 then
 K67_12 0 S7
 else
 (if v9 < (-2) then
 K67_12 0 S7
 else
 (if 2 < v9 then
 K67_12 0 S7
 else
 K67_12 1 S7)))))))))))
set_option maxRecDepth 100000 in
set_option maxHeartbeats 4000000 in
theorem c_X3_moved {l : Launch} {E : EE} {A : Nat → Prop} {a : Nat} {p1 : Int32} {p2 : Int32} {S : PS} {Q : Int32 → PS → Prop} (hH : hasHT E) (r_a : Rf S a 3) (h : wp_X3_moved a p1 p2 S Q) : MtI l yX3_moved (.code yX3_moved cX3_moved 8 (some .int)) rm_X3_moved E A [.ref a, .int p1, .int p2] S Q := by
  refine MtI.of2 (by decide) (Nat.le_of_ble_eq_true rfl) (fun X F hQ hX => ?_)
  show VV X (0, 0) S [(0, .ref a), (1, .int p1), (2, .int p2)] [] 0
  obtain ⟨hXl, hXE, hXA, hN, hnm⟩ := hX
  subst hXE
  subst hXA
  subst hXl
  unfold wp_X3_moved at h
  refine v_iload_n F dX3_moved_0 1 rfl rfl ?_
  refine v_aload_n F dX3_moved_1 0 rfl rfl ?_
  refine g_X3_110 F r_a dX3_moved_2 ?_
  refine v_iadd F dX3_moved_5 ?_
  refine v_topi (fun v1 e_v1 => ?_)
  have h := h v1 e_v1
  refine v_istore_n (lv1 := [(3, .int v1), (0, .ref a), (1, .int p1), (2, .int p2)]) F dX3_moved_6 rfl (by rw [hN]; decide) rfl ?_
  refine v_iload_n F dX3_moved_7 0 rfl rfl ?_
  refine v_bipush (v := 7) F dX3_moved_8 (by decide) ?_
  refine v_cI0 (v_runS F k_X3_299 (c_J9_floorDiv_7cf53 h) rfl rfl (Nat.le_of_ble_eq_true rfl) (by decide) (by decide) dX3_moved_10) ⟨rfl, rfl⟩ (fun r3 S2 h hE => ?_)
  have r_a := r_a.tr hE
  refine v_istore (lv1 := [(4, .int r3), (3, .int v1), (0, .ref a), (1, .int p1), (2, .int p2)]) F dX3_moved_13 (by rw [hN]; decide) rfl ?_
  refine v_iload_n F dX3_moved_15 3 rfl rfl ?_
  refine v_cI0 (v_runS F k_X3_305 (c_X4_halfTones hH h) rfl rfl (Nat.le_of_ble_eq_true rfl) (by decide) (by decide) dX3_moved_16) ⟨rfl, rfl⟩ (fun r5 S4 h hE => ?_)
  have r_a := r_a.tr hE
  refine v_iload_n F dX3_moved_19 4 rfl rfl ?_
  refine v_iadd F dX3_moved_20 ?_
  refine v_aload_n F dX3_moved_21 2 rfl rfl ?_
  refine g_X3_113 F r_a dX3_moved_22 ?_
  refine v_iadd F dX3_moved_25 ?_
  refine v_topi (fun v6 e_v6 => ?_)
  have h := h v6 e_v6
  refine v_istore (lv1 := [(5, .int v6), (4, .int r3), (3, .int v1), (0, .ref a), (1, .int p1), (2, .int p2)]) F dX3_moved_26 (by rw [hN]; decide) rfl ?_
  refine v_iload F dX3_moved_28 0 rfl ?_
  refine v_iload_n F dX3_moved_30 2 rfl rfl ?_
  refine v_cI0 (v_runS F k_X3_305 (c_X4_halfTones hH h) rfl rfl (Nat.le_of_ble_eq_true rfl) (by decide) (by decide) dX3_moved_31) ⟨rfl, rfl⟩ (fun r8 S7 h hE => ?_)
  have r_a := r_a.tr hE
  refine v_isub F dX3_moved_34 ?_
  refine v_topi (fun v9 e_v9 => ?_)
  have h := h v9 e_v9
  refine v_istore (lv1 := [(6, .int v9), (5, .int v6), (4, .int r3), (3, .int v1), (0, .ref a), (1, .int p1), (2, .int p2)]) F dX3_moved_35 (by rw [hN]; decide) rfl ?_
  refine v_iload F dX3_moved_37 2 rfl ?_
  have h := h (fun (t10 : Int32) (S11 : PS) => VV X (0, 0) S11 [(3, .int v1), (6, .int v9)] [.int t10] 67) (by
    intro t10 S11 h
    refine v_istore (lv1 := [(7, .int t10), (3, .int v1), (6, .int v9)]) F dX3_moved_67 (by rw [hN]; decide) rfl ?_
    refine v_iload F dX3_moved_69 0 rfl ?_
    refine v_if_eq (tgt := 83) F dX3_moved_71 (by decide) h (fun h => ?_) (fun h => ?_)
    · refine v_iconst (v := (-1)) F dX3_moved_83 (by decide) ?_
      exact v_iret F hQ h (by decide) dX3_moved_84
    · refine v_iload_n F dX3_moved_74 1 rfl rfl ?_
      refine v_iload F dX3_moved_75 2 rfl ?_
      refine v_cI0 (v_runS F k_X3_308 (c_X4_code h) rfl rfl (Nat.le_of_ble_eq_true rfl) (by decide) (by decide) dX3_moved_77) ⟨rfl, rfl⟩ (fun r14 S13 h hE => ?_)
      refine v_goto (tgt := 84) F dX3_moved_80 (by decide) ?_
      exact v_iret F hQ h (by decide) dX3_moved_84)
  refine v_if_lt (tgt := 66) F dX3_moved_39 (by decide) h (fun h => ?_) (fun h => ?_)
  · refine v_iconst (v := 0) F dX3_moved_66 (by decide) ?_
    exact v_sub [3, 0] rfl (h)
  · refine v_iload F dX3_moved_42 2 rfl ?_
    refine v_bipush (v := 9) F dX3_moved_44 (by decide) ?_
    refine v_icmp_gt (tgt := 66) F dX3_moved_46 (by decide) h (fun h => ?_) (fun h => ?_)
    · refine v_iconst (v := 0) F dX3_moved_66 (by decide) ?_
      exact v_sub [3, 0] rfl (h)
    · refine v_iload F dX3_moved_49 0 rfl ?_
      refine v_bipush (v := (-2)) F dX3_moved_51 (by decide) ?_
      refine v_icmp_lt (tgt := 66) F dX3_moved_53 (by decide) h (fun h => ?_) (fun h => ?_)
      · refine v_iconst (v := 0) F dX3_moved_66 (by decide) ?_
        exact v_sub [3, 0] rfl (h)
      · refine v_iload F dX3_moved_56 0 rfl ?_
        refine v_iconst (v := 2) F dX3_moved_58 (by decide) ?_
        refine v_icmp_gt (tgt := 66) F dX3_moved_59 (by decide) h (fun h => ?_) (fun h => ?_)
        · refine v_iconst (v := 0) F dX3_moved_66 (by decide) ?_
          exact v_sub [3, 0] rfl (h)
        · refine v_iconst (v := 1) F dX3_moved_62 (by decide) ?_
          refine v_goto (tgt := 67) F dX3_moved_63 (by decide) ?_
          exact v_sub [3, 0] rfl (h)
theorem dX3_findPitches_0 : decode cX3_findPitches 0 = .ok (.aload_n 0, 1) := by decide +kernel
theorem dX3_findPitches_1 : decode cX3_findPitches 1 = .ok (.getfield 9, 3) := by decide +kernel
theorem dX3_findPitches_4 : decode cX3_findPitches 4 = .ok (.iload_n 1, 1) := by decide +kernel
theorem dX3_findPitches_5 : decode cX3_findPitches 5 = .ok (.invokevirtual 184, 3) := by decide +kernel
theorem dX3_findPitches_8 : decode cX3_findPitches 8 = .ok (.bipush 6, 2) := by decide +kernel
theorem dX3_findPitches_10 : decode cX3_findPitches 10 = .ok (.invokestatic 273, 3) := by decide +kernel
theorem dX3_findPitches_13 : decode cX3_findPitches 13 = .ok (.istore_n 2, 1) := by decide +kernel
theorem dX3_findPitches_14 : decode cX3_findPitches 14 = .ok (.iload_n 2, 1) := by decide +kernel
theorem dX3_findPitches_15 : decode cX3_findPitches 15 = .ok (.i2l, 1) := by decide +kernel
theorem dX3_findPitches_16 : decode cX3_findPitches 16 = .ok (.lstore_n 3, 1) := by decide +kernel
theorem dX3_findPitches_17 : decode cX3_findPitches 17 = .ok (.aload_n 0, 1) := by decide +kernel
theorem dX3_findPitches_18 : decode cX3_findPitches 18 = .ok (.getfield 95, 3) := by decide +kernel
theorem dX3_findPitches_21 : decode cX3_findPitches 21 = .ok (.istore 5, 2) := by decide +kernel
theorem dX3_findPitches_23 : decode cX3_findPitches 23 = .ok (.aload_n 0, 1) := by decide +kernel
theorem dX3_findPitches_24 : decode cX3_findPitches 24 = .ok (.getfield 95, 3) := by decide +kernel
theorem dX3_findPitches_27 : decode cX3_findPitches 27 = .ok (.istore 6, 2) := by decide +kernel
theorem dX3_findPitches_29 : decode cX3_findPitches 29 = .ok (.iconst 0, 1) := by decide +kernel
theorem dX3_findPitches_30 : decode cX3_findPitches 30 = .ok (.istore 7, 2) := by decide +kernel
theorem dX3_findPitches_32 : decode cX3_findPitches 32 = .ok (.iload 7, 2) := by decide +kernel
theorem dX3_findPitches_34 : decode cX3_findPitches 34 = .ok (.iload_n 2, 1) := by decide +kernel
theorem dX3_findPitches_35 : decode cX3_findPitches 35 = .ok (.if_icmp .ge 72, 3) := by decide +kernel
theorem dX3_findPitches_38 : decode cX3_findPitches 38 = .ok (.aload_n 0, 1) := by decide +kernel
theorem dX3_findPitches_39 : decode cX3_findPitches 39 = .ok (.getfield 9, 3) := by decide +kernel
theorem dX3_findPitches_42 : decode cX3_findPitches 42 = .ok (.iload_n 1, 1) := by decide +kernel
theorem dX3_findPitches_43 : decode cX3_findPitches 43 = .ok (.iload 7, 2) := by decide +kernel
theorem dX3_findPitches_45 : decode cX3_findPitches 45 = .ok (.invokevirtual 276, 3) := by decide +kernel
theorem dX3_findPitches_48 : decode cX3_findPitches 48 = .ok (.istore 8, 2) := by decide +kernel
theorem dX3_findPitches_50 : decode cX3_findPitches 50 = .ok (.aload_n 0, 1) := by decide +kernel
theorem dX3_findPitches_51 : decode cX3_findPitches 51 = .ok (.iload 8, 2) := by decide +kernel
theorem dX3_findPitches_53 : decode cX3_findPitches 53 = .ok (.iload 5, 2) := by decide +kernel
theorem dX3_findPitches_55 : decode cX3_findPitches 55 = .ok (.invokevirtual 279, 3) := by decide +kernel
theorem dX3_findPitches_58 : decode cX3_findPitches 58 = .ok (.istore 5, 2) := by decide +kernel
theorem dX3_findPitches_60 : decode cX3_findPitches 60 = .ok (.iload 7, 2) := by decide +kernel
theorem dX3_findPitches_62 : decode cX3_findPitches 62 = .ok (.ifCond .ne 7, 3) := by decide +kernel
theorem dX3_findPitches_65 : decode cX3_findPitches 65 = .ok (.iload 5, 2) := by decide +kernel
theorem dX3_findPitches_67 : decode cX3_findPitches 67 = .ok (.istore 6, 2) := by decide +kernel
theorem dX3_findPitches_69 : decode cX3_findPitches 69 = .ok (.aload_n 0, 1) := by decide +kernel
theorem dX3_findPitches_70 : decode cX3_findPitches 70 = .ok (.iload 5, 2) := by decide +kernel
theorem dX3_findPitches_72 : decode cX3_findPitches 72 = .ok (.iload 8, 2) := by decide +kernel
theorem dX3_findPitches_74 : decode cX3_findPitches 74 = .ok (.invokestatic 282, 3) := by decide +kernel
theorem dX3_findPitches_77 : decode cX3_findPitches 77 = .ok (.invokevirtual 287, 3) := by decide +kernel
theorem dX3_findPitches_80 : decode cX3_findPitches 80 = .ok (.istore 9, 2) := by decide +kernel
theorem dX3_findPitches_82 : decode cX3_findPitches 82 = .ok (.iload 9, 2) := by decide +kernel
theorem dX3_findPitches_84 : decode cX3_findPitches 84 = .ok (.iconst (-1), 1) := by decide +kernel
theorem dX3_findPitches_85 : decode cX3_findPitches 85 = .ok (.if_icmp .ne 7, 3) := by decide +kernel
theorem dX3_findPitches_88 : decode cX3_findPitches 88 = .ok (.ldc2_w 210, 3) := by decide +kernel
theorem dX3_findPitches_91 : decode cX3_findPitches 91 = .ok (.lreturn, 1) := by decide +kernel
theorem dX3_findPitches_92 : decode cX3_findPitches 92 = .ok (.lload_n 3, 1) := by decide +kernel
theorem dX3_findPitches_93 : decode cX3_findPitches 93 = .ok (.iload 7, 2) := by decide +kernel
theorem dX3_findPitches_95 : decode cX3_findPitches 95 = .ok (.iload 9, 2) := by decide +kernel
theorem dX3_findPitches_97 : decode cX3_findPitches 97 = .ok (.invokestatic 290, 3) := by decide +kernel
theorem dX3_findPitches_100 : decode cX3_findPitches 100 = .ok (.lstore_n 3, 1) := by decide +kernel
theorem dX3_findPitches_101 : decode cX3_findPitches 101 = .ok (.iinc 7 1, 3) := by decide +kernel
theorem dX3_findPitches_104 : decode cX3_findPitches 104 = .ok (.goto (-72), 3) := by decide +kernel
theorem dX3_findPitches_107 : decode cX3_findPitches 107 = .ok (.aload_n 0, 1) := by decide +kernel
theorem dX3_findPitches_108 : decode cX3_findPitches 108 = .ok (.getfield 98, 3) := by decide +kernel
theorem dX3_findPitches_111 : decode cX3_findPitches 111 = .ok (.ifCond .le 9, 3) := by decide +kernel
theorem dX3_findPitches_114 : decode cX3_findPitches 114 = .ok (.aload_n 0, 1) := by decide +kernel
theorem dX3_findPitches_115 : decode cX3_findPitches 115 = .ok (.iload 6, 2) := by decide +kernel
theorem dX3_findPitches_117 : decode cX3_findPitches 117 = .ok (.putfield 95, 3) := by decide +kernel
theorem dX3_findPitches_120 : decode cX3_findPitches 120 = .ok (.lload_n 3, 1) := by decide +kernel
theorem dX3_findPitches_121 : decode cX3_findPitches 121 = .ok (.lreturn, 1) := by decide +kernel
abbrev rm_X3_findPitches : Room := { frames := 3, cells := 0, slots := 0, locals := 107 }
def wp_X3_findPitches (a : Nat) (p1 : Int32) (S : PS) (Q : Int64 → PS → Prop) : Prop :=
  (∃ b1, fR S 21 a = some b1 ∧ wp_X6_two b1 p1 S (fun (r3 : Int32) (S2 : PS) => 
 (∀ v4, v4 = (if 6 < r3 then 6 else r3) → (∀ v5, v5 = v4.toInt64 → (∀ v6, v6 = fI S2 30 a → (∀ v7, v7 = fI S2 30 a → (∀ P32_8 : Int64 → Int32 → Int32 → Int32 → PS → Prop, (∀ (x3_9 : Int64) (x5_10 : Int32) (x6_11 : Int32) (x7_12 : Int32) (S13 : PS),
 (if v4 ≤ x7_12 then
 (if fI S13 31 a ≤ 0 then
 Q x3_9 S13
 else
 (∀ S14, S14 = sI S13 30 a x6_11 → Q x3_9 S14))
 else
 (∃ b15, fR S13 21 a = some b15 ∧ wp_X6_partOf b15 p1 x7_12 S13 (fun (r17 : Int32) (S16 : PS) => 
 wp_X3_stepOf a r17 x5_10 S16 (fun (r19 : Int32) (S18 : PS) => 
 (∀ K69_22 : Int32 → PS → Prop, (∀ (x6_20 : Int32) (S21 : PS),
 wp_X10_alter r17 S21 (fun (r24 : Int32) (S23 : PS) => 
 wp_X3_moved a r19 r24 S23 (fun (r26 : Int32) (S25 : PS) => 
 (if r26 = (-1) then
 Q (-1) S25
 else
 wp_X4_with x3_9 x7_12 r26 S25 (fun (r28 : Int64) (S27 : PS) => 
 (∀ v29, v29 = x7_12 + 1 → P32_8 r28 r19 x6_20 v29 S27)))))
 → K69_22 x6_20 S21) →
 (if x7_12 = 0 then
 K69_22 r19 S18
 else
 K69_22 x6_11 S18))))))
 → P32_8 x3_9 x5_10 x6_11 x7_12 S13) → P32_8 v5 v6 v7 0 S2)))))))
set_option maxRecDepth 100000 in
set_option maxHeartbeats 4000000 in
theorem c_X3_findPitches {l : Launch} {E : EE} {A : Nat → Prop} {a : Nat} {p1 : Int32} {S : PS} {Q : Int64 → PS → Prop} (hH : hasHT E) (r_a : Rf S a 3) (h : wp_X3_findPitches a p1 S Q) : MtL l yX3_findPitches (.code yX3_findPitches cX3_findPitches 10 (some .long)) rm_X3_findPitches E A [.ref a, .int p1] S Q := by
  refine MtL.of2 (by decide) (Nat.le_of_ble_eq_true rfl) (fun X F hQ hX => ?_)
  show VV X (0, 0) S [(0, .ref a), (1, .int p1)] [] 0
  obtain ⟨hXl, hXE, hXA, hN, hnm⟩ := hX
  subst hXE
  subst hXA
  subst hXl
  unfold wp_X3_findPitches at h
  refine v_aload_n F dX3_findPitches_0 0 rfl rfl ?_
  refine g_X3_9 F r_a h dX3_findPitches_1 (fun b1 r_b1 h => ?_)
  refine v_iload_n F dX3_findPitches_4 1 rfl rfl ?_
  refine v_cI0 (v_runV F k_X3_184 rfl (c_X6_two r_b1 h) r_b1 rfl rfl (Nat.le_of_ble_eq_true rfl) (by decide) (by decide) dX3_findPitches_5) ⟨rfl, rfl⟩ (fun r3 S2 h hE => ?_)
  have r_a := r_a.tr hE
  refine v_bipush (v := 6) F dX3_findPitches_8 (by decide) ?_
  refine v_mmin F k_X3_273 (by decide) (Nat.le_of_ble_eq_true rfl) dX3_findPitches_10 ?_
  refine v_topi (fun v4 e_v4 => ?_)
  have h := h v4 e_v4
  refine v_istore_n (lv1 := [(2, .int v4), (0, .ref a), (1, .int p1)]) F dX3_findPitches_13 rfl (by rw [hN]; decide) rfl ?_
  refine v_iload_n F dX3_findPitches_14 0 rfl rfl ?_
  refine v_i2l F dX3_findPitches_15 ?_
  refine v_topl (fun v5 e_v5 => ?_)
  have h := h v5 e_v5
  refine v_lstore_n (lv1 := [(3, .long v5), (2, .int v4), (0, .ref a), (1, .int p1)]) F dX3_findPitches_16 rfl (by rw [hN]; decide) rfl ?_
  refine v_aload_n F dX3_findPitches_17 2 rfl rfl ?_
  refine g_X3_95 F r_a dX3_findPitches_18 ?_
  refine v_topi (fun v6 e_v6 => ?_)
  have h := h v6 e_v6
  refine v_istore (lv1 := [(5, .int v6), (3, .long v5), (2, .int v4), (0, .ref a), (1, .int p1)]) F dX3_findPitches_21 (by rw [hN]; decide) rfl ?_
  refine v_aload_n F dX3_findPitches_23 3 rfl rfl ?_
  refine g_X3_95 F r_a dX3_findPitches_24 ?_
  refine v_topi (fun v7 e_v7 => ?_)
  have h := h v7 e_v7
  refine v_istore (lv1 := [(6, .int v7), (5, .int v6), (3, .long v5), (2, .int v4), (0, .ref a), (1, .int p1)]) F dX3_findPitches_27 (by rw [hN]; decide) rfl ?_
  refine v_iconst (v := 0) F dX3_findPitches_29 (by decide) ?_
  refine v_istore (lv1 := [(7, .int 0), (6, .int v7), (5, .int v6), (3, .long v5), (2, .int v4), (0, .ref a), (1, .int p1)]) F dX3_findPitches_30 (by rw [hN]; decide) rfl ?_
  refine v_sub [5, 6, 4, 3, 2, 1, 0] rfl ?_
  refine h (fun (x3_9 : Int64) (x5_10 : Int32) (x6_11 : Int32) (x7_12 : Int32) (S13 : PS) => Rf S13 a 3 → VV X (0, 0) S13 [(0, .ref a), (1, .int p1), (2, .int v4), (3, .long x3_9), (5, .int x5_10), (6, .int x6_11), (7, .int x7_12)] [] 32) (fun x3_9 x5_10 x6_11 x7_12 S13 h r_a => ?_) r_a
  refine v_iload F dX3_findPitches_32 6 rfl ?_
  refine v_iload_n F dX3_findPitches_34 2 rfl rfl ?_
  refine v_icmp_ge (tgt := 107) F dX3_findPitches_35 (by decide) h (fun h => ?_) (fun h => ?_)
  · refine v_aload_n F dX3_findPitches_107 0 rfl rfl ?_
    refine g_X3_98 F r_a dX3_findPitches_108 ?_
    refine v_if_le (tgt := 120) F dX3_findPitches_111 (by decide) h (fun h => ?_) (fun h => ?_)
    · refine v_lload_n F dX3_findPitches_120 3 rfl rfl ?_
      exact v_lret F hQ h (by decide) dX3_findPitches_121
    · refine v_aload_n F dX3_findPitches_114 0 rfl rfl ?_
      refine v_iload F dX3_findPitches_115 5 rfl ?_
      refine p_X3_95 F r_a h dX3_findPitches_117 (fun S14 h hE => ?_)
      have r_a := r_a.tr hE
      refine v_lload_n F dX3_findPitches_120 3 rfl rfl ?_
      exact v_lret F hQ h (by decide) dX3_findPitches_121
  · refine v_aload_n F dX3_findPitches_38 0 rfl rfl ?_
    refine g_X3_9 F r_a h dX3_findPitches_39 (fun b15 r_b15 h => ?_)
    refine v_iload_n F dX3_findPitches_42 1 rfl rfl ?_
    refine v_iload F dX3_findPitches_43 6 rfl ?_
    refine v_cI0 (v_runV F k_X3_276 rfl (c_X6_partOf r_b15 h) r_b15 rfl rfl (Nat.le_of_ble_eq_true rfl) (by decide) (by decide) dX3_findPitches_45) ⟨rfl, rfl⟩ (fun r17 S16 h hE => ?_)
    have r_a := r_a.tr hE
    refine v_istore (lv1 := [(8, .int r17), (0, .ref a), (1, .int p1), (2, .int v4), (3, .long x3_9), (5, .int x5_10), (6, .int x6_11), (7, .int x7_12)]) F dX3_findPitches_48 (by rw [hN]; decide) rfl ?_
    refine v_aload_n F dX3_findPitches_50 1 rfl rfl ?_
    refine v_iload F dX3_findPitches_51 0 rfl ?_
    refine v_iload F dX3_findPitches_53 5 rfl ?_
    refine v_cI0 (v_runV F k_X3_279 rfl (c_X3_stepOf r_a h) r_a rfl rfl (Nat.le_of_ble_eq_true rfl) (by decide) (by decide) dX3_findPitches_55) ⟨rfl, rfl⟩ (fun r19 S18 h hE => ?_)
    have r_a := r_a.tr hE
    refine v_istore (lv1 := [(5, .int r19), (8, .int r17), (0, .ref a), (1, .int p1), (2, .int v4), (3, .long x3_9), (6, .int x6_11), (7, .int x7_12)]) F dX3_findPitches_58 (by rw [hN]; decide) rfl ?_
    refine v_iload F dX3_findPitches_60 7 rfl ?_
    have h := h (fun (x6_20 : Int32) (S21 : PS) => Rf S21 a 3 → VV X (0, 0) S21 [(0, .ref a), (1, .int p1), (2, .int v4), (3, .long x3_9), (5, .int r19), (6, .int x6_20), (7, .int x7_12), (8, .int r17)] [] 69) (by
      intro x6_20 S21 h r_a
      refine v_aload_n F dX3_findPitches_69 0 rfl rfl ?_
      refine v_iload F dX3_findPitches_70 4 rfl ?_
      refine v_iload F dX3_findPitches_72 7 rfl ?_
      refine v_cI0 (v_runS F k_X3_282 (c_X10_alter h) rfl rfl (Nat.le_of_ble_eq_true rfl) (by decide) (by decide) dX3_findPitches_74) ⟨rfl, rfl⟩ (fun r24 S23 h hE => ?_)
      have r_a := r_a.tr hE
      refine v_cI0 (v_runV F k_X3_287 rfl (c_X3_moved hH r_a h) r_a rfl rfl (Nat.le_of_ble_eq_true rfl) (by decide) (by decide) dX3_findPitches_77) ⟨rfl, rfl⟩ (fun r26 S25 h hE => ?_)
      have r_a := r_a.tr hE
      refine v_istore (lv1 := [(9, .int r26), (0, .ref a), (1, .int p1), (2, .int v4), (3, .long x3_9), (5, .int r19), (6, .int x6_20), (7, .int x7_12), (8, .int r17)]) F dX3_findPitches_80 (by rw [hN]; decide) rfl ?_
      refine v_iload F dX3_findPitches_82 0 rfl ?_
      refine v_iconst (v := (-1)) F dX3_findPitches_84 (by decide) ?_
      refine v_icmp_ne (tgt := 92) F dX3_findPitches_85 (by decide) h (fun h => ?_) (fun h => ?_)
      · refine v_lload_n F dX3_findPitches_92 4 rfl rfl ?_
        refine v_iload F dX3_findPitches_93 7 rfl ?_
        refine v_iload F dX3_findPitches_95 0 rfl ?_
        refine v_cL0 (v_runS F k_X3_290 (c_X4_with h) rfl rfl (Nat.le_of_ble_eq_true rfl) (by decide) (by decide) dX3_findPitches_97) ⟨rfl, rfl⟩ (fun r28 S27 h hE => ?_)
        have r_a := r_a.tr hE
        refine v_lstore_n (lv1 := [(3, .long r28), (9, .int r26), (0, .ref a), (1, .int p1), (2, .int v4), (5, .int r19), (6, .int x6_20), (7, .int x7_12), (8, .int r17)]) F dX3_findPitches_100 rfl (by rw [hN]; decide) rfl ?_
        obtain ⟨v29, e_v29⟩ : ∃ y : Int32, y = x7_12 + 1 := ⟨_, rfl⟩
        have h := h v29 e_v29
        refine v_iinc (v := v29) (lv1 := [(7, .int v29), (3, .long r28), (9, .int r26), (0, .ref a), (1, .int p1), (2, .int v4), (5, .int r19), (6, .int x6_20), (8, .int r17)]) F dX3_findPitches_101 (q := 7) rfl (by rw [e_v29]; rfl) (by rw [hN]; decide) rfl ?_
        refine v_goto (tgt := 32) F dX3_findPitches_104 (by decide) ?_
        exact v_sub [3, 4, 5, 1, 6, 7, 0] rfl (h r_a)
      · refine v_ldc2 F kc_X3_210 dX3_findPitches_88 ?_
        exact v_lret F hQ h (by decide) dX3_findPitches_91)
    refine v_if_ne (tgt := 69) F dX3_findPitches_62 (by decide) h (fun h => ?_) (fun h => ?_)
    · exact v_sub [2, 3, 4, 5, 0, 6, 7, 1] rfl (h r_a)
    · refine v_iload F dX3_findPitches_65 0 rfl ?_
      refine v_istore (lv1 := [(6, .int r19), (5, .int r19), (8, .int r17), (0, .ref a), (1, .int p1), (2, .int v4), (3, .long x3_9), (7, .int x7_12)]) F dX3_findPitches_67 (by rw [hN]; decide) rfl ?_
      exact v_sub [3, 4, 5, 6, 1, 0, 7, 2] rfl (h r_a)
theorem dX3_sound_0 : decode cX3_sound 0 = .ok (.aload_n 0, 1) := by decide +kernel
theorem dX3_sound_1 : decode cX3_sound 1 = .ok (.iload_n 1, 1) := by decide +kernel
theorem dX3_sound_2 : decode cX3_sound 2 = .ok (.invokevirtual 263, 3) := by decide +kernel
theorem dX3_sound_5 : decode cX3_sound 5 = .ok (.lstore_n 2, 1) := by decide +kernel
theorem dX3_sound_6 : decode cX3_sound 6 = .ok (.lload_n 2, 1) := by decide +kernel
theorem dX3_sound_7 : decode cX3_sound 7 = .ok (.ldc2_w 210, 3) := by decide +kernel
theorem dX3_sound_10 : decode cX3_sound 10 = .ok (.lcmp, 1) := by decide +kernel
theorem dX3_sound_11 : decode cX3_sound 11 = .ok (.ifCond .ne 10, 3) := by decide +kernel
theorem dX3_sound_14 : decode cX3_sound 14 = .ok (.aload_n 0, 1) := by decide +kernel
theorem dX3_sound_15 : decode cX3_sound 15 = .ok (.iconst 3, 1) := by decide +kernel
theorem dX3_sound_16 : decode cX3_sound 16 = .ok (.iload_n 1, 1) := by decide +kernel
theorem dX3_sound_17 : decode cX3_sound 17 = .ok (.invokevirtual 149, 3) := by decide +kernel
theorem dX3_sound_20 : decode cX3_sound 20 = .ok (.ireturn, 1) := by decide +kernel
theorem dX3_sound_21 : decode cX3_sound 21 = .ok (.aload_n 0, 1) := by decide +kernel
theorem dX3_sound_22 : decode cX3_sound 22 = .ok (.getfield 9, 3) := by decide +kernel
theorem dX3_sound_25 : decode cX3_sound 25 = .ok (.iload_n 1, 1) := by decide +kernel
theorem dX3_sound_26 : decode cX3_sound 26 = .ok (.invokevirtual 266, 3) := by decide +kernel
theorem dX3_sound_29 : decode cX3_sound 29 = .ok (.lconst 0, 1) := by decide +kernel
theorem dX3_sound_30 : decode cX3_sound 30 = .ok (.lcmp, 1) := by decide +kernel
theorem dX3_sound_31 : decode cX3_sound 31 = .ok (.ifCond .le 15, 3) := by decide +kernel
theorem dX3_sound_34 : decode cX3_sound 34 = .ok (.aload_n 0, 1) := by decide +kernel
theorem dX3_sound_35 : decode cX3_sound 35 = .ok (.aload_n 0, 1) := by decide +kernel
theorem dX3_sound_36 : decode cX3_sound 36 = .ok (.getfield 9, 3) := by decide +kernel
theorem dX3_sound_39 : decode cX3_sound 39 = .ok (.iload_n 1, 1) := by decide +kernel
theorem dX3_sound_40 : decode cX3_sound 40 = .ok (.invokevirtual 266, 3) := by decide +kernel
theorem dX3_sound_43 : decode cX3_sound 43 = .ok (.putfield 92, 3) := by decide +kernel
theorem dX3_sound_46 : decode cX3_sound 46 = .ok (.aload_n 0, 1) := by decide +kernel
theorem dX3_sound_47 : decode cX3_sound 47 = .ok (.lload_n 2, 1) := by decide +kernel
theorem dX3_sound_48 : decode cX3_sound 48 = .ok (.invokevirtual 240, 3) := by decide +kernel
theorem dX3_sound_51 : decode cX3_sound 51 = .ok (.ifCond .ne 5, 3) := by decide +kernel
theorem dX3_sound_54 : decode cX3_sound 54 = .ok (.iconst 0, 1) := by decide +kernel
theorem dX3_sound_55 : decode cX3_sound 55 = .ok (.ireturn, 1) := by decide +kernel
theorem dX3_sound_56 : decode cX3_sound 56 = .ok (.aload_n 0, 1) := by decide +kernel
theorem dX3_sound_57 : decode cX3_sound 57 = .ok (.getfield 92, 3) := by decide +kernel
theorem dX3_sound_60 : decode cX3_sound 60 = .ok (.aload_n 0, 1) := by decide +kernel
theorem dX3_sound_61 : decode cX3_sound 61 = .ok (.getfield 104, 3) := by decide +kernel
theorem dX3_sound_64 : decode cX3_sound 64 = .ok (.lmul, 1) := by decide +kernel
theorem dX3_sound_65 : decode cX3_sound 65 = .ok (.lstore 4, 2) := by decide +kernel
theorem dX3_sound_67 : decode cX3_sound 67 = .ok (.aload_n 0, 1) := by decide +kernel
theorem dX3_sound_68 : decode cX3_sound 68 = .ok (.getfield 107, 3) := by decide +kernel
theorem dX3_sound_71 : decode cX3_sound 71 = .ok (.lconst 1, 1) := by decide +kernel
theorem dX3_sound_72 : decode cX3_sound 72 = .ok (.lcmp, 1) := by decide +kernel
theorem dX3_sound_73 : decode cX3_sound 73 = .ok (.ifCond .lt 29, 3) := by decide +kernel
theorem dX3_sound_76 : decode cX3_sound 76 = .ok (.lload 4, 2) := by decide +kernel
theorem dX3_sound_78 : decode cX3_sound 78 = .ok (.aload_n 0, 1) := by decide +kernel
theorem dX3_sound_79 : decode cX3_sound 79 = .ok (.getfield 107, 3) := by decide +kernel
theorem dX3_sound_82 : decode cX3_sound 82 = .ok (.lrem, 1) := by decide +kernel
theorem dX3_sound_83 : decode cX3_sound 83 = .ok (.lconst 0, 1) := by decide +kernel
theorem dX3_sound_84 : decode cX3_sound 84 = .ok (.lcmp, 1) := by decide +kernel
theorem dX3_sound_85 : decode cX3_sound 85 = .ok (.ifCond .ne 17, 3) := by decide +kernel
theorem dX3_sound_88 : decode cX3_sound 88 = .ok (.lload 4, 2) := by decide +kernel
theorem dX3_sound_90 : decode cX3_sound 90 = .ok (.aload_n 0, 1) := by decide +kernel
theorem dX3_sound_91 : decode cX3_sound 91 = .ok (.getfield 107, 3) := by decide +kernel
theorem dX3_sound_94 : decode cX3_sound 94 = .ok (.ldiv, 1) := by decide +kernel
theorem dX3_sound_95 : decode cX3_sound 95 = .ok (.ldc2_w 257, 3) := by decide +kernel
theorem dX3_sound_98 : decode cX3_sound 98 = .ok (.lcmp, 1) := by decide +kernel
theorem dX3_sound_99 : decode cX3_sound 99 = .ok (.ifCond .le 10, 3) := by decide +kernel
theorem dX3_sound_102 : decode cX3_sound 102 = .ok (.aload_n 0, 1) := by decide +kernel
theorem dX3_sound_103 : decode cX3_sound 103 = .ok (.iconst 2, 1) := by decide +kernel
theorem dX3_sound_104 : decode cX3_sound 104 = .ok (.iload_n 1, 1) := by decide +kernel
theorem dX3_sound_105 : decode cX3_sound 105 = .ok (.invokevirtual 149, 3) := by decide +kernel
theorem dX3_sound_108 : decode cX3_sound 108 = .ok (.ireturn, 1) := by decide +kernel
theorem dX3_sound_109 : decode cX3_sound 109 = .ok (.aload_n 0, 1) := by decide +kernel
theorem dX3_sound_110 : decode cX3_sound 110 = .ok (.getfield 9, 3) := by decide +kernel
theorem dX3_sound_113 : decode cX3_sound 113 = .ok (.iload_n 1, 1) := by decide +kernel
theorem dX3_sound_114 : decode cX3_sound 114 = .ok (.invokevirtual 142, 3) := by decide +kernel
theorem dX3_sound_117 : decode cX3_sound 117 = .ok (.istore 6, 2) := by decide +kernel
theorem dX3_sound_119 : decode cX3_sound 119 = .ok (.aload_n 0, 1) := by decide +kernel
theorem dX3_sound_120 : decode cX3_sound 120 = .ok (.iload 6, 2) := by decide +kernel
theorem dX3_sound_122 : decode cX3_sound 122 = .ok (.lload_n 2, 1) := by decide +kernel
theorem dX3_sound_123 : decode cX3_sound 123 = .ok (.lload 4, 2) := by decide +kernel
theorem dX3_sound_125 : decode cX3_sound 125 = .ok (.aload_n 0, 1) := by decide +kernel
theorem dX3_sound_126 : decode cX3_sound 126 = .ok (.getfield 107, 3) := by decide +kernel
theorem dX3_sound_129 : decode cX3_sound 129 = .ok (.ldiv, 1) := by decide +kernel
theorem dX3_sound_130 : decode cX3_sound 130 = .ok (.invokevirtual 243, 3) := by decide +kernel
theorem dX3_sound_133 : decode cX3_sound 133 = .ok (.ifCond .ne 5, 3) := by decide +kernel
theorem dX3_sound_136 : decode cX3_sound 136 = .ok (.iconst 0, 1) := by decide +kernel
theorem dX3_sound_137 : decode cX3_sound 137 = .ok (.ireturn, 1) := by decide +kernel
theorem dX3_sound_138 : decode cX3_sound 138 = .ok (.aload_n 0, 1) := by decide +kernel
theorem dX3_sound_139 : decode cX3_sound 139 = .ok (.getfield 9, 3) := by decide +kernel
theorem dX3_sound_142 : decode cX3_sound 142 = .ok (.iload_n 1, 1) := by decide +kernel
theorem dX3_sound_143 : decode cX3_sound 143 = .ok (.invokevirtual 187, 3) := by decide +kernel
theorem dX3_sound_146 : decode cX3_sound 146 = .ok (.iconst 1, 1) := by decide +kernel
theorem dX3_sound_147 : decode cX3_sound 147 = .ok (.if_icmp .ne 16, 3) := by decide +kernel
theorem dX3_sound_150 : decode cX3_sound 150 = .ok (.aload_n 0, 1) := by decide +kernel
theorem dX3_sound_151 : decode cX3_sound 151 = .ok (.getfield 25, 3) := by decide +kernel
theorem dX3_sound_154 : decode cX3_sound 154 = .ok (.aload_n 0, 1) := by decide +kernel
theorem dX3_sound_155 : decode cX3_sound 155 = .ok (.getfield 83, 3) := by decide +kernel
theorem dX3_sound_158 : decode cX3_sound 158 = .ok (.iload 6, 2) := by decide +kernel
theorem dX3_sound_160 : decode cX3_sound 160 = .ok (.invokevirtual 269, 3) := by decide +kernel
theorem dX3_sound_163 : decode cX3_sound 163 = .ok (.iconst 1, 1) := by decide +kernel
theorem dX3_sound_164 : decode cX3_sound 164 = .ok (.ireturn, 1) := by decide +kernel
abbrev rm_X3_sound : Room := { frames := 4, cells := 0, slots := 0, locals := 136 }
def wp_X3_sound (a : Nat) (p1 : Int32) (S : PS) (Q : Int32 → PS → Prop) : Prop :=
  wp_X3_findPitches a p1 S (fun (r2 : Int64) (S1 : PS) => 
 (if r2 = (-1) then
 wp_X3_tell a 3 p1 S1 (fun (r30 : Int32) (S29 : PS) => 
 Q r30 S29)
 else
 (∃ b3, fR S1 21 a = some b3 ∧ wp_X6_ticksOf b3 p1 S1 (fun (r5 : Int64) (S4 : PS) => 
 (∀ K46_7 : PS → Prop, (∀ (S6 : PS),
 wp_X3_keepTie a r2 S6 (fun (r9 : Int32) (S8 : PS) => 
 (if r9 = 0 then
 Q 0 S8
 else
 (∀ v10, v10 = (fL S8 29 a) * (fL S8 33 a) → (∀ K102_12 : PS → Prop, (∀ (S11 : PS),
 wp_X3_tell a 2 p1 S11 (fun (r14 : Int32) (S13 : PS) => 
 Q r14 S13)
 → K102_12 S11) →
 (if fL S8 34 a < 1 then
 K102_12 S8
 else
 (¬ (fL S8 34 a) = 0 ∧ (if v10 - v10 / (fL S8 34 a) * (fL S8 34 a) = 0 then
 (¬ (fL S8 34 a) = 0 ∧ (if v10 / (fL S8 34 a) ≤ 3870720000 then
 (∃ b15, fR S8 21 a = some b15 ∧ wp_X6_placeOf b15 p1 S8 (fun (r17 : Int32) (S16 : PS) => 
 (¬ (fL S16 34 a) = 0 ∧ wp_X3_append a r17 r2 (v10 / (fL S16 34 a)) S16 (fun (r19 : Int32) (S18 : PS) => 
 (if r19 = 0 then
 Q 0 S18
 else
 (∃ b20, fR S18 21 a = some b20 ∧ wp_X6_one b20 p1 S18 (fun (r22 : Int32) (S21 : PS) => 
 (if r22 = 1 then
 (∃ b23, fR S21 25 a = some b23 ∧ wp_X8_tieLatest b23 (fI S21 27 a) r17 S21 (fun (S24 : PS) => 
 Q 1 S24))
 else
 Q 1 S21))))))))
 else
 K102_12 S8))
 else
 K102_12 S8)))))))
 → K46_7 S6) →
 (if r5 ≤ 0 then
 K46_7 S4
 else
 (∃ b25, fR S4 21 a = some b25 ∧ wp_X6_ticksOf b25 p1 S4 (fun (r27 : Int64) (S26 : PS) => 
 (∀ S28, S28 = sL S26 29 a r27 → K46_7 S28)))))))))
set_option maxRecDepth 100000 in
set_option maxHeartbeats 4000000 in
theorem c_X3_sound {l : Launch} {E : EE} {A : Nat → Prop} {a : Nat} {p1 : Int32} {S : PS} {Q : Int32 → PS → Prop} (hH : hasHT E) (r_a : Rf S a 3) (h : wp_X3_sound a p1 S Q) : MtI l yX3_sound (.code yX3_sound cX3_sound 7 (some .boolean)) rm_X3_sound E A [.ref a, .int p1] S (fun r S1 => nz r ∧ Q r S1) := by
  refine MtI.of2 (by decide) (Nat.le_of_ble_eq_true rfl) (fun X F hQ hX => ?_)
  show VV X (0, 0) S [(0, .ref a), (1, .int p1)] [] 0
  obtain ⟨hXl, hXE, hXA, hN, hnm⟩ := hX
  subst hXE
  subst hXA
  subst hXl
  unfold wp_X3_sound at h
  refine v_aload_n F dX3_sound_0 0 rfl rfl ?_
  refine v_iload_n F dX3_sound_1 1 rfl rfl ?_
  refine v_cL0 (v_runV F k_X3_263 rfl (c_X3_findPitches hH r_a h) r_a rfl rfl (Nat.le_of_ble_eq_true rfl) (by decide) (by decide) dX3_sound_2) ⟨rfl, rfl⟩ (fun r2 S1 h hE => ?_)
  have r_a := r_a.tr hE
  refine v_lstore_n (lv1 := [(2, .long r2), (0, .ref a), (1, .int p1)]) F dX3_sound_5 rfl (by rw [hN]; decide) rfl ?_
  refine v_lload_n F dX3_sound_6 0 rfl rfl ?_
  refine v_ldc2 F kc_X3_210 dX3_sound_7 ?_
  refine v_lcmp_ne (tgt := 21) F dX3_sound_10 dX3_sound_11 (by decide) h (fun h => ?_) (fun h => ?_)
  · refine v_aload_n F dX3_sound_21 1 rfl rfl ?_
    refine g_X3_9 F r_a h dX3_sound_22 (fun b3 r_b3 h => ?_)
    refine v_iload_n F dX3_sound_25 2 rfl rfl ?_
    refine v_cL0 (v_runV F k_X3_266 rfl (c_X6_ticksOf r_b3 h) r_b3 rfl rfl (Nat.le_of_ble_eq_true rfl) (by decide) (by decide) dX3_sound_26) ⟨rfl, rfl⟩ (fun r5 S4 h hE => ?_)
    have r_a := r_a.tr hE
    refine v_lconst (v := 0) F dX3_sound_29 (by decide) ?_
    have h := h (fun (S6 : PS) => Rf S6 a 3 → VV X (0, 0) S6 [(0, .ref a), (1, .int p1), (2, .long r2)] [] 46) (by
      intro S6 h r_a
      refine v_aload_n F dX3_sound_46 0 rfl rfl ?_
      refine v_lload_n F dX3_sound_47 2 rfl rfl ?_
      refine v_cI0 (v_runV F k_X3_240 rfl (c_X3_keepTie r_a h) r_a rfl rfl (Nat.le_of_ble_eq_true rfl) (by decide) (by decide) dX3_sound_48) ⟨rfl, rfl⟩ (fun r9 S8 h hE => ?_)
      obtain ⟨nz_r9, h⟩ := h
      have r_a := r_a.tr hE
      refine v_if_ne (tgt := 56) F dX3_sound_51 (by decide) h (fun h => ?_) (fun h => ?_)
      · refine v_aload_n F dX3_sound_56 0 rfl rfl ?_
        refine g_X3_92 F r_a dX3_sound_57 ?_
        refine v_aload_n F dX3_sound_60 0 rfl rfl ?_
        refine g_X3_104 F r_a dX3_sound_61 ?_
        refine v_lmul F dX3_sound_64 ?_
        refine v_topl (fun v10 e_v10 => ?_)
        have h := h v10 e_v10
        refine v_lstore (lv1 := [(4, .long v10), (0, .ref a), (1, .int p1), (2, .long r2)]) F dX3_sound_65 (by rw [hN]; decide) rfl ?_
        refine v_aload_n F dX3_sound_67 1 rfl rfl ?_
        refine g_X3_107 F r_a dX3_sound_68 ?_
        refine v_lconst (v := 1) F dX3_sound_71 (by decide) ?_
        have h := h (fun (S11 : PS) => Rf S11 a 3 → VV X (0, 0) S11 [(0, .ref a), (1, .int p1)] [] 102) (by
          intro S11 h r_a
          refine v_aload_n F dX3_sound_102 0 rfl rfl ?_
          refine v_iconst (v := 2) F dX3_sound_103 (by decide) ?_
          refine v_iload_n F dX3_sound_104 1 rfl rfl ?_
          refine v_cI0 (v_runV F k_X3_149 rfl (c_X3_tell r_a h) r_a rfl rfl (Nat.le_of_ble_eq_true rfl) (by decide) (by decide) dX3_sound_105) ⟨rfl, rfl⟩ (fun r14 S13 h hE => ?_)
          obtain ⟨nz_r14, h⟩ := h
          have r_a := r_a.tr hE
          exact v_zret F hQ nz_r14 ⟨nz_r14, h⟩ (by decide) dX3_sound_108)
        refine v_lcmp_lt (tgt := 102) F dX3_sound_72 dX3_sound_73 (by decide) h (fun h => ?_) (fun h => ?_)
        · exact v_sub [1, 2] rfl (h r_a)
        · refine v_lload F dX3_sound_76 0 rfl ?_
          refine v_aload_n F dX3_sound_78 1 rfl rfl ?_
          refine g_X3_107 F r_a dX3_sound_79 ?_
          refine v_lrem F dX3_sound_82 h.1 ?_
          have h := h.2
          refine v_lconst (v := 0) F dX3_sound_83 (by decide) ?_
          refine v_lcmp_ne (tgt := 102) F dX3_sound_84 dX3_sound_85 (by decide) h (fun h => ?_) (fun h => ?_)
          · exact v_sub [1, 2] rfl (h r_a)
          · refine v_lload F dX3_sound_88 0 rfl ?_
            refine v_aload_n F dX3_sound_90 1 rfl rfl ?_
            refine g_X3_107 F r_a dX3_sound_91 ?_
            refine v_ldiv F dX3_sound_94 h.1 ?_
            have h := h.2
            refine v_ldc2 F kc_X3_257 dX3_sound_95 ?_
            refine v_lcmp_le (tgt := 109) F dX3_sound_98 dX3_sound_99 (by decide) h (fun h => ?_) (fun h => ?_)
            · refine v_aload_n F dX3_sound_109 1 rfl rfl ?_
              refine g_X3_9 F r_a h dX3_sound_110 (fun b15 r_b15 h => ?_)
              refine v_iload_n F dX3_sound_113 2 rfl rfl ?_
              refine v_cI0 (v_runV F k_X3_142 rfl (c_X6_placeOf r_b15 h) r_b15 rfl rfl (Nat.le_of_ble_eq_true rfl) (by decide) (by decide) dX3_sound_114) ⟨rfl, rfl⟩ (fun r17 S16 h hE => ?_)
              have r_a := r_a.tr hE
              refine v_istore (lv1 := [(6, .int r17), (4, .long v10), (0, .ref a), (1, .int p1), (2, .long r2)]) F dX3_sound_117 (by rw [hN]; decide) rfl ?_
              refine v_aload_n F dX3_sound_119 2 rfl rfl ?_
              refine v_iload F dX3_sound_120 0 rfl ?_
              refine v_lload_n F dX3_sound_122 4 rfl rfl ?_
              refine v_lload F dX3_sound_123 1 rfl ?_
              refine v_aload_n F dX3_sound_125 2 rfl rfl ?_
              refine g_X3_107 F r_a dX3_sound_126 ?_
              refine v_ldiv F dX3_sound_129 h.1 ?_
              have h := h.2
              refine v_cI0 (v_runV F k_X3_243 rfl (c_X3_append r_a h) r_a rfl rfl (Nat.le_of_ble_eq_true rfl) (by decide) (by decide) dX3_sound_130) ⟨rfl, rfl⟩ (fun r19 S18 h hE => ?_)
              obtain ⟨nz_r19, h⟩ := h
              have r_a := r_a.tr hE
              refine v_if_ne (tgt := 138) F dX3_sound_133 (by decide) h (fun h => ?_) (fun h => ?_)
              · refine v_aload_n F dX3_sound_138 2 rfl rfl ?_
                refine g_X3_9 F r_a h dX3_sound_139 (fun b20 r_b20 h => ?_)
                refine v_iload_n F dX3_sound_142 3 rfl rfl ?_
                refine v_cI0 (v_runV F k_X3_187 rfl (c_X6_one r_b20 h) r_b20 rfl rfl (Nat.le_of_ble_eq_true rfl) (by decide) (by decide) dX3_sound_143) ⟨rfl, rfl⟩ (fun r22 S21 h hE => ?_)
                have r_a := r_a.tr hE
                refine v_iconst (v := 1) F dX3_sound_146 (by decide) ?_
                refine v_icmp_ne (tgt := 163) F dX3_sound_147 (by decide) h (fun h => ?_) (fun h => ?_)
                · refine v_iconst (v := 1) F dX3_sound_163 (by decide) ?_
                  exact v_zret F hQ (by decide) ⟨nz1, h⟩ (by decide) dX3_sound_164
                · refine v_aload_n F dX3_sound_150 2 rfl rfl ?_
                  refine g_X3_25 F r_a h dX3_sound_151 (fun b23 r_b23 h => ?_)
                  refine v_aload_n F dX3_sound_154 2 rfl rfl ?_
                  refine g_X3_83 F r_a dX3_sound_155 ?_
                  refine v_iload F dX3_sound_158 0 rfl ?_
                  refine v_cV0 (v_runV F k_X3_269 rfl (c_X8_tieLatest r_b23 h) r_b23 rfl rfl (Nat.le_of_ble_eq_true rfl) (by decide) (by decide) dX3_sound_160) ⟨rfl, rfl⟩ (fun  S24 h hE => ?_)
                  have r_a := r_a.tr hE
                  refine v_iconst (v := 1) F dX3_sound_163 (by decide) ?_
                  exact v_zret F hQ (by decide) ⟨nz1, h⟩ (by decide) dX3_sound_164
              · refine v_iconst (v := 0) F dX3_sound_136 (by decide) ?_
                exact v_zret F hQ (by decide) ⟨nz0, h⟩ (by decide) dX3_sound_137
            · exact v_sub [1, 2] rfl (h r_a)
      · refine v_iconst (v := 0) F dX3_sound_54 (by decide) ?_
        exact v_zret F hQ (by decide) ⟨nz0, h⟩ (by decide) dX3_sound_55)
    refine v_lcmp_le (tgt := 46) F dX3_sound_30 dX3_sound_31 (by decide) h (fun h => ?_) (fun h => ?_)
    · exact v_sub [1, 2, 0] rfl (h r_a)
    · refine v_aload_n F dX3_sound_34 1 rfl rfl ?_
      refine v_aload_n F dX3_sound_35 1 rfl rfl ?_
      refine g_X3_9 F r_a h dX3_sound_36 (fun b25 r_b25 h => ?_)
      refine v_iload_n F dX3_sound_39 2 rfl rfl ?_
      refine v_cL0 (v_runV F k_X3_266 rfl (c_X6_ticksOf r_b25 h) r_b25 rfl rfl (Nat.le_of_ble_eq_true rfl) (by decide) (by decide) dX3_sound_40) ⟨rfl, rfl⟩ (fun r27 S26 h hE => ?_)
      have r_a := r_a.tr hE
      refine p_X3_92 F r_a h dX3_sound_43 (fun S28 h hE => ?_)
      have r_a := r_a.tr hE
      exact v_sub [1, 2, 0] rfl (h r_a)
  · refine v_aload_n F dX3_sound_14 1 rfl rfl ?_
    refine v_iconst (v := 3) F dX3_sound_15 (by decide) ?_
    refine v_iload_n F dX3_sound_16 2 rfl rfl ?_
    refine v_cI0 (v_runV F k_X3_149 rfl (c_X3_tell r_a h) r_a rfl rfl (Nat.le_of_ble_eq_true rfl) (by decide) (by decide) dX3_sound_17) ⟨rfl, rfl⟩ (fun r30 S29 h hE => ?_)
    obtain ⟨nz_r30, h⟩ := h
    have r_a := r_a.tr hE
    exact v_zret F hQ nz_r30 ⟨nz_r30, h⟩ (by decide) dX3_sound_20
theorem dX3_frameAt_0 : decode cX3_frameAt 0 = .ok (.iload_n 1, 1) := by decide +kernel
theorem dX3_frameAt_1 : decode cX3_frameAt 1 = .ok (.ifCond .lt 27, 3) := by decide +kernel
theorem dX3_frameAt_4 : decode cX3_frameAt 4 = .ok (.iload_n 1, 1) := by decide +kernel
theorem dX3_frameAt_5 : decode cX3_frameAt 5 = .ok (.aload_n 0, 1) := by decide +kernel
theorem dX3_frameAt_6 : decode cX3_frameAt 6 = .ok (.getfield 48, 3) := by decide +kernel
theorem dX3_frameAt_9 : decode cX3_frameAt 9 = .ok (.if_icmp .ge 19, 3) := by decide +kernel
theorem dX3_frameAt_12 : decode cX3_frameAt 12 = .ok (.iload_n 1, 1) := by decide +kernel
theorem dX3_frameAt_13 : decode cX3_frameAt 13 = .ok (.sipush 201, 3) := by decide +kernel
theorem dX3_frameAt_16 : decode cX3_frameAt 16 = .ok (.if_icmp .ge 12, 3) := by decide +kernel
theorem dX3_frameAt_19 : decode cX3_frameAt 19 = .ok (.aload_n 0, 1) := by decide +kernel
theorem dX3_frameAt_20 : decode cX3_frameAt 20 = .ok (.getfield 21, 3) := by decide +kernel
theorem dX3_frameAt_23 : decode cX3_frameAt 23 = .ok (.iload_n 1, 1) := by decide +kernel
theorem dX3_frameAt_24 : decode cX3_frameAt 24 = .ok (.aaload, 1) := by decide +kernel
theorem dX3_frameAt_25 : decode cX3_frameAt 25 = .ok (.goto 4, 3) := by decide +kernel
theorem dX3_frameAt_28 : decode cX3_frameAt 28 = .ok (.aconst_null, 1) := by decide +kernel
theorem dX3_frameAt_29 : decode cX3_frameAt 29 = .ok (.areturn, 1) := by decide +kernel
abbrev rm_X3_frameAt : Room := { frames := 0, cells := 0, slots := 0, locals := 0 }
def wp_X3_frameAt (a : Nat) (p1 : Int32) (S : PS) (Q : Option Nat → PS → Prop) : Prop :=
  (if p1 < 0 then
 Q none S
 else
 (if fI S 24 a ≤ p1 then
 Q none S
 else
 (if 201 ≤ p1 then
 Q none S
 else
 (∃ b1, fR S 23 a = some b1 ∧ (vp_in p1 (aN S b1) ∧ (aR S 13 b1 (p1).toNatClampNeg = none → Q none S) ∧ ∀ b2, aR S 13 b1 (p1).toNatClampNeg = some b2 → Q (some b2) S)))))
set_option maxRecDepth 100000 in
set_option maxHeartbeats 4000000 in
theorem c_X3_frameAt {l : Launch} {E : EE} {A : Nat → Prop} {a : Nat} {p1 : Int32} {S : PS} {Q : Option Nat → PS → Prop} (r_a : Rf S a 3) (h : wp_X3_frameAt a p1 S Q) : MtR l yX3_frameAt (.code yX3_frameAt cX3_frameAt 2 (some (.object "OwnText$Frame"))) rm_X3_frameAt E A [.ref a, .int p1] S (fun r S1 => (∀ b, r = some b → Rf S1 b 1) ∧ Q r S1) := by
  refine MtR.of (by decide) (Nat.le_of_ble_eq_true rfl) (fun X F hQ hN => ?_)
  show VV X (0, 0) S [(0, .ref a), (1, .int p1)] [] 0
  unfold wp_X3_frameAt at h
  refine v_iload_n F dX3_frameAt_0 1 rfl rfl ?_
  refine v_if_lt (tgt := 28) F dX3_frameAt_1 (by decide) h (fun h => ?_) (fun h => ?_)
  · refine v_null F dX3_frameAt_28 ?_
    exact v_aretN F hQ ⟨fun b hb => (by cases hb), h⟩ (by decide) dX3_frameAt_29
  · refine v_iload_n F dX3_frameAt_4 1 rfl rfl ?_
    refine v_aload_n F dX3_frameAt_5 0 rfl rfl ?_
    refine g_X3_48 F r_a dX3_frameAt_6 ?_
    refine v_icmp_ge (tgt := 28) F dX3_frameAt_9 (by decide) h (fun h => ?_) (fun h => ?_)
    · refine v_null F dX3_frameAt_28 ?_
      exact v_aretN F hQ ⟨fun b hb => (by cases hb), h⟩ (by decide) dX3_frameAt_29
    · refine v_iload_n F dX3_frameAt_12 1 rfl rfl ?_
      refine v_sipush (v := 201) F dX3_frameAt_13 (by decide) ?_
      refine v_icmp_ge (tgt := 28) F dX3_frameAt_16 (by decide) h (fun h => ?_) (fun h => ?_)
      · refine v_null F dX3_frameAt_28 ?_
        exact v_aretN F hQ ⟨fun b hb => (by cases hb), h⟩ (by decide) dX3_frameAt_29
      · refine v_aload_n F dX3_frameAt_19 0 rfl rfl ?_
        refine g_X3_21 F r_a h dX3_frameAt_20 (fun b1 r_b1 h => ?_)
        refine v_iload_n F dX3_frameAt_23 1 rfl rfl ?_
        refine v_aald F r_b1 h dX3_frameAt_24 (fun h => ?_) (fun b2 r_b2 h => ?_)
        · refine v_goto (tgt := 29) F dX3_frameAt_25 (by decide) ?_
          exact v_aretN F hQ ⟨fun b hb => (by cases hb), h⟩ (by decide) dX3_frameAt_29
        · refine v_goto (tgt := 29) F dX3_frameAt_25 (by decide) ?_
          exact v_aretS F hQ ⟨fun b hb => (by cases hb; exact r_b2), h⟩ (by decide) dX3_frameAt_29
theorem dX3_push_0 : decode cX3_push 0 = .ok (.aload_n 0, 1) := by decide +kernel
theorem dX3_push_1 : decode cX3_push 1 = .ok (.getfield 48, 3) := by decide +kernel
theorem dX3_push_4 : decode cX3_push 4 = .ok (.sipush 201, 3) := by decide +kernel
theorem dX3_push_7 : decode cX3_push 7 = .ok (.if_icmp .lt 5, 3) := by decide +kernel
theorem dX3_push_10 : decode cX3_push 10 = .ok (.aconst_null, 1) := by decide +kernel
theorem dX3_push_11 : decode cX3_push 11 = .ok (.areturn, 1) := by decide +kernel
theorem dX3_push_12 : decode cX3_push 12 = .ok (.aload_n 0, 1) := by decide +kernel
theorem dX3_push_13 : decode cX3_push 13 = .ok (.getfield 21, 3) := by decide +kernel
theorem dX3_push_16 : decode cX3_push 16 = .ok (.aload_n 0, 1) := by decide +kernel
theorem dX3_push_17 : decode cX3_push 17 = .ok (.getfield 48, 3) := by decide +kernel
theorem dX3_push_20 : decode cX3_push 20 = .ok (.aaload, 1) := by decide +kernel
theorem dX3_push_21 : decode cX3_push 21 = .ok (.astore 4, 2) := by decide +kernel
theorem dX3_push_23 : decode cX3_push 23 = .ok (.aload 4, 2) := by decide +kernel
theorem dX3_push_25 : decode cX3_push 25 = .ok (.ifnonnull 23, 3) := by decide +kernel
theorem dX3_push_28 : decode cX3_push 28 = .ok (.new 19, 3) := by decide +kernel
theorem dX3_push_31 : decode cX3_push 31 = .ok (.dup, 1) := by decide +kernel
theorem dX3_push_32 : decode cX3_push 32 = .ok (.invokespecial 145, 3) := by decide +kernel
theorem dX3_push_35 : decode cX3_push 35 = .ok (.astore 4, 2) := by decide +kernel
theorem dX3_push_37 : decode cX3_push 37 = .ok (.aload_n 0, 1) := by decide +kernel
theorem dX3_push_38 : decode cX3_push 38 = .ok (.getfield 21, 3) := by decide +kernel
theorem dX3_push_41 : decode cX3_push 41 = .ok (.aload_n 0, 1) := by decide +kernel
theorem dX3_push_42 : decode cX3_push 42 = .ok (.getfield 48, 3) := by decide +kernel
theorem dX3_push_45 : decode cX3_push 45 = .ok (.aload 4, 2) := by decide +kernel
theorem dX3_push_47 : decode cX3_push 47 = .ok (.aastore, 1) := by decide +kernel
theorem dX3_push_48 : decode cX3_push 48 = .ok (.aload_n 0, 1) := by decide +kernel
theorem dX3_push_49 : decode cX3_push 49 = .ok (.dup, 1) := by decide +kernel
theorem dX3_push_50 : decode cX3_push 50 = .ok (.getfield 48, 3) := by decide +kernel
theorem dX3_push_53 : decode cX3_push 53 = .ok (.iconst 1, 1) := by decide +kernel
theorem dX3_push_54 : decode cX3_push 54 = .ok (.iadd, 1) := by decide +kernel
theorem dX3_push_55 : decode cX3_push 55 = .ok (.putfield 48, 3) := by decide +kernel
theorem dX3_push_58 : decode cX3_push 58 = .ok (.aload 4, 2) := by decide +kernel
theorem dX3_push_60 : decode cX3_push 60 = .ok (.iload_n 1, 1) := by decide +kernel
theorem dX3_push_61 : decode cX3_push 61 = .ok (.putfield 146, 3) := by decide +kernel
theorem dX3_push_64 : decode cX3_push 64 = .ok (.aload 4, 2) := by decide +kernel
theorem dX3_push_66 : decode cX3_push 66 = .ok (.iload_n 2, 1) := by decide +kernel
theorem dX3_push_67 : decode cX3_push 67 = .ok (.putfield 59, 3) := by decide +kernel
theorem dX3_push_70 : decode cX3_push 70 = .ok (.aload 4, 2) := by decide +kernel
theorem dX3_push_72 : decode cX3_push 72 = .ok (.iload_n 3, 1) := by decide +kernel
theorem dX3_push_73 : decode cX3_push 73 = .ok (.putfield 62, 3) := by decide +kernel
theorem dX3_push_76 : decode cX3_push 76 = .ok (.aload 4, 2) := by decide +kernel
theorem dX3_push_78 : decode cX3_push 78 = .ok (.areturn, 1) := by decide +kernel
abbrev rm_X3_push (k : Nat × Nat) : Room := { frames := 2, cells := k.1, slots := k.2, locals := 80 }
def wp_X3_push (a : Nat) (p1 : Int32) (p2 : Int32) (p3 : Int32) (k : Nat × Nat) (S : PS) (Q : Option Nat → PS → Prop) : Prop :=
  (if fI S 24 a < 201 then
 (∃ b1, fR S 23 a = some b1 ∧ (∀ K48_5 : Nat → Nat × Nat → PS → Prop, (∀ (x4_3 : Nat) (k6 : Nat × Nat) (S4 : PS),
 (∀ S7, S7 = sI S4 24 a ((fI S4 24 a) + 1) → (∀ S8, S8 = sI S7 2 x4_3 p1 → (∀ S9, S9 = sI S8 3 x4_3 p2 → (∀ S10, S10 = sI S9 4 x4_3 p3 → Q (some x4_3) S10))))
 → K48_5 x4_3 k6 S4) →
 (vp_in (fI S 24 a) (aN S b1) ∧ (aR S 13 b1 (fI S 24 a).toNatClampNeg = none → ((1 ≤ k.1 ∧ 15 ≤ k.2) ∧ ∀ q11, q11 ∉ pL S → ∀ S12, S12 = nO S 1 q11 → wp_X1_init q11 S12 (fun (S13 : PS) => 
 (∃ b14, fR S13 23 a = some b14 ∧ (vp_in (fI S13 24 a) (aN S13 b14) ∧ ∀ S15, S15 = wR S13 13 b14 (fI S13 24 a).toNatClampNeg (some q11) → K48_5 q11 (k.1 - 1, k.2 - 15) S15))))) ∧ ∀ b2, aR S 13 b1 (fI S 24 a).toNatClampNeg = some b2 → K48_5 b2 k S)))
 else
 Q none S)
set_option maxRecDepth 100000 in
set_option maxHeartbeats 4000000 in
theorem c_X3_push {l : Launch} {E : EE} {A : Nat → Prop} {a : Nat} {p1 : Int32} {p2 : Int32} {p3 : Int32} {k : Nat × Nat} {S : PS} {Q : Option Nat → PS → Prop} (r_a : Rf S a 3) (h : wp_X3_push a p1 p2 p3 k S Q) : MtR l yX3_push (.code yX3_push cX3_push 5 (some (.object "OwnText$Frame"))) (rm_X3_push k) E A [.ref a, .int p1, .int p2, .int p3] S (fun r S1 => (∀ b, r = some b → Rf S1 b 1) ∧ Q r S1) := by
  refine MtR.of (by decide) (Nat.le_of_ble_eq_true rfl) (fun X F hQ hN => ?_)
  show VV X (0, 0) S [(0, .ref a), (1, .int p1), (2, .int p2), (3, .int p3)] [] 0
  generalize hn0 : ((0, 0) : Nat × Nat) = n
  have hk : n.1 + k.1 ≤ k.1 ∧ n.2 + k.2 ≤ k.2 := by subst hn0; exact ⟨by omega, by omega⟩
  unfold wp_X3_push at h
  refine v_aload_n F dX3_push_0 0 rfl rfl ?_
  refine g_X3_48 F r_a dX3_push_1 ?_
  refine v_sipush (v := 201) F dX3_push_4 (by decide) ?_
  refine v_icmp_lt (tgt := 12) F dX3_push_7 (by decide) h (fun h => ?_) (fun h => ?_)
  · refine v_aload_n F dX3_push_12 0 rfl rfl ?_
    refine g_X3_21 F r_a h dX3_push_13 (fun b1 r_b1 h => ?_)
    refine v_aload_n F dX3_push_16 0 rfl rfl ?_
    refine g_X3_48 F r_a dX3_push_17 ?_
    have h := h (fun (x4_3 : Nat) (k6 : Nat × Nat) (S4 : PS) => Rf S4 a 3 → Rf S4 x4_3 1 → ∀ n : Nat × Nat, (n.1 + k6.1 ≤ k.1 ∧ n.2 + k6.2 ≤ k.2) → VV X n S4 [(0, .ref a), (1, .int p1), (2, .int p2), (3, .int p3), (4, .ref x4_3)] [] 48) (by
      intro x4_3 k6 S4 h r_a r_x4_3 n hk
      refine v_aload_n F dX3_push_48 0 rfl rfl ?_
      refine v_dup F dX3_push_49 rfl ?_
      refine g_X3_48 F r_a dX3_push_50 ?_
      refine v_iconst (v := 1) F dX3_push_53 (by decide) ?_
      refine v_iadd F dX3_push_54 ?_
      refine p_X3_48 F r_a h dX3_push_55 (fun S7 h hE => ?_)
      have r_a := r_a.tr hE
      have r_x4_3 := r_x4_3.tr hE
      refine v_aload F dX3_push_58 4 rfl ?_
      refine v_iload_n F dX3_push_60 1 rfl rfl ?_
      refine p_X3_146 F r_x4_3 h dX3_push_61 (fun S8 h hE => ?_)
      have r_a := r_a.tr hE
      have r_x4_3 := r_x4_3.tr hE
      refine v_aload F dX3_push_64 4 rfl ?_
      refine v_iload_n F dX3_push_66 2 rfl rfl ?_
      refine p_X3_59 F r_x4_3 h dX3_push_67 (fun S9 h hE => ?_)
      have r_a := r_a.tr hE
      have r_x4_3 := r_x4_3.tr hE
      refine v_aload F dX3_push_70 4 rfl ?_
      refine v_iload_n F dX3_push_72 3 rfl rfl ?_
      refine p_X3_62 F r_x4_3 h dX3_push_73 (fun S10 h hE => ?_)
      have r_a := r_a.tr hE
      have r_x4_3 := r_x4_3.tr hE
      refine v_aload F dX3_push_76 4 rfl ?_
      exact v_aretS F hQ ⟨fun b hb => (by cases hb; exact r_x4_3), h⟩ (kb_ret hk) dX3_push_78)
    refine v_aald F r_b1 h dX3_push_20 (fun h => ?_) (fun b2 r_b2 h => ?_)
    · refine v_astoreN (lv1 := [(4, .null), (0, .ref a), (1, .int p1), (2, .int p2), (3, .int p3)]) F dX3_push_21 (by rw [hN]; decide) rfl ?_
      refine v_aloadN F dX3_push_23 0 rfl ?_
      refine v_ifnonnullN F dX3_push_25 ?_
      obtain ⟨g_q11, h⟩ := h
      refine n_X3_19 F (kb_c (k1 := (1, 15)) hk g_q11) dX3_push_28 h (fun q11 S12 h hE r_q11 => ?_)
      have hk := kb_n (k1 := (1, 15)) hk g_q11
      refine v_gen (fun n hk => ?_) hk
      have r_a := r_a.tr hE
      refine v_dup F dX3_push_31 rfl ?_
      refine v_cV0 (v_runN F k_X3_145 (c_X1_init r_q11 h) rfl rfl (Nat.le_of_ble_eq_true rfl) ⟨Nat.le_of_ble_eq_true rfl, Nat.le_of_ble_eq_true rfl⟩ (kb_z hk) dX3_push_32) ⟨rfl, rfl⟩ (fun  S13 h hE => ?_)
      have r_a := r_a.tr hE
      have r_q11 := r_q11.tr hE
      refine v_astore (lv1 := [(4, .ref q11), (0, .ref a), (1, .int p1), (2, .int p2), (3, .int p3)]) F dX3_push_35 (by rw [hN]; decide) rfl ?_
      refine v_aload_n F dX3_push_37 1 rfl rfl ?_
      refine g_X3_21 F r_a h dX3_push_38 (fun b14 r_b14 h => ?_)
      refine v_aload_n F dX3_push_41 1 rfl rfl ?_
      refine g_X3_48 F r_a dX3_push_42 ?_
      refine v_aload F dX3_push_45 0 rfl ?_
      refine v_aast F r_b14 r_q11 h dX3_push_47 (fun S15 h hE => ?_)
      have r_q11 := r_q11.tr hE
      have r_a := r_a.tr hE
      exact v_sub [1, 2, 3, 4, 0] rfl (h r_a r_q11 _ hk)
    · refine v_astore (lv1 := [(4, .ref b2), (0, .ref a), (1, .int p1), (2, .int p2), (3, .int p3)]) F dX3_push_21 (by rw [hN]; decide) rfl ?_
      refine v_aload F dX3_push_23 0 rfl ?_
      refine v_ifnonnull (tgt := 48) F dX3_push_25 (by decide) ?_
      exact v_sub [1, 2, 3, 4, 0] rfl (h r_a r_b2 _ hk)
  · refine v_null F dX3_push_10 ?_
    exact v_aretN F hQ ⟨fun b hb => (by cases hb), h⟩ (kb_ret hk) dX3_push_11
theorem dX3_openBlock_0 : decode cX3_openBlock 0 = .ok (.aload_n 0, 1) := by decide +kernel
theorem dX3_openBlock_1 : decode cX3_openBlock 1 = .ok (.getfield 9, 3) := by decide +kernel
theorem dX3_openBlock_4 : decode cX3_openBlock 4 = .ok (.iload_n 1, 1) := by decide +kernel
theorem dX3_openBlock_5 : decode cX3_openBlock 5 = .ok (.invokevirtual 150, 3) := by decide +kernel
theorem dX3_openBlock_8 : decode cX3_openBlock 8 = .ok (.istore_n 2, 1) := by decide +kernel
theorem dX3_openBlock_9 : decode cX3_openBlock 9 = .ok (.iload_n 2, 1) := by decide +kernel
theorem dX3_openBlock_10 : decode cX3_openBlock 10 = .ok (.bipush 84, 2) := by decide +kernel
theorem dX3_openBlock_12 : decode cX3_openBlock 12 = .ok (.if_icmp .ne 19, 3) := by decide +kernel
theorem dX3_openBlock_15 : decode cX3_openBlock 15 = .ok (.aload_n 0, 1) := by decide +kernel
theorem dX3_openBlock_16 : decode cX3_openBlock 16 = .ok (.getfield 101, 3) := by decide +kernel
theorem dX3_openBlock_19 : decode cX3_openBlock 19 = .ok (.bipush 8, 2) := by decide +kernel
theorem dX3_openBlock_21 : decode cX3_openBlock 21 = .ok (.if_icmp .lt 10, 3) := by decide +kernel
theorem dX3_openBlock_24 : decode cX3_openBlock 24 = .ok (.aload_n 0, 1) := by decide +kernel
theorem dX3_openBlock_25 : decode cX3_openBlock 25 = .ok (.iconst 5, 1) := by decide +kernel
theorem dX3_openBlock_26 : decode cX3_openBlock 26 = .ok (.iload_n 1, 1) := by decide +kernel
theorem dX3_openBlock_27 : decode cX3_openBlock 27 = .ok (.invokevirtual 149, 3) := by decide +kernel
theorem dX3_openBlock_30 : decode cX3_openBlock 30 = .ok (.ireturn, 1) := by decide +kernel
theorem dX3_openBlock_31 : decode cX3_openBlock 31 = .ok (.aload_n 0, 1) := by decide +kernel
theorem dX3_openBlock_32 : decode cX3_openBlock 32 = .ok (.iload_n 1, 1) := by decide +kernel
theorem dX3_openBlock_33 : decode cX3_openBlock 33 = .ok (.iload_n 1, 1) := by decide +kernel
theorem dX3_openBlock_34 : decode cX3_openBlock 34 = .ok (.iconst 1, 1) := by decide +kernel
theorem dX3_openBlock_35 : decode cX3_openBlock 35 = .ok (.iadd, 1) := by decide +kernel
theorem dX3_openBlock_36 : decode cX3_openBlock 36 = .ok (.aload_n 0, 1) := by decide +kernel
theorem dX3_openBlock_37 : decode cX3_openBlock 37 = .ok (.getfield 9, 3) := by decide +kernel
theorem dX3_openBlock_40 : decode cX3_openBlock 40 = .ok (.iload_n 1, 1) := by decide +kernel
theorem dX3_openBlock_41 : decode cX3_openBlock 41 = .ok (.invokevirtual 65, 3) := by decide +kernel
theorem dX3_openBlock_44 : decode cX3_openBlock 44 = .ok (.invokevirtual 38, 3) := by decide +kernel
theorem dX3_openBlock_47 : decode cX3_openBlock 47 = .ok (.astore_n 3, 1) := by decide +kernel
theorem dX3_openBlock_48 : decode cX3_openBlock 48 = .ok (.aload_n 3, 1) := by decide +kernel
theorem dX3_openBlock_49 : decode cX3_openBlock 49 = .ok (.ifnonnull 10, 3) := by decide +kernel
theorem dX3_openBlock_52 : decode cX3_openBlock 52 = .ok (.aload_n 0, 1) := by decide +kernel
theorem dX3_openBlock_53 : decode cX3_openBlock 53 = .ok (.iconst 5, 1) := by decide +kernel
theorem dX3_openBlock_54 : decode cX3_openBlock 54 = .ok (.iload_n 1, 1) := by decide +kernel
theorem dX3_openBlock_55 : decode cX3_openBlock 55 = .ok (.invokevirtual 149, 3) := by decide +kernel
theorem dX3_openBlock_58 : decode cX3_openBlock 58 = .ok (.ireturn, 1) := by decide +kernel
theorem dX3_openBlock_59 : decode cX3_openBlock 59 = .ok (.iload_n 2, 1) := by decide +kernel
theorem dX3_openBlock_60 : decode cX3_openBlock 60 = .ok (.bipush 76, 2) := by decide +kernel
theorem dX3_openBlock_62 : decode cX3_openBlock 62 = .ok (.if_icmp .ne 30, 3) := by decide +kernel
theorem dX3_openBlock_65 : decode cX3_openBlock 65 = .ok (.aload_n 3, 1) := by decide +kernel
theorem dX3_openBlock_66 : decode cX3_openBlock 66 = .ok (.aload_n 0, 1) := by decide +kernel
theorem dX3_openBlock_67 : decode cX3_openBlock 67 = .ok (.getfield 95, 3) := by decide +kernel
theorem dX3_openBlock_70 : decode cX3_openBlock 70 = .ok (.putfield 181, 3) := by decide +kernel
theorem dX3_openBlock_73 : decode cX3_openBlock 73 = .ok (.aload_n 0, 1) := by decide +kernel
theorem dX3_openBlock_74 : decode cX3_openBlock 74 = .ok (.bipush 28, 2) := by decide +kernel
theorem dX3_openBlock_76 : decode cX3_openBlock 76 = .ok (.putfield 95, 3) := by decide +kernel
theorem dX3_openBlock_79 : decode cX3_openBlock 79 = .ok (.aload_n 0, 1) := by decide +kernel
theorem dX3_openBlock_80 : decode cX3_openBlock 80 = .ok (.dup, 1) := by decide +kernel
theorem dX3_openBlock_81 : decode cX3_openBlock 81 = .ok (.getfield 98, 3) := by decide +kernel
theorem dX3_openBlock_84 : decode cX3_openBlock 84 = .ok (.iconst 1, 1) := by decide +kernel
theorem dX3_openBlock_85 : decode cX3_openBlock 85 = .ok (.iadd, 1) := by decide +kernel
theorem dX3_openBlock_86 : decode cX3_openBlock 86 = .ok (.putfield 98, 3) := by decide +kernel
theorem dX3_openBlock_89 : decode cX3_openBlock 89 = .ok (.goto 137, 3) := by decide +kernel
theorem dX3_openBlock_92 : decode cX3_openBlock 92 = .ok (.iload_n 2, 1) := by decide +kernel
theorem dX3_openBlock_93 : decode cX3_openBlock 93 = .ok (.bipush 84, 2) := by decide +kernel
theorem dX3_openBlock_95 : decode cX3_openBlock 95 = .ok (.if_icmp .ne 68, 3) := by decide +kernel
theorem dX3_openBlock_98 : decode cX3_openBlock 98 = .ok (.aload_n 3, 1) := by decide +kernel
theorem dX3_openBlock_99 : decode cX3_openBlock 99 = .ok (.aload_n 0, 1) := by decide +kernel
theorem dX3_openBlock_100 : decode cX3_openBlock 100 = .ok (.getfield 104, 3) := by decide +kernel
theorem dX3_openBlock_103 : decode cX3_openBlock 103 = .ok (.putfield 182, 3) := by decide +kernel
theorem dX3_openBlock_106 : decode cX3_openBlock 106 = .ok (.aload_n 3, 1) := by decide +kernel
theorem dX3_openBlock_107 : decode cX3_openBlock 107 = .ok (.aload_n 0, 1) := by decide +kernel
theorem dX3_openBlock_108 : decode cX3_openBlock 108 = .ok (.getfield 107, 3) := by decide +kernel
theorem dX3_openBlock_111 : decode cX3_openBlock 111 = .ok (.putfield 183, 3) := by decide +kernel
theorem dX3_openBlock_114 : decode cX3_openBlock 114 = .ok (.aload_n 0, 1) := by decide +kernel
theorem dX3_openBlock_115 : decode cX3_openBlock 115 = .ok (.dup, 1) := by decide +kernel
theorem dX3_openBlock_116 : decode cX3_openBlock 116 = .ok (.getfield 104, 3) := by decide +kernel
theorem dX3_openBlock_119 : decode cX3_openBlock 119 = .ok (.aload_n 0, 1) := by decide +kernel
theorem dX3_openBlock_120 : decode cX3_openBlock 120 = .ok (.getfield 9, 3) := by decide +kernel
theorem dX3_openBlock_123 : decode cX3_openBlock 123 = .ok (.iload_n 1, 1) := by decide +kernel
theorem dX3_openBlock_124 : decode cX3_openBlock 124 = .ok (.invokevirtual 184, 3) := by decide +kernel
theorem dX3_openBlock_127 : decode cX3_openBlock 127 = .ok (.i2l, 1) := by decide +kernel
theorem dX3_openBlock_128 : decode cX3_openBlock 128 = .ok (.lmul, 1) := by decide +kernel
theorem dX3_openBlock_129 : decode cX3_openBlock 129 = .ok (.putfield 104, 3) := by decide +kernel
theorem dX3_openBlock_132 : decode cX3_openBlock 132 = .ok (.aload_n 0, 1) := by decide +kernel
theorem dX3_openBlock_133 : decode cX3_openBlock 133 = .ok (.dup, 1) := by decide +kernel
theorem dX3_openBlock_134 : decode cX3_openBlock 134 = .ok (.getfield 107, 3) := by decide +kernel
theorem dX3_openBlock_137 : decode cX3_openBlock 137 = .ok (.aload_n 0, 1) := by decide +kernel
theorem dX3_openBlock_138 : decode cX3_openBlock 138 = .ok (.getfield 9, 3) := by decide +kernel
theorem dX3_openBlock_141 : decode cX3_openBlock 141 = .ok (.iload_n 1, 1) := by decide +kernel
theorem dX3_openBlock_142 : decode cX3_openBlock 142 = .ok (.invokevirtual 187, 3) := by decide +kernel
theorem dX3_openBlock_145 : decode cX3_openBlock 145 = .ok (.i2l, 1) := by decide +kernel
theorem dX3_openBlock_146 : decode cX3_openBlock 146 = .ok (.lmul, 1) := by decide +kernel
theorem dX3_openBlock_147 : decode cX3_openBlock 147 = .ok (.putfield 107, 3) := by decide +kernel
theorem dX3_openBlock_150 : decode cX3_openBlock 150 = .ok (.aload_n 0, 1) := by decide +kernel
theorem dX3_openBlock_151 : decode cX3_openBlock 151 = .ok (.dup, 1) := by decide +kernel
theorem dX3_openBlock_152 : decode cX3_openBlock 152 = .ok (.getfield 101, 3) := by decide +kernel
theorem dX3_openBlock_155 : decode cX3_openBlock 155 = .ok (.iconst 1, 1) := by decide +kernel
theorem dX3_openBlock_156 : decode cX3_openBlock 156 = .ok (.iadd, 1) := by decide +kernel
theorem dX3_openBlock_157 : decode cX3_openBlock 157 = .ok (.putfield 101, 3) := by decide +kernel
theorem dX3_openBlock_160 : decode cX3_openBlock 160 = .ok (.goto 66, 3) := by decide +kernel
theorem dX3_openBlock_163 : decode cX3_openBlock 163 = .ok (.iload_n 2, 1) := by decide +kernel
theorem dX3_openBlock_164 : decode cX3_openBlock 164 = .ok (.bipush 88, 2) := by decide +kernel
theorem dX3_openBlock_166 : decode cX3_openBlock 166 = .ok (.if_icmp .ne 40, 3) := by decide +kernel
theorem dX3_openBlock_169 : decode cX3_openBlock 169 = .ok (.aload_n 0, 1) := by decide +kernel
theorem dX3_openBlock_170 : decode cX3_openBlock 170 = .ok (.dup, 1) := by decide +kernel
theorem dX3_openBlock_171 : decode cX3_openBlock 171 = .ok (.getfield 110, 3) := by decide +kernel
theorem dX3_openBlock_174 : decode cX3_openBlock 174 = .ok (.aload_n 0, 1) := by decide +kernel
theorem dX3_openBlock_175 : decode cX3_openBlock 175 = .ok (.getfield 9, 3) := by decide +kernel
theorem dX3_openBlock_178 : decode cX3_openBlock 178 = .ok (.iload_n 1, 1) := by decide +kernel
theorem dX3_openBlock_179 : decode cX3_openBlock 179 = .ok (.invokevirtual 187, 3) := by decide +kernel
theorem dX3_openBlock_182 : decode cX3_openBlock 182 = .ok (.iadd, 1) := by decide +kernel
theorem dX3_openBlock_183 : decode cX3_openBlock 183 = .ok (.putfield 110, 3) := by decide +kernel
theorem dX3_openBlock_186 : decode cX3_openBlock 186 = .ok (.aload_n 0, 1) := by decide +kernel
theorem dX3_openBlock_187 : decode cX3_openBlock 187 = .ok (.dup, 1) := by decide +kernel
theorem dX3_openBlock_188 : decode cX3_openBlock 188 = .ok (.getfield 113, 3) := by decide +kernel
theorem dX3_openBlock_191 : decode cX3_openBlock 191 = .ok (.aload_n 0, 1) := by decide +kernel
theorem dX3_openBlock_192 : decode cX3_openBlock 192 = .ok (.getfield 9, 3) := by decide +kernel
theorem dX3_openBlock_195 : decode cX3_openBlock 195 = .ok (.iload_n 1, 1) := by decide +kernel
theorem dX3_openBlock_196 : decode cX3_openBlock 196 = .ok (.invokevirtual 184, 3) := by decide +kernel
theorem dX3_openBlock_199 : decode cX3_openBlock 199 = .ok (.iadd, 1) := by decide +kernel
theorem dX3_openBlock_200 : decode cX3_openBlock 200 = .ok (.putfield 113, 3) := by decide +kernel
theorem dX3_openBlock_203 : decode cX3_openBlock 203 = .ok (.goto 23, 3) := by decide +kernel
theorem dX3_openBlock_206 : decode cX3_openBlock 206 = .ok (.aload_n 3, 1) := by decide +kernel
theorem dX3_openBlock_207 : decode cX3_openBlock 207 = .ok (.aload_n 0, 1) := by decide +kernel
theorem dX3_openBlock_208 : decode cX3_openBlock 208 = .ok (.getfield 9, 3) := by decide +kernel
theorem dX3_openBlock_211 : decode cX3_openBlock 211 = .ok (.iload_n 1, 1) := by decide +kernel
theorem dX3_openBlock_212 : decode cX3_openBlock 212 = .ok (.invokevirtual 187, 3) := by decide +kernel
theorem dX3_openBlock_215 : decode cX3_openBlock 215 = .ok (.putfield 190, 3) := by decide +kernel
theorem dX3_openBlock_218 : decode cX3_openBlock 218 = .ok (.aload_n 3, 1) := by decide +kernel
theorem dX3_openBlock_219 : decode cX3_openBlock 219 = .ok (.aload_n 3, 1) := by decide +kernel
theorem dX3_openBlock_220 : decode cX3_openBlock 220 = .ok (.getfield 62, 3) := by decide +kernel
theorem dX3_openBlock_223 : decode cX3_openBlock 223 = .ok (.putfield 59, 3) := by decide +kernel
theorem dX3_openBlock_226 : decode cX3_openBlock 226 = .ok (.iconst 1, 1) := by decide +kernel
theorem dX3_openBlock_227 : decode cX3_openBlock 227 = .ok (.ireturn, 1) := by decide +kernel
abbrev rm_X3_openBlock (k : Nat × Nat) : Room := { frames := 3, cells := k.1, slots := k.2, locals := 104 }
def wp_X3_openBlock (a : Nat) (p1 : Int32) (k : Nat × Nat) (S : PS) (Q : Int32 → PS → Prop) : Prop :=
  (∃ b1, fR S 21 a = some b1 ∧ wp_X6_kindOf b1 p1 S (fun (r3 : Int32) (S2 : PS) => 
 (∀ K31_5 : Nat × Nat → PS → Prop, (∀ (k6 : Nat × Nat) (S4 : PS),
 (∃ b7, fR S4 21 a = some b7 ∧ wp_X6_behind b7 p1 S4 (fun (r9 : Int32) (S8 : PS) => 
 (∃ k12 : Nat × Nat, (k12.1 ≤ k6.1 ∧ k12.2 ≤ k6.2) ∧ wp_X3_push a p1 (p1 + 1) r9 k12 S8 (fun (o : Option Nat) (S10 : PS) => (o = none → wp_X3_tell a 5 p1 S10 (fun (r15 : Int32) (S14 : PS) => 
 Q r15 S14)) ∧ ∀ b13, o = some b13 → (if r3 = 76 then
 (∀ S40, S40 = sI S10 6 b13 (fI S10 30 a) → (∀ S41, S41 = sI S40 30 a 28 → (∀ S42, S42 = sI S41 31 a ((fI S41 31 a) + 1) → Q 1 S42)))
 else
 (if r3 = 84 then
 (∀ S29, S29 = sL S10 8 b13 (fL S10 33 a) → (∀ S30, S30 = sL S29 9 b13 (fL S29 34 a) → (∃ b31, fR S30 21 a = some b31 ∧ wp_X6_two b31 p1 S30 (fun (r33 : Int32) (S32 : PS) => 
 (∀ S34, S34 = sL S32 33 a ((fL S30 33 a) * (r33.toInt64)) → (∃ b35, fR S34 21 a = some b35 ∧ wp_X6_one b35 p1 S34 (fun (r37 : Int32) (S36 : PS) => 
 (∀ S38, S38 = sL S36 34 a ((fL S34 34 a) * (r37.toInt64)) → (∀ S39, S39 = sI S38 32 a ((fI S38 32 a) + 1) → Q 1 S39)))))))))
 else
 (if r3 = 88 then
 (∃ b21, fR S10 21 a = some b21 ∧ wp_X6_one b21 p1 S10 (fun (r23 : Int32) (S22 : PS) => 
 (∀ S24, S24 = sI S22 35 a ((fI S10 35 a) + r23) → (∃ b25, fR S24 21 a = some b25 ∧ wp_X6_two b25 p1 S24 (fun (r27 : Int32) (S26 : PS) => 
 (∀ S28, S28 = sI S26 36 a ((fI S24 36 a) + r27) → Q 1 S28))))))
 else
 (∃ b16, fR S10 21 a = some b16 ∧ wp_X6_one b16 p1 S10 (fun (r18 : Int32) (S17 : PS) => 
 (∀ S19, S19 = sI S17 5 b13 r18 → (∀ S20, S20 = sI S19 3 b13 (fI S19 4 b13) → Q 1 S20)))))))))))
 → K31_5 k6 S4) →
 (if r3 = 84 then
 (if fI S2 32 a < 8 then
 K31_5 k S2
 else
 wp_X3_tell a 5 p1 S2 (fun (r44 : Int32) (S43 : PS) => 
 Q r44 S43))
 else
 K31_5 k S2))))
set_option maxRecDepth 100000 in
set_option maxHeartbeats 4000000 in
theorem c_X3_openBlock {l : Launch} {E : EE} {A : Nat → Prop} {a : Nat} {p1 : Int32} {k : Nat × Nat} {S : PS} {Q : Int32 → PS → Prop} (r_a : Rf S a 3) (h : wp_X3_openBlock a p1 k S Q) : MtI l yX3_openBlock (.code yX3_openBlock cX3_openBlock 4 (some .boolean)) (rm_X3_openBlock k) E A [.ref a, .int p1] S (fun r S1 => nz r ∧ Q r S1) := by
  refine MtI.of (by decide) (Nat.le_of_ble_eq_true rfl) (fun X F hQ hN => ?_)
  show VV X (0, 0) S [(0, .ref a), (1, .int p1)] [] 0
  generalize hn0 : ((0, 0) : Nat × Nat) = n
  have hk : n.1 + k.1 ≤ k.1 ∧ n.2 + k.2 ≤ k.2 := by subst hn0; exact ⟨by omega, by omega⟩
  unfold wp_X3_openBlock at h
  refine v_aload_n F dX3_openBlock_0 0 rfl rfl ?_
  refine g_X3_9 F r_a h dX3_openBlock_1 (fun b1 r_b1 h => ?_)
  refine v_iload_n F dX3_openBlock_4 1 rfl rfl ?_
  refine v_cI0 (v_runV F k_X3_150 rfl (c_X6_kindOf r_b1 h) r_b1 rfl rfl (Nat.le_of_ble_eq_true rfl) ⟨Nat.le_of_ble_eq_true rfl, Nat.le_of_ble_eq_true rfl⟩ (kb_z hk) dX3_openBlock_5) ⟨rfl, rfl⟩ (fun r3 S2 h hE => ?_)
  have r_a := r_a.tr hE
  refine v_istore_n (lv1 := [(2, .int r3), (0, .ref a), (1, .int p1)]) F dX3_openBlock_8 rfl (by rw [hN]; decide) rfl ?_
  refine v_iload_n F dX3_openBlock_9 0 rfl rfl ?_
  refine v_bipush (v := 84) F dX3_openBlock_10 (by decide) ?_
  have h := h (fun (k6 : Nat × Nat) (S4 : PS) => Rf S4 a 3 → ∀ n : Nat × Nat, (n.1 + k6.1 ≤ k.1 ∧ n.2 + k6.2 ≤ k.2) → VV X n S4 [(0, .ref a), (1, .int p1), (2, .int r3)] [] 31) (by
    intro k6 S4 h r_a n hk
    refine v_aload_n F dX3_openBlock_31 0 rfl rfl ?_
    refine v_iload_n F dX3_openBlock_32 1 rfl rfl ?_
    refine v_iload_n F dX3_openBlock_33 1 rfl rfl ?_
    refine v_iconst (v := 1) F dX3_openBlock_34 (by decide) ?_
    refine v_iadd F dX3_openBlock_35 ?_
    refine v_aload_n F dX3_openBlock_36 0 rfl rfl ?_
    refine g_X3_9 F r_a h dX3_openBlock_37 (fun b7 r_b7 h => ?_)
    refine v_iload_n F dX3_openBlock_40 1 rfl rfl ?_
    refine v_cI0 (v_runV F k_X3_65 rfl (c_X6_behind r_b7 h) r_b7 rfl rfl (Nat.le_of_ble_eq_true rfl) ⟨Nat.le_of_ble_eq_true rfl, Nat.le_of_ble_eq_true rfl⟩ (kb_z hk) dX3_openBlock_41) ⟨rfl, rfl⟩ (fun r9 S8 h hE => ?_)
    have r_a := r_a.tr hE
    obtain ⟨k12, g_k12, h⟩ := h
    refine v_cRs (v_runV F k_X3_38 rfl (c_X3_push r_a h) r_a rfl rfl (Nat.le_of_ble_eq_true rfl) ⟨Nat.le_of_ble_eq_true rfl, Nat.le_of_ble_eq_true rfl⟩ (kb_c hk g_k12) dX3_openBlock_44) (fun S10 h hE => ?_) (fun b13 S10 h hE => ?_)
    · have r_a := r_a.tr hE
      have h := h.2.1 rfl
      have hk := kb_n hk g_k12
      refine v_gen (fun n hk => ?_) hk
      refine v_astore_nN (lv1 := [(3, .null), (0, .ref a), (1, .int p1), (2, .int r3)]) F dX3_openBlock_47 rfl (by rw [hN]; decide) rfl ?_
      refine v_aload_nN F dX3_openBlock_48 0 rfl rfl ?_
      refine v_ifnonnullN F dX3_openBlock_49 ?_
      refine v_aload_n F dX3_openBlock_52 1 rfl rfl ?_
      refine v_iconst (v := 5) F dX3_openBlock_53 (by decide) ?_
      refine v_iload_n F dX3_openBlock_54 2 rfl rfl ?_
      refine v_cI0 (v_runV F k_X3_149 rfl (c_X3_tell r_a h) r_a rfl rfl (Nat.le_of_ble_eq_true rfl) ⟨Nat.le_of_ble_eq_true rfl, Nat.le_of_ble_eq_true rfl⟩ (kb_z hk) dX3_openBlock_55) ⟨rfl, rfl⟩ (fun r15 S14 h hE => ?_)
      obtain ⟨nz_r15, h⟩ := h
      have r_a := r_a.tr hE
      exact v_zret F hQ nz_r15 ⟨nz_r15, h⟩ (kb_ret hk) dX3_openBlock_58
    · have r_a := r_a.tr hE
      have r_b13 := h.1 _ rfl
      have h := h.2.2 _ rfl
      have hk := kb_n hk g_k12
      refine v_gen (fun n hk => ?_) hk
      refine v_astore_n (lv1 := [(3, .ref b13), (0, .ref a), (1, .int p1), (2, .int r3)]) F dX3_openBlock_47 rfl (by rw [hN]; decide) rfl ?_
      refine v_aload_n F dX3_openBlock_48 0 rfl rfl ?_
      refine v_ifnonnull (tgt := 59) F dX3_openBlock_49 (by decide) ?_
      refine v_iload_n F dX3_openBlock_59 3 rfl rfl ?_
      refine v_bipush (v := 76) F dX3_openBlock_60 (by decide) ?_
      refine v_icmp_ne (tgt := 92) F dX3_openBlock_62 (by decide) h (fun h => ?_) (fun h => ?_)
      · refine v_iload_n F dX3_openBlock_92 3 rfl rfl ?_
        refine v_bipush (v := 84) F dX3_openBlock_93 (by decide) ?_
        refine v_icmp_ne (tgt := 163) F dX3_openBlock_95 (by decide) h (fun h => ?_) (fun h => ?_)
        · refine v_iload_n F dX3_openBlock_163 3 rfl rfl ?_
          refine v_bipush (v := 88) F dX3_openBlock_164 (by decide) ?_
          refine v_icmp_ne (tgt := 206) F dX3_openBlock_166 (by decide) h (fun h => ?_) (fun h => ?_)
          · refine v_aload_n F dX3_openBlock_206 0 rfl rfl ?_
            refine v_aload_n F dX3_openBlock_207 1 rfl rfl ?_
            refine g_X3_9 F r_a h dX3_openBlock_208 (fun b16 r_b16 h => ?_)
            refine v_iload_n F dX3_openBlock_211 2 rfl rfl ?_
            refine v_cI0 (v_runV F k_X3_187 rfl (c_X6_one r_b16 h) r_b16 rfl rfl (Nat.le_of_ble_eq_true rfl) ⟨Nat.le_of_ble_eq_true rfl, Nat.le_of_ble_eq_true rfl⟩ (kb_z hk) dX3_openBlock_212) ⟨rfl, rfl⟩ (fun r18 S17 h hE => ?_)
            have r_b13 := r_b13.tr hE
            have r_a := r_a.tr hE
            refine p_X3_190 F r_b13 h dX3_openBlock_215 (fun S19 h hE => ?_)
            have r_b13 := r_b13.tr hE
            have r_a := r_a.tr hE
            refine v_aload_n F dX3_openBlock_218 0 rfl rfl ?_
            refine v_aload_n F dX3_openBlock_219 0 rfl rfl ?_
            refine g_X3_62 F r_b13 dX3_openBlock_220 ?_
            refine p_X3_59 F r_b13 h dX3_openBlock_223 (fun S20 h hE => ?_)
            have r_b13 := r_b13.tr hE
            have r_a := r_a.tr hE
            refine v_iconst (v := 1) F dX3_openBlock_226 (by decide) ?_
            exact v_zret F hQ (by decide) ⟨nz1, h⟩ (kb_ret hk) dX3_openBlock_227
          · refine v_aload_n F dX3_openBlock_169 1 rfl rfl ?_
            refine v_dup F dX3_openBlock_170 rfl ?_
            refine g_X3_110 F r_a dX3_openBlock_171 ?_
            refine v_aload_n F dX3_openBlock_174 1 rfl rfl ?_
            refine g_X3_9 F r_a h dX3_openBlock_175 (fun b21 r_b21 h => ?_)
            refine v_iload_n F dX3_openBlock_178 2 rfl rfl ?_
            refine v_cI0 (v_runV F k_X3_187 rfl (c_X6_one r_b21 h) r_b21 rfl rfl (Nat.le_of_ble_eq_true rfl) ⟨Nat.le_of_ble_eq_true rfl, Nat.le_of_ble_eq_true rfl⟩ (kb_z hk) dX3_openBlock_179) ⟨rfl, rfl⟩ (fun r23 S22 h hE => ?_)
            have r_b13 := r_b13.tr hE
            have r_a := r_a.tr hE
            refine v_iadd F dX3_openBlock_182 ?_
            refine p_X3_110 F r_a h dX3_openBlock_183 (fun S24 h hE => ?_)
            have r_b13 := r_b13.tr hE
            have r_a := r_a.tr hE
            refine v_aload_n F dX3_openBlock_186 1 rfl rfl ?_
            refine v_dup F dX3_openBlock_187 rfl ?_
            refine g_X3_113 F r_a dX3_openBlock_188 ?_
            refine v_aload_n F dX3_openBlock_191 1 rfl rfl ?_
            refine g_X3_9 F r_a h dX3_openBlock_192 (fun b25 r_b25 h => ?_)
            refine v_iload_n F dX3_openBlock_195 2 rfl rfl ?_
            refine v_cI0 (v_runV F k_X3_184 rfl (c_X6_two r_b25 h) r_b25 rfl rfl (Nat.le_of_ble_eq_true rfl) ⟨Nat.le_of_ble_eq_true rfl, Nat.le_of_ble_eq_true rfl⟩ (kb_z hk) dX3_openBlock_196) ⟨rfl, rfl⟩ (fun r27 S26 h hE => ?_)
            have r_b13 := r_b13.tr hE
            have r_a := r_a.tr hE
            refine v_iadd F dX3_openBlock_199 ?_
            refine p_X3_113 F r_a h dX3_openBlock_200 (fun S28 h hE => ?_)
            have r_b13 := r_b13.tr hE
            have r_a := r_a.tr hE
            refine v_goto (tgt := 226) F dX3_openBlock_203 (by decide) ?_
            refine v_iconst (v := 1) F dX3_openBlock_226 (by decide) ?_
            exact v_zret F hQ (by decide) ⟨nz1, h⟩ (kb_ret hk) dX3_openBlock_227
        · refine v_aload_n F dX3_openBlock_98 0 rfl rfl ?_
          refine v_aload_n F dX3_openBlock_99 1 rfl rfl ?_
          refine g_X3_104 F r_a dX3_openBlock_100 ?_
          refine p_X3_182 F r_b13 h dX3_openBlock_103 (fun S29 h hE => ?_)
          have r_b13 := r_b13.tr hE
          have r_a := r_a.tr hE
          refine v_aload_n F dX3_openBlock_106 0 rfl rfl ?_
          refine v_aload_n F dX3_openBlock_107 1 rfl rfl ?_
          refine g_X3_107 F r_a dX3_openBlock_108 ?_
          refine p_X3_183 F r_b13 h dX3_openBlock_111 (fun S30 h hE => ?_)
          have r_b13 := r_b13.tr hE
          have r_a := r_a.tr hE
          refine v_aload_n F dX3_openBlock_114 1 rfl rfl ?_
          refine v_dup F dX3_openBlock_115 rfl ?_
          refine g_X3_104 F r_a dX3_openBlock_116 ?_
          refine v_aload_n F dX3_openBlock_119 1 rfl rfl ?_
          refine g_X3_9 F r_a h dX3_openBlock_120 (fun b31 r_b31 h => ?_)
          refine v_iload_n F dX3_openBlock_123 2 rfl rfl ?_
          refine v_cI0 (v_runV F k_X3_184 rfl (c_X6_two r_b31 h) r_b31 rfl rfl (Nat.le_of_ble_eq_true rfl) ⟨Nat.le_of_ble_eq_true rfl, Nat.le_of_ble_eq_true rfl⟩ (kb_z hk) dX3_openBlock_124) ⟨rfl, rfl⟩ (fun r33 S32 h hE => ?_)
          have r_b13 := r_b13.tr hE
          have r_a := r_a.tr hE
          refine v_i2l F dX3_openBlock_127 ?_
          refine v_lmul F dX3_openBlock_128 ?_
          refine p_X3_104 F r_a h dX3_openBlock_129 (fun S34 h hE => ?_)
          have r_b13 := r_b13.tr hE
          have r_a := r_a.tr hE
          refine v_aload_n F dX3_openBlock_132 1 rfl rfl ?_
          refine v_dup F dX3_openBlock_133 rfl ?_
          refine g_X3_107 F r_a dX3_openBlock_134 ?_
          refine v_aload_n F dX3_openBlock_137 1 rfl rfl ?_
          refine g_X3_9 F r_a h dX3_openBlock_138 (fun b35 r_b35 h => ?_)
          refine v_iload_n F dX3_openBlock_141 2 rfl rfl ?_
          refine v_cI0 (v_runV F k_X3_187 rfl (c_X6_one r_b35 h) r_b35 rfl rfl (Nat.le_of_ble_eq_true rfl) ⟨Nat.le_of_ble_eq_true rfl, Nat.le_of_ble_eq_true rfl⟩ (kb_z hk) dX3_openBlock_142) ⟨rfl, rfl⟩ (fun r37 S36 h hE => ?_)
          have r_b13 := r_b13.tr hE
          have r_a := r_a.tr hE
          refine v_i2l F dX3_openBlock_145 ?_
          refine v_lmul F dX3_openBlock_146 ?_
          refine p_X3_107 F r_a h dX3_openBlock_147 (fun S38 h hE => ?_)
          have r_b13 := r_b13.tr hE
          have r_a := r_a.tr hE
          refine v_aload_n F dX3_openBlock_150 1 rfl rfl ?_
          refine v_dup F dX3_openBlock_151 rfl ?_
          refine g_X3_101 F r_a dX3_openBlock_152 ?_
          refine v_iconst (v := 1) F dX3_openBlock_155 (by decide) ?_
          refine v_iadd F dX3_openBlock_156 ?_
          refine p_X3_101 F r_a h dX3_openBlock_157 (fun S39 h hE => ?_)
          have r_b13 := r_b13.tr hE
          have r_a := r_a.tr hE
          refine v_goto (tgt := 226) F dX3_openBlock_160 (by decide) ?_
          refine v_iconst (v := 1) F dX3_openBlock_226 (by decide) ?_
          exact v_zret F hQ (by decide) ⟨nz1, h⟩ (kb_ret hk) dX3_openBlock_227
      · refine v_aload_n F dX3_openBlock_65 0 rfl rfl ?_
        refine v_aload_n F dX3_openBlock_66 1 rfl rfl ?_
        refine g_X3_95 F r_a dX3_openBlock_67 ?_
        refine p_X3_181 F r_b13 h dX3_openBlock_70 (fun S40 h hE => ?_)
        have r_b13 := r_b13.tr hE
        have r_a := r_a.tr hE
        refine v_aload_n F dX3_openBlock_73 1 rfl rfl ?_
        refine v_bipush (v := 28) F dX3_openBlock_74 (by decide) ?_
        refine p_X3_95 F r_a h dX3_openBlock_76 (fun S41 h hE => ?_)
        have r_b13 := r_b13.tr hE
        have r_a := r_a.tr hE
        refine v_aload_n F dX3_openBlock_79 1 rfl rfl ?_
        refine v_dup F dX3_openBlock_80 rfl ?_
        refine g_X3_98 F r_a dX3_openBlock_81 ?_
        refine v_iconst (v := 1) F dX3_openBlock_84 (by decide) ?_
        refine v_iadd F dX3_openBlock_85 ?_
        refine p_X3_98 F r_a h dX3_openBlock_86 (fun S42 h hE => ?_)
        have r_b13 := r_b13.tr hE
        have r_a := r_a.tr hE
        refine v_goto (tgt := 226) F dX3_openBlock_89 (by decide) ?_
        refine v_iconst (v := 1) F dX3_openBlock_226 (by decide) ?_
        exact v_zret F hQ (by decide) ⟨nz1, h⟩ (kb_ret hk) dX3_openBlock_227)
  refine v_icmp_ne (tgt := 31) F dX3_openBlock_12 (by decide) h (fun h => ?_) (fun h => ?_)
  · exact v_sub [1, 2, 0] rfl (h r_a _ hk)
  · refine v_aload_n F dX3_openBlock_15 1 rfl rfl ?_
    refine g_X3_101 F r_a dX3_openBlock_16 ?_
    refine v_bipush (v := 8) F dX3_openBlock_19 (by decide) ?_
    refine v_icmp_lt (tgt := 31) F dX3_openBlock_21 (by decide) h (fun h => ?_) (fun h => ?_)
    · exact v_sub [1, 2, 0] rfl (h r_a _ hk)
    · refine v_aload_n F dX3_openBlock_24 1 rfl rfl ?_
      refine v_iconst (v := 5) F dX3_openBlock_25 (by decide) ?_
      refine v_iload_n F dX3_openBlock_26 2 rfl rfl ?_
      refine v_cI0 (v_runV F k_X3_149 rfl (c_X3_tell r_a h) r_a rfl rfl (Nat.le_of_ble_eq_true rfl) ⟨Nat.le_of_ble_eq_true rfl, Nat.le_of_ble_eq_true rfl⟩ (kb_z hk) dX3_openBlock_27) ⟨rfl, rfl⟩ (fun r44 S43 h hE => ?_)
      obtain ⟨nz_r44, h⟩ := h
      have r_a := r_a.tr hE
      exact v_zret F hQ nz_r44 ⟨nz_r44, h⟩ (kb_ret hk) dX3_openBlock_30
theorem dX3_use_0 : decode cX3_use 0 = .ok (.aload_n 0, 1) := by decide +kernel
theorem dX3_use_1 : decode cX3_use 1 = .ok (.getfield 116, 3) := by decide +kernel
theorem dX3_use_4 : decode cX3_use 4 = .ok (.bipush 24, 2) := by decide +kernel
theorem dX3_use_6 : decode cX3_use 6 = .ok (.if_icmp .lt 10, 3) := by decide +kernel
theorem dX3_use_9 : decode cX3_use 9 = .ok (.aload_n 0, 1) := by decide +kernel
theorem dX3_use_10 : decode cX3_use 10 = .ok (.iconst 5, 1) := by decide +kernel
theorem dX3_use_11 : decode cX3_use 11 = .ok (.iload_n 1, 1) := by decide +kernel
theorem dX3_use_12 : decode cX3_use 12 = .ok (.invokevirtual 149, 3) := by decide +kernel
theorem dX3_use_15 : decode cX3_use 15 = .ok (.ireturn, 1) := by decide +kernel
theorem dX3_use_16 : decode cX3_use 16 = .ok (.aload_n 0, 1) := by decide +kernel
theorem dX3_use_17 : decode cX3_use 17 = .ok (.getfield 9, 3) := by decide +kernel
theorem dX3_use_20 : decode cX3_use 20 = .ok (.iload_n 1, 1) := by decide +kernel
theorem dX3_use_21 : decode cX3_use 21 = .ok (.invokevirtual 184, 3) := by decide +kernel
theorem dX3_use_24 : decode cX3_use 24 = .ok (.iconst 1, 1) := by decide +kernel
theorem dX3_use_25 : decode cX3_use 25 = .ok (.if_icmp .ne 7, 3) := by decide +kernel
theorem dX3_use_28 : decode cX3_use 28 = .ok (.iconst 1, 1) := by decide +kernel
theorem dX3_use_29 : decode cX3_use 29 = .ok (.goto 4, 3) := by decide +kernel
theorem dX3_use_32 : decode cX3_use 32 = .ok (.iconst 0, 1) := by decide +kernel
theorem dX3_use_33 : decode cX3_use 33 = .ok (.istore_n 2, 1) := by decide +kernel
theorem dX3_use_34 : decode cX3_use 34 = .ok (.aload_n 0, 1) := by decide +kernel
theorem dX3_use_35 : decode cX3_use 35 = .ok (.getfield 9, 3) := by decide +kernel
theorem dX3_use_38 : decode cX3_use 38 = .ok (.iload_n 1, 1) := by decide +kernel
theorem dX3_use_39 : decode cX3_use 39 = .ok (.invokevirtual 187, 3) := by decide +kernel
theorem dX3_use_42 : decode cX3_use 42 = .ok (.istore_n 3, 1) := by decide +kernel
theorem dX3_use_43 : decode cX3_use 43 = .ok (.iload_n 2, 1) := by decide +kernel
theorem dX3_use_44 : decode cX3_use 44 = .ok (.ifCond .eq 14, 3) := by decide +kernel
theorem dX3_use_47 : decode cX3_use 47 = .ok (.aload_n 0, 1) := by decide +kernel
theorem dX3_use_48 : decode cX3_use 48 = .ok (.aload_n 0, 1) := by decide +kernel
theorem dX3_use_49 : decode cX3_use 49 = .ok (.getfield 122, 3) := by decide +kernel
theorem dX3_use_52 : decode cX3_use 52 = .ok (.invokevirtual 51, 3) := by decide +kernel
theorem dX3_use_55 : decode cX3_use 55 = .ok (.goto 4, 3) := by decide +kernel
theorem dX3_use_58 : decode cX3_use 58 = .ok (.aconst_null, 1) := by decide +kernel
theorem dX3_use_59 : decode cX3_use 59 = .ok (.astore 4, 2) := by decide +kernel
theorem dX3_use_61 : decode cX3_use 61 = .ok (.aload_n 0, 1) := by decide +kernel
theorem dX3_use_62 : decode cX3_use 62 = .ok (.getfield 48, 3) := by decide +kernel
theorem dX3_use_65 : decode cX3_use 65 = .ok (.istore 5, 2) := by decide +kernel
theorem dX3_use_67 : decode cX3_use 67 = .ok (.aload_n 0, 1) := by decide +kernel
theorem dX3_use_68 : decode cX3_use 68 = .ok (.getfield 9, 3) := by decide +kernel
theorem dX3_use_71 : decode cX3_use 71 = .ok (.iload_n 3, 1) := by decide +kernel
theorem dX3_use_72 : decode cX3_use 72 = .ok (.invokevirtual 200, 3) := by decide +kernel
theorem dX3_use_75 : decode cX3_use 75 = .ok (.istore 6, 2) := by decide +kernel
theorem dX3_use_77 : decode cX3_use 77 = .ok (.aload 4, 2) := by decide +kernel
theorem dX3_use_79 : decode cX3_use 79 = .ok (.ifnull 22, 3) := by decide +kernel
theorem dX3_use_82 : decode cX3_use 82 = .ok (.aload 4, 2) := by decide +kernel
theorem dX3_use_84 : decode cX3_use 84 = .ok (.getfield 199, 3) := by decide +kernel
theorem dX3_use_87 : decode cX3_use 87 = .ok (.istore 5, 2) := by decide +kernel
theorem dX3_use_89 : decode cX3_use 89 = .ok (.aload_n 0, 1) := by decide +kernel
theorem dX3_use_90 : decode cX3_use 90 = .ok (.aload 4, 2) := by decide +kernel
theorem dX3_use_92 : decode cX3_use 92 = .ok (.getfield 146, 3) := by decide +kernel
theorem dX3_use_95 : decode cX3_use 95 = .ok (.iload_n 3, 1) := by decide +kernel
theorem dX3_use_96 : decode cX3_use 96 = .ok (.invokevirtual 203, 3) := by decide +kernel
theorem dX3_use_99 : decode cX3_use 99 = .ok (.istore 6, 2) := by decide +kernel
theorem dX3_use_101 : decode cX3_use 101 = .ok (.aload_n 0, 1) := by decide +kernel
theorem dX3_use_102 : decode cX3_use 102 = .ok (.iload_n 1, 1) := by decide +kernel
theorem dX3_use_103 : decode cX3_use 103 = .ok (.iload 6, 2) := by decide +kernel
theorem dX3_use_105 : decode cX3_use 105 = .ok (.iconst 1, 1) := by decide +kernel
theorem dX3_use_106 : decode cX3_use 106 = .ok (.iadd, 1) := by decide +kernel
theorem dX3_use_107 : decode cX3_use 107 = .ok (.aload_n 0, 1) := by decide +kernel
theorem dX3_use_108 : decode cX3_use 108 = .ok (.getfield 9, 3) := by decide +kernel
theorem dX3_use_111 : decode cX3_use 111 = .ok (.iload 6, 2) := by decide +kernel
theorem dX3_use_113 : decode cX3_use 113 = .ok (.invokevirtual 65, 3) := by decide +kernel
theorem dX3_use_116 : decode cX3_use 116 = .ok (.invokevirtual 38, 3) := by decide +kernel
theorem dX3_use_119 : decode cX3_use 119 = .ok (.astore 7, 2) := by decide +kernel
theorem dX3_use_121 : decode cX3_use 121 = .ok (.aload 7, 2) := by decide +kernel
theorem dX3_use_123 : decode cX3_use 123 = .ok (.ifnonnull 10, 3) := by decide +kernel
theorem dX3_use_126 : decode cX3_use 126 = .ok (.aload_n 0, 1) := by decide +kernel
theorem dX3_use_127 : decode cX3_use 127 = .ok (.iconst 5, 1) := by decide +kernel
theorem dX3_use_128 : decode cX3_use 128 = .ok (.iload_n 1, 1) := by decide +kernel
theorem dX3_use_129 : decode cX3_use 129 = .ok (.invokevirtual 149, 3) := by decide +kernel
theorem dX3_use_132 : decode cX3_use 132 = .ok (.ireturn, 1) := by decide +kernel
theorem dX3_use_133 : decode cX3_use 133 = .ok (.aload 7, 2) := by decide +kernel
theorem dX3_use_135 : decode cX3_use 135 = .ok (.aload_n 0, 1) := by decide +kernel
theorem dX3_use_136 : decode cX3_use 136 = .ok (.getfield 122, 3) := by decide +kernel
theorem dX3_use_139 : decode cX3_use 139 = .ok (.putfield 199, 3) := by decide +kernel
theorem dX3_use_142 : decode cX3_use 142 = .ok (.aload_n 0, 1) := by decide +kernel
theorem dX3_use_143 : decode cX3_use 143 = .ok (.iload 5, 2) := by decide +kernel
theorem dX3_use_145 : decode cX3_use 145 = .ok (.putfield 122, 3) := by decide +kernel
theorem dX3_use_148 : decode cX3_use 148 = .ok (.aload_n 0, 1) := by decide +kernel
theorem dX3_use_149 : decode cX3_use 149 = .ok (.dup, 1) := by decide +kernel
theorem dX3_use_150 : decode cX3_use 150 = .ok (.getfield 116, 3) := by decide +kernel
theorem dX3_use_153 : decode cX3_use 153 = .ok (.iconst 1, 1) := by decide +kernel
theorem dX3_use_154 : decode cX3_use 154 = .ok (.iadd, 1) := by decide +kernel
theorem dX3_use_155 : decode cX3_use 155 = .ok (.putfield 116, 3) := by decide +kernel
theorem dX3_use_158 : decode cX3_use 158 = .ok (.iconst 1, 1) := by decide +kernel
theorem dX3_use_159 : decode cX3_use 159 = .ok (.ireturn, 1) := by decide +kernel
abbrev rm_X3_use (k : Nat × Nat) : Room := { frames := 3, cells := k.1, slots := k.2, locals := 104 }
def wp_X3_use (a : Nat) (p1 : Int32) (k : Nat × Nat) (S : PS) (Q : Int32 → PS → Prop) : Prop :=
  (if fI S 37 a < 24 then
 (∃ b1, fR S 21 a = some b1 ∧ wp_X6_two b1 p1 S (fun (r3 : Int32) (S2 : PS) => 
 (∀ K33_6 : Int32 → Nat × Nat → PS → Prop, (∀ (t4 : Int32) (k7 : Nat × Nat) (S5 : PS),
 (∃ b8, fR S5 21 a = some b8 ∧ wp_X6_one b8 p1 S5 (fun (r10 : Int32) (S9 : PS) => 
 (∀ K59_13 : Nat → Nat × Nat → PS → Prop, (∀ (t11 : Nat) (k14 : Nat × Nat) (S12 : PS),
 (∀ v15, v15 = fI S12 24 a → (∃ b16, fR S12 21 a = some b16 ∧ wp_X6_namedEntry b16 r10 S12 (fun (r18 : Int32) (S17 : PS) => 
 (∀ K101_22 : Int32 → Int32 → Nat × Nat → PS → Prop, (∀ (x5_19 : Int32) (x6_20 : Int32) (k23 : Nat × Nat) (S21 : PS),
 (∃ b24, fR S21 21 a = some b24 ∧ wp_X6_behind b24 x6_20 S21 (fun (r26 : Int32) (S25 : PS) => 
 (∃ k29 : Nat × Nat, (k29.1 ≤ k23.1 ∧ k29.2 ≤ k23.2) ∧ wp_X3_push a p1 (x6_20 + 1) r26 k29 S25 (fun (o : Option Nat) (S27 : PS) => (o = none → wp_X3_tell a 5 p1 S27 (fun (r32 : Int32) (S31 : PS) => 
 Q r32 S31)) ∧ ∀ b30, o = some b30 → (∀ S33, S33 = sI S27 7 b30 (fI S27 39 a) → (∀ S34, S34 = sI S33 39 a x5_19 → (∀ S35, S35 = sI S34 37 a ((fI S34 37 a) + 1) → Q 1 S35)))))))
 → K101_22 x5_19 x6_20 k23 S21) →
 (∀ v36, v36 = fI S17 7 t11 → wp_X3_given a (fI S17 2 t11) r10 S17 (fun (r38 : Int32) (S37 : PS) => 
 K101_22 v36 r38 k14 S37))))))
 → K59_13 t11 k14 S12) →
 (if t4 = 0 then
 (∀ v39, v39 = fI S9 24 a → (∃ b40, fR S9 21 a = some b40 ∧ wp_X6_namedEntry b40 r10 S9 (fun (r42 : Int32) (S41 : PS) => 
 (∀ K101_46 : Int32 → Int32 → Nat × Nat → PS → Prop, (∀ (x5_43 : Int32) (x6_44 : Int32) (k47 : Nat × Nat) (S45 : PS),
 (∃ b48, fR S45 21 a = some b48 ∧ wp_X6_behind b48 x6_44 S45 (fun (r50 : Int32) (S49 : PS) => 
 (∃ k53 : Nat × Nat, (k53.1 ≤ k47.1 ∧ k53.2 ≤ k47.2) ∧ wp_X3_push a p1 (x6_44 + 1) r50 k53 S49 (fun (o : Option Nat) (S51 : PS) => (o = none → wp_X3_tell a 5 p1 S51 (fun (r56 : Int32) (S55 : PS) => 
 Q r56 S55)) ∧ ∀ b54, o = some b54 → (∀ S57, S57 = sI S51 7 b54 (fI S51 39 a) → (∀ S58, S58 = sI S57 39 a x5_43 → (∀ S59, S59 = sI S58 37 a ((fI S58 37 a) + 1) → Q 1 S59)))))))
 → K101_46 x5_43 x6_44 k47 S45) →
 K101_46 v39 r42 k7 S41))))
 else
 wp_X3_frameAt a (fI S9 39 a) S9 (fun (o : Option Nat) (S60 : PS) => (o = none → (∀ v63, v63 = fI S60 24 a → (∃ b64, fR S60 21 a = some b64 ∧ wp_X6_namedEntry b64 r10 S60 (fun (r66 : Int32) (S65 : PS) => 
 (∀ K101_70 : Int32 → Int32 → Nat × Nat → PS → Prop, (∀ (x5_67 : Int32) (x6_68 : Int32) (k71 : Nat × Nat) (S69 : PS),
 (∃ b72, fR S69 21 a = some b72 ∧ wp_X6_behind b72 x6_68 S69 (fun (r74 : Int32) (S73 : PS) => 
 (∃ k77 : Nat × Nat, (k77.1 ≤ k71.1 ∧ k77.2 ≤ k71.2) ∧ wp_X3_push a p1 (x6_68 + 1) r74 k77 S73 (fun (o : Option Nat) (S75 : PS) => (o = none → wp_X3_tell a 5 p1 S75 (fun (r80 : Int32) (S79 : PS) => 
 Q r80 S79)) ∧ ∀ b78, o = some b78 → (∀ S81, S81 = sI S75 7 b78 (fI S75 39 a) → (∀ S82, S82 = sI S81 39 a x5_67 → (∀ S83, S83 = sI S82 37 a ((fI S82 37 a) + 1) → Q 1 S83)))))))
 → K101_70 x5_67 x6_68 k71 S69) →
 K101_70 v63 r66 k7 S65))))) ∧ ∀ b62, o = some b62 → K59_13 b62 k7 S60)))))
 → K33_6 t4 k7 S5) →
 (if r3 = 1 then
 K33_6 1 k S2
 else
 K33_6 0 k S2))))
 else
 wp_X3_tell a 5 p1 S (fun (r85 : Int32) (S84 : PS) => 
 Q r85 S84))
set_option maxRecDepth 100000 in
set_option maxHeartbeats 4000000 in
theorem c_X3_use {l : Launch} {E : EE} {A : Nat → Prop} {a : Nat} {p1 : Int32} {k : Nat × Nat} {S : PS} {Q : Int32 → PS → Prop} (r_a : Rf S a 3) (h : wp_X3_use a p1 k S Q) : MtI l yX3_use (.code yX3_use cX3_use 8 (some .boolean)) (rm_X3_use k) E A [.ref a, .int p1] S (fun r S1 => nz r ∧ Q r S1) := by
  refine MtI.of (by decide) (Nat.le_of_ble_eq_true rfl) (fun X F hQ hN => ?_)
  show VV X (0, 0) S [(0, .ref a), (1, .int p1)] [] 0
  generalize hn0 : ((0, 0) : Nat × Nat) = n
  have hk : n.1 + k.1 ≤ k.1 ∧ n.2 + k.2 ≤ k.2 := by subst hn0; exact ⟨by omega, by omega⟩
  unfold wp_X3_use at h
  refine v_aload_n F dX3_use_0 0 rfl rfl ?_
  refine g_X3_116 F r_a dX3_use_1 ?_
  refine v_bipush (v := 24) F dX3_use_4 (by decide) ?_
  refine v_icmp_lt (tgt := 16) F dX3_use_6 (by decide) h (fun h => ?_) (fun h => ?_)
  · refine v_aload_n F dX3_use_16 0 rfl rfl ?_
    refine g_X3_9 F r_a h dX3_use_17 (fun b1 r_b1 h => ?_)
    refine v_iload_n F dX3_use_20 1 rfl rfl ?_
    refine v_cI0 (v_runV F k_X3_184 rfl (c_X6_two r_b1 h) r_b1 rfl rfl (Nat.le_of_ble_eq_true rfl) ⟨Nat.le_of_ble_eq_true rfl, Nat.le_of_ble_eq_true rfl⟩ (kb_z hk) dX3_use_21) ⟨rfl, rfl⟩ (fun r3 S2 h hE => ?_)
    have r_a := r_a.tr hE
    refine v_iconst (v := 1) F dX3_use_24 (by decide) ?_
    have h := h (fun (t4 : Int32) (k7 : Nat × Nat) (S5 : PS) => Rf S5 a 3 → ∀ n : Nat × Nat, (n.1 + k7.1 ≤ k.1 ∧ n.2 + k7.2 ≤ k.2) → VV X n S5 [(0, .ref a), (1, .int p1)] [.int t4] 33) (by
      intro t4 k7 S5 h r_a n hk
      refine v_istore_n (lv1 := [(2, .int t4), (0, .ref a), (1, .int p1)]) F dX3_use_33 rfl (by rw [hN]; decide) rfl ?_
      refine v_aload_n F dX3_use_34 1 rfl rfl ?_
      refine g_X3_9 F r_a h dX3_use_35 (fun b8 r_b8 h => ?_)
      refine v_iload_n F dX3_use_38 2 rfl rfl ?_
      refine v_cI0 (v_runV F k_X3_187 rfl (c_X6_one r_b8 h) r_b8 rfl rfl (Nat.le_of_ble_eq_true rfl) ⟨Nat.le_of_ble_eq_true rfl, Nat.le_of_ble_eq_true rfl⟩ (kb_z hk) dX3_use_39) ⟨rfl, rfl⟩ (fun r10 S9 h hE => ?_)
      have r_a := r_a.tr hE
      refine v_istore_n (lv1 := [(3, .int r10), (2, .int t4), (0, .ref a), (1, .int p1)]) F dX3_use_42 rfl (by rw [hN]; decide) rfl ?_
      refine v_iload_n F dX3_use_43 1 rfl rfl ?_
      have h := h (fun (t11 : Nat) (k14 : Nat × Nat) (S12 : PS) => Rf S12 a 3 → Rf S12 t11 1 → ∀ n : Nat × Nat, (n.1 + k14.1 ≤ k.1 ∧ n.2 + k14.2 ≤ k.2) → VV X n S12 [(0, .ref a), (1, .int p1), (3, .int r10)] [.ref t11] 59) (by
        intro t11 k14 S12 h r_a r_t11 n hk
        refine v_astore (lv1 := [(4, .ref t11), (0, .ref a), (1, .int p1), (3, .int r10)]) F dX3_use_59 (by rw [hN]; decide) rfl ?_
        refine v_aload_n F dX3_use_61 1 rfl rfl ?_
        refine g_X3_48 F r_a dX3_use_62 ?_
        refine v_topi (fun v15 e_v15 => ?_)
        have h := h v15 e_v15
        refine v_istore (lv1 := [(5, .int v15), (4, .ref t11), (0, .ref a), (1, .int p1), (3, .int r10)]) F dX3_use_65 (by rw [hN]; decide) rfl ?_
        refine v_aload_n F dX3_use_67 2 rfl rfl ?_
        refine g_X3_9 F r_a h dX3_use_68 (fun b16 r_b16 h => ?_)
        refine v_iload_n F dX3_use_71 4 rfl rfl ?_
        refine v_cI0 (v_runV F k_X3_200 rfl (c_X6_namedEntry r_b16 h) r_b16 rfl rfl (Nat.le_of_ble_eq_true rfl) ⟨Nat.le_of_ble_eq_true rfl, Nat.le_of_ble_eq_true rfl⟩ (kb_z hk) dX3_use_72) ⟨rfl, rfl⟩ (fun r18 S17 h hE => ?_)
        have r_t11 := r_t11.tr hE
        have r_a := r_a.tr hE
        refine v_istore (lv1 := [(6, .int r18), (5, .int v15), (4, .ref t11), (0, .ref a), (1, .int p1), (3, .int r10)]) F dX3_use_75 (by rw [hN]; decide) rfl ?_
        refine v_aload F dX3_use_77 2 rfl ?_
        have h := h (fun (x5_19 : Int32) (x6_20 : Int32) (k23 : Nat × Nat) (S21 : PS) => Rf S21 a 3 → ∀ n : Nat × Nat, (n.1 + k23.1 ≤ k.1 ∧ n.2 + k23.2 ≤ k.2) → VV X n S21 [(0, .ref a), (1, .int p1), (5, .int x5_19), (6, .int x6_20)] [] 101) (by
          intro x5_19 x6_20 k23 S21 h r_a n hk
          refine v_aload_n F dX3_use_101 0 rfl rfl ?_
          refine v_iload_n F dX3_use_102 1 rfl rfl ?_
          refine v_iload F dX3_use_103 3 rfl ?_
          refine v_iconst (v := 1) F dX3_use_105 (by decide) ?_
          refine v_iadd F dX3_use_106 ?_
          refine v_aload_n F dX3_use_107 0 rfl rfl ?_
          refine g_X3_9 F r_a h dX3_use_108 (fun b24 r_b24 h => ?_)
          refine v_iload F dX3_use_111 3 rfl ?_
          refine v_cI0 (v_runV F k_X3_65 rfl (c_X6_behind r_b24 h) r_b24 rfl rfl (Nat.le_of_ble_eq_true rfl) ⟨Nat.le_of_ble_eq_true rfl, Nat.le_of_ble_eq_true rfl⟩ (kb_z hk) dX3_use_113) ⟨rfl, rfl⟩ (fun r26 S25 h hE => ?_)
          have r_a := r_a.tr hE
          obtain ⟨k29, g_k29, h⟩ := h
          refine v_cRs (v_runV F k_X3_38 rfl (c_X3_push r_a h) r_a rfl rfl (Nat.le_of_ble_eq_true rfl) ⟨Nat.le_of_ble_eq_true rfl, Nat.le_of_ble_eq_true rfl⟩ (kb_c hk g_k29) dX3_use_116) (fun S27 h hE => ?_) (fun b30 S27 h hE => ?_)
          · have r_a := r_a.tr hE
            have h := h.2.1 rfl
            have hk := kb_n hk g_k29
            refine v_gen (fun n hk => ?_) hk
            refine v_astoreN (lv1 := [(7, .null), (0, .ref a), (1, .int p1), (5, .int x5_19), (6, .int x6_20)]) F dX3_use_119 (by rw [hN]; decide) rfl ?_
            refine v_aloadN F dX3_use_121 0 rfl ?_
            refine v_ifnonnullN F dX3_use_123 ?_
            refine v_aload_n F dX3_use_126 1 rfl rfl ?_
            refine v_iconst (v := 5) F dX3_use_127 (by decide) ?_
            refine v_iload_n F dX3_use_128 2 rfl rfl ?_
            refine v_cI0 (v_runV F k_X3_149 rfl (c_X3_tell r_a h) r_a rfl rfl (Nat.le_of_ble_eq_true rfl) ⟨Nat.le_of_ble_eq_true rfl, Nat.le_of_ble_eq_true rfl⟩ (kb_z hk) dX3_use_129) ⟨rfl, rfl⟩ (fun r32 S31 h hE => ?_)
            obtain ⟨nz_r32, h⟩ := h
            have r_a := r_a.tr hE
            exact v_zret F hQ nz_r32 ⟨nz_r32, h⟩ (kb_ret hk) dX3_use_132
          · have r_a := r_a.tr hE
            have r_b30 := h.1 _ rfl
            have h := h.2.2 _ rfl
            have hk := kb_n hk g_k29
            refine v_gen (fun n hk => ?_) hk
            refine v_astore (lv1 := [(7, .ref b30), (0, .ref a), (1, .int p1), (5, .int x5_19), (6, .int x6_20)]) F dX3_use_119 (by rw [hN]; decide) rfl ?_
            refine v_aload F dX3_use_121 0 rfl ?_
            refine v_ifnonnull (tgt := 133) F dX3_use_123 (by decide) ?_
            refine v_aload F dX3_use_133 0 rfl ?_
            refine v_aload_n F dX3_use_135 1 rfl rfl ?_
            refine g_X3_122 F r_a dX3_use_136 ?_
            refine p_X3_199 F r_b30 h dX3_use_139 (fun S33 h hE => ?_)
            have r_b30 := r_b30.tr hE
            have r_a := r_a.tr hE
            refine v_aload_n F dX3_use_142 1 rfl rfl ?_
            refine v_iload F dX3_use_143 3 rfl ?_
            refine p_X3_122 F r_a h dX3_use_145 (fun S34 h hE => ?_)
            have r_b30 := r_b30.tr hE
            have r_a := r_a.tr hE
            refine v_aload_n F dX3_use_148 1 rfl rfl ?_
            refine v_dup F dX3_use_149 rfl ?_
            refine g_X3_116 F r_a dX3_use_150 ?_
            refine v_iconst (v := 1) F dX3_use_153 (by decide) ?_
            refine v_iadd F dX3_use_154 ?_
            refine p_X3_116 F r_a h dX3_use_155 (fun S35 h hE => ?_)
            have r_b30 := r_b30.tr hE
            have r_a := r_a.tr hE
            refine v_iconst (v := 1) F dX3_use_158 (by decide) ?_
            exact v_zret F hQ (by decide) ⟨nz1, h⟩ (kb_ret hk) dX3_use_159)
        refine v_ifnull F dX3_use_79 ?_
        refine v_aload F dX3_use_82 2 rfl ?_
        refine g_X3_199 F r_t11 dX3_use_84 ?_
        refine v_topi (fun v36 e_v36 => ?_)
        have h := h v36 e_v36
        refine v_istore (lv1 := [(5, .int v36), (6, .int r18), (4, .ref t11), (0, .ref a), (1, .int p1), (3, .int r10)]) F dX3_use_87 (by rw [hN]; decide) rfl ?_
        refine v_aload_n F dX3_use_89 3 rfl rfl ?_
        refine v_aload F dX3_use_90 2 rfl ?_
        refine g_X3_146 F r_t11 dX3_use_92 ?_
        refine v_iload_n F dX3_use_95 5 rfl rfl ?_
        refine v_cI0 (v_runV F k_X3_203 rfl (c_X3_given r_a h) r_a rfl rfl (Nat.le_of_ble_eq_true rfl) ⟨Nat.le_of_ble_eq_true rfl, Nat.le_of_ble_eq_true rfl⟩ (kb_z hk) dX3_use_96) ⟨rfl, rfl⟩ (fun r38 S37 h hE => ?_)
        have r_t11 := r_t11.tr hE
        have r_a := r_a.tr hE
        refine v_istore (lv1 := [(6, .int r38), (5, .int v36), (4, .ref t11), (0, .ref a), (1, .int p1), (3, .int r10)]) F dX3_use_99 (by rw [hN]; decide) rfl ?_
        exact v_sub [3, 4, 1, 0] rfl (h r_a _ hk))
      refine v_if_eq (tgt := 58) F dX3_use_44 (by decide) h (fun h => ?_) (fun h => ?_)
      · refine v_null F dX3_use_58 ?_
        refine v_astoreN (lv1 := [(4, .null), (3, .int r10), (2, .int t4), (0, .ref a), (1, .int p1)]) F dX3_use_59 (by rw [hN]; decide) rfl ?_
        refine v_aload_n F dX3_use_61 3 rfl rfl ?_
        refine g_X3_48 F r_a dX3_use_62 ?_
        refine v_topi (fun v39 e_v39 => ?_)
        have h := h v39 e_v39
        refine v_istore (lv1 := [(5, .int v39), (4, .null), (3, .int r10), (2, .int t4), (0, .ref a), (1, .int p1)]) F dX3_use_65 (by rw [hN]; decide) rfl ?_
        refine v_aload_n F dX3_use_67 4 rfl rfl ?_
        refine g_X3_9 F r_a h dX3_use_68 (fun b40 r_b40 h => ?_)
        refine v_iload_n F dX3_use_71 2 rfl rfl ?_
        refine v_cI0 (v_runV F k_X3_200 rfl (c_X6_namedEntry r_b40 h) r_b40 rfl rfl (Nat.le_of_ble_eq_true rfl) ⟨Nat.le_of_ble_eq_true rfl, Nat.le_of_ble_eq_true rfl⟩ (kb_z hk) dX3_use_72) ⟨rfl, rfl⟩ (fun r42 S41 h hE => ?_)
        have r_a := r_a.tr hE
        refine v_istore (lv1 := [(6, .int r42), (5, .int v39), (4, .null), (3, .int r10), (2, .int t4), (0, .ref a), (1, .int p1)]) F dX3_use_75 (by rw [hN]; decide) rfl ?_
        refine v_aloadN F dX3_use_77 2 rfl ?_
        have h := h (fun (x5_43 : Int32) (x6_44 : Int32) (k47 : Nat × Nat) (S45 : PS) => Rf S45 a 3 → ∀ n : Nat × Nat, (n.1 + k47.1 ≤ k.1 ∧ n.2 + k47.2 ≤ k.2) → VV X n S45 [(0, .ref a), (1, .int p1), (5, .int x5_43), (6, .int x6_44)] [] 101) (by
          intro x5_43 x6_44 k47 S45 h r_a n hk
          refine v_aload_n F dX3_use_101 0 rfl rfl ?_
          refine v_iload_n F dX3_use_102 1 rfl rfl ?_
          refine v_iload F dX3_use_103 3 rfl ?_
          refine v_iconst (v := 1) F dX3_use_105 (by decide) ?_
          refine v_iadd F dX3_use_106 ?_
          refine v_aload_n F dX3_use_107 0 rfl rfl ?_
          refine g_X3_9 F r_a h dX3_use_108 (fun b48 r_b48 h => ?_)
          refine v_iload F dX3_use_111 3 rfl ?_
          refine v_cI0 (v_runV F k_X3_65 rfl (c_X6_behind r_b48 h) r_b48 rfl rfl (Nat.le_of_ble_eq_true rfl) ⟨Nat.le_of_ble_eq_true rfl, Nat.le_of_ble_eq_true rfl⟩ (kb_z hk) dX3_use_113) ⟨rfl, rfl⟩ (fun r50 S49 h hE => ?_)
          have r_a := r_a.tr hE
          obtain ⟨k53, g_k53, h⟩ := h
          refine v_cRs (v_runV F k_X3_38 rfl (c_X3_push r_a h) r_a rfl rfl (Nat.le_of_ble_eq_true rfl) ⟨Nat.le_of_ble_eq_true rfl, Nat.le_of_ble_eq_true rfl⟩ (kb_c hk g_k53) dX3_use_116) (fun S51 h hE => ?_) (fun b54 S51 h hE => ?_)
          · have r_a := r_a.tr hE
            have h := h.2.1 rfl
            have hk := kb_n hk g_k53
            refine v_gen (fun n hk => ?_) hk
            refine v_astoreN (lv1 := [(7, .null), (0, .ref a), (1, .int p1), (5, .int x5_43), (6, .int x6_44)]) F dX3_use_119 (by rw [hN]; decide) rfl ?_
            refine v_aloadN F dX3_use_121 0 rfl ?_
            refine v_ifnonnullN F dX3_use_123 ?_
            refine v_aload_n F dX3_use_126 1 rfl rfl ?_
            refine v_iconst (v := 5) F dX3_use_127 (by decide) ?_
            refine v_iload_n F dX3_use_128 2 rfl rfl ?_
            refine v_cI0 (v_runV F k_X3_149 rfl (c_X3_tell r_a h) r_a rfl rfl (Nat.le_of_ble_eq_true rfl) ⟨Nat.le_of_ble_eq_true rfl, Nat.le_of_ble_eq_true rfl⟩ (kb_z hk) dX3_use_129) ⟨rfl, rfl⟩ (fun r56 S55 h hE => ?_)
            obtain ⟨nz_r56, h⟩ := h
            have r_a := r_a.tr hE
            exact v_zret F hQ nz_r56 ⟨nz_r56, h⟩ (kb_ret hk) dX3_use_132
          · have r_a := r_a.tr hE
            have r_b54 := h.1 _ rfl
            have h := h.2.2 _ rfl
            have hk := kb_n hk g_k53
            refine v_gen (fun n hk => ?_) hk
            refine v_astore (lv1 := [(7, .ref b54), (0, .ref a), (1, .int p1), (5, .int x5_43), (6, .int x6_44)]) F dX3_use_119 (by rw [hN]; decide) rfl ?_
            refine v_aload F dX3_use_121 0 rfl ?_
            refine v_ifnonnull (tgt := 133) F dX3_use_123 (by decide) ?_
            refine v_aload F dX3_use_133 0 rfl ?_
            refine v_aload_n F dX3_use_135 1 rfl rfl ?_
            refine g_X3_122 F r_a dX3_use_136 ?_
            refine p_X3_199 F r_b54 h dX3_use_139 (fun S57 h hE => ?_)
            have r_b54 := r_b54.tr hE
            have r_a := r_a.tr hE
            refine v_aload_n F dX3_use_142 1 rfl rfl ?_
            refine v_iload F dX3_use_143 3 rfl ?_
            refine p_X3_122 F r_a h dX3_use_145 (fun S58 h hE => ?_)
            have r_b54 := r_b54.tr hE
            have r_a := r_a.tr hE
            refine v_aload_n F dX3_use_148 1 rfl rfl ?_
            refine v_dup F dX3_use_149 rfl ?_
            refine g_X3_116 F r_a dX3_use_150 ?_
            refine v_iconst (v := 1) F dX3_use_153 (by decide) ?_
            refine v_iadd F dX3_use_154 ?_
            refine p_X3_116 F r_a h dX3_use_155 (fun S59 h hE => ?_)
            have r_b54 := r_b54.tr hE
            have r_a := r_a.tr hE
            refine v_iconst (v := 1) F dX3_use_158 (by decide) ?_
            exact v_zret F hQ (by decide) ⟨nz1, h⟩ (kb_ret hk) dX3_use_159)
        refine v_ifnullN (tgt := 101) F dX3_use_79 (by decide) ?_
        exact v_sub [5, 6, 1, 0] rfl (h r_a _ hk)
      · refine v_aload_n F dX3_use_47 2 rfl rfl ?_
        refine v_aload_n F dX3_use_48 2 rfl rfl ?_
        refine g_X3_122 F r_a dX3_use_49 ?_
        refine v_cRs (v_runV F k_X3_51 rfl (c_X3_frameAt r_a h) r_a rfl rfl (Nat.le_of_ble_eq_true rfl) ⟨Nat.le_of_ble_eq_true rfl, Nat.le_of_ble_eq_true rfl⟩ (kb_z hk) dX3_use_52) (fun S60 h hE => ?_) (fun b62 S60 h hE => ?_)
        · have r_a := r_a.tr hE
          have h := h.2.1 rfl
          refine v_gen (fun n hk => ?_) (kb_00 hk)
          refine v_goto (tgt := 59) F dX3_use_55 (by decide) ?_
          refine v_astoreN (lv1 := [(4, .null), (3, .int r10), (2, .int t4), (0, .ref a), (1, .int p1)]) F dX3_use_59 (by rw [hN]; decide) rfl ?_
          refine v_aload_n F dX3_use_61 3 rfl rfl ?_
          refine g_X3_48 F r_a dX3_use_62 ?_
          refine v_topi (fun v63 e_v63 => ?_)
          have h := h v63 e_v63
          refine v_istore (lv1 := [(5, .int v63), (4, .null), (3, .int r10), (2, .int t4), (0, .ref a), (1, .int p1)]) F dX3_use_65 (by rw [hN]; decide) rfl ?_
          refine v_aload_n F dX3_use_67 4 rfl rfl ?_
          refine g_X3_9 F r_a h dX3_use_68 (fun b64 r_b64 h => ?_)
          refine v_iload_n F dX3_use_71 2 rfl rfl ?_
          refine v_cI0 (v_runV F k_X3_200 rfl (c_X6_namedEntry r_b64 h) r_b64 rfl rfl (Nat.le_of_ble_eq_true rfl) ⟨Nat.le_of_ble_eq_true rfl, Nat.le_of_ble_eq_true rfl⟩ (kb_z hk) dX3_use_72) ⟨rfl, rfl⟩ (fun r66 S65 h hE => ?_)
          have r_a := r_a.tr hE
          refine v_istore (lv1 := [(6, .int r66), (5, .int v63), (4, .null), (3, .int r10), (2, .int t4), (0, .ref a), (1, .int p1)]) F dX3_use_75 (by rw [hN]; decide) rfl ?_
          refine v_aloadN F dX3_use_77 2 rfl ?_
          have h := h (fun (x5_67 : Int32) (x6_68 : Int32) (k71 : Nat × Nat) (S69 : PS) => Rf S69 a 3 → ∀ n : Nat × Nat, (n.1 + k71.1 ≤ k.1 ∧ n.2 + k71.2 ≤ k.2) → VV X n S69 [(0, .ref a), (1, .int p1), (5, .int x5_67), (6, .int x6_68)] [] 101) (by
            intro x5_67 x6_68 k71 S69 h r_a n hk
            refine v_aload_n F dX3_use_101 0 rfl rfl ?_
            refine v_iload_n F dX3_use_102 1 rfl rfl ?_
            refine v_iload F dX3_use_103 3 rfl ?_
            refine v_iconst (v := 1) F dX3_use_105 (by decide) ?_
            refine v_iadd F dX3_use_106 ?_
            refine v_aload_n F dX3_use_107 0 rfl rfl ?_
            refine g_X3_9 F r_a h dX3_use_108 (fun b72 r_b72 h => ?_)
            refine v_iload F dX3_use_111 3 rfl ?_
            refine v_cI0 (v_runV F k_X3_65 rfl (c_X6_behind r_b72 h) r_b72 rfl rfl (Nat.le_of_ble_eq_true rfl) ⟨Nat.le_of_ble_eq_true rfl, Nat.le_of_ble_eq_true rfl⟩ (kb_z hk) dX3_use_113) ⟨rfl, rfl⟩ (fun r74 S73 h hE => ?_)
            have r_a := r_a.tr hE
            obtain ⟨k77, g_k77, h⟩ := h
            refine v_cRs (v_runV F k_X3_38 rfl (c_X3_push r_a h) r_a rfl rfl (Nat.le_of_ble_eq_true rfl) ⟨Nat.le_of_ble_eq_true rfl, Nat.le_of_ble_eq_true rfl⟩ (kb_c hk g_k77) dX3_use_116) (fun S75 h hE => ?_) (fun b78 S75 h hE => ?_)
            · have r_a := r_a.tr hE
              have h := h.2.1 rfl
              have hk := kb_n hk g_k77
              refine v_gen (fun n hk => ?_) hk
              refine v_astoreN (lv1 := [(7, .null), (0, .ref a), (1, .int p1), (5, .int x5_67), (6, .int x6_68)]) F dX3_use_119 (by rw [hN]; decide) rfl ?_
              refine v_aloadN F dX3_use_121 0 rfl ?_
              refine v_ifnonnullN F dX3_use_123 ?_
              refine v_aload_n F dX3_use_126 1 rfl rfl ?_
              refine v_iconst (v := 5) F dX3_use_127 (by decide) ?_
              refine v_iload_n F dX3_use_128 2 rfl rfl ?_
              refine v_cI0 (v_runV F k_X3_149 rfl (c_X3_tell r_a h) r_a rfl rfl (Nat.le_of_ble_eq_true rfl) ⟨Nat.le_of_ble_eq_true rfl, Nat.le_of_ble_eq_true rfl⟩ (kb_z hk) dX3_use_129) ⟨rfl, rfl⟩ (fun r80 S79 h hE => ?_)
              obtain ⟨nz_r80, h⟩ := h
              have r_a := r_a.tr hE
              exact v_zret F hQ nz_r80 ⟨nz_r80, h⟩ (kb_ret hk) dX3_use_132
            · have r_a := r_a.tr hE
              have r_b78 := h.1 _ rfl
              have h := h.2.2 _ rfl
              have hk := kb_n hk g_k77
              refine v_gen (fun n hk => ?_) hk
              refine v_astore (lv1 := [(7, .ref b78), (0, .ref a), (1, .int p1), (5, .int x5_67), (6, .int x6_68)]) F dX3_use_119 (by rw [hN]; decide) rfl ?_
              refine v_aload F dX3_use_121 0 rfl ?_
              refine v_ifnonnull (tgt := 133) F dX3_use_123 (by decide) ?_
              refine v_aload F dX3_use_133 0 rfl ?_
              refine v_aload_n F dX3_use_135 1 rfl rfl ?_
              refine g_X3_122 F r_a dX3_use_136 ?_
              refine p_X3_199 F r_b78 h dX3_use_139 (fun S81 h hE => ?_)
              have r_b78 := r_b78.tr hE
              have r_a := r_a.tr hE
              refine v_aload_n F dX3_use_142 1 rfl rfl ?_
              refine v_iload F dX3_use_143 3 rfl ?_
              refine p_X3_122 F r_a h dX3_use_145 (fun S82 h hE => ?_)
              have r_b78 := r_b78.tr hE
              have r_a := r_a.tr hE
              refine v_aload_n F dX3_use_148 1 rfl rfl ?_
              refine v_dup F dX3_use_149 rfl ?_
              refine g_X3_116 F r_a dX3_use_150 ?_
              refine v_iconst (v := 1) F dX3_use_153 (by decide) ?_
              refine v_iadd F dX3_use_154 ?_
              refine p_X3_116 F r_a h dX3_use_155 (fun S83 h hE => ?_)
              have r_b78 := r_b78.tr hE
              have r_a := r_a.tr hE
              refine v_iconst (v := 1) F dX3_use_158 (by decide) ?_
              exact v_zret F hQ (by decide) ⟨nz1, h⟩ (kb_ret hk) dX3_use_159)
          refine v_ifnullN (tgt := 101) F dX3_use_79 (by decide) ?_
          exact v_sub [5, 6, 1, 0] rfl (h r_a _ hk)
        · have r_a := r_a.tr hE
          have r_b62 := h.1 _ rfl
          have h := h.2.2 _ rfl
          refine v_gen (fun n hk => ?_) (kb_00 hk)
          refine v_goto (tgt := 59) F dX3_use_55 (by decide) ?_
          exact v_sub [2, 3, 0] rfl (h r_a r_b62 _ hk))
    refine v_icmp_ne (tgt := 32) F dX3_use_25 (by decide) h (fun h => ?_) (fun h => ?_)
    · refine v_iconst (v := 0) F dX3_use_32 (by decide) ?_
      exact v_sub [0, 1] rfl (h r_a _ hk)
    · refine v_iconst (v := 1) F dX3_use_28 (by decide) ?_
      refine v_goto (tgt := 33) F dX3_use_29 (by decide) ?_
      exact v_sub [0, 1] rfl (h r_a _ hk)
  · refine v_aload_n F dX3_use_9 0 rfl rfl ?_
    refine v_iconst (v := 5) F dX3_use_10 (by decide) ?_
    refine v_iload_n F dX3_use_11 1 rfl rfl ?_
    refine v_cI0 (v_runV F k_X3_149 rfl (c_X3_tell r_a h) r_a rfl rfl (Nat.le_of_ble_eq_true rfl) ⟨Nat.le_of_ble_eq_true rfl, Nat.le_of_ble_eq_true rfl⟩ (kb_z hk) dX3_use_12) ⟨rfl, rfl⟩ (fun r85 S84 h hE => ?_)
    obtain ⟨nz_r85, h⟩ := h
    have r_a := r_a.tr hE
    exact v_zret F hQ nz_r85 ⟨nz_r85, h⟩ (kb_ret hk) dX3_use_15
theorem dX3_openVoices_0 : decode cX3_openVoices 0 = .ok (.iload_n 1, 1) := by decide +kernel
theorem dX3_openVoices_1 : decode cX3_openVoices 1 = .ok (.iconst 1, 1) := by decide +kernel
theorem dX3_openVoices_2 : decode cX3_openVoices 2 = .ok (.iadd, 1) := by decide +kernel
theorem dX3_openVoices_3 : decode cX3_openVoices 3 = .ok (.istore_n 2, 1) := by decide +kernel
theorem dX3_openVoices_4 : decode cX3_openVoices 4 = .ok (.aload_n 0, 1) := by decide +kernel
theorem dX3_openVoices_5 : decode cX3_openVoices 5 = .ok (.iload_n 1, 1) := by decide +kernel
theorem dX3_openVoices_6 : decode cX3_openVoices 6 = .ok (.iload_n 2, 1) := by decide +kernel
theorem dX3_openVoices_7 : decode cX3_openVoices 7 = .ok (.iconst 1, 1) := by decide +kernel
theorem dX3_openVoices_8 : decode cX3_openVoices 8 = .ok (.iadd, 1) := by decide +kernel
theorem dX3_openVoices_9 : decode cX3_openVoices 9 = .ok (.aload_n 0, 1) := by decide +kernel
theorem dX3_openVoices_10 : decode cX3_openVoices 10 = .ok (.getfield 9, 3) := by decide +kernel
theorem dX3_openVoices_13 : decode cX3_openVoices 13 = .ok (.iload_n 2, 1) := by decide +kernel
theorem dX3_openVoices_14 : decode cX3_openVoices 14 = .ok (.invokevirtual 65, 3) := by decide +kernel
theorem dX3_openVoices_17 : decode cX3_openVoices 17 = .ok (.invokevirtual 38, 3) := by decide +kernel
theorem dX3_openVoices_20 : decode cX3_openVoices 20 = .ok (.astore_n 3, 1) := by decide +kernel
theorem dX3_openVoices_21 : decode cX3_openVoices 21 = .ok (.aload_n 3, 1) := by decide +kernel
theorem dX3_openVoices_22 : decode cX3_openVoices 22 = .ok (.ifnonnull 10, 3) := by decide +kernel
theorem dX3_openVoices_25 : decode cX3_openVoices 25 = .ok (.aload_n 0, 1) := by decide +kernel
theorem dX3_openVoices_26 : decode cX3_openVoices 26 = .ok (.iconst 5, 1) := by decide +kernel
theorem dX3_openVoices_27 : decode cX3_openVoices 27 = .ok (.iload_n 1, 1) := by decide +kernel
theorem dX3_openVoices_28 : decode cX3_openVoices 28 = .ok (.invokevirtual 149, 3) := by decide +kernel
theorem dX3_openVoices_31 : decode cX3_openVoices 31 = .ok (.ireturn, 1) := by decide +kernel
theorem dX3_openVoices_32 : decode cX3_openVoices 32 = .ok (.aload_n 0, 1) := by decide +kernel
theorem dX3_openVoices_33 : decode cX3_openVoices 33 = .ok (.dup, 1) := by decide +kernel
theorem dX3_openVoices_34 : decode cX3_openVoices 34 = .ok (.getfield 119, 3) := by decide +kernel
theorem dX3_openVoices_37 : decode cX3_openVoices 37 = .ok (.iconst 1, 1) := by decide +kernel
theorem dX3_openVoices_38 : decode cX3_openVoices 38 = .ok (.iadd, 1) := by decide +kernel
theorem dX3_openVoices_39 : decode cX3_openVoices 39 = .ok (.putfield 119, 3) := by decide +kernel
theorem dX3_openVoices_42 : decode cX3_openVoices 42 = .ok (.aload_n 3, 1) := by decide +kernel
theorem dX3_openVoices_43 : decode cX3_openVoices 43 = .ok (.aload_n 0, 1) := by decide +kernel
theorem dX3_openVoices_44 : decode cX3_openVoices 44 = .ok (.getfield 83, 3) := by decide +kernel
theorem dX3_openVoices_47 : decode cX3_openVoices 47 = .ok (.putfield 207, 3) := by decide +kernel
theorem dX3_openVoices_50 : decode cX3_openVoices 50 = .ok (.aload_n 3, 1) := by decide +kernel
theorem dX3_openVoices_51 : decode cX3_openVoices 51 = .ok (.aload_n 0, 1) := by decide +kernel
theorem dX3_openVoices_52 : decode cX3_openVoices 52 = .ok (.getfield 86, 3) := by decide +kernel
theorem dX3_openVoices_55 : decode cX3_openVoices 55 = .ok (.putfield 208, 3) := by decide +kernel
theorem dX3_openVoices_58 : decode cX3_openVoices 58 = .ok (.aload_n 3, 1) := by decide +kernel
theorem dX3_openVoices_59 : decode cX3_openVoices 59 = .ok (.aload_n 0, 1) := by decide +kernel
theorem dX3_openVoices_60 : decode cX3_openVoices 60 = .ok (.getfield 92, 3) := by decide +kernel
theorem dX3_openVoices_63 : decode cX3_openVoices 63 = .ok (.putfield 209, 3) := by decide +kernel
theorem dX3_openVoices_66 : decode cX3_openVoices 66 = .ok (.aload_n 3, 1) := by decide +kernel
theorem dX3_openVoices_67 : decode cX3_openVoices 67 = .ok (.aload_n 0, 1) := by decide +kernel
theorem dX3_openVoices_68 : decode cX3_openVoices 68 = .ok (.getfield 95, 3) := by decide +kernel
theorem dX3_openVoices_71 : decode cX3_openVoices 71 = .ok (.putfield 181, 3) := by decide +kernel
theorem dX3_openVoices_74 : decode cX3_openVoices 74 = .ok (.aload_n 3, 1) := by decide +kernel
theorem dX3_openVoices_75 : decode cX3_openVoices 75 = .ok (.ldc2_w 210, 3) := by decide +kernel
theorem dX3_openVoices_78 : decode cX3_openVoices 78 = .ok (.putfield 212, 3) := by decide +kernel
theorem dX3_openVoices_81 : decode cX3_openVoices 81 = .ok (.aload_n 3, 1) := by decide +kernel
theorem dX3_openVoices_82 : decode cX3_openVoices 82 = .ok (.aload_n 0, 1) := by decide +kernel
theorem dX3_openVoices_83 : decode cX3_openVoices 83 = .ok (.getfield 86, 3) := by decide +kernel
theorem dX3_openVoices_86 : decode cX3_openVoices 86 = .ok (.putfield 215, 3) := by decide +kernel
theorem dX3_openVoices_89 : decode cX3_openVoices 89 = .ok (.iconst 1, 1) := by decide +kernel
theorem dX3_openVoices_90 : decode cX3_openVoices 90 = .ok (.ireturn, 1) := by decide +kernel
abbrev rm_X3_openVoices (k : Nat × Nat) : Room := { frames := 3, cells := k.1, slots := k.2, locals := 104 }
def wp_X3_openVoices (a : Nat) (p1 : Int32) (k : Nat × Nat) (S : PS) (Q : Int32 → PS → Prop) : Prop :=
  (∀ v1, v1 = p1 + 1 → (∃ b2, fR S 21 a = some b2 ∧ wp_X6_behind b2 v1 S (fun (r4 : Int32) (S3 : PS) => 
 (∃ k7 : Nat × Nat, (k7.1 ≤ k.1 ∧ k7.2 ≤ k.2) ∧ wp_X3_push a p1 (v1 + 1) r4 k7 S3 (fun (o : Option Nat) (S5 : PS) => (o = none → wp_X3_tell a 5 p1 S5 (fun (r10 : Int32) (S9 : PS) => 
 Q r10 S9)) ∧ ∀ b8, o = some b8 → (∀ S11, S11 = sI S5 38 a ((fI S5 38 a) + 1) → (∀ S12, S12 = sI S11 10 b8 (fI S11 27 a) → (∀ S13, S13 = sL S12 11 b8 (fL S12 28 a) → (∀ S14, S14 = sL S13 12 b8 (fL S13 29 a) → (∀ S15, S15 = sI S14 6 b8 (fI S14 30 a) → (∀ S16, S16 = sL S15 13 b8 (-1) → (∀ S17, S17 = sL S16 16 b8 (fL S16 28 a) → Q 1 S17))))))))))))
set_option maxRecDepth 100000 in
set_option maxHeartbeats 4000000 in
theorem c_X3_openVoices {l : Launch} {E : EE} {A : Nat → Prop} {a : Nat} {p1 : Int32} {k : Nat × Nat} {S : PS} {Q : Int32 → PS → Prop} (r_a : Rf S a 3) (h : wp_X3_openVoices a p1 k S Q) : MtI l yX3_openVoices (.code yX3_openVoices cX3_openVoices 4 (some .boolean)) (rm_X3_openVoices k) E A [.ref a, .int p1] S (fun r S1 => nz r ∧ Q r S1) := by
  refine MtI.of (by decide) (Nat.le_of_ble_eq_true rfl) (fun X F hQ hN => ?_)
  show VV X (0, 0) S [(0, .ref a), (1, .int p1)] [] 0
  generalize hn0 : ((0, 0) : Nat × Nat) = n
  have hk : n.1 + k.1 ≤ k.1 ∧ n.2 + k.2 ≤ k.2 := by subst hn0; exact ⟨by omega, by omega⟩
  unfold wp_X3_openVoices at h
  refine v_iload_n F dX3_openVoices_0 1 rfl rfl ?_
  refine v_iconst (v := 1) F dX3_openVoices_1 (by decide) ?_
  refine v_iadd F dX3_openVoices_2 ?_
  refine v_topi (fun v1 e_v1 => ?_)
  have h := h v1 e_v1
  refine v_istore_n (lv1 := [(2, .int v1), (0, .ref a), (1, .int p1)]) F dX3_openVoices_3 rfl (by rw [hN]; decide) rfl ?_
  refine v_aload_n F dX3_openVoices_4 1 rfl rfl ?_
  refine v_iload_n F dX3_openVoices_5 2 rfl rfl ?_
  refine v_iload_n F dX3_openVoices_6 0 rfl rfl ?_
  refine v_iconst (v := 1) F dX3_openVoices_7 (by decide) ?_
  refine v_iadd F dX3_openVoices_8 ?_
  refine v_aload_n F dX3_openVoices_9 1 rfl rfl ?_
  refine g_X3_9 F r_a h dX3_openVoices_10 (fun b2 r_b2 h => ?_)
  refine v_iload_n F dX3_openVoices_13 0 rfl rfl ?_
  refine v_cI0 (v_runV F k_X3_65 rfl (c_X6_behind r_b2 h) r_b2 rfl rfl (Nat.le_of_ble_eq_true rfl) ⟨Nat.le_of_ble_eq_true rfl, Nat.le_of_ble_eq_true rfl⟩ (kb_z hk) dX3_openVoices_14) ⟨rfl, rfl⟩ (fun r4 S3 h hE => ?_)
  have r_a := r_a.tr hE
  obtain ⟨k7, g_k7, h⟩ := h
  refine v_cRs (v_runV F k_X3_38 rfl (c_X3_push r_a h) r_a rfl rfl (Nat.le_of_ble_eq_true rfl) ⟨Nat.le_of_ble_eq_true rfl, Nat.le_of_ble_eq_true rfl⟩ (kb_c hk g_k7) dX3_openVoices_17) (fun S5 h hE => ?_) (fun b8 S5 h hE => ?_)
  · have r_a := r_a.tr hE
    have h := h.2.1 rfl
    have hk := kb_n hk g_k7
    refine v_gen (fun n hk => ?_) hk
    refine v_astore_nN (lv1 := [(3, .null), (2, .int v1), (0, .ref a), (1, .int p1)]) F dX3_openVoices_20 rfl (by rw [hN]; decide) rfl ?_
    refine v_aload_nN F dX3_openVoices_21 0 rfl rfl ?_
    refine v_ifnonnullN F dX3_openVoices_22 ?_
    refine v_aload_n F dX3_openVoices_25 2 rfl rfl ?_
    refine v_iconst (v := 5) F dX3_openVoices_26 (by decide) ?_
    refine v_iload_n F dX3_openVoices_27 3 rfl rfl ?_
    refine v_cI0 (v_runV F k_X3_149 rfl (c_X3_tell r_a h) r_a rfl rfl (Nat.le_of_ble_eq_true rfl) ⟨Nat.le_of_ble_eq_true rfl, Nat.le_of_ble_eq_true rfl⟩ (kb_z hk) dX3_openVoices_28) ⟨rfl, rfl⟩ (fun r10 S9 h hE => ?_)
    obtain ⟨nz_r10, h⟩ := h
    have r_a := r_a.tr hE
    exact v_zret F hQ nz_r10 ⟨nz_r10, h⟩ (kb_ret hk) dX3_openVoices_31
  · have r_a := r_a.tr hE
    have r_b8 := h.1 _ rfl
    have h := h.2.2 _ rfl
    have hk := kb_n hk g_k7
    refine v_gen (fun n hk => ?_) hk
    refine v_astore_n (lv1 := [(3, .ref b8), (2, .int v1), (0, .ref a), (1, .int p1)]) F dX3_openVoices_20 rfl (by rw [hN]; decide) rfl ?_
    refine v_aload_n F dX3_openVoices_21 0 rfl rfl ?_
    refine v_ifnonnull (tgt := 32) F dX3_openVoices_22 (by decide) ?_
    refine v_aload_n F dX3_openVoices_32 2 rfl rfl ?_
    refine v_dup F dX3_openVoices_33 rfl ?_
    refine g_X3_119 F r_a dX3_openVoices_34 ?_
    refine v_iconst (v := 1) F dX3_openVoices_37 (by decide) ?_
    refine v_iadd F dX3_openVoices_38 ?_
    refine p_X3_119 F r_a h dX3_openVoices_39 (fun S11 h hE => ?_)
    have r_b8 := r_b8.tr hE
    have r_a := r_a.tr hE
    refine v_aload_n F dX3_openVoices_42 0 rfl rfl ?_
    refine v_aload_n F dX3_openVoices_43 2 rfl rfl ?_
    refine g_X3_83 F r_a dX3_openVoices_44 ?_
    refine p_X3_207 F r_b8 h dX3_openVoices_47 (fun S12 h hE => ?_)
    have r_b8 := r_b8.tr hE
    have r_a := r_a.tr hE
    refine v_aload_n F dX3_openVoices_50 0 rfl rfl ?_
    refine v_aload_n F dX3_openVoices_51 2 rfl rfl ?_
    refine g_X3_86 F r_a dX3_openVoices_52 ?_
    refine p_X3_208 F r_b8 h dX3_openVoices_55 (fun S13 h hE => ?_)
    have r_b8 := r_b8.tr hE
    have r_a := r_a.tr hE
    refine v_aload_n F dX3_openVoices_58 0 rfl rfl ?_
    refine v_aload_n F dX3_openVoices_59 2 rfl rfl ?_
    refine g_X3_92 F r_a dX3_openVoices_60 ?_
    refine p_X3_209 F r_b8 h dX3_openVoices_63 (fun S14 h hE => ?_)
    have r_b8 := r_b8.tr hE
    have r_a := r_a.tr hE
    refine v_aload_n F dX3_openVoices_66 0 rfl rfl ?_
    refine v_aload_n F dX3_openVoices_67 2 rfl rfl ?_
    refine g_X3_95 F r_a dX3_openVoices_68 ?_
    refine p_X3_181 F r_b8 h dX3_openVoices_71 (fun S15 h hE => ?_)
    have r_b8 := r_b8.tr hE
    have r_a := r_a.tr hE
    refine v_aload_n F dX3_openVoices_74 0 rfl rfl ?_
    refine v_ldc2 F kc_X3_210 dX3_openVoices_75 ?_
    refine p_X3_212 F r_b8 h dX3_openVoices_78 (fun S16 h hE => ?_)
    have r_b8 := r_b8.tr hE
    have r_a := r_a.tr hE
    refine v_aload_n F dX3_openVoices_81 0 rfl rfl ?_
    refine v_aload_n F dX3_openVoices_82 2 rfl rfl ?_
    refine g_X3_86 F r_a dX3_openVoices_83 ?_
    refine p_X3_215 F r_b8 h dX3_openVoices_86 (fun S17 h hE => ?_)
    have r_b8 := r_b8.tr hE
    have r_a := r_a.tr hE
    refine v_iconst (v := 1) F dX3_openVoices_89 (by decide) ?_
    exact v_zret F hQ (by decide) ⟨nz1, h⟩ (kb_ret hk) dX3_openVoices_90
theorem dX3_begin_0 : decode cX3_begin 0 = .ok (.aload_n 0, 1) := by decide +kernel
theorem dX3_begin_1 : decode cX3_begin 1 = .ok (.getfield 9, 3) := by decide +kernel
theorem dX3_begin_4 : decode cX3_begin 4 = .ok (.iload_n 1, 1) := by decide +kernel
theorem dX3_begin_5 : decode cX3_begin 5 = .ok (.invokevirtual 150, 3) := by decide +kernel
theorem dX3_begin_8 : decode cX3_begin 8 = .ok (.lookupswitch 157 #[(36, 139), (61, 92), (76, 151), (77, 127), (82, 151), (84, 151), (87, 133), (88, 151), (91, 145), (124, 94)], 92) := by decide +kernel
theorem dX3_begin_100 : decode cX3_begin 100 = .ok (.iconst 1, 1) := by decide +kernel
theorem dX3_begin_101 : decode cX3_begin 101 = .ok (.ireturn, 1) := by decide +kernel
theorem dX3_begin_102 : decode cX3_begin 102 = .ok (.aload_n 0, 1) := by decide +kernel
theorem dX3_begin_103 : decode cX3_begin 103 = .ok (.getfield 25, 3) := by decide +kernel
theorem dX3_begin_106 : decode cX3_begin 106 = .ok (.getfield 153, 3) := by decide +kernel
theorem dX3_begin_109 : decode cX3_begin 109 = .ok (.aload_n 0, 1) := by decide +kernel
theorem dX3_begin_110 : decode cX3_begin 110 = .ok (.getfield 86, 3) := by decide +kernel
theorem dX3_begin_113 : decode cX3_begin 113 = .ok (.invokevirtual 157, 3) := by decide +kernel
theorem dX3_begin_116 : decode cX3_begin 116 = .ok (.ifCond .ne 13, 3) := by decide +kernel
theorem dX3_begin_119 : decode cX3_begin 119 = .ok (.aload_n 0, 1) := by decide +kernel
theorem dX3_begin_120 : decode cX3_begin 120 = .ok (.bipush 7, 2) := by decide +kernel
theorem dX3_begin_122 : decode cX3_begin 122 = .ok (.iload_n 1, 1) := by decide +kernel
theorem dX3_begin_123 : decode cX3_begin 123 = .ok (.invokevirtual 149, 3) := by decide +kernel
theorem dX3_begin_126 : decode cX3_begin 126 = .ok (.ifCond .eq 7, 3) := by decide +kernel
theorem dX3_begin_129 : decode cX3_begin 129 = .ok (.iconst 1, 1) := by decide +kernel
theorem dX3_begin_130 : decode cX3_begin 130 = .ok (.goto 4, 3) := by decide +kernel
theorem dX3_begin_133 : decode cX3_begin 133 = .ok (.iconst 0, 1) := by decide +kernel
theorem dX3_begin_134 : decode cX3_begin 134 = .ok (.ireturn, 1) := by decide +kernel
theorem dX3_begin_135 : decode cX3_begin 135 = .ok (.aload_n 0, 1) := by decide +kernel
theorem dX3_begin_136 : decode cX3_begin 136 = .ok (.iload_n 1, 1) := by decide +kernel
theorem dX3_begin_137 : decode cX3_begin 137 = .ok (.invokevirtual 163, 3) := by decide +kernel
theorem dX3_begin_140 : decode cX3_begin 140 = .ok (.ireturn, 1) := by decide +kernel
theorem dX3_begin_141 : decode cX3_begin 141 = .ok (.aload_n 0, 1) := by decide +kernel
theorem dX3_begin_142 : decode cX3_begin 142 = .ok (.iload_n 1, 1) := by decide +kernel
theorem dX3_begin_143 : decode cX3_begin 143 = .ok (.invokevirtual 166, 3) := by decide +kernel
theorem dX3_begin_146 : decode cX3_begin 146 = .ok (.ireturn, 1) := by decide +kernel
theorem dX3_begin_147 : decode cX3_begin 147 = .ok (.aload_n 0, 1) := by decide +kernel
theorem dX3_begin_148 : decode cX3_begin 148 = .ok (.iload_n 1, 1) := by decide +kernel
theorem dX3_begin_149 : decode cX3_begin 149 = .ok (.invokevirtual 169, 3) := by decide +kernel
theorem dX3_begin_152 : decode cX3_begin 152 = .ok (.ireturn, 1) := by decide +kernel
theorem dX3_begin_153 : decode cX3_begin 153 = .ok (.aload_n 0, 1) := by decide +kernel
theorem dX3_begin_154 : decode cX3_begin 154 = .ok (.iload_n 1, 1) := by decide +kernel
theorem dX3_begin_155 : decode cX3_begin 155 = .ok (.invokevirtual 172, 3) := by decide +kernel
theorem dX3_begin_158 : decode cX3_begin 158 = .ok (.ireturn, 1) := by decide +kernel
theorem dX3_begin_159 : decode cX3_begin 159 = .ok (.aload_n 0, 1) := by decide +kernel
theorem dX3_begin_160 : decode cX3_begin 160 = .ok (.iload_n 1, 1) := by decide +kernel
theorem dX3_begin_161 : decode cX3_begin 161 = .ok (.invokevirtual 175, 3) := by decide +kernel
theorem dX3_begin_164 : decode cX3_begin 164 = .ok (.ireturn, 1) := by decide +kernel
theorem dX3_begin_165 : decode cX3_begin 165 = .ok (.aload_n 0, 1) := by decide +kernel
theorem dX3_begin_166 : decode cX3_begin 166 = .ok (.iload_n 1, 1) := by decide +kernel
theorem dX3_begin_167 : decode cX3_begin 167 = .ok (.invokevirtual 178, 3) := by decide +kernel
theorem dX3_begin_170 : decode cX3_begin 170 = .ok (.ireturn, 1) := by decide +kernel
abbrev rm_X3_begin (k : Nat × Nat) : Room := { frames := 5, cells := k.1, slots := k.2, locals := 162 }
def wp_X3_begin (a : Nat) (p1 : Int32) (k : Nat × Nat) (S : PS) (Q : Int32 → PS → Prop) : Prop :=
  (∃ b1, fR S 21 a = some b1 ∧ wp_X6_kindOf b1 p1 S (fun (r3 : Int32) (S2 : PS) => 
 (if r3 = 36 then
 (∃ k6 : Nat × Nat, (k6.1 ≤ k.1 ∧ k6.2 ≤ k.2) ∧ wp_X3_use a p1 k6 S2 (fun (r5 : Int32) (S4 : PS) => 
 Q r5 S4))
 else (if r3 = 61 then
 Q 1 S2
 else (if r3 = 76 then
 (∃ k11 : Nat × Nat, (k11.1 ≤ k.1 ∧ k11.2 ≤ k.2) ∧ wp_X3_openBlock a p1 k11 S2 (fun (r10 : Int32) (S9 : PS) => 
 Q r10 S9))
 else (if r3 = 77 then
 wp_X3_changeMeter a p1 S2 (fun (r14 : Int32) (S13 : PS) => 
 Q r14 S13)
 else (if r3 = 82 then
 (∃ k18 : Nat × Nat, (k18.1 ≤ k.1 ∧ k18.2 ≤ k.2) ∧ wp_X3_openBlock a p1 k18 S2 (fun (r17 : Int32) (S16 : PS) => 
 Q r17 S16))
 else (if r3 = 84 then
 (∃ k22 : Nat × Nat, (k22.1 ≤ k.1 ∧ k22.2 ≤ k.2) ∧ wp_X3_openBlock a p1 k22 S2 (fun (r21 : Int32) (S20 : PS) => 
 Q r21 S20))
 else (if r3 = 87 then
 wp_X3_sing a p1 S2 (fun (r25 : Int32) (S24 : PS) => 
 Q r25 S24)
 else (if r3 = 88 then
 (∃ k29 : Nat × Nat, (k29.1 ≤ k.1 ∧ k29.2 ≤ k.2) ∧ wp_X3_openBlock a p1 k29 S2 (fun (r28 : Int32) (S27 : PS) => 
 Q r28 S27))
 else (if r3 = 91 then
 (∃ k33 : Nat × Nat, (k33.1 ≤ k.1 ∧ k33.2 ≤ k.2) ∧ wp_X3_openVoices a p1 k33 S2 (fun (r32 : Int32) (S31 : PS) => 
 Q r32 S31))
 else (if r3 = 124 then
 (∃ b35, fR S2 25 a = some b35 ∧ (∃ b36, fR S2 83 b35 = some b36 ∧ wp_X2_beginsBar b36 (fL S2 28 a) S2 (fun (r38 : Int32) (S37 : PS) => 
 (if r38 = 0 then
 wp_X3_tell a 7 p1 S37 (fun (r40 : Int32) (S39 : PS) => 
 (if r40 = 0 then
 Q 0 S39
 else
 Q 1 S39))
 else
 Q 1 S37))))
 else wp_X3_sound a p1 S2 (fun (r43 : Int32) (S42 : PS) => 
 Q r43 S42)))))))))))))
set_option maxRecDepth 100000 in
set_option maxHeartbeats 4000000 in
theorem c_X3_begin {l : Launch} {E : EE} {A : Nat → Prop} {a : Nat} {p1 : Int32} {k : Nat × Nat} {S : PS} {Q : Int32 → PS → Prop} (hH : hasHT E) (r_a : Rf S a 3) (h : wp_X3_begin a p1 k S Q) : MtI l yX3_begin (.code yX3_begin cX3_begin 2 (some .boolean)) (rm_X3_begin k) E A [.ref a, .int p1] S (fun r S1 => nz r ∧ Q r S1) := by
  refine MtI.of2 (by decide) (Nat.le_of_ble_eq_true rfl) (fun X F hQ hX => ?_)
  show VV X (0, 0) S [(0, .ref a), (1, .int p1)] [] 0
  obtain ⟨hXl, hXE, hXA, hN, hnm⟩ := hX
  subst hXE
  subst hXA
  subst hXl
  generalize hn0 : ((0, 0) : Nat × Nat) = n
  have hk : n.1 + k.1 ≤ k.1 ∧ n.2 + k.2 ≤ k.2 := by subst hn0; exact ⟨by omega, by omega⟩
  unfold wp_X3_begin at h
  refine v_aload_n F dX3_begin_0 0 rfl rfl ?_
  refine g_X3_9 F r_a h dX3_begin_1 (fun b1 r_b1 h => ?_)
  refine v_iload_n F dX3_begin_4 1 rfl rfl ?_
  refine v_cI0 (v_runV F k_X3_150 rfl (c_X6_kindOf r_b1 h) r_b1 rfl rfl (Nat.le_of_ble_eq_true rfl) ⟨Nat.le_of_ble_eq_true rfl, Nat.le_of_ble_eq_true rfl⟩ (kb_z hk) dX3_begin_5) ⟨rfl, rfl⟩ (fun r3 S2 h hE => ?_)
  have r_a := r_a.tr hE
  refine v_case h (fun e7 h => ?_) (fun e7 h => ?_)
  · refine v_lookupL (l := [(36, 139), (61, 92), (76, 151), (77, 127), (82, 151), (84, 151), (87, 133), (88, 151), (91, 145), (124, 94)]) (off := 139) (tgt := 147) F dX3_begin_8 rfl (by decide) (by rw [e7] <;> rfl) (by decide) ?_
    refine v_aload_n F dX3_begin_147 0 rfl rfl ?_
    refine v_iload_n F dX3_begin_148 1 rfl rfl ?_
    obtain ⟨k6, g_k6, h⟩ := h
    refine v_cI (v_runV F k_X3_169 rfl (c_X3_use r_a h) r_a rfl rfl (Nat.le_of_ble_eq_true rfl) ⟨Nat.le_of_ble_eq_true rfl, Nat.le_of_ble_eq_true rfl⟩ (kb_c hk g_k6) dX3_begin_149) (fun r5 S4 h hE => ?_)
    obtain ⟨nz_r5, h⟩ := h
    have r_a := r_a.tr hE
    have hk := kb_n hk g_k6
    refine v_gen (fun n hk => ?_) hk
    exact v_zret F hQ nz_r5 ⟨nz_r5, h⟩ (kb_ret hk) dX3_begin_152
  refine v_case h (fun e8 h => ?_) (fun e8 h => ?_)
  · refine v_lookupL (l := [(36, 139), (61, 92), (76, 151), (77, 127), (82, 151), (84, 151), (87, 133), (88, 151), (91, 145), (124, 94)]) (off := 92) (tgt := 100) F dX3_begin_8 rfl (by decide) (by rw [e8] <;> rfl) (by decide) ?_
    refine v_iconst (v := 1) F dX3_begin_100 (by decide) ?_
    exact v_zret F hQ (by decide) ⟨nz1, h⟩ (kb_ret hk) dX3_begin_101
  refine v_case h (fun e12 h => ?_) (fun e12 h => ?_)
  · refine v_lookupL (l := [(36, 139), (61, 92), (76, 151), (77, 127), (82, 151), (84, 151), (87, 133), (88, 151), (91, 145), (124, 94)]) (off := 151) (tgt := 159) F dX3_begin_8 rfl (by decide) (by rw [e12] <;> rfl) (by decide) ?_
    refine v_aload_n F dX3_begin_159 0 rfl rfl ?_
    refine v_iload_n F dX3_begin_160 1 rfl rfl ?_
    obtain ⟨k11, g_k11, h⟩ := h
    refine v_cI (v_runV F k_X3_175 rfl (c_X3_openBlock r_a h) r_a rfl rfl (Nat.le_of_ble_eq_true rfl) ⟨Nat.le_of_ble_eq_true rfl, Nat.le_of_ble_eq_true rfl⟩ (kb_c hk g_k11) dX3_begin_161) (fun r10 S9 h hE => ?_)
    obtain ⟨nz_r10, h⟩ := h
    have r_a := r_a.tr hE
    have hk := kb_n hk g_k11
    refine v_gen (fun n hk => ?_) hk
    exact v_zret F hQ nz_r10 ⟨nz_r10, h⟩ (kb_ret hk) dX3_begin_164
  refine v_case h (fun e15 h => ?_) (fun e15 h => ?_)
  · refine v_lookupL (l := [(36, 139), (61, 92), (76, 151), (77, 127), (82, 151), (84, 151), (87, 133), (88, 151), (91, 145), (124, 94)]) (off := 127) (tgt := 135) F dX3_begin_8 rfl (by decide) (by rw [e15] <;> rfl) (by decide) ?_
    refine v_aload_n F dX3_begin_135 0 rfl rfl ?_
    refine v_iload_n F dX3_begin_136 1 rfl rfl ?_
    refine v_cI0 (v_runV F k_X3_163 rfl (c_X3_changeMeter r_a h) r_a rfl rfl (Nat.le_of_ble_eq_true rfl) ⟨Nat.le_of_ble_eq_true rfl, Nat.le_of_ble_eq_true rfl⟩ (kb_z hk) dX3_begin_137) ⟨rfl, rfl⟩ (fun r14 S13 h hE => ?_)
    obtain ⟨nz_r14, h⟩ := h
    have r_a := r_a.tr hE
    exact v_zret F hQ nz_r14 ⟨nz_r14, h⟩ (kb_ret hk) dX3_begin_140
  refine v_case h (fun e19 h => ?_) (fun e19 h => ?_)
  · refine v_lookupL (l := [(36, 139), (61, 92), (76, 151), (77, 127), (82, 151), (84, 151), (87, 133), (88, 151), (91, 145), (124, 94)]) (off := 151) (tgt := 159) F dX3_begin_8 rfl (by decide) (by rw [e19] <;> rfl) (by decide) ?_
    refine v_aload_n F dX3_begin_159 0 rfl rfl ?_
    refine v_iload_n F dX3_begin_160 1 rfl rfl ?_
    obtain ⟨k18, g_k18, h⟩ := h
    refine v_cI (v_runV F k_X3_175 rfl (c_X3_openBlock r_a h) r_a rfl rfl (Nat.le_of_ble_eq_true rfl) ⟨Nat.le_of_ble_eq_true rfl, Nat.le_of_ble_eq_true rfl⟩ (kb_c hk g_k18) dX3_begin_161) (fun r17 S16 h hE => ?_)
    obtain ⟨nz_r17, h⟩ := h
    have r_a := r_a.tr hE
    have hk := kb_n hk g_k18
    refine v_gen (fun n hk => ?_) hk
    exact v_zret F hQ nz_r17 ⟨nz_r17, h⟩ (kb_ret hk) dX3_begin_164
  refine v_case h (fun e23 h => ?_) (fun e23 h => ?_)
  · refine v_lookupL (l := [(36, 139), (61, 92), (76, 151), (77, 127), (82, 151), (84, 151), (87, 133), (88, 151), (91, 145), (124, 94)]) (off := 151) (tgt := 159) F dX3_begin_8 rfl (by decide) (by rw [e23] <;> rfl) (by decide) ?_
    refine v_aload_n F dX3_begin_159 0 rfl rfl ?_
    refine v_iload_n F dX3_begin_160 1 rfl rfl ?_
    obtain ⟨k22, g_k22, h⟩ := h
    refine v_cI (v_runV F k_X3_175 rfl (c_X3_openBlock r_a h) r_a rfl rfl (Nat.le_of_ble_eq_true rfl) ⟨Nat.le_of_ble_eq_true rfl, Nat.le_of_ble_eq_true rfl⟩ (kb_c hk g_k22) dX3_begin_161) (fun r21 S20 h hE => ?_)
    obtain ⟨nz_r21, h⟩ := h
    have r_a := r_a.tr hE
    have hk := kb_n hk g_k22
    refine v_gen (fun n hk => ?_) hk
    exact v_zret F hQ nz_r21 ⟨nz_r21, h⟩ (kb_ret hk) dX3_begin_164
  refine v_case h (fun e26 h => ?_) (fun e26 h => ?_)
  · refine v_lookupL (l := [(36, 139), (61, 92), (76, 151), (77, 127), (82, 151), (84, 151), (87, 133), (88, 151), (91, 145), (124, 94)]) (off := 133) (tgt := 141) F dX3_begin_8 rfl (by decide) (by rw [e26] <;> rfl) (by decide) ?_
    refine v_aload_n F dX3_begin_141 0 rfl rfl ?_
    refine v_iload_n F dX3_begin_142 1 rfl rfl ?_
    refine v_cI0 (v_runV F k_X3_166 rfl (c_X3_sing r_a h) r_a rfl rfl (Nat.le_of_ble_eq_true rfl) ⟨Nat.le_of_ble_eq_true rfl, Nat.le_of_ble_eq_true rfl⟩ (kb_z hk) dX3_begin_143) ⟨rfl, rfl⟩ (fun r25 S24 h hE => ?_)
    obtain ⟨nz_r25, h⟩ := h
    have r_a := r_a.tr hE
    exact v_zret F hQ nz_r25 ⟨nz_r25, h⟩ (kb_ret hk) dX3_begin_146
  refine v_case h (fun e30 h => ?_) (fun e30 h => ?_)
  · refine v_lookupL (l := [(36, 139), (61, 92), (76, 151), (77, 127), (82, 151), (84, 151), (87, 133), (88, 151), (91, 145), (124, 94)]) (off := 151) (tgt := 159) F dX3_begin_8 rfl (by decide) (by rw [e30] <;> rfl) (by decide) ?_
    refine v_aload_n F dX3_begin_159 0 rfl rfl ?_
    refine v_iload_n F dX3_begin_160 1 rfl rfl ?_
    obtain ⟨k29, g_k29, h⟩ := h
    refine v_cI (v_runV F k_X3_175 rfl (c_X3_openBlock r_a h) r_a rfl rfl (Nat.le_of_ble_eq_true rfl) ⟨Nat.le_of_ble_eq_true rfl, Nat.le_of_ble_eq_true rfl⟩ (kb_c hk g_k29) dX3_begin_161) (fun r28 S27 h hE => ?_)
    obtain ⟨nz_r28, h⟩ := h
    have r_a := r_a.tr hE
    have hk := kb_n hk g_k29
    refine v_gen (fun n hk => ?_) hk
    exact v_zret F hQ nz_r28 ⟨nz_r28, h⟩ (kb_ret hk) dX3_begin_164
  refine v_case h (fun e34 h => ?_) (fun e34 h => ?_)
  · refine v_lookupL (l := [(36, 139), (61, 92), (76, 151), (77, 127), (82, 151), (84, 151), (87, 133), (88, 151), (91, 145), (124, 94)]) (off := 145) (tgt := 153) F dX3_begin_8 rfl (by decide) (by rw [e34] <;> rfl) (by decide) ?_
    refine v_aload_n F dX3_begin_153 0 rfl rfl ?_
    refine v_iload_n F dX3_begin_154 1 rfl rfl ?_
    obtain ⟨k33, g_k33, h⟩ := h
    refine v_cI (v_runV F k_X3_172 rfl (c_X3_openVoices r_a h) r_a rfl rfl (Nat.le_of_ble_eq_true rfl) ⟨Nat.le_of_ble_eq_true rfl, Nat.le_of_ble_eq_true rfl⟩ (kb_c hk g_k33) dX3_begin_155) (fun r32 S31 h hE => ?_)
    obtain ⟨nz_r32, h⟩ := h
    have r_a := r_a.tr hE
    have hk := kb_n hk g_k33
    refine v_gen (fun n hk => ?_) hk
    exact v_zret F hQ nz_r32 ⟨nz_r32, h⟩ (kb_ret hk) dX3_begin_158
  refine v_case h (fun e41 h => ?_) (fun e41 h => ?_)
  · refine v_lookupL (l := [(36, 139), (61, 92), (76, 151), (77, 127), (82, 151), (84, 151), (87, 133), (88, 151), (91, 145), (124, 94)]) (off := 94) (tgt := 102) F dX3_begin_8 rfl (by decide) (by rw [e41] <;> rfl) (by decide) ?_
    refine v_aload_n F dX3_begin_102 0 rfl rfl ?_
    refine g_X3_25 F r_a h dX3_begin_103 (fun b35 r_b35 h => ?_)
    refine g_X3_153 F r_b35 h dX3_begin_106 (fun b36 r_b36 h => ?_)
    refine v_aload_n F dX3_begin_109 0 rfl rfl ?_
    refine g_X3_86 F r_a dX3_begin_110 ?_
    refine v_cI0 (v_runV F k_X3_157 rfl (c_X2_beginsBar r_b36 h) r_b36 rfl rfl (Nat.le_of_ble_eq_true rfl) ⟨Nat.le_of_ble_eq_true rfl, Nat.le_of_ble_eq_true rfl⟩ (kb_z hk) dX3_begin_113) ⟨rfl, rfl⟩ (fun r38 S37 h hE => ?_)
    obtain ⟨nz_r38, h⟩ := h
    have r_a := r_a.tr hE
    refine v_if_ne (tgt := 129) F dX3_begin_116 (by decide) h (fun h => ?_) (fun h => ?_)
    · refine v_iconst (v := 1) F dX3_begin_129 (by decide) ?_
      refine v_goto (tgt := 134) F dX3_begin_130 (by decide) ?_
      exact v_zret F hQ (by decide) ⟨nz1, h⟩ (kb_ret hk) dX3_begin_134
    · refine v_aload_n F dX3_begin_119 0 rfl rfl ?_
      refine v_bipush (v := 7) F dX3_begin_120 (by decide) ?_
      refine v_iload_n F dX3_begin_122 1 rfl rfl ?_
      refine v_cI0 (v_runV F k_X3_149 rfl (c_X3_tell r_a h) r_a rfl rfl (Nat.le_of_ble_eq_true rfl) ⟨Nat.le_of_ble_eq_true rfl, Nat.le_of_ble_eq_true rfl⟩ (kb_z hk) dX3_begin_123) ⟨rfl, rfl⟩ (fun r40 S39 h hE => ?_)
      obtain ⟨nz_r40, h⟩ := h
      have r_a := r_a.tr hE
      refine v_if_eq (tgt := 133) F dX3_begin_126 (by decide) h (fun h => ?_) (fun h => ?_)
      · refine v_iconst (v := 0) F dX3_begin_133 (by decide) ?_
        exact v_zret F hQ (by decide) ⟨nz0, h⟩ (kb_ret hk) dX3_begin_134
      · refine v_iconst (v := 1) F dX3_begin_129 (by decide) ?_
        refine v_goto (tgt := 134) F dX3_begin_130 (by decide) ?_
        exact v_zret F hQ (by decide) ⟨nz1, h⟩ (kb_ret hk) dX3_begin_134
  refine v_lookupL (l := [(36, 139), (61, 92), (76, 151), (77, 127), (82, 151), (84, 151), (87, 133), (88, 151), (91, 145), (124, 94)]) (off := 157) (tgt := 165) F dX3_begin_8 rfl (by decide) (by rw [lv_osw (a := 36) e7 rfl, lv_osw (a := 61) e8 rfl, lv_osw (a := 76) e12 rfl, lv_osw (a := 77) e15 rfl, lv_osw (a := 82) e19 rfl, lv_osw (a := 84) e23 rfl, lv_osw (a := 87) e26 rfl, lv_osw (a := 88) e30 rfl, lv_osw (a := 91) e34 rfl, lv_osw (a := 124) e41 rfl]; rfl) (by decide) ?_
  refine v_aload_n F dX3_begin_165 0 rfl rfl ?_
  refine v_iload_n F dX3_begin_166 1 rfl rfl ?_
  refine v_cI0 (v_runV F k_X3_178 rfl (c_X3_sound hH r_a h) r_a rfl rfl (Nat.le_of_ble_eq_true rfl) ⟨Nat.le_of_ble_eq_true rfl, Nat.le_of_ble_eq_true rfl⟩ (kb_z hk) dX3_begin_167) ⟨rfl, rfl⟩ (fun r43 S42 h hE => ?_)
  obtain ⟨nz_r43, h⟩ := h
  have r_a := r_a.tr hE
  exact v_zret F hQ nz_r43 ⟨nz_r43, h⟩ (kb_ret hk) dX3_begin_170
theorem dX3_perform_0 : decode cX3_perform 0 = .ok (.aload_n 0, 1) := by decide +kernel
theorem dX3_perform_1 : decode cX3_perform 1 = .ok (.aload_n 1, 1) := by decide +kernel
theorem dX3_perform_2 : decode cX3_perform 2 = .ok (.putfield 25, 3) := by decide +kernel
theorem dX3_perform_5 : decode cX3_perform 5 = .ok (.aload_n 0, 1) := by decide +kernel
theorem dX3_perform_6 : decode cX3_perform 6 = .ok (.invokevirtual 29, 3) := by decide +kernel
theorem dX3_perform_9 : decode cX3_perform 9 = .ok (.aload_n 1, 1) := by decide +kernel
theorem dX3_perform_10 : decode cX3_perform 10 = .ok (.ifnull 19, 3) := by decide +kernel
theorem dX3_perform_13 : decode cX3_perform 13 = .ok (.aload_n 0, 1) := by decide +kernel
theorem dX3_perform_14 : decode cX3_perform 14 = .ok (.iconst (-1), 1) := by decide +kernel
theorem dX3_perform_15 : decode cX3_perform 15 = .ok (.iconst 0, 1) := by decide +kernel
theorem dX3_perform_16 : decode cX3_perform 16 = .ok (.aload_n 0, 1) := by decide +kernel
theorem dX3_perform_17 : decode cX3_perform 17 = .ok (.getfield 9, 3) := by decide +kernel
theorem dX3_perform_20 : decode cX3_perform 20 = .ok (.getfield 32, 3) := by decide +kernel
theorem dX3_perform_23 : decode cX3_perform 23 = .ok (.invokevirtual 38, 3) := by decide +kernel
theorem dX3_perform_26 : decode cX3_perform 26 = .ok (.ifnonnull 13, 3) := by decide +kernel
theorem dX3_perform_29 : decode cX3_perform 29 = .ok (.aload_n 0, 1) := by decide +kernel
theorem dX3_perform_30 : decode cX3_perform 30 = .ok (.getfield 15, 3) := by decide +kernel
theorem dX3_perform_33 : decode cX3_perform 33 = .ok (.iconst 5, 1) := by decide +kernel
theorem dX3_perform_34 : decode cX3_perform 34 = .ok (.iconst 0, 1) := by decide +kernel
theorem dX3_perform_35 : decode cX3_perform 35 = .ok (.invokevirtual 42, 3) := by decide +kernel
theorem dX3_perform_38 : decode cX3_perform 38 = .ok (.ireturn, 1) := by decide +kernel
theorem dX3_perform_39 : decode cX3_perform 39 = .ok (.iconst 0, 1) := by decide +kernel
theorem dX3_perform_40 : decode cX3_perform 40 = .ok (.istore_n 2, 1) := by decide +kernel
theorem dX3_perform_41 : decode cX3_perform 41 = .ok (.iload_n 2, 1) := by decide +kernel
theorem dX3_perform_42 : decode cX3_perform 42 = .ok (.sipush 12000, 3) := by decide +kernel
theorem dX3_perform_45 : decode cX3_perform 45 = .ok (.if_icmp .ge 92, 3) := by decide +kernel
theorem dX3_perform_48 : decode cX3_perform 48 = .ok (.aload_n 0, 1) := by decide +kernel
theorem dX3_perform_49 : decode cX3_perform 49 = .ok (.aload_n 0, 1) := by decide +kernel
theorem dX3_perform_50 : decode cX3_perform 50 = .ok (.getfield 48, 3) := by decide +kernel
theorem dX3_perform_53 : decode cX3_perform 53 = .ok (.iconst 1, 1) := by decide +kernel
theorem dX3_perform_54 : decode cX3_perform 54 = .ok (.isub, 1) := by decide +kernel
theorem dX3_perform_55 : decode cX3_perform 55 = .ok (.invokevirtual 51, 3) := by decide +kernel
theorem dX3_perform_58 : decode cX3_perform 58 = .ok (.astore_n 3, 1) := by decide +kernel
theorem dX3_perform_59 : decode cX3_perform 59 = .ok (.aload_n 3, 1) := by decide +kernel
theorem dX3_perform_60 : decode cX3_perform 60 = .ok (.ifnonnull 8, 3) := by decide +kernel
theorem dX3_perform_63 : decode cX3_perform 63 = .ok (.aload_n 0, 1) := by decide +kernel
theorem dX3_perform_64 : decode cX3_perform 64 = .ok (.invokevirtual 55, 3) := by decide +kernel
theorem dX3_perform_67 : decode cX3_perform 67 = .ok (.ireturn, 1) := by decide +kernel
theorem dX3_perform_68 : decode cX3_perform 68 = .ok (.aload_n 3, 1) := by decide +kernel
theorem dX3_perform_69 : decode cX3_perform 69 = .ok (.getfield 59, 3) := by decide +kernel
theorem dX3_perform_72 : decode cX3_perform 72 = .ok (.aload_n 3, 1) := by decide +kernel
theorem dX3_perform_73 : decode cX3_perform 73 = .ok (.getfield 62, 3) := by decide +kernel
theorem dX3_perform_76 : decode cX3_perform 76 = .ok (.if_icmp .ge 45, 3) := by decide +kernel
theorem dX3_perform_79 : decode cX3_perform 79 = .ok (.aload_n 3, 1) := by decide +kernel
theorem dX3_perform_80 : decode cX3_perform 80 = .ok (.getfield 59, 3) := by decide +kernel
theorem dX3_perform_83 : decode cX3_perform 83 = .ok (.istore 4, 2) := by decide +kernel
theorem dX3_perform_85 : decode cX3_perform 85 = .ok (.aload_n 3, 1) := by decide +kernel
theorem dX3_perform_86 : decode cX3_perform 86 = .ok (.aload_n 0, 1) := by decide +kernel
theorem dX3_perform_87 : decode cX3_perform 87 = .ok (.getfield 9, 3) := by decide +kernel
theorem dX3_perform_90 : decode cX3_perform 90 = .ok (.iload 4, 2) := by decide +kernel
theorem dX3_perform_92 : decode cX3_perform 92 = .ok (.invokevirtual 65, 3) := by decide +kernel
theorem dX3_perform_95 : decode cX3_perform 95 = .ok (.putfield 59, 3) := by decide +kernel
theorem dX3_perform_98 : decode cX3_perform 98 = .ok (.aload_n 0, 1) := by decide +kernel
theorem dX3_perform_99 : decode cX3_perform 99 = .ok (.iload 4, 2) := by decide +kernel
theorem dX3_perform_101 : decode cX3_perform 101 = .ok (.invokevirtual 69, 3) := by decide +kernel
theorem dX3_perform_104 : decode cX3_perform 104 = .ok (.ifCond .eq 12, 3) := by decide +kernel
theorem dX3_perform_107 : decode cX3_perform 107 = .ok (.aload_n 0, 1) := by decide +kernel
theorem dX3_perform_108 : decode cX3_perform 108 = .ok (.iload 4, 2) := by decide +kernel
theorem dX3_perform_110 : decode cX3_perform 110 = .ok (.invokevirtual 73, 3) := by decide +kernel
theorem dX3_perform_113 : decode cX3_perform 113 = .ok (.ifCond .ne 5, 3) := by decide +kernel
theorem dX3_perform_116 : decode cX3_perform 116 = .ok (.iconst 0, 1) := by decide +kernel
theorem dX3_perform_117 : decode cX3_perform 117 = .ok (.ireturn, 1) := by decide +kernel
theorem dX3_perform_118 : decode cX3_perform 118 = .ok (.goto 13, 3) := by decide +kernel
theorem dX3_perform_121 : decode cX3_perform 121 = .ok (.aload_n 0, 1) := by decide +kernel
theorem dX3_perform_122 : decode cX3_perform 122 = .ok (.aload_n 3, 1) := by decide +kernel
theorem dX3_perform_123 : decode cX3_perform 123 = .ok (.invokevirtual 76, 3) := by decide +kernel
theorem dX3_perform_126 : decode cX3_perform 126 = .ok (.ifCond .ne 5, 3) := by decide +kernel
theorem dX3_perform_129 : decode cX3_perform 129 = .ok (.iconst 0, 1) := by decide +kernel
theorem dX3_perform_130 : decode cX3_perform 130 = .ok (.ireturn, 1) := by decide +kernel
theorem dX3_perform_131 : decode cX3_perform 131 = .ok (.iinc 2 1, 3) := by decide +kernel
theorem dX3_perform_134 : decode cX3_perform 134 = .ok (.goto (-93), 3) := by decide +kernel
theorem dX3_perform_137 : decode cX3_perform 137 = .ok (.aload_n 0, 1) := by decide +kernel
theorem dX3_perform_138 : decode cX3_perform 138 = .ok (.getfield 15, 3) := by decide +kernel
theorem dX3_perform_141 : decode cX3_perform 141 = .ok (.iconst 5, 1) := by decide +kernel
theorem dX3_perform_142 : decode cX3_perform 142 = .ok (.iconst 0, 1) := by decide +kernel
theorem dX3_perform_143 : decode cX3_perform 143 = .ok (.invokevirtual 42, 3) := by decide +kernel
theorem dX3_perform_146 : decode cX3_perform 146 = .ok (.ireturn, 1) := by decide +kernel
abbrev rm_X3_perform (k : Nat × Nat) : Room := { frames := 6, cells := k.1, slots := k.2, locals := 183 }
def wp_X3_perform (a : Nat) (p1 : Nat) (k : Nat × Nat) (S : PS) (Q : Int32 → PS → Prop) : Prop :=
  (∀ S1, S1 = sR S 25 a (some p1) → wp_X3_reset a S1 (fun (S2 : PS) => 
 (∀ K29_4 : Nat × Nat → PS → Prop, (∀ (k5 : Nat × Nat) (S3 : PS),
 (∃ b6, fR S3 22 a = some b6 ∧ wp_X0_tell b6 5 0 S3 (fun (r8 : Int32) (S7 : PS) => 
 Q r8 S7))
 → K29_4 k5 S3) →
 (∃ b9, fR S2 21 a = some b9 ∧ (∃ k12 : Nat × Nat, (k12.1 ≤ k.1 ∧ k12.2 ≤ k.2) ∧ wp_X3_push a (-1) 0 (fI S2 45 b9) k12 S2 (fun (o : Option Nat) (S10 : PS) => (o = none → K29_4 (k.1 - k12.1, k.2 - k12.2) S10) ∧ ∀ b13, o = some b13 → (∀ P41_14 : Int32 → Nat × Nat → PS → Prop, (∀ (x2_15 : Int32) (k17 : Nat × Nat) (S16 : PS),
 (if 12000 ≤ x2_15 then
 (∃ b18, fR S16 22 a = some b18 ∧ wp_X0_tell b18 5 0 S16 (fun (r20 : Int32) (S19 : PS) => 
 Q r20 S19))
 else
 wp_X3_frameAt a ((fI S16 24 a) - 1) S16 (fun (o : Option Nat) (S21 : PS) => (o = none → wp_X3_finish a S21 (fun (r25 : Int32) (S24 : PS) => 
 Q r25 S24)) ∧ ∀ b23, o = some b23 → (∀ K131_27 : Nat × Nat → PS → Prop, (∀ (k28 : Nat × Nat) (S26 : PS),
 (∀ v29, v29 = x2_15 + 1 → P41_14 v29 k28 S26)
 → K131_27 k28 S26) →
 (if fI S21 4 b23 ≤ fI S21 3 b23 then
 wp_X3_end a b23 S21 (fun (r31 : Int32) (S30 : PS) => 
 (if r31 = 0 then
 Q 0 S30
 else
 K131_27 k17 S30))
 else
 (∀ v32, v32 = fI S21 3 b23 → (∃ b33, fR S21 21 a = some b33 ∧ wp_X6_behind b33 v32 S21 (fun (r35 : Int32) (S34 : PS) => 
 (∀ S36, S36 = sI S34 3 b23 r35 → wp_X3_step a v32 S36 (fun (r38 : Int32) (S37 : PS) => 
 (if r38 = 0 then
 Q 0 S37
 else
 (∃ k41 : Nat × Nat, (k41.1 ≤ k17.1 ∧ k41.2 ≤ k17.2) ∧ wp_X3_begin a v32 k41 S37 (fun (r40 : Int32) (S39 : PS) => 
 (if r40 = 0 then
 Q 0 S39
 else
 K131_27 (k17.1 - k41.1, k17.2 - k41.2) S39)))))))))))))
 → P41_14 x2_15 k17 S16) → P41_14 0 (k.1 - k12.1, k.2 - k12.2) S10)))))))
set_option maxRecDepth 100000 in
set_option maxHeartbeats 4000000 in
theorem c_X3_perform {l : Launch} {E : EE} {A : Nat → Prop} {a : Nat} {p1 : Nat} {k : Nat × Nat} {S : PS} {Q : Int32 → PS → Prop} (hH : hasHT E) (r_a : Rf S a 3) (r_p1 : Rf S p1 7) (h : wp_X3_perform a p1 k S Q) : MtI l yX3_perform (.code yX3_perform cX3_perform 5 (some .boolean)) (rm_X3_perform k) E A [.ref a, .ref p1] S (fun r S1 => nz r ∧ Q r S1) := by
  refine MtI.of2 (by decide) (Nat.le_of_ble_eq_true rfl) (fun X F hQ hX => ?_)
  show VV X (0, 0) S [(0, .ref a), (1, .ref p1)] [] 0
  obtain ⟨hXl, hXE, hXA, hN, hnm⟩ := hX
  subst hXE
  subst hXA
  subst hXl
  generalize hn0 : ((0, 0) : Nat × Nat) = n
  have hk : n.1 + k.1 ≤ k.1 ∧ n.2 + k.2 ≤ k.2 := by subst hn0; exact ⟨by omega, by omega⟩
  unfold wp_X3_perform at h
  refine v_aload_n F dX3_perform_0 0 rfl rfl ?_
  refine v_aload_n F dX3_perform_1 1 rfl rfl ?_
  refine p_X3_25 F r_a r_p1 h dX3_perform_2 (fun S1 h hE => ?_)
  have r_a := r_a.tr hE
  have r_p1 := r_p1.tr hE
  refine v_aload_n F dX3_perform_5 0 rfl rfl ?_
  refine v_cV0 (v_runV F k_X3_29 rfl (c_X3_reset r_a h) r_a rfl rfl (Nat.le_of_ble_eq_true rfl) ⟨Nat.le_of_ble_eq_true rfl, Nat.le_of_ble_eq_true rfl⟩ (kb_z hk) dX3_perform_6) ⟨rfl, rfl⟩ (fun  S2 h hE => ?_)
  have r_a := r_a.tr hE
  have r_p1 := r_p1.tr hE
  refine v_aload_n F dX3_perform_9 1 rfl rfl ?_
  have h := h (fun (k5 : Nat × Nat) (S3 : PS) => Rf S3 a 3 → ∀ n : Nat × Nat, (n.1 + k5.1 ≤ k.1 ∧ n.2 + k5.2 ≤ k.2) → VV X n S3 [(0, .ref a)] [] 29) (by
    intro k5 S3 h r_a n hk
    refine v_aload_n F dX3_perform_29 0 rfl rfl ?_
    refine g_X3_15 F r_a h dX3_perform_30 (fun b6 r_b6 h => ?_)
    refine v_iconst (v := 5) F dX3_perform_33 (by decide) ?_
    refine v_iconst (v := 0) F dX3_perform_34 (by decide) ?_
    refine v_cI0 (v_runV F k_X3_42 rfl (c_X0_tell r_b6 h) r_b6 rfl rfl (Nat.le_of_ble_eq_true rfl) ⟨Nat.le_of_ble_eq_true rfl, Nat.le_of_ble_eq_true rfl⟩ (kb_z hk) dX3_perform_35) ⟨rfl, rfl⟩ (fun r8 S7 h hE => ?_)
    obtain ⟨nz_r8, h⟩ := h
    have r_a := r_a.tr hE
    exact v_zret F hQ nz_r8 ⟨nz_r8, h⟩ (kb_ret hk) dX3_perform_38)
  refine v_ifnull F dX3_perform_10 ?_
  refine v_aload_n F dX3_perform_13 0 rfl rfl ?_
  refine v_iconst (v := (-1)) F dX3_perform_14 (by decide) ?_
  refine v_iconst (v := 0) F dX3_perform_15 (by decide) ?_
  refine v_aload_n F dX3_perform_16 0 rfl rfl ?_
  refine g_X3_9 F r_a h dX3_perform_17 (fun b9 r_b9 h => ?_)
  refine g_X3_32 F r_b9 dX3_perform_20 ?_
  obtain ⟨k12, g_k12, h⟩ := h
  refine v_cRs (v_runV F k_X3_38 rfl (c_X3_push r_a h) r_a rfl rfl (Nat.le_of_ble_eq_true rfl) ⟨Nat.le_of_ble_eq_true rfl, Nat.le_of_ble_eq_true rfl⟩ (kb_c hk g_k12) dX3_perform_23) (fun S10 h hE => ?_) (fun b13 S10 h hE => ?_)
  · have r_a := r_a.tr hE
    have r_p1 := r_p1.tr hE
    have h := h.2.1 rfl
    have hk := kb_n hk g_k12
    refine v_gen (fun n hk => ?_) hk
    refine v_ifnonnullN F dX3_perform_26 ?_
    exact v_sub [0] rfl (h r_a _ hk)
  · have r_a := r_a.tr hE
    have r_p1 := r_p1.tr hE
    have r_b13 := h.1 _ rfl
    have h := h.2.2 _ rfl
    have hk := kb_n hk g_k12
    refine v_gen (fun n hk => ?_) hk
    refine v_ifnonnull (tgt := 39) F dX3_perform_26 (by decide) ?_
    refine v_iconst (v := 0) F dX3_perform_39 (by decide) ?_
    refine v_istore_n (lv1 := [(2, .int 0), (0, .ref a), (1, .ref p1)]) F dX3_perform_40 rfl (by rw [hN]; decide) rfl ?_
    refine v_sub [1, 0] rfl ?_
    refine h (fun (x2_15 : Int32) (k17 : Nat × Nat) (S16 : PS) => Rf S16 a 3 → ∀ n : Nat × Nat, (n.1 + k17.1 ≤ k.1 ∧ n.2 + k17.2 ≤ k.2) → VV X n S16 [(0, .ref a), (2, .int x2_15)] [] 41) (fun x2_15 k17 S16 h r_a n hk => ?_) r_a _ hk
    refine v_iload_n F dX3_perform_41 1 rfl rfl ?_
    refine v_sipush (v := 12000) F dX3_perform_42 (by decide) ?_
    refine v_icmp_ge (tgt := 137) F dX3_perform_45 (by decide) h (fun h => ?_) (fun h => ?_)
    · refine v_aload_n F dX3_perform_137 0 rfl rfl ?_
      refine g_X3_15 F r_a h dX3_perform_138 (fun b18 r_b18 h => ?_)
      refine v_iconst (v := 5) F dX3_perform_141 (by decide) ?_
      refine v_iconst (v := 0) F dX3_perform_142 (by decide) ?_
      refine v_cI0 (v_runV F k_X3_42 rfl (c_X0_tell r_b18 h) r_b18 rfl rfl (Nat.le_of_ble_eq_true rfl) ⟨Nat.le_of_ble_eq_true rfl, Nat.le_of_ble_eq_true rfl⟩ (kb_z hk) dX3_perform_143) ⟨rfl, rfl⟩ (fun r20 S19 h hE => ?_)
      obtain ⟨nz_r20, h⟩ := h
      have r_a := r_a.tr hE
      exact v_zret F hQ nz_r20 ⟨nz_r20, h⟩ (kb_ret hk) dX3_perform_146
    · refine v_aload_n F dX3_perform_48 0 rfl rfl ?_
      refine v_aload_n F dX3_perform_49 0 rfl rfl ?_
      refine g_X3_48 F r_a dX3_perform_50 ?_
      refine v_iconst (v := 1) F dX3_perform_53 (by decide) ?_
      refine v_isub F dX3_perform_54 ?_
      refine v_cRs (v_runV F k_X3_51 rfl (c_X3_frameAt r_a h) r_a rfl rfl (Nat.le_of_ble_eq_true rfl) ⟨Nat.le_of_ble_eq_true rfl, Nat.le_of_ble_eq_true rfl⟩ (kb_z hk) dX3_perform_55) (fun S21 h hE => ?_) (fun b23 S21 h hE => ?_)
      · have r_a := r_a.tr hE
        have h := h.2.1 rfl
        refine v_gen (fun n hk => ?_) (kb_00 hk)
        refine v_astore_nN (lv1 := [(3, .null), (0, .ref a), (2, .int x2_15)]) F dX3_perform_58 rfl (by rw [hN]; decide) rfl ?_
        refine v_aload_nN F dX3_perform_59 0 rfl rfl ?_
        refine v_ifnonnullN F dX3_perform_60 ?_
        refine v_aload_n F dX3_perform_63 1 rfl rfl ?_
        refine v_cI0 (v_runV F k_X3_55 rfl (c_X3_finish r_a h) r_a rfl rfl (Nat.le_of_ble_eq_true rfl) ⟨Nat.le_of_ble_eq_true rfl, Nat.le_of_ble_eq_true rfl⟩ (kb_z hk) dX3_perform_64) ⟨rfl, rfl⟩ (fun r25 S24 h hE => ?_)
        obtain ⟨nz_r25, h⟩ := h
        have r_a := r_a.tr hE
        exact v_zret F hQ nz_r25 ⟨nz_r25, h⟩ (kb_ret hk) dX3_perform_67
      · have r_a := r_a.tr hE
        have r_b23 := h.1 _ rfl
        have h := h.2.2 _ rfl
        refine v_gen (fun n hk => ?_) (kb_00 hk)
        refine v_astore_n (lv1 := [(3, .ref b23), (0, .ref a), (2, .int x2_15)]) F dX3_perform_58 rfl (by rw [hN]; decide) rfl ?_
        refine v_aload_n F dX3_perform_59 0 rfl rfl ?_
        refine v_ifnonnull (tgt := 68) F dX3_perform_60 (by decide) ?_
        refine v_aload_n F dX3_perform_68 0 rfl rfl ?_
        refine g_X3_59 F r_b23 dX3_perform_69 ?_
        refine v_aload_n F dX3_perform_72 0 rfl rfl ?_
        refine g_X3_62 F r_b23 dX3_perform_73 ?_
        have h := h (fun (k28 : Nat × Nat) (S26 : PS) => Rf S26 a 3 → ∀ n : Nat × Nat, (n.1 + k28.1 ≤ k.1 ∧ n.2 + k28.2 ≤ k.2) → VV X n S26 [(0, .ref a), (2, .int x2_15)] [] 131) (by
          intro k28 S26 h r_a n hk
          obtain ⟨v29, e_v29⟩ : ∃ y : Int32, y = x2_15 + 1 := ⟨_, rfl⟩
          have h := h v29 e_v29
          refine v_iinc (v := v29) (lv1 := [(2, .int v29), (0, .ref a)]) F dX3_perform_131 (q := 1) rfl (by rw [e_v29]; rfl) (by rw [hN]; decide) rfl ?_
          refine v_goto (tgt := 41) F dX3_perform_134 (by decide) ?_
          exact v_sub [1, 0] rfl (h r_a _ hk))
        refine v_icmp_ge (tgt := 121) F dX3_perform_76 (by decide) h (fun h => ?_) (fun h => ?_)
        · refine v_aload_n F dX3_perform_121 1 rfl rfl ?_
          refine v_aload_n F dX3_perform_122 0 rfl rfl ?_
          refine v_cI0 (v_runV F k_X3_76 rfl (c_X3_end r_a r_b23 h) r_a rfl rfl (Nat.le_of_ble_eq_true rfl) ⟨Nat.le_of_ble_eq_true rfl, Nat.le_of_ble_eq_true rfl⟩ (kb_z hk) dX3_perform_123) ⟨rfl, rfl⟩ (fun r31 S30 h hE => ?_)
          obtain ⟨nz_r31, h⟩ := h
          have r_b23 := r_b23.tr hE
          have r_a := r_a.tr hE
          refine v_if_ne (tgt := 131) F dX3_perform_126 (by decide) h (fun h => ?_) (fun h => ?_)
          · exact v_sub [1, 2] rfl (h r_a _ hk)
          · refine v_iconst (v := 0) F dX3_perform_129 (by decide) ?_
            exact v_zret F hQ (by decide) ⟨nz0, h⟩ (kb_ret hk) dX3_perform_130
        · refine v_aload_n F dX3_perform_79 0 rfl rfl ?_
          refine g_X3_59 F r_b23 dX3_perform_80 ?_
          refine v_topi (fun v32 e_v32 => ?_)
          have h := h v32 e_v32
          refine v_istore (lv1 := [(4, .int v32), (3, .ref b23), (0, .ref a), (2, .int x2_15)]) F dX3_perform_83 (by rw [hN]; decide) rfl ?_
          refine v_aload_n F dX3_perform_85 1 rfl rfl ?_
          refine v_aload_n F dX3_perform_86 2 rfl rfl ?_
          refine g_X3_9 F r_a h dX3_perform_87 (fun b33 r_b33 h => ?_)
          refine v_iload F dX3_perform_90 0 rfl ?_
          refine v_cI0 (v_runV F k_X3_65 rfl (c_X6_behind r_b33 h) r_b33 rfl rfl (Nat.le_of_ble_eq_true rfl) ⟨Nat.le_of_ble_eq_true rfl, Nat.le_of_ble_eq_true rfl⟩ (kb_z hk) dX3_perform_92) ⟨rfl, rfl⟩ (fun r35 S34 h hE => ?_)
          have r_b23 := r_b23.tr hE
          have r_a := r_a.tr hE
          refine p_X3_59 F r_b23 h dX3_perform_95 (fun S36 h hE => ?_)
          have r_b23 := r_b23.tr hE
          have r_a := r_a.tr hE
          refine v_aload_n F dX3_perform_98 2 rfl rfl ?_
          refine v_iload F dX3_perform_99 0 rfl ?_
          refine v_cI0 (v_runV F k_X3_69 rfl (c_X3_step r_a h) r_a rfl rfl (Nat.le_of_ble_eq_true rfl) ⟨Nat.le_of_ble_eq_true rfl, Nat.le_of_ble_eq_true rfl⟩ (kb_z hk) dX3_perform_101) ⟨rfl, rfl⟩ (fun r38 S37 h hE => ?_)
          obtain ⟨nz_r38, h⟩ := h
          have r_b23 := r_b23.tr hE
          have r_a := r_a.tr hE
          refine v_if_eq (tgt := 116) F dX3_perform_104 (by decide) h (fun h => ?_) (fun h => ?_)
          · refine v_iconst (v := 0) F dX3_perform_116 (by decide) ?_
            exact v_zret F hQ (by decide) ⟨nz0, h⟩ (kb_ret hk) dX3_perform_117
          · refine v_aload_n F dX3_perform_107 2 rfl rfl ?_
            refine v_iload F dX3_perform_108 0 rfl ?_
            obtain ⟨k41, g_k41, h⟩ := h
            refine v_cI (v_runV F k_X3_73 rfl (c_X3_begin hH r_a h) r_a rfl rfl (Nat.le_of_ble_eq_true rfl) ⟨Nat.le_of_ble_eq_true rfl, Nat.le_of_ble_eq_true rfl⟩ (kb_c hk g_k41) dX3_perform_110) (fun r40 S39 h hE => ?_)
            obtain ⟨nz_r40, h⟩ := h
            have r_b23 := r_b23.tr hE
            have r_a := r_a.tr hE
            have hk := kb_n hk g_k41
            refine v_gen (fun n hk => ?_) hk
            refine v_if_ne (tgt := 118) F dX3_perform_113 (by decide) h (fun h => ?_) (fun h => ?_)
            · refine v_goto (tgt := 131) F dX3_perform_118 (by decide) ?_
              exact v_sub [2, 3] rfl (h r_a _ hk)
            · refine v_iconst (v := 0) F dX3_perform_116 (by decide) ?_
              exact v_zret F hQ (by decide) ⟨nz0, h⟩ (kb_ret hk) dX3_perform_117
