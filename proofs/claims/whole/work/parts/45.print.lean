theorem dJ7_copyOf_9075b_0 : decode cJ7_copyOf_9075b 0 = .ok (.iload_n 1, 1) := by decide +kernel
theorem dJ7_copyOf_9075b_1 : decode cJ7_copyOf_9075b 1 = .ok (.aload_n 0, 1) := by decide +kernel
theorem dJ7_copyOf_9075b_2 : decode cJ7_copyOf_9075b 2 = .ok (.arraylength, 1) := by decide +kernel
theorem dJ7_copyOf_9075b_3 : decode cJ7_copyOf_9075b 3 = .ok (.if_icmp .ne 11, 3) := by decide +kernel
theorem dJ7_copyOf_9075b_6 : decode cJ7_copyOf_9075b 6 = .ok (.aload_n 0, 1) := by decide +kernel
theorem dJ7_copyOf_9075b_7 : decode cJ7_copyOf_9075b 7 = .ok (.invokevirtual 310, 3) := by decide +kernel
theorem dJ7_copyOf_9075b_10 : decode cJ7_copyOf_9075b 10 = .ok (.checkcast 311, 3) := by decide +kernel
theorem dJ7_copyOf_9075b_13 : decode cJ7_copyOf_9075b 13 = .ok (.areturn, 1) := by decide +kernel
theorem dJ7_copyOf_9075b_14 : decode cJ7_copyOf_9075b 14 = .ok (.iload_n 1, 1) := by decide +kernel
theorem dJ7_copyOf_9075b_15 : decode cJ7_copyOf_9075b 15 = .ok (.newarray .byte, 2) := by decide +kernel
theorem dJ7_copyOf_9075b_17 : decode cJ7_copyOf_9075b 17 = .ok (.astore_n 2, 1) := by decide +kernel
theorem dJ7_copyOf_9075b_18 : decode cJ7_copyOf_9075b 18 = .ok (.aload_n 0, 1) := by decide +kernel
theorem dJ7_copyOf_9075b_19 : decode cJ7_copyOf_9075b 19 = .ok (.iconst 0, 1) := by decide +kernel
theorem dJ7_copyOf_9075b_20 : decode cJ7_copyOf_9075b 20 = .ok (.aload_n 2, 1) := by decide +kernel
theorem dJ7_copyOf_9075b_21 : decode cJ7_copyOf_9075b 21 = .ok (.iconst 0, 1) := by decide +kernel
theorem dJ7_copyOf_9075b_22 : decode cJ7_copyOf_9075b 22 = .ok (.aload_n 0, 1) := by decide +kernel
theorem dJ7_copyOf_9075b_23 : decode cJ7_copyOf_9075b 23 = .ok (.arraylength, 1) := by decide +kernel
theorem dJ7_copyOf_9075b_24 : decode cJ7_copyOf_9075b 24 = .ok (.iload_n 1, 1) := by decide +kernel
theorem dJ7_copyOf_9075b_25 : decode cJ7_copyOf_9075b 25 = .ok (.invokestatic 304, 3) := by decide +kernel
theorem dJ7_copyOf_9075b_28 : decode cJ7_copyOf_9075b 28 = .ok (.invokestatic 150, 3) := by decide +kernel
theorem dJ7_copyOf_9075b_31 : decode cJ7_copyOf_9075b 31 = .ok (.aload_n 2, 1) := by decide +kernel
theorem dJ7_copyOf_9075b_32 : decode cJ7_copyOf_9075b 32 = .ok (.areturn, 1) := by decide +kernel
abbrev rm_J7_copyOf_9075b (k : Nat × Nat) : Room := { frames := 1, cells := k.1, slots := k.2, locals := 60 }
def wp_J7_copyOf_9075b (p1 : Nat) (p2 : Int32) (k : Nat × Nat) (S : PS) (Q : Option Nat → PS → Prop) : Prop :=
  (if p2 = nI (aN S p1) then
 False
 else
 ((1 ≤ k.1 ∧ p2.toNatClampNeg ≤ k.2) ∧ ¬ p2 < 0 ∧ p2.toNatClampNeg * componentBytes .byte ≤ 536870912 ∧ ∀ q1, q1 ∉ pL S → ∀ S2, S2 = nA S 14 q1 (p2.toNatClampNeg) → ((¬ (0 : Int32) < 0 ∧ ¬ (0 : Int32) < 0 ∧ ¬ ((if p2 < nI (aN S2 p1) then p2 else nI (aN S2 p1)) : Int32) < 0 ∧ (0 : Int32).toNatClampNeg + ((if p2 < nI (aN S2 p1) then p2 else nI (aN S2 p1)) : Int32).toNatClampNeg ≤ aN S2 p1 ∧ (0 : Int32).toNatClampNeg + ((if p2 < nI (aN S2 p1) then p2 else nI (aN S2 p1)) : Int32).toNatClampNeg ≤ aN S2 q1 ∧ ∀ i, i < ((if p2 < nI (aN S2 p1) then p2 else nI (aN S2 p1)) : Int32).toNatClampNeg → fits .byte (.int (aI S2 14 p1 ((0 : Int32).toNatClampNeg + i))) = true) ∧ ∀ S3, S3 = wW S2 14 q1 (va_cpy (aI S2 14 p1) (aI S2 14 q1) (0 : Int32).toNatClampNeg (0 : Int32).toNatClampNeg ((if p2 < nI (aN S2 p1) then p2 else nI (aN S2 p1)) : Int32).toNatClampNeg) → Q (some q1) S3)))
set_option maxRecDepth 100000 in
set_option maxHeartbeats 4000000 in
theorem c_J7_copyOf_9075b {l : Launch} {E : EE} {A : Nat → Prop} {p1 : Nat} {p2 : Int32} {k : Nat × Nat} {S : PS} {Q : Option Nat → PS → Prop} (r_p1 : Rf S p1 14) (h : wp_J7_copyOf_9075b p1 p2 k S Q) : MtR l yJ7_copyOf_9075b (.code yJ7_copyOf_9075b cJ7_copyOf_9075b 3 (some (.array .byte))) (rm_J7_copyOf_9075b k) E A [.ref p1, .int p2] S (fun r S1 => (∀ b, r = some b → Rf S1 b 14) ∧ Q r S1) := by
  refine MtR.ofJ (by decide +kernel) (Nat.le_of_ble_eq_true rfl) (fun X F hQ hN => ?_)
  show VV X (0, 0) S [(0, .ref p1), (1, .int p2)] [] 0
  generalize hn0 : ((0, 0) : Nat × Nat) = n
  have hk : n.1 + k.1 ≤ k.1 ∧ n.2 + k.2 ≤ k.2 := by subst hn0; exact ⟨by omega, by omega⟩
  unfold wp_J7_copyOf_9075b at h
  refine v_iload_n F dJ7_copyOf_9075b_0 1 rfl rfl ?_
  refine v_aload_n F dJ7_copyOf_9075b_1 0 rfl rfl ?_
  refine v_alen F r_p1 (by decide) dJ7_copyOf_9075b_2 ?_
  refine v_icmp_ne (tgt := 14) F dJ7_copyOf_9075b_3 (by decide) h (fun h => ?_) (fun h => ?_)
  · refine v_iload_n F dJ7_copyOf_9075b_14 1 rfl rfl ?_
    obtain ⟨g_q1, g1_q1, g2_q1, h⟩ := h
    refine na_B (r := 14) F (by decide) rfl g1_q1 rfl g2_q1 (kb_c (k1 := (1, p2.toNatClampNeg)) hk g_q1) dJ7_copyOf_9075b_15 h (fun q1 S2 h hE r_q1 => ?_)
    have hk := kb_n (k1 := (1, p2.toNatClampNeg)) hk g_q1
    refine v_gen (fun n hk => ?_) hk
    have r_p1 := r_p1.tr hE
    refine v_astore_n (lv1 := [(2, .ref q1), (0, .ref p1), (1, .int p2)]) F dJ7_copyOf_9075b_17 rfl (by rw [hN]; decide) rfl ?_
    refine v_aload_n F dJ7_copyOf_9075b_18 1 rfl rfl ?_
    refine v_iconst (v := 0) F dJ7_copyOf_9075b_19 (by decide) ?_
    refine v_aload_n F dJ7_copyOf_9075b_20 0 rfl rfl ?_
    refine v_iconst (v := 0) F dJ7_copyOf_9075b_21 (by decide) ?_
    refine v_aload_n F dJ7_copyOf_9075b_22 1 rfl rfl ?_
    refine v_alen F r_p1 (by decide) dJ7_copyOf_9075b_23 ?_
    refine v_iload_n F dJ7_copyOf_9075b_24 2 rfl rfl ?_
    refine v_mmin F k_J7_304 ⟨Nat.le_of_ble_eq_true rfl, kb_ret hk⟩ (Nat.le_of_ble_eq_true rfl) dJ7_copyOf_9075b_25 ?_
    refine v_copyb F k_J7_150 r_p1 r_q1 o_14 o_14 h (Nat.le_of_ble_eq_true rfl) (Nat.le_of_ble_eq_true rfl) dJ7_copyOf_9075b_28 (fun S3 h hE => ?_)
    have r_q1 := r_q1.tr hE
    have r_p1 := r_p1.tr hE
    refine v_aload_n F dJ7_copyOf_9075b_31 0 rfl rfl ?_
    exact v_aretA F hQ ⟨fun b hb => (by cases hb; exact r_q1), h⟩ (kb_ret hk) dJ7_copyOf_9075b_32
  · refine v_aload_n F dJ7_copyOf_9075b_6 0 rfl rfl ?_
    exact h.elim
theorem dX5_put_0 : decode cX5_put 0 = .ok (.aload_n 0, 1) := by decide +kernel
theorem dX5_put_1 : decode cX5_put 1 = .ok (.getfield 18, 3) := by decide +kernel
theorem dX5_put_4 : decode cX5_put 4 = .ok (.aload_n 0, 1) := by decide +kernel
theorem dX5_put_5 : decode cX5_put 5 = .ok (.getfield 11, 3) := by decide +kernel
theorem dX5_put_8 : decode cX5_put 8 = .ok (.arraylength, 1) := by decide +kernel
theorem dX5_put_9 : decode cX5_put 9 = .ok (.if_icmp .lt 38, 3) := by decide +kernel
theorem dX5_put_12 : decode cX5_put 12 = .ok (.aload_n 0, 1) := by decide +kernel
theorem dX5_put_13 : decode cX5_put 13 = .ok (.getfield 18, 3) := by decide +kernel
theorem dX5_put_16 : decode cX5_put 16 = .ok (.ldc 41, 2) := by decide +kernel
theorem dX5_put_18 : decode cX5_put 18 = .ok (.if_icmp .ge 29, 3) := by decide +kernel
theorem dX5_put_21 : decode cX5_put 21 = .ok (.aload_n 0, 1) := by decide +kernel
theorem dX5_put_22 : decode cX5_put 22 = .ok (.aload_n 0, 1) := by decide +kernel
theorem dX5_put_23 : decode cX5_put 23 = .ok (.getfield 11, 3) := by decide +kernel
theorem dX5_put_26 : decode cX5_put 26 = .ok (.ldc 41, 2) := by decide +kernel
theorem dX5_put_28 : decode cX5_put 28 = .ok (.iconst 2, 1) := by decide +kernel
theorem dX5_put_29 : decode cX5_put 29 = .ok (.aload_n 0, 1) := by decide +kernel
theorem dX5_put_30 : decode cX5_put 30 = .ok (.getfield 18, 3) := by decide +kernel
theorem dX5_put_33 : decode cX5_put 33 = .ok (.imul, 1) := by decide +kernel
theorem dX5_put_34 : decode cX5_put 34 = .ok (.sipush 256, 3) := by decide +kernel
theorem dX5_put_37 : decode cX5_put 37 = .ok (.iadd, 1) := by decide +kernel
theorem dX5_put_38 : decode cX5_put 38 = .ok (.invokestatic 42, 3) := by decide +kernel
theorem dX5_put_41 : decode cX5_put 41 = .ok (.invokestatic 48, 3) := by decide +kernel
theorem dX5_put_44 : decode cX5_put 44 = .ok (.putfield 11, 3) := by decide +kernel
theorem dX5_put_47 : decode cX5_put 47 = .ok (.aload_n 0, 1) := by decide +kernel
theorem dX5_put_48 : decode cX5_put 48 = .ok (.getfield 18, 3) := by decide +kernel
theorem dX5_put_51 : decode cX5_put 51 = .ok (.aload_n 0, 1) := by decide +kernel
theorem dX5_put_52 : decode cX5_put 52 = .ok (.getfield 11, 3) := by decide +kernel
theorem dX5_put_55 : decode cX5_put 55 = .ok (.arraylength, 1) := by decide +kernel
theorem dX5_put_56 : decode cX5_put 56 = .ok (.if_icmp .ge 24, 3) := by decide +kernel
theorem dX5_put_59 : decode cX5_put 59 = .ok (.aload_n 0, 1) := by decide +kernel
theorem dX5_put_60 : decode cX5_put 60 = .ok (.getfield 11, 3) := by decide +kernel
theorem dX5_put_63 : decode cX5_put 63 = .ok (.aload_n 0, 1) := by decide +kernel
theorem dX5_put_64 : decode cX5_put 64 = .ok (.getfield 18, 3) := by decide +kernel
theorem dX5_put_67 : decode cX5_put 67 = .ok (.iload_n 1, 1) := by decide +kernel
theorem dX5_put_68 : decode cX5_put 68 = .ok (.i2b, 1) := by decide +kernel
theorem dX5_put_69 : decode cX5_put 69 = .ok (.bastore, 1) := by decide +kernel
theorem dX5_put_70 : decode cX5_put 70 = .ok (.aload_n 0, 1) := by decide +kernel
theorem dX5_put_71 : decode cX5_put 71 = .ok (.dup, 1) := by decide +kernel
theorem dX5_put_72 : decode cX5_put 72 = .ok (.getfield 18, 3) := by decide +kernel
theorem dX5_put_75 : decode cX5_put 75 = .ok (.iconst 1, 1) := by decide +kernel
theorem dX5_put_76 : decode cX5_put 76 = .ok (.iadd, 1) := by decide +kernel
theorem dX5_put_77 : decode cX5_put 77 = .ok (.putfield 18, 3) := by decide +kernel
theorem dX5_put_80 : decode cX5_put 80 = .ok (.return_, 1) := by decide +kernel
abbrev rm_X5_put (k : Nat × Nat) : Room := { frames := 2, cells := k.1, slots := k.2, locals := 82 }
def wp_X5_put (a : Nat) (p1 : Int32) (k : Nat × Nat) (S : PS) (Q : PS → Prop) : Prop :=
  (∃ b1, fR S 40 a = some b1 ∧ (∀ K47_3 : Nat × Nat → PS → Prop, (∀ (k4 : Nat × Nat) (S2 : PS),
 (∃ b5, fR S2 40 a = some b5 ∧ (if nI (aN S2 b5) ≤ fI S2 41 a then
 Q S2
 else
 (∃ b6, fR S2 40 a = some b6 ∧ (vp_in (fI S2 41 a) (aN S2 b6) ∧ ∀ S7, S7 = wI S2 14 b6 (fI S2 41 a).toNatClampNeg (vp_nar .byte (p1.toInt8.toInt32)) → (∀ S8, S8 = sI S7 41 a ((fI S7 41 a) + 1) → Q S8)))))
 → K47_3 k4 S2) →
 (if fI S 41 a < nI (aN S b1) then
 K47_3 k S
 else
 (if 40000 ≤ fI S 41 a then
 K47_3 k S
 else
 (∃ b9, fR S 40 a = some b9 ∧ (∃ k12 : Nat × Nat, (k12.1 ≤ k.1 ∧ k12.2 ≤ k.2) ∧ wp_J7_copyOf_9075b b9 ((if ((2 : Int32) * (fI S 41 a)) + 256 < 40000 then ((2 : Int32) * (fI S 41 a)) + 256 else 40000)) k12 S (fun (o : Option Nat) (S10 : PS) => ∃ b13, o = some b13 ∧ (∀ S14, S14 = sR S10 40 a (some b13) → K47_3 (k.1 - k12.1, k.2 - k12.2) S14))))))))
set_option maxRecDepth 100000 in
set_option maxHeartbeats 4000000 in
theorem c_X5_put {l : Launch} {E : EE} {A : Nat → Prop} {a : Nat} {p1 : Int32} {k : Nat × Nat} {S : PS} {Q : PS → Prop} (r_a : Rf S a 4) (h : wp_X5_put a p1 k S Q) : MtV l yX5_put (.code yX5_put cX5_put 2 none) (rm_X5_put k) E A [.ref a, .int p1] S Q := by
  refine MtV.of (by decide) (Nat.le_of_ble_eq_true rfl) (fun X F hQ hN => ?_)
  show VV X (0, 0) S [(0, .ref a), (1, .int p1)] [] 0
  generalize hn0 : ((0, 0) : Nat × Nat) = n
  have hk : n.1 + k.1 ≤ k.1 ∧ n.2 + k.2 ≤ k.2 := by subst hn0; exact ⟨by omega, by omega⟩
  unfold wp_X5_put at h
  refine v_aload_n F dX5_put_0 0 rfl rfl ?_
  refine g_X5_18 F r_a dX5_put_1 ?_
  refine v_aload_n F dX5_put_4 0 rfl rfl ?_
  refine g_X5_11 F r_a h dX5_put_5 (fun b1 r_b1 h => ?_)
  refine v_alen F r_b1 (by decide) dX5_put_8 ?_
  have h := h (fun (k4 : Nat × Nat) (S2 : PS) => Rf S2 a 4 → ∀ n : Nat × Nat, (n.1 + k4.1 ≤ k.1 ∧ n.2 + k4.2 ≤ k.2) → VV X n S2 [(0, .ref a), (1, .int p1)] [] 47) (by
    intro k4 S2 h r_a n hk
    refine v_aload_n F dX5_put_47 0 rfl rfl ?_
    refine g_X5_18 F r_a dX5_put_48 ?_
    refine v_aload_n F dX5_put_51 0 rfl rfl ?_
    refine g_X5_11 F r_a h dX5_put_52 (fun b5 r_b5 h => ?_)
    refine v_alen F r_b5 (by decide) dX5_put_55 ?_
    refine v_icmp_ge (tgt := 80) F dX5_put_56 (by decide) h (fun h => ?_) (fun h => ?_)
    · exact v_vret F hQ h (kb_ret hk) dX5_put_80
    · refine v_aload_n F dX5_put_59 0 rfl rfl ?_
      refine g_X5_11 F r_a h dX5_put_60 (fun b6 r_b6 h => ?_)
      refine v_aload_n F dX5_put_63 0 rfl rfl ?_
      refine g_X5_18 F r_a dX5_put_64 ?_
      refine v_iload_n F dX5_put_67 1 rfl rfl ?_
      refine v_i2b F dX5_put_68 ?_
      refine v_bast F r_b6 o_14 h dX5_put_69 (fun S7 h hE => ?_)
      have r_a := r_a.tr hE
      refine v_aload_n F dX5_put_70 0 rfl rfl ?_
      refine v_dup F dX5_put_71 rfl ?_
      refine g_X5_18 F r_a dX5_put_72 ?_
      refine v_iconst (v := 1) F dX5_put_75 (by decide) ?_
      refine v_iadd F dX5_put_76 ?_
      refine p_X5_18 F r_a h dX5_put_77 (fun S8 h hE => ?_)
      have r_a := r_a.tr hE
      exact v_vret F hQ h (kb_ret hk) dX5_put_80)
  refine v_icmp_lt (tgt := 47) F dX5_put_9 (by decide) h (fun h => ?_) (fun h => ?_)
  · exact v_sub [0, 1] rfl (h r_a _ hk)
  · refine v_aload_n F dX5_put_12 0 rfl rfl ?_
    refine g_X5_18 F r_a dX5_put_13 ?_
    refine v_ldc F kc_X5_41 dX5_put_16 ?_
    refine v_icmp_ge (tgt := 47) F dX5_put_18 (by decide) h (fun h => ?_) (fun h => ?_)
    · exact v_sub [0, 1] rfl (h r_a _ hk)
    · refine v_aload_n F dX5_put_21 0 rfl rfl ?_
      refine v_aload_n F dX5_put_22 0 rfl rfl ?_
      refine g_X5_11 F r_a h dX5_put_23 (fun b9 r_b9 h => ?_)
      refine v_ldc F kc_X5_41 dX5_put_26 ?_
      refine v_iconst (v := 2) F dX5_put_28 (by decide) ?_
      refine v_aload_n F dX5_put_29 0 rfl rfl ?_
      refine g_X5_18 F r_a dX5_put_30 ?_
      refine v_imul F dX5_put_33 ?_
      refine v_sipush (v := 256) F dX5_put_34 (by decide) ?_
      refine v_iadd F dX5_put_37 ?_
      refine v_mmin F k_X5_42 ⟨Nat.le_of_ble_eq_true rfl, kb_ret hk⟩ (Nat.le_of_ble_eq_true rfl) dX5_put_38 ?_
      obtain ⟨k12, g_k12, h⟩ := h
      refine v_cRs (v_runS F k_X5_48 (c_J7_copyOf_9075b r_b9 h) rfl rfl (Nat.le_of_ble_eq_true rfl) ⟨Nat.le_of_ble_eq_true rfl, Nat.le_of_ble_eq_true rfl⟩ (kb_c hk g_k12) dX5_put_41) (fun S10 h hE => ?_) (fun b13 S10 h hE => ?_)
      · obtain ⟨q0, q1, h⟩ := h.2
        cases q1
      · have r_a := r_a.tr hE
        have r_b13 := h.1 _ rfl
        obtain ⟨q0_b13, q1_b13, h⟩ := h.2
        cases q1_b13
        have hk := kb_n hk g_k12
        refine v_gen (fun n hk => ?_) hk
        refine p_X5_11 F r_a r_b13 h dX5_put_44 (fun S14 h hE => ?_)
        have r_a := r_a.tr hE
        exact v_sub [0, 1] rfl (h r_a _ hk)
theorem dX5_putText_0 : decode cX5_putText 0 = .ok (.iconst 0, 1) := by decide +kernel
theorem dX5_putText_1 : decode cX5_putText 1 = .ok (.istore_n 2, 1) := by decide +kernel
theorem dX5_putText_2 : decode cX5_putText 2 = .ok (.iload_n 2, 1) := by decide +kernel
theorem dX5_putText_3 : decode cX5_putText 3 = .ok (.aload_n 1, 1) := by decide +kernel
theorem dX5_putText_4 : decode cX5_putText 4 = .ok (.invokevirtual 54, 3) := by decide +kernel
theorem dX5_putText_7 : decode cX5_putText 7 = .ok (.if_icmp .ge 18, 3) := by decide +kernel
theorem dX5_putText_10 : decode cX5_putText 10 = .ok (.aload_n 0, 1) := by decide +kernel
theorem dX5_putText_11 : decode cX5_putText 11 = .ok (.aload_n 1, 1) := by decide +kernel
theorem dX5_putText_12 : decode cX5_putText 12 = .ok (.iload_n 2, 1) := by decide +kernel
theorem dX5_putText_13 : decode cX5_putText 13 = .ok (.invokevirtual 60, 3) := by decide +kernel
theorem dX5_putText_16 : decode cX5_putText 16 = .ok (.invokevirtual 64, 3) := by decide +kernel
theorem dX5_putText_19 : decode cX5_putText 19 = .ok (.iinc 2 1, 3) := by decide +kernel
theorem dX5_putText_22 : decode cX5_putText 22 = .ok (.goto (-20), 3) := by decide +kernel
theorem dX5_putText_25 : decode cX5_putText 25 = .ok (.return_, 1) := by decide +kernel
abbrev rm_X5_putText (k : Nat × Nat) : Room := { frames := 4, cells := k.1, slots := k.2, locals := 103 }
def wp_X5_putText (a : Nat) (p1 : Nat) (k : Nat × Nat) (S : PS) (Q : PS → Prop) : Prop :=
  (∀ P2_1 : Int32 → Nat × Nat → PS → Prop, (∀ (x2_2 : Int32) (k4 : Nat × Nat) (S3 : PS),
 wp_J0_length_8abf5 p1 S3 (fun (r6 : Int32) (S5 : PS) => 
 (if r6 ≤ x2_2 then
 Q S5
 else
 wp_J0_charAt_5068e p1 x2_2 S5 (fun (r8 : Int32) (S7 : PS) => 
 (∃ k10 : Nat × Nat, (k10.1 ≤ k4.1 ∧ k10.2 ≤ k4.2) ∧ wp_X5_put a r8 k10 S7 (fun (S9 : PS) => 
 (∀ v11, v11 = x2_2 + 1 → P2_1 v11 (k4.1 - k10.1, k4.2 - k10.2) S9))))))
 → P2_1 x2_2 k4 S3) → P2_1 0 k S)
set_option maxRecDepth 100000 in
set_option maxHeartbeats 4000000 in
theorem c_X5_putText {l : Launch} {E : EE} {A : Nat → Prop} {a : Nat} {p1 : Nat} {k : Nat × Nat} {S : PS} {Q : PS → Prop} {adK adV : Nat → Nat} (hS : hasStr E adK adV) (r_a : Rf S a 4) (i_p1 : p1 < 16) (h : wp_X5_putText a p1 k S Q) : MtV l yX5_putText (.code yX5_putText cX5_putText 3 none) (rm_X5_putText k) E A [.ref a, .ref (adK p1)] S Q := by
  refine MtV.of2 (by decide) (Nat.le_of_ble_eq_true rfl) (fun X F hQ hX => ?_)
  show VV X (0, 0) S [(0, .ref a), (1, .ref (adK p1))] [] 0
  obtain ⟨hXl, hXE, hXA, hN, hnm⟩ := hX
  subst hXE
  subst hXA
  subst hXl
  generalize hn0 : ((0, 0) : Nat × Nat) = n
  have hk : n.1 + k.1 ≤ k.1 ∧ n.2 + k.2 ≤ k.2 := by subst hn0; exact ⟨by omega, by omega⟩
  unfold wp_X5_putText at h
  refine v_iconst (v := 0) F dX5_putText_0 (by decide) ?_
  refine v_istore_n (lv1 := [(2, .int 0), (0, .ref a), (1, .ref (adK p1))]) F dX5_putText_1 rfl (by rw [hN]; decide) rfl ?_
  refine v_sub [1, 2, 0] rfl ?_
  refine h (fun (x2_2 : Int32) (k4 : Nat × Nat) (S3 : PS) => Rf S3 a 4 → ∀ n : Nat × Nat, (n.1 + k4.1 ≤ k.1 ∧ n.2 + k4.2 ≤ k.2) → VV X n S3 [(0, .ref a), (1, .ref (adK p1)), (2, .int x2_2)] [] 2) (fun x2_2 k4 S3 h r_a n hk => ?_) r_a _ hk
  refine v_iload_n F dX5_putText_2 2 rfl rfl ?_
  refine v_aload_n F dX5_putText_3 1 rfl rfl ?_
  refine v_cI0 (v_runVS F hS i_p1 k_X5_54 rfl (c_J0_length_8abf5 hS i_p1 h) rfl rfl (Nat.le_of_ble_eq_true rfl) ⟨Nat.le_of_ble_eq_true rfl, Nat.le_of_ble_eq_true rfl⟩ (kb_z hk) dX5_putText_4) ⟨rfl, rfl⟩ (fun r6 S5 h hE => ?_)
  have r_a := r_a.tr hE
  refine v_icmp_ge (tgt := 25) F dX5_putText_7 (by decide) h (fun h => ?_) (fun h => ?_)
  · exact v_vret F hQ h (kb_ret hk) dX5_putText_25
  · refine v_aload_n F dX5_putText_10 0 rfl rfl ?_
    refine v_aload_n F dX5_putText_11 1 rfl rfl ?_
    refine v_iload_n F dX5_putText_12 2 rfl rfl ?_
    refine v_cI0 (v_runVS F hS i_p1 k_X5_60 rfl (c_J0_charAt_5068e hS i_p1 h) rfl rfl (Nat.le_of_ble_eq_true rfl) ⟨Nat.le_of_ble_eq_true rfl, Nat.le_of_ble_eq_true rfl⟩ (kb_z hk) dX5_putText_13) ⟨rfl, rfl⟩ (fun r8 S7 h hE => ?_)
    obtain ⟨nz_r8, h⟩ := h
    have r_a := r_a.tr hE
    obtain ⟨k10, g_k10, h⟩ := h
    refine v_cV (v_runV F k_X5_64 rfl (c_X5_put r_a h) r_a rfl rfl (Nat.le_of_ble_eq_true rfl) ⟨Nat.le_of_ble_eq_true rfl, Nat.le_of_ble_eq_true rfl⟩ (kb_c hk g_k10) dX5_putText_16) (fun  S9 h hE => ?_)
    have r_a := r_a.tr hE
    have hk := kb_n hk g_k10
    refine v_gen (fun n hk => ?_) hk
    obtain ⟨v11, e_v11⟩ : ∃ y : Int32, y = x2_2 + 1 := ⟨_, rfl⟩
    have h := h v11 e_v11
    refine v_iinc (v := v11) (lv1 := [(2, .int v11), (0, .ref a), (1, .ref (adK p1))]) F dX5_putText_19 (q := 2) rfl (by rw [e_v11]; rfl) (by rw [hN]; decide) rfl ?_
    refine v_goto (tgt := 2) F dX5_putText_22 (by decide) ?_
    exact v_sub [1, 2, 0] rfl (h r_a _ hk)
theorem dX5_putTimes_0 : decode cX5_putTimes 0 = .ok (.iconst 0, 1) := by decide +kernel
theorem dX5_putTimes_1 : decode cX5_putTimes 1 = .ok (.istore_n 3, 1) := by decide +kernel
theorem dX5_putTimes_2 : decode cX5_putTimes 2 = .ok (.iload_n 3, 1) := by decide +kernel
theorem dX5_putTimes_3 : decode cX5_putTimes 3 = .ok (.iload_n 2, 1) := by decide +kernel
theorem dX5_putTimes_4 : decode cX5_putTimes 4 = .ok (.if_icmp .ge 14, 3) := by decide +kernel
theorem dX5_putTimes_7 : decode cX5_putTimes 7 = .ok (.aload_n 0, 1) := by decide +kernel
theorem dX5_putTimes_8 : decode cX5_putTimes 8 = .ok (.iload_n 1, 1) := by decide +kernel
theorem dX5_putTimes_9 : decode cX5_putTimes 9 = .ok (.invokevirtual 64, 3) := by decide +kernel
theorem dX5_putTimes_12 : decode cX5_putTimes 12 = .ok (.iinc 3 1, 3) := by decide +kernel
theorem dX5_putTimes_15 : decode cX5_putTimes 15 = .ok (.goto (-13), 3) := by decide +kernel
theorem dX5_putTimes_18 : decode cX5_putTimes 18 = .ok (.return_, 1) := by decide +kernel
abbrev rm_X5_putTimes (k : Nat × Nat) : Room := { frames := 3, cells := k.1, slots := k.2, locals := 103 }
def wp_X5_putTimes (a : Nat) (p1 : Int32) (p2 : Int32) (k : Nat × Nat) (S : PS) (Q : PS → Prop) : Prop :=
  (∀ P2_1 : Int32 → Nat × Nat → PS → Prop, (∀ (x3_2 : Int32) (k4 : Nat × Nat) (S3 : PS),
 (if p2 ≤ x3_2 then
 Q S3
 else
 (∃ k6 : Nat × Nat, (k6.1 ≤ k4.1 ∧ k6.2 ≤ k4.2) ∧ wp_X5_put a p1 k6 S3 (fun (S5 : PS) => 
 (∀ v7, v7 = x3_2 + 1 → P2_1 v7 (k4.1 - k6.1, k4.2 - k6.2) S5))))
 → P2_1 x3_2 k4 S3) → P2_1 0 k S)
set_option maxRecDepth 100000 in
set_option maxHeartbeats 4000000 in
theorem c_X5_putTimes {l : Launch} {E : EE} {A : Nat → Prop} {a : Nat} {p1 : Int32} {p2 : Int32} {k : Nat × Nat} {S : PS} {Q : PS → Prop} (r_a : Rf S a 4) (h : wp_X5_putTimes a p1 p2 k S Q) : MtV l yX5_putTimes (.code yX5_putTimes cX5_putTimes 4 none) (rm_X5_putTimes k) E A [.ref a, .int p1, .int p2] S Q := by
  refine MtV.of (by decide) (Nat.le_of_ble_eq_true rfl) (fun X F hQ hN => ?_)
  show VV X (0, 0) S [(0, .ref a), (1, .int p1), (2, .int p2)] [] 0
  generalize hn0 : ((0, 0) : Nat × Nat) = n
  have hk : n.1 + k.1 ≤ k.1 ∧ n.2 + k.2 ≤ k.2 := by subst hn0; exact ⟨by omega, by omega⟩
  unfold wp_X5_putTimes at h
  refine v_iconst (v := 0) F dX5_putTimes_0 (by decide) ?_
  refine v_istore_n (lv1 := [(3, .int 0), (0, .ref a), (1, .int p1), (2, .int p2)]) F dX5_putTimes_1 rfl (by rw [hN]; decide) rfl ?_
  refine v_sub [1, 2, 3, 0] rfl ?_
  refine h (fun (x3_2 : Int32) (k4 : Nat × Nat) (S3 : PS) => Rf S3 a 4 → ∀ n : Nat × Nat, (n.1 + k4.1 ≤ k.1 ∧ n.2 + k4.2 ≤ k.2) → VV X n S3 [(0, .ref a), (1, .int p1), (2, .int p2), (3, .int x3_2)] [] 2) (fun x3_2 k4 S3 h r_a n hk => ?_) r_a _ hk
  refine v_iload_n F dX5_putTimes_2 3 rfl rfl ?_
  refine v_iload_n F dX5_putTimes_3 2 rfl rfl ?_
  refine v_icmp_ge (tgt := 18) F dX5_putTimes_4 (by decide) h (fun h => ?_) (fun h => ?_)
  · exact v_vret F hQ h (kb_ret hk) dX5_putTimes_18
  · refine v_aload_n F dX5_putTimes_7 0 rfl rfl ?_
    refine v_iload_n F dX5_putTimes_8 1 rfl rfl ?_
    obtain ⟨k6, g_k6, h⟩ := h
    refine v_cV (v_runV F k_X5_64 rfl (c_X5_put r_a h) r_a rfl rfl (Nat.le_of_ble_eq_true rfl) ⟨Nat.le_of_ble_eq_true rfl, Nat.le_of_ble_eq_true rfl⟩ (kb_c hk g_k6) dX5_putTimes_9) (fun  S5 h hE => ?_)
    have r_a := r_a.tr hE
    have hk := kb_n hk g_k6
    refine v_gen (fun n hk => ?_) hk
    obtain ⟨v7, e_v7⟩ : ∃ y : Int32, y = x3_2 + 1 := ⟨_, rfl⟩
    have h := h v7 e_v7
    refine v_iinc (v := v7) (lv1 := [(3, .int v7), (0, .ref a), (1, .int p1), (2, .int p2)]) F dX5_putTimes_12 (q := 3) rfl (by rw [e_v7]; rfl) (by rw [hN]; decide) rfl ?_
    refine v_goto (tgt := 2) F dX5_putTimes_15 (by decide) ?_
    exact v_sub [1, 2, 3, 0] rfl (h r_a _ hk)
theorem dX5_putTicks_0 : decode cX5_putTicks 0 = .ok (.aload_n 0, 1) := by decide +kernel
theorem dX5_putTicks_1 : decode cX5_putTicks 1 = .ok (.bipush 58, 2) := by decide +kernel
theorem dX5_putTicks_3 : decode cX5_putTicks 3 = .ok (.invokevirtual 64, 3) := by decide +kernel
theorem dX5_putTicks_6 : decode cX5_putTicks 6 = .ok (.iconst 0, 1) := by decide +kernel
theorem dX5_putTicks_7 : decode cX5_putTicks 7 = .ok (.istore_n 3, 1) := by decide +kernel
theorem dX5_putTicks_8 : decode cX5_putTicks 8 = .ok (.lload_n 1, 1) := by decide +kernel
theorem dX5_putTicks_9 : decode cX5_putTicks 9 = .ok (.lstore 4, 2) := by decide +kernel
theorem dX5_putTicks_11 : decode cX5_putTicks 11 = .ok (.aload_n 0, 1) := by decide +kernel
theorem dX5_putTicks_12 : decode cX5_putTicks 12 = .ok (.getfield 15, 3) := by decide +kernel
theorem dX5_putTicks_15 : decode cX5_putTicks 15 = .ok (.iload_n 3, 1) := by decide +kernel
theorem dX5_putTicks_16 : decode cX5_putTicks 16 = .ok (.ldc2_w 68, 3) := by decide +kernel
theorem dX5_putTicks_19 : decode cX5_putTicks 19 = .ok (.lload 4, 2) := by decide +kernel
theorem dX5_putTicks_21 : decode cX5_putTicks 21 = .ok (.ldc2_w 70, 3) := by decide +kernel
theorem dX5_putTicks_24 : decode cX5_putTicks 24 = .ok (.lrem, 1) := by decide +kernel
theorem dX5_putTicks_25 : decode cX5_putTicks 25 = .ok (.ladd, 1) := by decide +kernel
theorem dX5_putTicks_26 : decode cX5_putTicks 26 = .ok (.l2i, 1) := by decide +kernel
theorem dX5_putTicks_27 : decode cX5_putTicks 27 = .ok (.i2b, 1) := by decide +kernel
theorem dX5_putTicks_28 : decode cX5_putTicks 28 = .ok (.bastore, 1) := by decide +kernel
theorem dX5_putTicks_29 : decode cX5_putTicks 29 = .ok (.lload 4, 2) := by decide +kernel
theorem dX5_putTicks_31 : decode cX5_putTicks 31 = .ok (.ldc2_w 70, 3) := by decide +kernel
theorem dX5_putTicks_34 : decode cX5_putTicks 34 = .ok (.ldiv, 1) := by decide +kernel
theorem dX5_putTicks_35 : decode cX5_putTicks 35 = .ok (.lstore 4, 2) := by decide +kernel
theorem dX5_putTicks_37 : decode cX5_putTicks 37 = .ok (.iinc 3 1, 3) := by decide +kernel
theorem dX5_putTicks_40 : decode cX5_putTicks 40 = .ok (.lload 4, 2) := by decide +kernel
theorem dX5_putTicks_42 : decode cX5_putTicks 42 = .ok (.lconst 0, 1) := by decide +kernel
theorem dX5_putTicks_43 : decode cX5_putTicks 43 = .ok (.lcmp, 1) := by decide +kernel
theorem dX5_putTicks_44 : decode cX5_putTicks 44 = .ok (.ifCond .le 9, 3) := by decide +kernel
theorem dX5_putTicks_47 : decode cX5_putTicks 47 = .ok (.iload_n 3, 1) := by decide +kernel
theorem dX5_putTicks_48 : decode cX5_putTicks 48 = .ok (.bipush 20, 2) := by decide +kernel
theorem dX5_putTicks_50 : decode cX5_putTicks 50 = .ok (.if_icmp .lt (-39), 3) := by decide +kernel
theorem dX5_putTicks_53 : decode cX5_putTicks 53 = .ok (.iload_n 3, 1) := by decide +kernel
theorem dX5_putTicks_54 : decode cX5_putTicks 54 = .ok (.iconst 1, 1) := by decide +kernel
theorem dX5_putTicks_55 : decode cX5_putTicks 55 = .ok (.isub, 1) := by decide +kernel
theorem dX5_putTicks_56 : decode cX5_putTicks 56 = .ok (.istore 6, 2) := by decide +kernel
theorem dX5_putTicks_58 : decode cX5_putTicks 58 = .ok (.iload 6, 2) := by decide +kernel
theorem dX5_putTicks_60 : decode cX5_putTicks 60 = .ok (.ifCond .lt 20, 3) := by decide +kernel
theorem dX5_putTicks_63 : decode cX5_putTicks 63 = .ok (.aload_n 0, 1) := by decide +kernel
theorem dX5_putTicks_64 : decode cX5_putTicks 64 = .ok (.aload_n 0, 1) := by decide +kernel
theorem dX5_putTicks_65 : decode cX5_putTicks 65 = .ok (.getfield 15, 3) := by decide +kernel
theorem dX5_putTicks_68 : decode cX5_putTicks 68 = .ok (.iload 6, 2) := by decide +kernel
theorem dX5_putTicks_70 : decode cX5_putTicks 70 = .ok (.baload, 1) := by decide +kernel
theorem dX5_putTicks_71 : decode cX5_putTicks 71 = .ok (.invokevirtual 64, 3) := by decide +kernel
theorem dX5_putTicks_74 : decode cX5_putTicks 74 = .ok (.iinc 6 (-1), 3) := by decide +kernel
theorem dX5_putTicks_77 : decode cX5_putTicks 77 = .ok (.goto (-19), 3) := by decide +kernel
theorem dX5_putTicks_80 : decode cX5_putTicks 80 = .ok (.return_, 1) := by decide +kernel
abbrev rm_X5_putTicks (k : Nat × Nat) : Room := { frames := 3, cells := k.1, slots := k.2, locals := 103 }
def wp_X5_putTicks (a : Nat) (p1 : Int64) (k : Nat × Nat) (S : PS) (Q : PS → Prop) : Prop :=
  (∃ k2 : Nat × Nat, (k2.1 ≤ k.1 ∧ k2.2 ≤ k.2) ∧ wp_X5_put a 58 k2 S (fun (S1 : PS) => 
 (∀ P11_3 : Int32 → Int64 → Nat × Nat → PS → Prop, (∀ (x3_4 : Int32) (x4_5 : Int64) (k7 : Nat × Nat) (S6 : PS),
 (∃ b8, fR S6 42 a = some b8 ∧ (vp_in x3_4 (aN S6 b8) ∧ ∀ S9, S9 = wI S6 15 b8 (x3_4).toNatClampNeg (vp_nar .byte ((((48 : Int64) + (x4_5 - x4_5 / 10 * 10)).toInt32).toInt8.toInt32)) → (∀ v10, v10 = x4_5 / 10 → (∀ v11, v11 = x3_4 + 1 → (∀ K53_13 : Nat × Nat → PS → Prop, (∀ (k14 : Nat × Nat) (S12 : PS),
 (∀ v15, v15 = v11 - 1 → (∀ P58_16 : Int32 → Nat × Nat → PS → Prop, (∀ (x6_17 : Int32) (k19 : Nat × Nat) (S18 : PS),
 (if x6_17 < 0 then
 Q S18
 else
 (∃ b20, fR S18 42 a = some b20 ∧ (vp_in x6_17 (aN S18 b20) ∧ (∃ k22 : Nat × Nat, (k22.1 ≤ k19.1 ∧ k22.2 ≤ k19.2) ∧ wp_X5_put a (aI S18 15 b20 (x6_17).toNatClampNeg) k22 S18 (fun (S21 : PS) => 
 (∀ v23, v23 = x6_17 + (-1) → P58_16 v23 (k19.1 - k22.1, k19.2 - k22.2) S21))))))
 → P58_16 x6_17 k19 S18) → P58_16 v15 k14 S12))
 → K53_13 k14 S12) →
 (if v10 ≤ 0 then
 K53_13 k7 S9
 else
 (if v11 < 20 then
 P11_3 v11 v10 k7 S9
 else
 K53_13 k7 S9)))))))
 → P11_3 x3_4 x4_5 k7 S6) → P11_3 0 p1 (k.1 - k2.1, k.2 - k2.2) S1)))
set_option maxRecDepth 100000 in
set_option maxHeartbeats 4000000 in
theorem c_X5_putTicks {l : Launch} {E : EE} {A : Nat → Prop} {a : Nat} {p1 : Int64} {k : Nat × Nat} {S : PS} {Q : PS → Prop} (r_a : Rf S a 4) (h : wp_X5_putTicks a p1 k S Q) : MtV l yX5_putTicks (.code yX5_putTicks cX5_putTicks 7 none) (rm_X5_putTicks k) E A [.ref a, .long p1] S Q := by
  refine MtV.of (by decide) (Nat.le_of_ble_eq_true rfl) (fun X F hQ hN => ?_)
  show VV X (0, 0) S [(0, .ref a), (1, .long p1)] [] 0
  generalize hn0 : ((0, 0) : Nat × Nat) = n
  have hk : n.1 + k.1 ≤ k.1 ∧ n.2 + k.2 ≤ k.2 := by subst hn0; exact ⟨by omega, by omega⟩
  unfold wp_X5_putTicks at h
  refine v_aload_n F dX5_putTicks_0 0 rfl rfl ?_
  refine v_bipush (v := 58) F dX5_putTicks_1 (by decide) ?_
  obtain ⟨k2, g_k2, h⟩ := h
  refine v_cV (v_runV F k_X5_64 rfl (c_X5_put r_a h) r_a rfl rfl (Nat.le_of_ble_eq_true rfl) ⟨Nat.le_of_ble_eq_true rfl, Nat.le_of_ble_eq_true rfl⟩ (kb_c hk g_k2) dX5_putTicks_3) (fun  S1 h hE => ?_)
  have r_a := r_a.tr hE
  have hk := kb_n hk g_k2
  refine v_gen (fun n hk => ?_) hk
  refine v_iconst (v := 0) F dX5_putTicks_6 (by decide) ?_
  refine v_istore_n (lv1 := [(3, .int 0), (0, .ref a), (1, .long p1)]) F dX5_putTicks_7 rfl (by rw [hN]; decide) rfl ?_
  refine v_lload_n F dX5_putTicks_8 2 rfl rfl ?_
  refine v_lstore (lv1 := [(4, .long p1), (3, .int 0), (0, .ref a), (1, .long p1)]) F dX5_putTicks_9 (by rw [hN]; decide) rfl ?_
  refine v_sub [2, 1, 0] rfl ?_
  refine h (fun (x3_4 : Int32) (x4_5 : Int64) (k7 : Nat × Nat) (S6 : PS) => Rf S6 a 4 → ∀ n : Nat × Nat, (n.1 + k7.1 ≤ k.1 ∧ n.2 + k7.2 ≤ k.2) → VV X n S6 [(0, .ref a), (3, .int x3_4), (4, .long x4_5)] [] 11) (fun x3_4 x4_5 k7 S6 h r_a n hk => ?_) r_a _ hk
  refine v_aload_n F dX5_putTicks_11 0 rfl rfl ?_
  refine g_X5_15 F r_a h dX5_putTicks_12 (fun b8 r_b8 h => ?_)
  refine v_iload_n F dX5_putTicks_15 1 rfl rfl ?_
  refine v_ldc2 F kc_X5_68 dX5_putTicks_16 ?_
  refine v_lload F dX5_putTicks_19 2 rfl ?_
  refine v_ldc2 F kc_X5_70 dX5_putTicks_21 ?_
  refine v_lrem F dX5_putTicks_24 (by decide) ?_
  refine v_ladd F dX5_putTicks_25 ?_
  refine v_l2i F dX5_putTicks_26 ?_
  refine v_i2b F dX5_putTicks_27 ?_
  refine v_bast F r_b8 o_15 h dX5_putTicks_28 (fun S9 h hE => ?_)
  have r_a := r_a.tr hE
  refine v_lload F dX5_putTicks_29 2 rfl ?_
  refine v_ldc2 F kc_X5_70 dX5_putTicks_31 ?_
  refine v_ldiv F dX5_putTicks_34 (by decide) ?_
  refine v_topl (fun v10 e_v10 => ?_)
  have h := h v10 e_v10
  refine v_lstore (lv1 := [(4, .long v10), (0, .ref a), (3, .int x3_4)]) F dX5_putTicks_35 (by rw [hN]; decide) rfl ?_
  obtain ⟨v11, e_v11⟩ : ∃ y : Int32, y = x3_4 + 1 := ⟨_, rfl⟩
  have h := h v11 e_v11
  refine v_iinc (v := v11) (lv1 := [(3, .int v11), (4, .long v10), (0, .ref a)]) F dX5_putTicks_37 (q := 2) rfl (by rw [e_v11]; rfl) (by rw [hN]; decide) rfl ?_
  refine v_lload F dX5_putTicks_40 1 rfl ?_
  refine v_lconst (v := 0) F dX5_putTicks_42 (by decide) ?_
  have h := h (fun (k14 : Nat × Nat) (S12 : PS) => Rf S12 a 4 → ∀ n : Nat × Nat, (n.1 + k14.1 ≤ k.1 ∧ n.2 + k14.2 ≤ k.2) → VV X n S12 [(0, .ref a), (3, .int v11)] [] 53) (by
    intro k14 S12 h r_a n hk
    refine v_iload_n F dX5_putTicks_53 1 rfl rfl ?_
    refine v_iconst (v := 1) F dX5_putTicks_54 (by decide) ?_
    refine v_isub F dX5_putTicks_55 ?_
    refine v_topi (fun v15 e_v15 => ?_)
    have h := h v15 e_v15
    refine v_istore (lv1 := [(6, .int v15), (0, .ref a), (3, .int v11)]) F dX5_putTicks_56 (by rw [hN]; decide) rfl ?_
    refine v_sub [1, 0] rfl ?_
    refine h (fun (x6_17 : Int32) (k19 : Nat × Nat) (S18 : PS) => Rf S18 a 4 → ∀ n : Nat × Nat, (n.1 + k19.1 ≤ k.1 ∧ n.2 + k19.2 ≤ k.2) → VV X n S18 [(0, .ref a), (6, .int x6_17)] [] 58) (fun x6_17 k19 S18 h r_a n hk => ?_) r_a _ hk
    refine v_iload F dX5_putTicks_58 1 rfl ?_
    refine v_if_lt (tgt := 80) F dX5_putTicks_60 (by decide) h (fun h => ?_) (fun h => ?_)
    · exact v_vret F hQ h (kb_ret hk) dX5_putTicks_80
    · refine v_aload_n F dX5_putTicks_63 0 rfl rfl ?_
      refine v_aload_n F dX5_putTicks_64 0 rfl rfl ?_
      refine g_X5_15 F r_a h dX5_putTicks_65 (fun b20 r_b20 h => ?_)
      refine v_iload F dX5_putTicks_68 1 rfl ?_
      refine v_bald F r_b20 o_15 h dX5_putTicks_70 (fun h => ?_)
      obtain ⟨k22, g_k22, h⟩ := h
      refine v_cV (v_runV F k_X5_64 rfl (c_X5_put r_a h) r_a rfl rfl (Nat.le_of_ble_eq_true rfl) ⟨Nat.le_of_ble_eq_true rfl, Nat.le_of_ble_eq_true rfl⟩ (kb_c hk g_k22) dX5_putTicks_71) (fun  S21 h hE => ?_)
      have r_a := r_a.tr hE
      have hk := kb_n hk g_k22
      refine v_gen (fun n hk => ?_) hk
      obtain ⟨v23, e_v23⟩ : ∃ y : Int32, y = x6_17 + (-1) := ⟨_, rfl⟩
      have h := h v23 e_v23
      refine v_iinc (v := v23) (lv1 := [(6, .int v23), (0, .ref a)]) F dX5_putTicks_74 (q := 1) rfl (by rw [e_v23]; rfl) (by rw [hN]; decide) rfl ?_
      refine v_goto (tgt := 58) F dX5_putTicks_77 (by decide) ?_
      exact v_sub [1, 0] rfl (h r_a _ hk))
  refine v_lcmp_le (tgt := 53) F dX5_putTicks_43 dX5_putTicks_44 (by decide) h (fun h => ?_) (fun h => ?_)
  · exact v_sub [2, 0] rfl (h r_a _ hk)
  · refine v_iload_n F dX5_putTicks_47 0 rfl rfl ?_
    refine v_bipush (v := 20) F dX5_putTicks_48 (by decide) ?_
    refine v_icmp_lt (tgt := 11) F dX5_putTicks_50 (by decide) h (fun h => ?_) (fun h => ?_)
    · exact v_sub [2, 0, 1] rfl (h r_a _ hk)
    · exact v_sub [2, 0] rfl (h r_a _ hk)
theorem dX5_putGap_0 : decode cX5_putGap 0 = .ok (.aload_n 0, 1) := by decide +kernel
theorem dX5_putGap_1 : decode cX5_putGap 1 = .ok (.getfield 18, 3) := by decide +kernel
theorem dX5_putGap_4 : decode cX5_putGap 4 = .ok (.iload_n 1, 1) := by decide +kernel
theorem dX5_putGap_5 : decode cX5_putGap 5 = .ok (.if_icmp .le 9, 3) := by decide +kernel
theorem dX5_putGap_8 : decode cX5_putGap 8 = .ok (.aload_n 0, 1) := by decide +kernel
theorem dX5_putGap_9 : decode cX5_putGap 9 = .ok (.bipush 32, 2) := by decide +kernel
theorem dX5_putGap_11 : decode cX5_putGap 11 = .ok (.invokevirtual 64, 3) := by decide +kernel
theorem dX5_putGap_14 : decode cX5_putGap 14 = .ok (.return_, 1) := by decide +kernel
abbrev rm_X5_putGap (k : Nat × Nat) : Room := { frames := 3, cells := k.1, slots := k.2, locals := 103 }
def wp_X5_putGap (a : Nat) (p1 : Int32) (k : Nat × Nat) (S : PS) (Q : PS → Prop) : Prop :=
  (if fI S 41 a ≤ p1 then
 Q S
 else
 (∃ k2 : Nat × Nat, (k2.1 ≤ k.1 ∧ k2.2 ≤ k.2) ∧ wp_X5_put a 32 k2 S (fun (S1 : PS) => 
 Q S1)))
set_option maxRecDepth 100000 in
set_option maxHeartbeats 4000000 in
theorem c_X5_putGap {l : Launch} {E : EE} {A : Nat → Prop} {a : Nat} {p1 : Int32} {k : Nat × Nat} {S : PS} {Q : PS → Prop} (r_a : Rf S a 4) (h : wp_X5_putGap a p1 k S Q) : MtV l yX5_putGap (.code yX5_putGap cX5_putGap 2 none) (rm_X5_putGap k) E A [.ref a, .int p1] S Q := by
  refine MtV.of (by decide) (Nat.le_of_ble_eq_true rfl) (fun X F hQ hN => ?_)
  show VV X (0, 0) S [(0, .ref a), (1, .int p1)] [] 0
  generalize hn0 : ((0, 0) : Nat × Nat) = n
  have hk : n.1 + k.1 ≤ k.1 ∧ n.2 + k.2 ≤ k.2 := by subst hn0; exact ⟨by omega, by omega⟩
  unfold wp_X5_putGap at h
  refine v_aload_n F dX5_putGap_0 0 rfl rfl ?_
  refine g_X5_18 F r_a dX5_putGap_1 ?_
  refine v_iload_n F dX5_putGap_4 1 rfl rfl ?_
  refine v_icmp_le (tgt := 14) F dX5_putGap_5 (by decide) h (fun h => ?_) (fun h => ?_)
  · exact v_vret F hQ h (kb_ret hk) dX5_putGap_14
  · refine v_aload_n F dX5_putGap_8 0 rfl rfl ?_
    refine v_bipush (v := 32) F dX5_putGap_9 (by decide) ?_
    obtain ⟨k2, g_k2, h⟩ := h
    refine v_cV (v_runV F k_X5_64 rfl (c_X5_put r_a h) r_a rfl rfl (Nat.le_of_ble_eq_true rfl) ⟨Nat.le_of_ble_eq_true rfl, Nat.le_of_ble_eq_true rfl⟩ (kb_c hk g_k2) dX5_putGap_11) (fun  S1 h hE => ?_)
    have r_a := r_a.tr hE
    have hk := kb_n hk g_k2
    refine v_gen (fun n hk => ?_) hk
    exact v_vret F hQ h (kb_ret hk) dX5_putGap_14
theorem dX5_putPitch_0 : decode cX5_putPitch 0 = .ok (.iload_n 1, 1) := by decide +kernel
theorem dX5_putPitch_1 : decode cX5_putPitch 1 = .ok (.invokestatic 118, 3) := by decide +kernel
theorem dX5_putPitch_4 : decode cX5_putPitch 4 = .ok (.istore_n 2, 1) := by decide +kernel
theorem dX5_putPitch_5 : decode cX5_putPitch 5 = .ok (.iload_n 1, 1) := by decide +kernel
theorem dX5_putPitch_6 : decode cX5_putPitch 6 = .ok (.invokestatic 123, 3) := by decide +kernel
theorem dX5_putPitch_9 : decode cX5_putPitch 9 = .ok (.istore_n 3, 1) := by decide +kernel
theorem dX5_putPitch_10 : decode cX5_putPitch 10 = .ok (.iload_n 1, 1) := by decide +kernel
theorem dX5_putPitch_11 : decode cX5_putPitch 11 = .ok (.invokestatic 126, 3) := by decide +kernel
theorem dX5_putPitch_14 : decode cX5_putPitch 14 = .ok (.iconst 4, 1) := by decide +kernel
theorem dX5_putPitch_15 : decode cX5_putPitch 15 = .ok (.isub, 1) := by decide +kernel
theorem dX5_putPitch_16 : decode cX5_putPitch 16 = .ok (.istore 4, 2) := by decide +kernel
theorem dX5_putPitch_18 : decode cX5_putPitch 18 = .ok (.aload_n 0, 1) := by decide +kernel
theorem dX5_putPitch_19 : decode cX5_putPitch 19 = .ok (.bipush 97, 2) := by decide +kernel
theorem dX5_putPitch_21 : decode cX5_putPitch 21 = .ok (.iload_n 2, 1) := by decide +kernel
theorem dX5_putPitch_22 : decode cX5_putPitch 22 = .ok (.iconst 2, 1) := by decide +kernel
theorem dX5_putPitch_23 : decode cX5_putPitch 23 = .ok (.iadd, 1) := by decide +kernel
theorem dX5_putPitch_24 : decode cX5_putPitch 24 = .ok (.bipush 7, 2) := by decide +kernel
theorem dX5_putPitch_26 : decode cX5_putPitch 26 = .ok (.irem, 1) := by decide +kernel
theorem dX5_putPitch_27 : decode cX5_putPitch 27 = .ok (.iadd, 1) := by decide +kernel
theorem dX5_putPitch_28 : decode cX5_putPitch 28 = .ok (.invokevirtual 64, 3) := by decide +kernel
theorem dX5_putPitch_31 : decode cX5_putPitch 31 = .ok (.aload_n 0, 1) := by decide +kernel
theorem dX5_putPitch_32 : decode cX5_putPitch 32 = .ok (.iload_n 3, 1) := by decide +kernel
theorem dX5_putPitch_33 : decode cX5_putPitch 33 = .ok (.ifCond .ge 8, 3) := by decide +kernel
theorem dX5_putPitch_36 : decode cX5_putPitch 36 = .ok (.bipush 45, 2) := by decide +kernel
theorem dX5_putPitch_38 : decode cX5_putPitch 38 = .ok (.goto 5, 3) := by decide +kernel
theorem dX5_putPitch_41 : decode cX5_putPitch 41 = .ok (.bipush 43, 2) := by decide +kernel
theorem dX5_putPitch_43 : decode cX5_putPitch 43 = .ok (.iload_n 3, 1) := by decide +kernel
theorem dX5_putPitch_44 : decode cX5_putPitch 44 = .ok (.invokestatic 129, 3) := by decide +kernel
theorem dX5_putPitch_47 : decode cX5_putPitch 47 = .ok (.invokevirtual 132, 3) := by decide +kernel
theorem dX5_putPitch_50 : decode cX5_putPitch 50 = .ok (.aload_n 0, 1) := by decide +kernel
theorem dX5_putPitch_51 : decode cX5_putPitch 51 = .ok (.iload 4, 2) := by decide +kernel
theorem dX5_putPitch_53 : decode cX5_putPitch 53 = .ok (.ifCond .ge 8, 3) := by decide +kernel
theorem dX5_putPitch_56 : decode cX5_putPitch 56 = .ok (.bipush 44, 2) := by decide +kernel
theorem dX5_putPitch_58 : decode cX5_putPitch 58 = .ok (.goto 5, 3) := by decide +kernel
theorem dX5_putPitch_61 : decode cX5_putPitch 61 = .ok (.bipush 39, 2) := by decide +kernel
theorem dX5_putPitch_63 : decode cX5_putPitch 63 = .ok (.iload 4, 2) := by decide +kernel
theorem dX5_putPitch_65 : decode cX5_putPitch 65 = .ok (.invokestatic 129, 3) := by decide +kernel
theorem dX5_putPitch_68 : decode cX5_putPitch 68 = .ok (.invokevirtual 132, 3) := by decide +kernel
theorem dX5_putPitch_71 : decode cX5_putPitch 71 = .ok (.return_, 1) := by decide +kernel
abbrev rm_X5_putPitch (k : Nat × Nat) : Room := { frames := 4, cells := k.1, slots := k.2, locals := 126 }
def wp_X5_putPitch (a : Nat) (p1 : Int32) (k : Nat × Nat) (S : PS) (Q : PS → Prop) : Prop :=
  wp_X4_letter p1 S (fun (r2 : Int32) (S1 : PS) => 
 wp_X4_alter p1 S1 (fun (r4 : Int32) (S3 : PS) => 
 wp_X4_octave p1 S3 (fun (r6 : Int32) (S5 : PS) => 
 (∀ v7, v7 = r6 - 4 → (∃ k9 : Nat × Nat, (k9.1 ≤ k.1 ∧ k9.2 ≤ k.2) ∧ wp_X5_put a ((97 : Int32) + ((r2 + 2) - (r2 + 2) / 7 * 7)) k9 S5 (fun (S8 : PS) => 
 (∀ K43_13 : Nat → Int32 → Nat × Nat → PS → Prop, (∀ (t10 : Nat) (t11 : Int32) (k14 : Nat × Nat) (S12 : PS),
 (∃ k16 : Nat × Nat, (k16.1 ≤ k14.1 ∧ k16.2 ≤ k14.2) ∧ wp_X5_putTimes t10 t11 ((if 0 ≤ r4 then r4 else 0 - r4)) k16 S12 (fun (S15 : PS) => 
 (∀ K63_20 : Nat → Int32 → Nat × Nat → PS → Prop, (∀ (t17 : Nat) (t18 : Int32) (k21 : Nat × Nat) (S19 : PS),
 (∃ k23 : Nat × Nat, (k23.1 ≤ k21.1 ∧ k23.2 ≤ k21.2) ∧ wp_X5_putTimes t17 t18 ((if 0 ≤ v7 then v7 else 0 - v7)) k23 S19 (fun (S22 : PS) => 
 Q S22))
 → K63_20 t17 t18 k21 S19) →
 (if 0 ≤ v7 then
 K63_20 a 39 (k14.1 - k16.1, k14.2 - k16.2) S15
 else
 K63_20 a 44 (k14.1 - k16.1, k14.2 - k16.2) S15))))
 → K43_13 t10 t11 k14 S12) →
 (if 0 ≤ r4 then
 K43_13 a 43 (k.1 - k9.1, k.2 - k9.2) S8
 else
 K43_13 a 45 (k.1 - k9.1, k.2 - k9.2) S8))))))))
set_option maxRecDepth 100000 in
set_option maxHeartbeats 4000000 in
theorem c_X5_putPitch {l : Launch} {E : EE} {A : Nat → Prop} {a : Nat} {p1 : Int32} {k : Nat × Nat} {S : PS} {Q : PS → Prop} (r_a : Rf S a 4) (h : wp_X5_putPitch a p1 k S Q) : MtV l yX5_putPitch (.code yX5_putPitch cX5_putPitch 5 none) (rm_X5_putPitch k) E A [.ref a, .int p1] S Q := by
  refine MtV.of (by decide) (Nat.le_of_ble_eq_true rfl) (fun X F hQ hN => ?_)
  show VV X (0, 0) S [(0, .ref a), (1, .int p1)] [] 0
  generalize hn0 : ((0, 0) : Nat × Nat) = n
  have hk : n.1 + k.1 ≤ k.1 ∧ n.2 + k.2 ≤ k.2 := by subst hn0; exact ⟨by omega, by omega⟩
  unfold wp_X5_putPitch at h
  refine v_iload_n F dX5_putPitch_0 1 rfl rfl ?_
  refine v_cI0 (v_runS F k_X5_118 (c_X4_letter h) rfl rfl (Nat.le_of_ble_eq_true rfl) ⟨Nat.le_of_ble_eq_true rfl, Nat.le_of_ble_eq_true rfl⟩ (kb_z hk) dX5_putPitch_1) ⟨rfl, rfl⟩ (fun r2 S1 h hE => ?_)
  have r_a := r_a.tr hE
  refine v_istore_n (lv1 := [(2, .int r2), (0, .ref a), (1, .int p1)]) F dX5_putPitch_4 rfl (by rw [hN]; decide) rfl ?_
  refine v_iload_n F dX5_putPitch_5 2 rfl rfl ?_
  refine v_cI0 (v_runS F k_X5_123 (c_X4_alter h) rfl rfl (Nat.le_of_ble_eq_true rfl) ⟨Nat.le_of_ble_eq_true rfl, Nat.le_of_ble_eq_true rfl⟩ (kb_z hk) dX5_putPitch_6) ⟨rfl, rfl⟩ (fun r4 S3 h hE => ?_)
  have r_a := r_a.tr hE
  refine v_istore_n (lv1 := [(3, .int r4), (2, .int r2), (0, .ref a), (1, .int p1)]) F dX5_putPitch_9 rfl (by rw [hN]; decide) rfl ?_
  refine v_iload_n F dX5_putPitch_10 3 rfl rfl ?_
  refine v_cI0 (v_runS F k_X5_126 (c_X4_octave h) rfl rfl (Nat.le_of_ble_eq_true rfl) ⟨Nat.le_of_ble_eq_true rfl, Nat.le_of_ble_eq_true rfl⟩ (kb_z hk) dX5_putPitch_11) ⟨rfl, rfl⟩ (fun r6 S5 h hE => ?_)
  have r_a := r_a.tr hE
  refine v_iconst (v := 4) F dX5_putPitch_14 (by decide) ?_
  refine v_isub F dX5_putPitch_15 ?_
  refine v_topi (fun v7 e_v7 => ?_)
  have h := h v7 e_v7
  refine v_istore (lv1 := [(4, .int v7), (3, .int r4), (2, .int r2), (0, .ref a), (1, .int p1)]) F dX5_putPitch_16 (by rw [hN]; decide) rfl ?_
  refine v_aload_n F dX5_putPitch_18 3 rfl rfl ?_
  refine v_bipush (v := 97) F dX5_putPitch_19 (by decide) ?_
  refine v_iload_n F dX5_putPitch_21 2 rfl rfl ?_
  refine v_iconst (v := 2) F dX5_putPitch_22 (by decide) ?_
  refine v_iadd F dX5_putPitch_23 ?_
  refine v_bipush (v := 7) F dX5_putPitch_24 (by decide) ?_
  refine v_irem F dX5_putPitch_26 (by decide) ?_
  refine v_iadd F dX5_putPitch_27 ?_
  obtain ⟨k9, g_k9, h⟩ := h
  refine v_cV (v_runV F k_X5_64 rfl (c_X5_put r_a h) r_a rfl rfl (Nat.le_of_ble_eq_true rfl) ⟨Nat.le_of_ble_eq_true rfl, Nat.le_of_ble_eq_true rfl⟩ (kb_c hk g_k9) dX5_putPitch_28) (fun  S8 h hE => ?_)
  have r_a := r_a.tr hE
  have hk := kb_n hk g_k9
  refine v_gen (fun n hk => ?_) hk
  refine v_aload_n F dX5_putPitch_31 3 rfl rfl ?_
  refine v_iload_n F dX5_putPitch_32 1 rfl rfl ?_
  have h := h (fun (t10 : Nat) (t11 : Int32) (k14 : Nat × Nat) (S12 : PS) => Rf S12 a 4 → Rf S12 t10 4 → ∀ n : Nat × Nat, (n.1 + k14.1 ≤ k.1 ∧ n.2 + k14.2 ≤ k.2) → VV X n S12 [(0, .ref a), (3, .int r4), (4, .int v7)] [.int t11, .ref t10] 43) (by
    intro t10 t11 k14 S12 h r_a r_t10 n hk
    refine v_iload_n F dX5_putPitch_43 1 rfl rfl ?_
    refine v_mabs F k_X5_129 ⟨Nat.le_of_ble_eq_true rfl, kb_ret hk⟩ (Nat.le_of_ble_eq_true rfl) dX5_putPitch_44 ?_
    obtain ⟨k16, g_k16, h⟩ := h
    refine v_cV (v_runV F k_X5_132 rfl (c_X5_putTimes r_t10 h) r_t10 rfl rfl (Nat.le_of_ble_eq_true rfl) ⟨Nat.le_of_ble_eq_true rfl, Nat.le_of_ble_eq_true rfl⟩ (kb_c hk g_k16) dX5_putPitch_47) (fun  S15 h hE => ?_)
    have r_a := r_a.tr hE
    have hk := kb_n hk g_k16
    refine v_gen (fun n hk => ?_) hk
    refine v_aload_n F dX5_putPitch_50 0 rfl rfl ?_
    refine v_iload F dX5_putPitch_51 2 rfl ?_
    have h := h (fun (t17 : Nat) (t18 : Int32) (k21 : Nat × Nat) (S19 : PS) => Rf S19 t17 4 → ∀ n : Nat × Nat, (n.1 + k21.1 ≤ k.1 ∧ n.2 + k21.2 ≤ k.2) → VV X n S19 [(4, .int v7)] [.int t18, .ref t17] 63) (by
      intro t17 t18 k21 S19 h r_t17 n hk
      refine v_iload F dX5_putPitch_63 0 rfl ?_
      refine v_mabs F k_X5_129 ⟨Nat.le_of_ble_eq_true rfl, kb_ret hk⟩ (Nat.le_of_ble_eq_true rfl) dX5_putPitch_65 ?_
      obtain ⟨k23, g_k23, h⟩ := h
      refine v_cV (v_runV F k_X5_132 rfl (c_X5_putTimes r_t17 h) r_t17 rfl rfl (Nat.le_of_ble_eq_true rfl) ⟨Nat.le_of_ble_eq_true rfl, Nat.le_of_ble_eq_true rfl⟩ (kb_c hk g_k23) dX5_putPitch_68) (fun  S22 h hE => ?_)
      have hk := kb_n hk g_k23
      refine v_gen (fun n hk => ?_) hk
      exact v_vret F hQ h (kb_ret hk) dX5_putPitch_71)
    refine v_if_ge (tgt := 61) F dX5_putPitch_53 (by decide) h (fun h => ?_) (fun h => ?_)
    · refine v_bipush (v := 39) F dX5_putPitch_61 (by decide) ?_
      exact v_sub [2] rfl (h r_a _ hk)
    · refine v_bipush (v := 44) F dX5_putPitch_56 (by decide) ?_
      refine v_goto (tgt := 63) F dX5_putPitch_58 (by decide) ?_
      exact v_sub [2] rfl (h r_a _ hk))
  refine v_if_ge (tgt := 41) F dX5_putPitch_33 (by decide) h (fun h => ?_) (fun h => ?_)
  · refine v_bipush (v := 43) F dX5_putPitch_41 (by decide) ?_
    exact v_sub [3, 1, 0] rfl (h r_a r_a _ hk)
  · refine v_bipush (v := 45) F dX5_putPitch_36 (by decide) ?_
    refine v_goto (tgt := 43) F dX5_putPitch_38 (by decide) ?_
    exact v_sub [3, 1, 0] rfl (h r_a r_a _ hk)
theorem dX5_putSound_0 : decode cX5_putSound 0 = .ok (.aload_n 1, 1) := by decide +kernel
theorem dX5_putSound_1 : decode cX5_putSound 1 = .ok (.iload_n 2, 1) := by decide +kernel
theorem dX5_putSound_2 : decode cX5_putSound 2 = .ok (.invokevirtual 100, 3) := by decide +kernel
theorem dX5_putSound_5 : decode cX5_putSound 5 = .ok (.istore_n 3, 1) := by decide +kernel
theorem dX5_putSound_6 : decode cX5_putSound 6 = .ok (.iload_n 3, 1) := by decide +kernel
theorem dX5_putSound_7 : decode cX5_putSound 7 = .ok (.ifCond .ne 12, 3) := by decide +kernel
theorem dX5_putSound_10 : decode cX5_putSound 10 = .ok (.aload_n 0, 1) := by decide +kernel
theorem dX5_putSound_11 : decode cX5_putSound 11 = .ok (.bipush 114, 2) := by decide +kernel
theorem dX5_putSound_13 : decode cX5_putSound 13 = .ok (.invokevirtual 64, 3) := by decide +kernel
theorem dX5_putSound_16 : decode cX5_putSound 16 = .ok (.goto 70, 3) := by decide +kernel
theorem dX5_putSound_19 : decode cX5_putSound 19 = .ok (.iload_n 3, 1) := by decide +kernel
theorem dX5_putSound_20 : decode cX5_putSound 20 = .ok (.iconst 1, 1) := by decide +kernel
theorem dX5_putSound_21 : decode cX5_putSound 21 = .ok (.if_icmp .ne 16, 3) := by decide +kernel
theorem dX5_putSound_24 : decode cX5_putSound 24 = .ok (.aload_n 0, 1) := by decide +kernel
theorem dX5_putSound_25 : decode cX5_putSound 25 = .ok (.aload_n 1, 1) := by decide +kernel
theorem dX5_putSound_26 : decode cX5_putSound 26 = .ok (.iload_n 2, 1) := by decide +kernel
theorem dX5_putSound_27 : decode cX5_putSound 27 = .ok (.iconst 0, 1) := by decide +kernel
theorem dX5_putSound_28 : decode cX5_putSound 28 = .ok (.invokevirtual 104, 3) := by decide +kernel
theorem dX5_putSound_31 : decode cX5_putSound 31 = .ok (.invokevirtual 107, 3) := by decide +kernel
theorem dX5_putSound_34 : decode cX5_putSound 34 = .ok (.goto 52, 3) := by decide +kernel
theorem dX5_putSound_37 : decode cX5_putSound 37 = .ok (.aload_n 0, 1) := by decide +kernel
theorem dX5_putSound_38 : decode cX5_putSound 38 = .ok (.bipush 60, 2) := by decide +kernel
theorem dX5_putSound_40 : decode cX5_putSound 40 = .ok (.invokevirtual 64, 3) := by decide +kernel
theorem dX5_putSound_43 : decode cX5_putSound 43 = .ok (.iconst 0, 1) := by decide +kernel
theorem dX5_putSound_44 : decode cX5_putSound 44 = .ok (.istore 4, 2) := by decide +kernel
theorem dX5_putSound_46 : decode cX5_putSound 46 = .ok (.iload 4, 2) := by decide +kernel
theorem dX5_putSound_48 : decode cX5_putSound 48 = .ok (.iload_n 3, 1) := by decide +kernel
theorem dX5_putSound_49 : decode cX5_putSound 49 = .ok (.if_icmp .ge 31, 3) := by decide +kernel
theorem dX5_putSound_52 : decode cX5_putSound 52 = .ok (.iload 4, 2) := by decide +kernel
theorem dX5_putSound_54 : decode cX5_putSound 54 = .ok (.ifCond .le 9, 3) := by decide +kernel
theorem dX5_putSound_57 : decode cX5_putSound 57 = .ok (.aload_n 0, 1) := by decide +kernel
theorem dX5_putSound_58 : decode cX5_putSound 58 = .ok (.bipush 32, 2) := by decide +kernel
theorem dX5_putSound_60 : decode cX5_putSound 60 = .ok (.invokevirtual 64, 3) := by decide +kernel
theorem dX5_putSound_63 : decode cX5_putSound 63 = .ok (.aload_n 0, 1) := by decide +kernel
theorem dX5_putSound_64 : decode cX5_putSound 64 = .ok (.aload_n 1, 1) := by decide +kernel
theorem dX5_putSound_65 : decode cX5_putSound 65 = .ok (.iload_n 2, 1) := by decide +kernel
theorem dX5_putSound_66 : decode cX5_putSound 66 = .ok (.iload 4, 2) := by decide +kernel
theorem dX5_putSound_68 : decode cX5_putSound 68 = .ok (.invokevirtual 104, 3) := by decide +kernel
theorem dX5_putSound_71 : decode cX5_putSound 71 = .ok (.invokevirtual 107, 3) := by decide +kernel
theorem dX5_putSound_74 : decode cX5_putSound 74 = .ok (.iinc 4 1, 3) := by decide +kernel
theorem dX5_putSound_77 : decode cX5_putSound 77 = .ok (.goto (-31), 3) := by decide +kernel
theorem dX5_putSound_80 : decode cX5_putSound 80 = .ok (.aload_n 0, 1) := by decide +kernel
theorem dX5_putSound_81 : decode cX5_putSound 81 = .ok (.bipush 62, 2) := by decide +kernel
theorem dX5_putSound_83 : decode cX5_putSound 83 = .ok (.invokevirtual 64, 3) := by decide +kernel
theorem dX5_putSound_86 : decode cX5_putSound 86 = .ok (.aload_n 0, 1) := by decide +kernel
theorem dX5_putSound_87 : decode cX5_putSound 87 = .ok (.aload_n 1, 1) := by decide +kernel
theorem dX5_putSound_88 : decode cX5_putSound 88 = .ok (.getfield 110, 3) := by decide +kernel
theorem dX5_putSound_91 : decode cX5_putSound 91 = .ok (.iload_n 2, 1) := by decide +kernel
theorem dX5_putSound_92 : decode cX5_putSound 92 = .ok (.laload, 1) := by decide +kernel
theorem dX5_putSound_93 : decode cX5_putSound 93 = .ok (.invokevirtual 76, 3) := by decide +kernel
theorem dX5_putSound_96 : decode cX5_putSound 96 = .ok (.aload_n 1, 1) := by decide +kernel
theorem dX5_putSound_97 : decode cX5_putSound 97 = .ok (.getfield 114, 3) := by decide +kernel
theorem dX5_putSound_100 : decode cX5_putSound 100 = .ok (.iload_n 2, 1) := by decide +kernel
theorem dX5_putSound_101 : decode cX5_putSound 101 = .ok (.baload, 1) := by decide +kernel
theorem dX5_putSound_102 : decode cX5_putSound 102 = .ok (.ifCond .eq 9, 3) := by decide +kernel
theorem dX5_putSound_105 : decode cX5_putSound 105 = .ok (.aload_n 0, 1) := by decide +kernel
theorem dX5_putSound_106 : decode cX5_putSound 106 = .ok (.bipush 126, 2) := by decide +kernel
theorem dX5_putSound_108 : decode cX5_putSound 108 = .ok (.invokevirtual 64, 3) := by decide +kernel
theorem dX5_putSound_111 : decode cX5_putSound 111 = .ok (.return_, 1) := by decide +kernel
abbrev rm_X5_putSound (k : Nat × Nat) : Room := { frames := 5, cells := k.1, slots := k.2, locals := 150 }
def wp_X5_putSound (a : Nat) (p1 : Nat) (p2 : Int32) (k : Nat × Nat) (S : PS) (Q : PS → Prop) : Prop :=
  wp_X8_pitchesIn p1 p2 S (fun (r2 : Int32) (S1 : PS) => 
 (∀ K86_4 : Nat × Nat → PS → Prop, (∀ (k5 : Nat × Nat) (S3 : PS),
 (∃ b6, fR S3 73 p1 = some b6 ∧ (vp_in p2 (aN S3 b6) ∧ (∃ k8 : Nat × Nat, (k8.1 ≤ k5.1 ∧ k8.2 ≤ k5.2) ∧ wp_X5_putTicks a (aL S3 30 b6 (p2).toNatClampNeg) k8 S3 (fun (S7 : PS) => 
 (∃ b9, fR S7 75 p1 = some b9 ∧ (vp_in p2 (aN S7 b9) ∧ (if aI S7 32 b9 (p2).toNatClampNeg = 0 then
 Q S7
 else
 (∃ k11 : Nat × Nat, (k11.1 ≤ (k5.1 - k8.1, k5.2 - k8.2).1 ∧ k11.2 ≤ (k5.1 - k8.1, k5.2 - k8.2).2) ∧ wp_X5_put a 126 k11 S7 (fun (S10 : PS) => 
 Q S10)))))))))
 → K86_4 k5 S3) →
 (if r2 = 0 then
 (∃ k35 : Nat × Nat, (k35.1 ≤ k.1 ∧ k35.2 ≤ k.2) ∧ wp_X5_put a 114 k35 S1 (fun (S34 : PS) => 
 K86_4 (k.1 - k35.1, k.2 - k35.2) S34))
 else
 (if r2 = 1 then
 wp_X8_codeOf p1 p2 0 S1 (fun (r31 : Int32) (S30 : PS) => 
 (∃ k33 : Nat × Nat, (k33.1 ≤ k.1 ∧ k33.2 ≤ k.2) ∧ wp_X5_putPitch a r31 k33 S30 (fun (S32 : PS) => 
 K86_4 (k.1 - k33.1, k.2 - k33.2) S32)))
 else
 (∃ k13 : Nat × Nat, (k13.1 ≤ k.1 ∧ k13.2 ≤ k.2) ∧ wp_X5_put a 60 k13 S1 (fun (S12 : PS) => 
 (∀ P46_14 : Int32 → Nat × Nat → PS → Prop, (∀ (x4_15 : Int32) (k17 : Nat × Nat) (S16 : PS),
 (if r2 ≤ x4_15 then
 (∃ k19 : Nat × Nat, (k19.1 ≤ k17.1 ∧ k19.2 ≤ k17.2) ∧ wp_X5_put a 62 k19 S16 (fun (S18 : PS) => 
 K86_4 (k17.1 - k19.1, k17.2 - k19.2) S18))
 else
 (∀ K63_21 : Nat × Nat → PS → Prop, (∀ (k22 : Nat × Nat) (S20 : PS),
 wp_X8_codeOf p1 p2 x4_15 S20 (fun (r24 : Int32) (S23 : PS) => 
 (∃ k26 : Nat × Nat, (k26.1 ≤ k22.1 ∧ k26.2 ≤ k22.2) ∧ wp_X5_putPitch a r24 k26 S23 (fun (S25 : PS) => 
 (∀ v27, v27 = x4_15 + 1 → P46_14 v27 (k22.1 - k26.1, k22.2 - k26.2) S25))))
 → K63_21 k22 S20) →
 (if x4_15 ≤ 0 then
 K63_21 k17 S16
 else
 (∃ k29 : Nat × Nat, (k29.1 ≤ k17.1 ∧ k29.2 ≤ k17.2) ∧ wp_X5_put a 32 k29 S16 (fun (S28 : PS) => 
 K63_21 (k17.1 - k29.1, k17.2 - k29.2) S28)))))
 → P46_14 x4_15 k17 S16) → P46_14 0 (k.1 - k13.1, k.2 - k13.2) S12)))))))
set_option maxRecDepth 100000 in
set_option maxHeartbeats 4000000 in
theorem c_X5_putSound {l : Launch} {E : EE} {A : Nat → Prop} {a : Nat} {p1 : Nat} {p2 : Int32} {k : Nat × Nat} {S : PS} {Q : PS → Prop} (r_a : Rf S a 4) (r_p1 : Rf S p1 7) (h : wp_X5_putSound a p1 p2 k S Q) : MtV l yX5_putSound (.code yX5_putSound cX5_putSound 5 none) (rm_X5_putSound k) E A [.ref a, .ref p1, .int p2] S Q := by
  refine MtV.of (by decide) (Nat.le_of_ble_eq_true rfl) (fun X F hQ hN => ?_)
  show VV X (0, 0) S [(0, .ref a), (1, .ref p1), (2, .int p2)] [] 0
  generalize hn0 : ((0, 0) : Nat × Nat) = n
  have hk : n.1 + k.1 ≤ k.1 ∧ n.2 + k.2 ≤ k.2 := by subst hn0; exact ⟨by omega, by omega⟩
  unfold wp_X5_putSound at h
  refine v_aload_n F dX5_putSound_0 1 rfl rfl ?_
  refine v_iload_n F dX5_putSound_1 2 rfl rfl ?_
  refine v_cI0 (v_runV F k_X5_100 rfl (c_X8_pitchesIn r_p1 h) r_p1 rfl rfl (Nat.le_of_ble_eq_true rfl) ⟨Nat.le_of_ble_eq_true rfl, Nat.le_of_ble_eq_true rfl⟩ (kb_z hk) dX5_putSound_2) ⟨rfl, rfl⟩ (fun r2 S1 h hE => ?_)
  have r_a := r_a.tr hE
  have r_p1 := r_p1.tr hE
  refine v_istore_n (lv1 := [(3, .int r2), (0, .ref a), (1, .ref p1), (2, .int p2)]) F dX5_putSound_5 rfl (by rw [hN]; decide) rfl ?_
  refine v_iload_n F dX5_putSound_6 0 rfl rfl ?_
  have h := h (fun (k5 : Nat × Nat) (S3 : PS) => Rf S3 a 4 → Rf S3 p1 7 → ∀ n : Nat × Nat, (n.1 + k5.1 ≤ k.1 ∧ n.2 + k5.2 ≤ k.2) → VV X n S3 [(0, .ref a), (1, .ref p1), (2, .int p2)] [] 86) (by
    intro k5 S3 h r_a r_p1 n hk
    refine v_aload_n F dX5_putSound_86 0 rfl rfl ?_
    refine v_aload_n F dX5_putSound_87 1 rfl rfl ?_
    refine g_X5_110 F r_p1 h dX5_putSound_88 (fun b6 r_b6 h => ?_)
    refine v_iload_n F dX5_putSound_91 2 rfl rfl ?_
    refine v_lald F r_b6 o_30 h dX5_putSound_92 (fun h => ?_)
    obtain ⟨k8, g_k8, h⟩ := h
    refine v_cV (v_runV F k_X5_76 rfl (c_X5_putTicks r_a h) r_a rfl rfl (Nat.le_of_ble_eq_true rfl) ⟨Nat.le_of_ble_eq_true rfl, Nat.le_of_ble_eq_true rfl⟩ (kb_c hk g_k8) dX5_putSound_93) (fun  S7 h hE => ?_)
    have r_a := r_a.tr hE
    have r_p1 := r_p1.tr hE
    have hk := kb_n hk g_k8
    refine v_gen (fun n hk => ?_) hk
    refine v_aload_n F dX5_putSound_96 1 rfl rfl ?_
    refine g_X5_114 F r_p1 h dX5_putSound_97 (fun b9 r_b9 h => ?_)
    refine v_iload_n F dX5_putSound_100 2 rfl rfl ?_
    refine v_zald F r_b9 o_32 h dX5_putSound_101 (fun h => ?_)
    refine v_if_eq (tgt := 111) F dX5_putSound_102 (by decide) h (fun h => ?_) (fun h => ?_)
    · exact v_vret F hQ h (kb_ret hk) dX5_putSound_111
    · refine v_aload_n F dX5_putSound_105 0 rfl rfl ?_
      refine v_bipush (v := 126) F dX5_putSound_106 (by decide) ?_
      obtain ⟨k11, g_k11, h⟩ := h
      refine v_cV (v_runV F k_X5_64 rfl (c_X5_put r_a h) r_a rfl rfl (Nat.le_of_ble_eq_true rfl) ⟨Nat.le_of_ble_eq_true rfl, Nat.le_of_ble_eq_true rfl⟩ (kb_c hk g_k11) dX5_putSound_108) (fun  S10 h hE => ?_)
      have r_a := r_a.tr hE
      have r_p1 := r_p1.tr hE
      have hk := kb_n hk g_k11
      refine v_gen (fun n hk => ?_) hk
      exact v_vret F hQ h (kb_ret hk) dX5_putSound_111)
  refine v_if_ne (tgt := 19) F dX5_putSound_7 (by decide) h (fun h => ?_) (fun h => ?_)
  · refine v_iload_n F dX5_putSound_19 0 rfl rfl ?_
    refine v_iconst (v := 1) F dX5_putSound_20 (by decide) ?_
    refine v_icmp_ne (tgt := 37) F dX5_putSound_21 (by decide) h (fun h => ?_) (fun h => ?_)
    · refine v_aload_n F dX5_putSound_37 1 rfl rfl ?_
      refine v_bipush (v := 60) F dX5_putSound_38 (by decide) ?_
      obtain ⟨k13, g_k13, h⟩ := h
      refine v_cV (v_runV F k_X5_64 rfl (c_X5_put r_a h) r_a rfl rfl (Nat.le_of_ble_eq_true rfl) ⟨Nat.le_of_ble_eq_true rfl, Nat.le_of_ble_eq_true rfl⟩ (kb_c hk g_k13) dX5_putSound_40) (fun  S12 h hE => ?_)
      have r_a := r_a.tr hE
      have r_p1 := r_p1.tr hE
      have hk := kb_n hk g_k13
      refine v_gen (fun n hk => ?_) hk
      refine v_iconst (v := 0) F dX5_putSound_43 (by decide) ?_
      refine v_istore (lv1 := [(4, .int 0), (3, .int r2), (0, .ref a), (1, .ref p1), (2, .int p2)]) F dX5_putSound_44 (by rw [hN]; decide) rfl ?_
      refine v_sub [2, 3, 4, 1, 0] rfl ?_
      refine h (fun (x4_15 : Int32) (k17 : Nat × Nat) (S16 : PS) => Rf S16 a 4 → Rf S16 p1 7 → ∀ n : Nat × Nat, (n.1 + k17.1 ≤ k.1 ∧ n.2 + k17.2 ≤ k.2) → VV X n S16 [(0, .ref a), (1, .ref p1), (2, .int p2), (3, .int r2), (4, .int x4_15)] [] 46) (fun x4_15 k17 S16 h r_a r_p1 n hk => ?_) r_a r_p1 _ hk
      refine v_iload F dX5_putSound_46 4 rfl ?_
      refine v_iload_n F dX5_putSound_48 3 rfl rfl ?_
      refine v_icmp_ge (tgt := 80) F dX5_putSound_49 (by decide) h (fun h => ?_) (fun h => ?_)
      · refine v_aload_n F dX5_putSound_80 0 rfl rfl ?_
        refine v_bipush (v := 62) F dX5_putSound_81 (by decide) ?_
        obtain ⟨k19, g_k19, h⟩ := h
        refine v_cV (v_runV F k_X5_64 rfl (c_X5_put r_a h) r_a rfl rfl (Nat.le_of_ble_eq_true rfl) ⟨Nat.le_of_ble_eq_true rfl, Nat.le_of_ble_eq_true rfl⟩ (kb_c hk g_k19) dX5_putSound_83) (fun  S18 h hE => ?_)
        have r_a := r_a.tr hE
        have r_p1 := r_p1.tr hE
        have hk := kb_n hk g_k19
        refine v_gen (fun n hk => ?_) hk
        exact v_sub [0, 1, 2] rfl (h r_a r_p1 _ hk)
      · refine v_iload F dX5_putSound_52 4 rfl ?_
        have h := h (fun (k22 : Nat × Nat) (S20 : PS) => Rf S20 a 4 → Rf S20 p1 7 → ∀ n : Nat × Nat, (n.1 + k22.1 ≤ k.1 ∧ n.2 + k22.2 ≤ k.2) → VV X n S20 [(0, .ref a), (1, .ref p1), (2, .int p2), (3, .int r2), (4, .int x4_15)] [] 63) (by
          intro k22 S20 h r_a r_p1 n hk
          refine v_aload_n F dX5_putSound_63 0 rfl rfl ?_
          refine v_aload_n F dX5_putSound_64 1 rfl rfl ?_
          refine v_iload_n F dX5_putSound_65 2 rfl rfl ?_
          refine v_iload F dX5_putSound_66 4 rfl ?_
          refine v_cI0 (v_runV F k_X5_104 rfl (c_X8_codeOf r_p1 h) r_p1 rfl rfl (Nat.le_of_ble_eq_true rfl) ⟨Nat.le_of_ble_eq_true rfl, Nat.le_of_ble_eq_true rfl⟩ (kb_z hk) dX5_putSound_68) ⟨rfl, rfl⟩ (fun r24 S23 h hE => ?_)
          have r_a := r_a.tr hE
          have r_p1 := r_p1.tr hE
          obtain ⟨k26, g_k26, h⟩ := h
          refine v_cV (v_runV F k_X5_107 rfl (c_X5_putPitch r_a h) r_a rfl rfl (Nat.le_of_ble_eq_true rfl) ⟨Nat.le_of_ble_eq_true rfl, Nat.le_of_ble_eq_true rfl⟩ (kb_c hk g_k26) dX5_putSound_71) (fun  S25 h hE => ?_)
          have r_a := r_a.tr hE
          have r_p1 := r_p1.tr hE
          have hk := kb_n hk g_k26
          refine v_gen (fun n hk => ?_) hk
          obtain ⟨v27, e_v27⟩ : ∃ y : Int32, y = x4_15 + 1 := ⟨_, rfl⟩
          have h := h v27 e_v27
          refine v_iinc (v := v27) (lv1 := [(4, .int v27), (0, .ref a), (1, .ref p1), (2, .int p2), (3, .int r2)]) F dX5_putSound_74 (q := 4) rfl (by rw [e_v27]; rfl) (by rw [hN]; decide) rfl ?_
          refine v_goto (tgt := 46) F dX5_putSound_77 (by decide) ?_
          exact v_sub [1, 2, 3, 4, 0] rfl (h r_a r_p1 _ hk))
        refine v_if_le (tgt := 63) F dX5_putSound_54 (by decide) h (fun h => ?_) (fun h => ?_)
        · exact v_sub [0, 1, 2, 3, 4] rfl (h r_a r_p1 _ hk)
        · refine v_aload_n F dX5_putSound_57 0 rfl rfl ?_
          refine v_bipush (v := 32) F dX5_putSound_58 (by decide) ?_
          obtain ⟨k29, g_k29, h⟩ := h
          refine v_cV (v_runV F k_X5_64 rfl (c_X5_put r_a h) r_a rfl rfl (Nat.le_of_ble_eq_true rfl) ⟨Nat.le_of_ble_eq_true rfl, Nat.le_of_ble_eq_true rfl⟩ (kb_c hk g_k29) dX5_putSound_60) (fun  S28 h hE => ?_)
          have r_a := r_a.tr hE
          have r_p1 := r_p1.tr hE
          have hk := kb_n hk g_k29
          refine v_gen (fun n hk => ?_) hk
          exact v_sub [0, 1, 2, 3, 4] rfl (h r_a r_p1 _ hk)
    · refine v_aload_n F dX5_putSound_24 1 rfl rfl ?_
      refine v_aload_n F dX5_putSound_25 2 rfl rfl ?_
      refine v_iload_n F dX5_putSound_26 3 rfl rfl ?_
      refine v_iconst (v := 0) F dX5_putSound_27 (by decide) ?_
      refine v_cI0 (v_runV F k_X5_104 rfl (c_X8_codeOf r_p1 h) r_p1 rfl rfl (Nat.le_of_ble_eq_true rfl) ⟨Nat.le_of_ble_eq_true rfl, Nat.le_of_ble_eq_true rfl⟩ (kb_z hk) dX5_putSound_28) ⟨rfl, rfl⟩ (fun r31 S30 h hE => ?_)
      have r_a := r_a.tr hE
      have r_p1 := r_p1.tr hE
      obtain ⟨k33, g_k33, h⟩ := h
      refine v_cV (v_runV F k_X5_107 rfl (c_X5_putPitch r_a h) r_a rfl rfl (Nat.le_of_ble_eq_true rfl) ⟨Nat.le_of_ble_eq_true rfl, Nat.le_of_ble_eq_true rfl⟩ (kb_c hk g_k33) dX5_putSound_31) (fun  S32 h hE => ?_)
      have r_a := r_a.tr hE
      have r_p1 := r_p1.tr hE
      have hk := kb_n hk g_k33
      refine v_gen (fun n hk => ?_) hk
      refine v_goto (tgt := 86) F dX5_putSound_34 (by decide) ?_
      exact v_sub [1, 2, 3] rfl (h r_a r_p1 _ hk)
  · refine v_aload_n F dX5_putSound_10 1 rfl rfl ?_
    refine v_bipush (v := 114) F dX5_putSound_11 (by decide) ?_
    obtain ⟨k35, g_k35, h⟩ := h
    refine v_cV (v_runV F k_X5_64 rfl (c_X5_put r_a h) r_a rfl rfl (Nat.le_of_ble_eq_true rfl) ⟨Nat.le_of_ble_eq_true rfl, Nat.le_of_ble_eq_true rfl⟩ (kb_c hk g_k35) dX5_putSound_13) (fun  S34 h hE => ?_)
    have r_a := r_a.tr hE
    have r_p1 := r_p1.tr hE
    have hk := kb_n hk g_k35
    refine v_gen (fun n hk => ?_) hk
    refine v_goto (tgt := 86) F dX5_putSound_16 (by decide) ?_
    exact v_sub [1, 2, 3] rfl (h r_a r_p1 _ hk)
theorem dX5_putSyllable_0 : decode cX5_putSyllable 0 = .ok (.aload_n 1, 1) := by decide +kernel
theorem dX5_putSyllable_1 : decode cX5_putSyllable 1 = .ok (.iload_n 2, 1) := by decide +kernel
theorem dX5_putSyllable_2 : decode cX5_putSyllable 2 = .ok (.iload_n 3, 1) := by decide +kernel
theorem dX5_putSyllable_3 : decode cX5_putSyllable 3 = .ok (.invokevirtual 148, 3) := by decide +kernel
theorem dX5_putSyllable_6 : decode cX5_putSyllable 6 = .ok (.invokestatic 151, 3) := by decide +kernel
theorem dX5_putSyllable_9 : decode cX5_putSyllable 9 = .ok (.istore 4, 2) := by decide +kernel
theorem dX5_putSyllable_11 : decode cX5_putSyllable 11 = .ok (.iload 4, 2) := by decide +kernel
theorem dX5_putSyllable_13 : decode cX5_putSyllable 13 = .ok (.ifCond .ne 9, 3) := by decide +kernel
theorem dX5_putSyllable_16 : decode cX5_putSyllable 16 = .ok (.aload_n 0, 1) := by decide +kernel
theorem dX5_putSyllable_17 : decode cX5_putSyllable 17 = .ok (.bipush 95, 2) := by decide +kernel
theorem dX5_putSyllable_19 : decode cX5_putSyllable 19 = .ok (.invokevirtual 64, 3) := by decide +kernel
theorem dX5_putSyllable_22 : decode cX5_putSyllable 22 = .ok (.iconst 0, 1) := by decide +kernel
theorem dX5_putSyllable_23 : decode cX5_putSyllable 23 = .ok (.istore 5, 2) := by decide +kernel
theorem dX5_putSyllable_25 : decode cX5_putSyllable 25 = .ok (.iload 5, 2) := by decide +kernel
theorem dX5_putSyllable_27 : decode cX5_putSyllable 27 = .ok (.iload 4, 2) := by decide +kernel
theorem dX5_putSyllable_29 : decode cX5_putSyllable 29 = .ok (.if_icmp .ge 21, 3) := by decide +kernel
theorem dX5_putSyllable_32 : decode cX5_putSyllable 32 = .ok (.aload_n 0, 1) := by decide +kernel
theorem dX5_putSyllable_33 : decode cX5_putSyllable 33 = .ok (.aload_n 1, 1) := by decide +kernel
theorem dX5_putSyllable_34 : decode cX5_putSyllable 34 = .ok (.iload_n 2, 1) := by decide +kernel
theorem dX5_putSyllable_35 : decode cX5_putSyllable 35 = .ok (.iload_n 3, 1) := by decide +kernel
theorem dX5_putSyllable_36 : decode cX5_putSyllable 36 = .ok (.iload 5, 2) := by decide +kernel
theorem dX5_putSyllable_38 : decode cX5_putSyllable 38 = .ok (.invokevirtual 155, 3) := by decide +kernel
theorem dX5_putSyllable_41 : decode cX5_putSyllable 41 = .ok (.invokevirtual 64, 3) := by decide +kernel
theorem dX5_putSyllable_44 : decode cX5_putSyllable 44 = .ok (.iinc 5 1, 3) := by decide +kernel
theorem dX5_putSyllable_47 : decode cX5_putSyllable 47 = .ok (.goto (-22), 3) := by decide +kernel
theorem dX5_putSyllable_50 : decode cX5_putSyllable 50 = .ok (.return_, 1) := by decide +kernel
abbrev rm_X5_putSyllable (k : Nat × Nat) : Room := { frames := 3, cells := k.1, slots := k.2, locals := 103 }
def wp_X5_putSyllable (a : Nat) (p1 : Nat) (p2 : Int32) (p3 : Int32) (k : Nat × Nat) (S : PS) (Q : PS → Prop) : Prop :=
  wp_X8_syllableOf p1 p2 p3 S (fun (r2 : Int32) (S1 : PS) => 
 wp_X9_length r2 S1 (fun (r4 : Int32) (S3 : PS) => 
 (∀ K22_6 : Nat × Nat → PS → Prop, (∀ (k7 : Nat × Nat) (S5 : PS),
 (∀ P25_8 : Int32 → Nat × Nat → PS → Prop, (∀ (x5_9 : Int32) (k11 : Nat × Nat) (S10 : PS),
 (if r4 ≤ x5_9 then
 Q S10
 else
 wp_X8_syllableByte p1 p2 p3 x5_9 S10 (fun (r13 : Int32) (S12 : PS) => 
 (∃ k15 : Nat × Nat, (k15.1 ≤ k11.1 ∧ k15.2 ≤ k11.2) ∧ wp_X5_put a r13 k15 S12 (fun (S14 : PS) => 
 (∀ v16, v16 = x5_9 + 1 → P25_8 v16 (k11.1 - k15.1, k11.2 - k15.2) S14)))))
 → P25_8 x5_9 k11 S10) → P25_8 0 k7 S5)
 → K22_6 k7 S5) →
 (if r4 = 0 then
 (∃ k18 : Nat × Nat, (k18.1 ≤ k.1 ∧ k18.2 ≤ k.2) ∧ wp_X5_put a 95 k18 S3 (fun (S17 : PS) => 
 K22_6 (k.1 - k18.1, k.2 - k18.2) S17))
 else
 K22_6 k S3))))
set_option maxRecDepth 100000 in
set_option maxHeartbeats 4000000 in
theorem c_X5_putSyllable {l : Launch} {E : EE} {A : Nat → Prop} {a : Nat} {p1 : Nat} {p2 : Int32} {p3 : Int32} {k : Nat × Nat} {S : PS} {Q : PS → Prop} (r_a : Rf S a 4) (r_p1 : Rf S p1 7) (h : wp_X5_putSyllable a p1 p2 p3 k S Q) : MtV l yX5_putSyllable (.code yX5_putSyllable cX5_putSyllable 6 none) (rm_X5_putSyllable k) E A [.ref a, .ref p1, .int p2, .int p3] S Q := by
  refine MtV.of (by decide) (Nat.le_of_ble_eq_true rfl) (fun X F hQ hN => ?_)
  show VV X (0, 0) S [(0, .ref a), (1, .ref p1), (2, .int p2), (3, .int p3)] [] 0
  generalize hn0 : ((0, 0) : Nat × Nat) = n
  have hk : n.1 + k.1 ≤ k.1 ∧ n.2 + k.2 ≤ k.2 := by subst hn0; exact ⟨by omega, by omega⟩
  unfold wp_X5_putSyllable at h
  refine v_aload_n F dX5_putSyllable_0 1 rfl rfl ?_
  refine v_iload_n F dX5_putSyllable_1 2 rfl rfl ?_
  refine v_iload_n F dX5_putSyllable_2 3 rfl rfl ?_
  refine v_cI0 (v_runV F k_X5_148 rfl (c_X8_syllableOf r_p1 h) r_p1 rfl rfl (Nat.le_of_ble_eq_true rfl) ⟨Nat.le_of_ble_eq_true rfl, Nat.le_of_ble_eq_true rfl⟩ (kb_z hk) dX5_putSyllable_3) ⟨rfl, rfl⟩ (fun r2 S1 h hE => ?_)
  have r_a := r_a.tr hE
  have r_p1 := r_p1.tr hE
  refine v_cI0 (v_runS F k_X5_151 (c_X9_length h) rfl rfl (Nat.le_of_ble_eq_true rfl) ⟨Nat.le_of_ble_eq_true rfl, Nat.le_of_ble_eq_true rfl⟩ (kb_z hk) dX5_putSyllable_6) ⟨rfl, rfl⟩ (fun r4 S3 h hE => ?_)
  have r_a := r_a.tr hE
  have r_p1 := r_p1.tr hE
  refine v_istore (lv1 := [(4, .int r4), (0, .ref a), (1, .ref p1), (2, .int p2), (3, .int p3)]) F dX5_putSyllable_9 (by rw [hN]; decide) rfl ?_
  refine v_iload F dX5_putSyllable_11 0 rfl ?_
  have h := h (fun (k7 : Nat × Nat) (S5 : PS) => Rf S5 a 4 → Rf S5 p1 7 → ∀ n : Nat × Nat, (n.1 + k7.1 ≤ k.1 ∧ n.2 + k7.2 ≤ k.2) → VV X n S5 [(0, .ref a), (1, .ref p1), (2, .int p2), (3, .int p3), (4, .int r4)] [] 22) (by
    intro k7 S5 h r_a r_p1 n hk
    refine v_iconst (v := 0) F dX5_putSyllable_22 (by decide) ?_
    refine v_istore (lv1 := [(5, .int 0), (0, .ref a), (1, .ref p1), (2, .int p2), (3, .int p3), (4, .int r4)]) F dX5_putSyllable_23 (by rw [hN]; decide) rfl ?_
    refine v_sub [1, 2, 3, 4, 5, 0] rfl ?_
    refine h (fun (x5_9 : Int32) (k11 : Nat × Nat) (S10 : PS) => Rf S10 a 4 → Rf S10 p1 7 → ∀ n : Nat × Nat, (n.1 + k11.1 ≤ k.1 ∧ n.2 + k11.2 ≤ k.2) → VV X n S10 [(0, .ref a), (1, .ref p1), (2, .int p2), (3, .int p3), (4, .int r4), (5, .int x5_9)] [] 25) (fun x5_9 k11 S10 h r_a r_p1 n hk => ?_) r_a r_p1 _ hk
    refine v_iload F dX5_putSyllable_25 5 rfl ?_
    refine v_iload F dX5_putSyllable_27 4 rfl ?_
    refine v_icmp_ge (tgt := 50) F dX5_putSyllable_29 (by decide) h (fun h => ?_) (fun h => ?_)
    · exact v_vret F hQ h (kb_ret hk) dX5_putSyllable_50
    · refine v_aload_n F dX5_putSyllable_32 0 rfl rfl ?_
      refine v_aload_n F dX5_putSyllable_33 1 rfl rfl ?_
      refine v_iload_n F dX5_putSyllable_34 2 rfl rfl ?_
      refine v_iload_n F dX5_putSyllable_35 3 rfl rfl ?_
      refine v_iload F dX5_putSyllable_36 5 rfl ?_
      refine v_cI0 (v_runV F k_X5_155 rfl (c_X8_syllableByte r_p1 h) r_p1 rfl rfl (Nat.le_of_ble_eq_true rfl) ⟨Nat.le_of_ble_eq_true rfl, Nat.le_of_ble_eq_true rfl⟩ (kb_z hk) dX5_putSyllable_38) ⟨rfl, rfl⟩ (fun r13 S12 h hE => ?_)
      have r_a := r_a.tr hE
      have r_p1 := r_p1.tr hE
      obtain ⟨k15, g_k15, h⟩ := h
      refine v_cV (v_runV F k_X5_64 rfl (c_X5_put r_a h) r_a rfl rfl (Nat.le_of_ble_eq_true rfl) ⟨Nat.le_of_ble_eq_true rfl, Nat.le_of_ble_eq_true rfl⟩ (kb_c hk g_k15) dX5_putSyllable_41) (fun  S14 h hE => ?_)
      have r_a := r_a.tr hE
      have r_p1 := r_p1.tr hE
      have hk := kb_n hk g_k15
      refine v_gen (fun n hk => ?_) hk
      obtain ⟨v16, e_v16⟩ : ∃ y : Int32, y = x5_9 + 1 := ⟨_, rfl⟩
      have h := h v16 e_v16
      refine v_iinc (v := v16) (lv1 := [(5, .int v16), (0, .ref a), (1, .ref p1), (2, .int p2), (3, .int p3), (4, .int r4)]) F dX5_putSyllable_44 (q := 5) rfl (by rw [e_v16]; rfl) (by rw [hN]; decide) rfl ?_
      refine v_goto (tgt := 25) F dX5_putSyllable_47 (by decide) ?_
      exact v_sub [1, 2, 3, 4, 5, 0] rfl (h r_a r_p1 _ hk))
  refine v_if_ne (tgt := 22) F dX5_putSyllable_13 (by decide) h (fun h => ?_) (fun h => ?_)
  · exact v_sub [1, 2, 3, 4, 0] rfl (h r_a r_p1 _ hk)
  · refine v_aload_n F dX5_putSyllable_16 1 rfl rfl ?_
    refine v_bipush (v := 95) F dX5_putSyllable_17 (by decide) ?_
    obtain ⟨k18, g_k18, h⟩ := h
    refine v_cV (v_runV F k_X5_64 rfl (c_X5_put r_a h) r_a rfl rfl (Nat.le_of_ble_eq_true rfl) ⟨Nat.le_of_ble_eq_true rfl, Nat.le_of_ble_eq_true rfl⟩ (kb_c hk g_k18) dX5_putSyllable_19) (fun  S17 h hE => ?_)
    have r_a := r_a.tr hE
    have r_p1 := r_p1.tr hE
    have hk := kb_n hk g_k18
    refine v_gen (fun n hk => ?_) hk
    exact v_sub [1, 2, 3, 4, 0] rfl (h r_a r_p1 _ hk)
theorem dX5_putVerse_0 : decode cX5_putVerse 0 = .ok (.aload_n 0, 1) := by decide +kernel
theorem dX5_putVerse_1 : decode cX5_putVerse 1 = .ok (.ldc 136, 2) := by decide +kernel
theorem dX5_putVerse_3 : decode cX5_putVerse 3 = .ok (.invokevirtual 29, 3) := by decide +kernel
theorem dX5_putVerse_6 : decode cX5_putVerse 6 = .ok (.aload_n 0, 1) := by decide +kernel
theorem dX5_putVerse_7 : decode cX5_putVerse 7 = .ok (.bipush 48, 2) := by decide +kernel
theorem dX5_putVerse_9 : decode cX5_putVerse 9 = .ok (.iload_n 3, 1) := by decide +kernel
theorem dX5_putVerse_10 : decode cX5_putVerse 10 = .ok (.iadd, 1) := by decide +kernel
theorem dX5_putVerse_11 : decode cX5_putVerse 11 = .ok (.invokevirtual 64, 3) := by decide +kernel
theorem dX5_putVerse_14 : decode cX5_putVerse 14 = .ok (.aload_n 0, 1) := by decide +kernel
theorem dX5_putVerse_15 : decode cX5_putVerse 15 = .ok (.ldc 138, 2) := by decide +kernel
theorem dX5_putVerse_17 : decode cX5_putVerse 17 = .ok (.invokevirtual 29, 3) := by decide +kernel
theorem dX5_putVerse_20 : decode cX5_putVerse 20 = .ok (.aload_n 0, 1) := by decide +kernel
theorem dX5_putVerse_21 : decode cX5_putVerse 21 = .ok (.getfield 18, 3) := by decide +kernel
theorem dX5_putVerse_24 : decode cX5_putVerse 24 = .ok (.istore 5, 2) := by decide +kernel
theorem dX5_putVerse_26 : decode cX5_putVerse 26 = .ok (.iconst 0, 1) := by decide +kernel
theorem dX5_putVerse_27 : decode cX5_putVerse 27 = .ok (.istore 6, 2) := by decide +kernel
theorem dX5_putVerse_29 : decode cX5_putVerse 29 = .ok (.iload 6, 2) := by decide +kernel
theorem dX5_putVerse_31 : decode cX5_putVerse 31 = .ok (.iload 4, 2) := by decide +kernel
theorem dX5_putVerse_33 : decode cX5_putVerse 33 = .ok (.if_icmp .gt 33, 3) := by decide +kernel
theorem dX5_putVerse_36 : decode cX5_putVerse 36 = .ok (.aload_n 1, 1) := by decide +kernel
theorem dX5_putVerse_37 : decode cX5_putVerse 37 = .ok (.iload 6, 2) := by decide +kernel
theorem dX5_putVerse_39 : decode cX5_putVerse 39 = .ok (.iload_n 2, 1) := by decide +kernel
theorem dX5_putVerse_40 : decode cX5_putVerse 40 = .ok (.invokevirtual 140, 3) := by decide +kernel
theorem dX5_putVerse_43 : decode cX5_putVerse 43 = .ok (.ifCond .eq 17, 3) := by decide +kernel
theorem dX5_putVerse_46 : decode cX5_putVerse 46 = .ok (.aload_n 0, 1) := by decide +kernel
theorem dX5_putVerse_47 : decode cX5_putVerse 47 = .ok (.iload 5, 2) := by decide +kernel
theorem dX5_putVerse_49 : decode cX5_putVerse 49 = .ok (.invokevirtual 87, 3) := by decide +kernel
theorem dX5_putVerse_52 : decode cX5_putVerse 52 = .ok (.aload_n 0, 1) := by decide +kernel
theorem dX5_putVerse_53 : decode cX5_putVerse 53 = .ok (.aload_n 1, 1) := by decide +kernel
theorem dX5_putVerse_54 : decode cX5_putVerse 54 = .ok (.iload 6, 2) := by decide +kernel
theorem dX5_putVerse_56 : decode cX5_putVerse 56 = .ok (.iload_n 3, 1) := by decide +kernel
theorem dX5_putVerse_57 : decode cX5_putVerse 57 = .ok (.invokevirtual 144, 3) := by decide +kernel
theorem dX5_putVerse_60 : decode cX5_putVerse 60 = .ok (.iinc 6 1, 3) := by decide +kernel
theorem dX5_putVerse_63 : decode cX5_putVerse 63 = .ok (.goto (-34), 3) := by decide +kernel
theorem dX5_putVerse_66 : decode cX5_putVerse 66 = .ok (.aload_n 0, 1) := by decide +kernel
theorem dX5_putVerse_67 : decode cX5_putVerse 67 = .ok (.bipush 34, 2) := by decide +kernel
theorem dX5_putVerse_69 : decode cX5_putVerse 69 = .ok (.invokevirtual 64, 3) := by decide +kernel
theorem dX5_putVerse_72 : decode cX5_putVerse 72 = .ok (.return_, 1) := by decide +kernel
abbrev rm_X5_putVerse (k : Nat × Nat) : Room := { frames := 5, cells := k.1, slots := k.2, locals := 128 }
def wp_X5_putVerse (a : Nat) (p1 : Nat) (p2 : Int32) (p3 : Int32) (p4 : Int32) (k : Nat × Nat) (S : PS) (Q : PS → Prop) : Prop :=
  (∃ k2 : Nat × Nat, (k2.1 ≤ k.1 ∧ k2.2 ≤ k.2) ∧ wp_X5_putText a 3 k2 S (fun (S1 : PS) => 
 (∃ k4 : Nat × Nat, (k4.1 ≤ (k.1 - k2.1, k.2 - k2.2).1 ∧ k4.2 ≤ (k.1 - k2.1, k.2 - k2.2).2) ∧ wp_X5_put a ((48 : Int32) + p3) k4 S1 (fun (S3 : PS) => 
 (∃ k6 : Nat × Nat, (k6.1 ≤ ((k.1 - k2.1, k.2 - k2.2).1 - k4.1, (k.1 - k2.1, k.2 - k2.2).2 - k4.2).1 ∧ k6.2 ≤ ((k.1 - k2.1, k.2 - k2.2).1 - k4.1, (k.1 - k2.1, k.2 - k2.2).2 - k4.2).2) ∧ wp_X5_putText a 4 k6 S3 (fun (S5 : PS) => 
 (∀ v7, v7 = fI S5 41 a → (∀ P29_8 : Int32 → Nat × Nat → PS → Prop, (∀ (x6_9 : Int32) (k11 : Nat × Nat) (S10 : PS),
 (if p4 < x6_9 then
 (∃ k13 : Nat × Nat, (k13.1 ≤ k11.1 ∧ k13.2 ≤ k11.2) ∧ wp_X5_put a 34 k13 S10 (fun (S12 : PS) => 
 Q S12))
 else
 wp_X8_maySing p1 x6_9 p2 S10 (fun (r15 : Int32) (S14 : PS) => 
 (∀ K60_17 : Nat × Nat → PS → Prop, (∀ (k18 : Nat × Nat) (S16 : PS),
 (∀ v19, v19 = x6_9 + 1 → P29_8 v19 k18 S16)
 → K60_17 k18 S16) →
 (if r15 = 0 then
 K60_17 k11 S14
 else
 (∃ k21 : Nat × Nat, (k21.1 ≤ k11.1 ∧ k21.2 ≤ k11.2) ∧ wp_X5_putGap a v7 k21 S14 (fun (S20 : PS) => 
 (∃ k23 : Nat × Nat, (k23.1 ≤ (k11.1 - k21.1, k11.2 - k21.2).1 ∧ k23.2 ≤ (k11.1 - k21.1, k11.2 - k21.2).2) ∧ wp_X5_putSyllable a p1 x6_9 p3 k23 S20 (fun (S22 : PS) => 
 K60_17 ((k11.1 - k21.1, k11.2 - k21.2).1 - k23.1, (k11.1 - k21.1, k11.2 - k21.2).2 - k23.2) S22))))))))
 → P29_8 x6_9 k11 S10) → P29_8 0 (((k.1 - k2.1, k.2 - k2.2).1 - k4.1, (k.1 - k2.1, k.2 - k2.2).2 - k4.2).1 - k6.1, ((k.1 - k2.1, k.2 - k2.2).1 - k4.1, (k.1 - k2.1, k.2 - k2.2).2 - k4.2).2 - k6.2) S5))))))))
set_option maxRecDepth 100000 in
set_option maxHeartbeats 4000000 in
theorem c_X5_putVerse {l : Launch} {E : EE} {A : Nat → Prop} {a : Nat} {p1 : Nat} {p2 : Int32} {p3 : Int32} {p4 : Int32} {k : Nat × Nat} {S : PS} {Q : PS → Prop} {adK adV : Nat → Nat} (hS : hasStr E adK adV) (r_a : Rf S a 4) (r_p1 : Rf S p1 7) (h : wp_X5_putVerse a p1 p2 p3 p4 k S Q) : MtV l yX5_putVerse (.code yX5_putVerse cX5_putVerse 7 none) (rm_X5_putVerse k) E A [.ref a, .ref p1, .int p2, .int p3, .int p4] S Q := by
  refine MtV.of2 (by decide) (Nat.le_of_ble_eq_true rfl) (fun X F hQ hX => ?_)
  show VV X (0, 0) S [(0, .ref a), (1, .ref p1), (2, .int p2), (3, .int p3), (4, .int p4)] [] 0
  obtain ⟨hXl, hXE, hXA, hN, hnm⟩ := hX
  subst hXE
  subst hXA
  subst hXl
  generalize hn0 : ((0, 0) : Nat × Nat) = n
  have hk : n.1 + k.1 ≤ k.1 ∧ n.2 + k.2 ≤ k.2 := by subst hn0; exact ⟨by omega, by omega⟩
  unfold wp_X5_putVerse at h
  refine v_aload_n F dX5_putVerse_0 0 rfl rfl ?_
  refine v_ldcS (i := 3) F hS (by decide) ⟨rfl, rfl⟩ dX5_putVerse_1 ?_
  obtain ⟨k2, g_k2, h⟩ := h
  refine v_cV (v_runV F k_X5_29 rfl (c_X5_putText hS r_a (by decide) h) r_a rfl rfl (Nat.le_of_ble_eq_true rfl) ⟨Nat.le_of_ble_eq_true rfl, Nat.le_of_ble_eq_true rfl⟩ (kb_c hk g_k2) dX5_putVerse_3) (fun  S1 h hE => ?_)
  have r_a := r_a.tr hE
  have r_p1 := r_p1.tr hE
  have hk := kb_n hk g_k2
  refine v_gen (fun n hk => ?_) hk
  refine v_aload_n F dX5_putVerse_6 0 rfl rfl ?_
  refine v_bipush (v := 48) F dX5_putVerse_7 (by decide) ?_
  refine v_iload_n F dX5_putVerse_9 3 rfl rfl ?_
  refine v_iadd F dX5_putVerse_10 ?_
  obtain ⟨k4, g_k4, h⟩ := h
  refine v_cV (v_runV F k_X5_64 rfl (c_X5_put r_a h) r_a rfl rfl (Nat.le_of_ble_eq_true rfl) ⟨Nat.le_of_ble_eq_true rfl, Nat.le_of_ble_eq_true rfl⟩ (kb_c hk g_k4) dX5_putVerse_11) (fun  S3 h hE => ?_)
  have r_a := r_a.tr hE
  have r_p1 := r_p1.tr hE
  have hk := kb_n hk g_k4
  refine v_gen (fun n hk => ?_) hk
  refine v_aload_n F dX5_putVerse_14 0 rfl rfl ?_
  refine v_ldcS (i := 4) F hS (by decide) ⟨rfl, rfl⟩ dX5_putVerse_15 ?_
  obtain ⟨k6, g_k6, h⟩ := h
  refine v_cV (v_runV F k_X5_29 rfl (c_X5_putText hS r_a (by decide) h) r_a rfl rfl (Nat.le_of_ble_eq_true rfl) ⟨Nat.le_of_ble_eq_true rfl, Nat.le_of_ble_eq_true rfl⟩ (kb_c hk g_k6) dX5_putVerse_17) (fun  S5 h hE => ?_)
  have r_a := r_a.tr hE
  have r_p1 := r_p1.tr hE
  have hk := kb_n hk g_k6
  refine v_gen (fun n hk => ?_) hk
  refine v_aload_n F dX5_putVerse_20 0 rfl rfl ?_
  refine g_X5_18 F r_a dX5_putVerse_21 ?_
  refine v_topi (fun v7 e_v7 => ?_)
  have h := h v7 e_v7
  refine v_istore (lv1 := [(5, .int v7), (0, .ref a), (1, .ref p1), (2, .int p2), (3, .int p3), (4, .int p4)]) F dX5_putVerse_24 (by rw [hN]; decide) rfl ?_
  refine v_iconst (v := 0) F dX5_putVerse_26 (by decide) ?_
  refine v_istore (lv1 := [(6, .int 0), (5, .int v7), (0, .ref a), (1, .ref p1), (2, .int p2), (3, .int p3), (4, .int p4)]) F dX5_putVerse_27 (by rw [hN]; decide) rfl ?_
  refine v_sub [2, 3, 4, 5, 6, 1, 0] rfl ?_
  refine h (fun (x6_9 : Int32) (k11 : Nat × Nat) (S10 : PS) => Rf S10 a 4 → Rf S10 p1 7 → ∀ n : Nat × Nat, (n.1 + k11.1 ≤ k.1 ∧ n.2 + k11.2 ≤ k.2) → VV X n S10 [(0, .ref a), (1, .ref p1), (2, .int p2), (3, .int p3), (4, .int p4), (5, .int v7), (6, .int x6_9)] [] 29) (fun x6_9 k11 S10 h r_a r_p1 n hk => ?_) r_a r_p1 _ hk
  refine v_iload F dX5_putVerse_29 6 rfl ?_
  refine v_iload F dX5_putVerse_31 4 rfl ?_
  refine v_icmp_gt (tgt := 66) F dX5_putVerse_33 (by decide) h (fun h => ?_) (fun h => ?_)
  · refine v_aload_n F dX5_putVerse_66 0 rfl rfl ?_
    refine v_bipush (v := 34) F dX5_putVerse_67 (by decide) ?_
    obtain ⟨k13, g_k13, h⟩ := h
    refine v_cV (v_runV F k_X5_64 rfl (c_X5_put r_a h) r_a rfl rfl (Nat.le_of_ble_eq_true rfl) ⟨Nat.le_of_ble_eq_true rfl, Nat.le_of_ble_eq_true rfl⟩ (kb_c hk g_k13) dX5_putVerse_69) (fun  S12 h hE => ?_)
    have r_a := r_a.tr hE
    have r_p1 := r_p1.tr hE
    have hk := kb_n hk g_k13
    refine v_gen (fun n hk => ?_) hk
    exact v_vret F hQ h (kb_ret hk) dX5_putVerse_72
  · refine v_aload_n F dX5_putVerse_36 1 rfl rfl ?_
    refine v_iload F dX5_putVerse_37 6 rfl ?_
    refine v_iload_n F dX5_putVerse_39 2 rfl rfl ?_
    refine v_cI0 (v_runV F k_X5_140 rfl (c_X8_maySing r_p1 h) r_p1 rfl rfl (Nat.le_of_ble_eq_true rfl) ⟨Nat.le_of_ble_eq_true rfl, Nat.le_of_ble_eq_true rfl⟩ (kb_z hk) dX5_putVerse_40) ⟨rfl, rfl⟩ (fun r15 S14 h hE => ?_)
    obtain ⟨nz_r15, h⟩ := h
    have r_a := r_a.tr hE
    have r_p1 := r_p1.tr hE
    have h := h (fun (k18 : Nat × Nat) (S16 : PS) => Rf S16 a 4 → Rf S16 p1 7 → ∀ n : Nat × Nat, (n.1 + k18.1 ≤ k.1 ∧ n.2 + k18.2 ≤ k.2) → VV X n S16 [(0, .ref a), (1, .ref p1), (2, .int p2), (3, .int p3), (4, .int p4), (5, .int v7), (6, .int x6_9)] [] 60) (by
      intro k18 S16 h r_a r_p1 n hk
      obtain ⟨v19, e_v19⟩ : ∃ y : Int32, y = x6_9 + 1 := ⟨_, rfl⟩
      have h := h v19 e_v19
      refine v_iinc (v := v19) (lv1 := [(6, .int v19), (0, .ref a), (1, .ref p1), (2, .int p2), (3, .int p3), (4, .int p4), (5, .int v7)]) F dX5_putVerse_60 (q := 6) rfl (by rw [e_v19]; rfl) (by rw [hN]; decide) rfl ?_
      refine v_goto (tgt := 29) F dX5_putVerse_63 (by decide) ?_
      exact v_sub [1, 2, 3, 4, 5, 6, 0] rfl (h r_a r_p1 _ hk))
    refine v_if_eq (tgt := 60) F dX5_putVerse_43 (by decide) h (fun h => ?_) (fun h => ?_)
    · exact v_sub [0, 1, 2, 3, 4, 5, 6] rfl (h r_a r_p1 _ hk)
    · refine v_aload_n F dX5_putVerse_46 0 rfl rfl ?_
      refine v_iload F dX5_putVerse_47 5 rfl ?_
      obtain ⟨k21, g_k21, h⟩ := h
      refine v_cV (v_runV F k_X5_87 rfl (c_X5_putGap r_a h) r_a rfl rfl (Nat.le_of_ble_eq_true rfl) ⟨Nat.le_of_ble_eq_true rfl, Nat.le_of_ble_eq_true rfl⟩ (kb_c hk g_k21) dX5_putVerse_49) (fun  S20 h hE => ?_)
      have r_a := r_a.tr hE
      have r_p1 := r_p1.tr hE
      have hk := kb_n hk g_k21
      refine v_gen (fun n hk => ?_) hk
      refine v_aload_n F dX5_putVerse_52 0 rfl rfl ?_
      refine v_aload_n F dX5_putVerse_53 1 rfl rfl ?_
      refine v_iload F dX5_putVerse_54 6 rfl ?_
      refine v_iload_n F dX5_putVerse_56 3 rfl rfl ?_
      obtain ⟨k23, g_k23, h⟩ := h
      refine v_cV (v_runV F k_X5_144 rfl (c_X5_putSyllable r_a r_p1 h) r_a rfl rfl (Nat.le_of_ble_eq_true rfl) ⟨Nat.le_of_ble_eq_true rfl, Nat.le_of_ble_eq_true rfl⟩ (kb_c hk g_k23) dX5_putVerse_57) (fun  S22 h hE => ?_)
      have r_a := r_a.tr hE
      have r_p1 := r_p1.tr hE
      have hk := kb_n hk g_k23
      refine v_gen (fun n hk => ?_) hk
      exact v_sub [0, 1, 2, 3, 4, 5, 6] rfl (h r_a r_p1 _ hk)
theorem dX5_putVoice_0 : decode cX5_putVoice 0 = .ok (.aload_n 0, 1) := by decide +kernel
theorem dX5_putVoice_1 : decode cX5_putVoice 1 = .ok (.getfield 18, 3) := by decide +kernel
theorem dX5_putVoice_4 : decode cX5_putVoice 4 = .ok (.istore_n 3, 1) := by decide +kernel
theorem dX5_putVoice_5 : decode cX5_putVoice 5 = .ok (.aload_n 1, 1) := by decide +kernel
theorem dX5_putVoice_6 : decode cX5_putVoice 6 = .ok (.iload_n 2, 1) := by decide +kernel
theorem dX5_putVoice_7 : decode cX5_putVoice 7 = .ok (.invokevirtual 72, 3) := by decide +kernel
theorem dX5_putVoice_10 : decode cX5_putVoice 10 = .ok (.lconst 0, 1) := by decide +kernel
theorem dX5_putVoice_11 : decode cX5_putVoice 11 = .ok (.lcmp, 1) := by decide +kernel
theorem dX5_putVoice_12 : decode cX5_putVoice 12 = .ok (.ifCond .le 18, 3) := by decide +kernel
theorem dX5_putVoice_15 : decode cX5_putVoice 15 = .ok (.aload_n 0, 1) := by decide +kernel
theorem dX5_putVoice_16 : decode cX5_putVoice 16 = .ok (.bipush 114, 2) := by decide +kernel
theorem dX5_putVoice_18 : decode cX5_putVoice 18 = .ok (.invokevirtual 64, 3) := by decide +kernel
theorem dX5_putVoice_21 : decode cX5_putVoice 21 = .ok (.aload_n 0, 1) := by decide +kernel
theorem dX5_putVoice_22 : decode cX5_putVoice 22 = .ok (.aload_n 1, 1) := by decide +kernel
theorem dX5_putVoice_23 : decode cX5_putVoice 23 = .ok (.iload_n 2, 1) := by decide +kernel
theorem dX5_putVoice_24 : decode cX5_putVoice 24 = .ok (.invokevirtual 72, 3) := by decide +kernel
theorem dX5_putVoice_27 : decode cX5_putVoice 27 = .ok (.invokevirtual 76, 3) := by decide +kernel
theorem dX5_putVoice_30 : decode cX5_putVoice 30 = .ok (.iconst 0, 1) := by decide +kernel
theorem dX5_putVoice_31 : decode cX5_putVoice 31 = .ok (.istore 4, 2) := by decide +kernel
theorem dX5_putVoice_33 : decode cX5_putVoice 33 = .ok (.iload 4, 2) := by decide +kernel
theorem dX5_putVoice_35 : decode cX5_putVoice 35 = .ok (.aload_n 1, 1) := by decide +kernel
theorem dX5_putVoice_36 : decode cX5_putVoice 36 = .ok (.getfield 80, 3) := by decide +kernel
theorem dX5_putVoice_39 : decode cX5_putVoice 39 = .ok (.if_icmp .ge 32, 3) := by decide +kernel
theorem dX5_putVoice_42 : decode cX5_putVoice 42 = .ok (.aload_n 1, 1) := by decide +kernel
theorem dX5_putVoice_43 : decode cX5_putVoice 43 = .ok (.getfield 83, 3) := by decide +kernel
theorem dX5_putVoice_46 : decode cX5_putVoice 46 = .ok (.iload 4, 2) := by decide +kernel
theorem dX5_putVoice_48 : decode cX5_putVoice 48 = .ok (.iaload, 1) := by decide +kernel
theorem dX5_putVoice_49 : decode cX5_putVoice 49 = .ok (.iload_n 2, 1) := by decide +kernel
theorem dX5_putVoice_50 : decode cX5_putVoice 50 = .ok (.if_icmp .ne 15, 3) := by decide +kernel
theorem dX5_putVoice_53 : decode cX5_putVoice 53 = .ok (.aload_n 0, 1) := by decide +kernel
theorem dX5_putVoice_54 : decode cX5_putVoice 54 = .ok (.iload_n 3, 1) := by decide +kernel
theorem dX5_putVoice_55 : decode cX5_putVoice 55 = .ok (.invokevirtual 87, 3) := by decide +kernel
theorem dX5_putVoice_58 : decode cX5_putVoice 58 = .ok (.aload_n 0, 1) := by decide +kernel
theorem dX5_putVoice_59 : decode cX5_putVoice 59 = .ok (.aload_n 1, 1) := by decide +kernel
theorem dX5_putVoice_60 : decode cX5_putVoice 60 = .ok (.iload 4, 2) := by decide +kernel
theorem dX5_putVoice_62 : decode cX5_putVoice 62 = .ok (.invokevirtual 90, 3) := by decide +kernel
theorem dX5_putVoice_65 : decode cX5_putVoice 65 = .ok (.iinc 4 1, 3) := by decide +kernel
theorem dX5_putVoice_68 : decode cX5_putVoice 68 = .ok (.goto (-35), 3) := by decide +kernel
theorem dX5_putVoice_71 : decode cX5_putVoice 71 = .ok (.iconst 1, 1) := by decide +kernel
theorem dX5_putVoice_72 : decode cX5_putVoice 72 = .ok (.istore 4, 2) := by decide +kernel
theorem dX5_putVoice_74 : decode cX5_putVoice 74 = .ok (.iload 4, 2) := by decide +kernel
theorem dX5_putVoice_76 : decode cX5_putVoice 76 = .ok (.iconst 3, 1) := by decide +kernel
theorem dX5_putVoice_77 : decode cX5_putVoice 77 = .ok (.if_icmp .gt 39, 3) := by decide +kernel
theorem dX5_putVoice_80 : decode cX5_putVoice 80 = .ok (.aload_n 1, 1) := by decide +kernel
theorem dX5_putVoice_81 : decode cX5_putVoice 81 = .ok (.iload_n 2, 1) := by decide +kernel
theorem dX5_putVoice_82 : decode cX5_putVoice 82 = .ok (.iload 4, 2) := by decide +kernel
theorem dX5_putVoice_84 : decode cX5_putVoice 84 = .ok (.invokevirtual 93, 3) := by decide +kernel
theorem dX5_putVoice_87 : decode cX5_putVoice 87 = .ok (.istore 5, 2) := by decide +kernel
theorem dX5_putVoice_89 : decode cX5_putVoice 89 = .ok (.iload 5, 2) := by decide +kernel
theorem dX5_putVoice_91 : decode cX5_putVoice 91 = .ok (.iconst (-1), 1) := by decide +kernel
theorem dX5_putVoice_92 : decode cX5_putVoice 92 = .ok (.if_icmp .eq 18, 3) := by decide +kernel
theorem dX5_putVoice_95 : decode cX5_putVoice 95 = .ok (.aload_n 0, 1) := by decide +kernel
theorem dX5_putVoice_96 : decode cX5_putVoice 96 = .ok (.iload_n 3, 1) := by decide +kernel
theorem dX5_putVoice_97 : decode cX5_putVoice 97 = .ok (.invokevirtual 87, 3) := by decide +kernel
theorem dX5_putVoice_100 : decode cX5_putVoice 100 = .ok (.aload_n 0, 1) := by decide +kernel
theorem dX5_putVoice_101 : decode cX5_putVoice 101 = .ok (.aload_n 1, 1) := by decide +kernel
theorem dX5_putVoice_102 : decode cX5_putVoice 102 = .ok (.iload_n 2, 1) := by decide +kernel
theorem dX5_putVoice_103 : decode cX5_putVoice 103 = .ok (.iload 4, 2) := by decide +kernel
theorem dX5_putVoice_105 : decode cX5_putVoice 105 = .ok (.iload 5, 2) := by decide +kernel
theorem dX5_putVoice_107 : decode cX5_putVoice 107 = .ok (.invokevirtual 96, 3) := by decide +kernel
theorem dX5_putVoice_110 : decode cX5_putVoice 110 = .ok (.iinc 4 1, 3) := by decide +kernel
theorem dX5_putVoice_113 : decode cX5_putVoice 113 = .ok (.goto (-39), 3) := by decide +kernel
theorem dX5_putVoice_116 : decode cX5_putVoice 116 = .ok (.return_, 1) := by decide +kernel
abbrev rm_X5_putVoice (k : Nat × Nat) : Room := { frames := 6, cells := k.1, slots := k.2, locals := 174 }
def wp_X5_putVoice (a : Nat) (p1 : Nat) (p2 : Int32) (k : Nat × Nat) (S : PS) (Q : PS → Prop) : Prop :=
  (∀ v1, v1 = fI S 41 a → wp_X8_beginOfVoice p1 p2 S (fun (r3 : Int64) (S2 : PS) => 
 (∀ K30_5 : Nat × Nat → PS → Prop, (∀ (k6 : Nat × Nat) (S4 : PS),
 (∀ P33_7 : Int32 → Nat × Nat → PS → Prop, (∀ (x4_8 : Int32) (k10 : Nat × Nat) (S9 : PS),
 (if fI S9 70 p1 ≤ x4_8 then
 (∀ P74_11 : Int32 → Nat × Nat → PS → Prop, (∀ (x4_12 : Int32) (k14 : Nat × Nat) (S13 : PS),
 (if 3 < x4_12 then
 Q S13
 else
 wp_X8_lastSung p1 p2 x4_12 S13 (fun (r16 : Int32) (S15 : PS) => 
 (∀ K110_18 : Nat × Nat → PS → Prop, (∀ (k19 : Nat × Nat) (S17 : PS),
 (∀ v20, v20 = x4_12 + 1 → P74_11 v20 k19 S17)
 → K110_18 k19 S17) →
 (if r16 = (-1) then
 K110_18 k14 S15
 else
 (∃ k22 : Nat × Nat, (k22.1 ≤ k14.1 ∧ k22.2 ≤ k14.2) ∧ wp_X5_putGap a v1 k22 S15 (fun (S21 : PS) => 
 (∃ k24 : Nat × Nat, (k24.1 ≤ (k14.1 - k22.1, k14.2 - k22.2).1 ∧ k24.2 ≤ (k14.1 - k22.1, k14.2 - k22.2).2) ∧ wp_X5_putVerse a p1 p2 x4_12 r16 k24 S21 (fun (S23 : PS) => 
 K110_18 ((k14.1 - k22.1, k14.2 - k22.2).1 - k24.1, (k14.1 - k22.1, k14.2 - k22.2).2 - k24.2) S23))))))))
 → P74_11 x4_12 k14 S13) → P74_11 1 k10 S9)
 else
 (∃ b25, fR S9 71 p1 = some b25 ∧ (vp_in x4_8 (aN S9 b25) ∧ (∀ K65_27 : Nat × Nat → PS → Prop, (∀ (k28 : Nat × Nat) (S26 : PS),
 (∀ v29, v29 = x4_8 + 1 → P33_7 v29 k28 S26)
 → K65_27 k28 S26) →
 (if aI S9 28 b25 (x4_8).toNatClampNeg = p2 then
 (∃ k31 : Nat × Nat, (k31.1 ≤ k10.1 ∧ k31.2 ≤ k10.2) ∧ wp_X5_putGap a v1 k31 S9 (fun (S30 : PS) => 
 (∃ k33 : Nat × Nat, (k33.1 ≤ (k10.1 - k31.1, k10.2 - k31.2).1 ∧ k33.2 ≤ (k10.1 - k31.1, k10.2 - k31.2).2) ∧ wp_X5_putSound a p1 x4_8 k33 S30 (fun (S32 : PS) => 
 K65_27 ((k10.1 - k31.1, k10.2 - k31.2).1 - k33.1, (k10.1 - k31.1, k10.2 - k31.2).2 - k33.2) S32))))
 else
 K65_27 k10 S9)))))
 → P33_7 x4_8 k10 S9) → P33_7 0 k6 S4)
 → K30_5 k6 S4) →
 (if r3 ≤ 0 then
 K30_5 k S2
 else
 (∃ k35 : Nat × Nat, (k35.1 ≤ k.1 ∧ k35.2 ≤ k.2) ∧ wp_X5_put a 114 k35 S2 (fun (S34 : PS) => 
 wp_X8_beginOfVoice p1 p2 S34 (fun (r37 : Int64) (S36 : PS) => 
 (∃ k39 : Nat × Nat, (k39.1 ≤ (k.1 - k35.1, k.2 - k35.2).1 ∧ k39.2 ≤ (k.1 - k35.1, k.2 - k35.2).2) ∧ wp_X5_putTicks a r37 k39 S36 (fun (S38 : PS) => 
 K30_5 ((k.1 - k35.1, k.2 - k35.2).1 - k39.1, (k.1 - k35.1, k.2 - k35.2).2 - k39.2) S38)))))))))
set_option maxRecDepth 100000 in
set_option maxHeartbeats 4000000 in
theorem c_X5_putVoice {l : Launch} {E : EE} {A : Nat → Prop} {a : Nat} {p1 : Nat} {p2 : Int32} {k : Nat × Nat} {S : PS} {Q : PS → Prop} {adK adV : Nat → Nat} (hS : hasStr E adK adV) (r_a : Rf S a 4) (r_p1 : Rf S p1 7) (h : wp_X5_putVoice a p1 p2 k S Q) : MtV l yX5_putVoice (.code yX5_putVoice cX5_putVoice 6 none) (rm_X5_putVoice k) E A [.ref a, .ref p1, .int p2] S Q := by
  refine MtV.of2 (by decide) (Nat.le_of_ble_eq_true rfl) (fun X F hQ hX => ?_)
  show VV X (0, 0) S [(0, .ref a), (1, .ref p1), (2, .int p2)] [] 0
  obtain ⟨hXl, hXE, hXA, hN, hnm⟩ := hX
  subst hXE
  subst hXA
  subst hXl
  generalize hn0 : ((0, 0) : Nat × Nat) = n
  have hk : n.1 + k.1 ≤ k.1 ∧ n.2 + k.2 ≤ k.2 := by subst hn0; exact ⟨by omega, by omega⟩
  unfold wp_X5_putVoice at h
  refine v_aload_n F dX5_putVoice_0 0 rfl rfl ?_
  refine g_X5_18 F r_a dX5_putVoice_1 ?_
  refine v_topi (fun v1 e_v1 => ?_)
  have h := h v1 e_v1
  refine v_istore_n (lv1 := [(3, .int v1), (0, .ref a), (1, .ref p1), (2, .int p2)]) F dX5_putVoice_4 rfl (by rw [hN]; decide) rfl ?_
  refine v_aload_n F dX5_putVoice_5 2 rfl rfl ?_
  refine v_iload_n F dX5_putVoice_6 3 rfl rfl ?_
  refine v_cL0 (v_runV F k_X5_72 rfl (c_X8_beginOfVoice r_p1 h) r_p1 rfl rfl (Nat.le_of_ble_eq_true rfl) ⟨Nat.le_of_ble_eq_true rfl, Nat.le_of_ble_eq_true rfl⟩ (kb_z hk) dX5_putVoice_7) ⟨rfl, rfl⟩ (fun r3 S2 h hE => ?_)
  have r_a := r_a.tr hE
  have r_p1 := r_p1.tr hE
  refine v_lconst (v := 0) F dX5_putVoice_10 (by decide) ?_
  have h := h (fun (k6 : Nat × Nat) (S4 : PS) => Rf S4 a 4 → Rf S4 p1 7 → ∀ n : Nat × Nat, (n.1 + k6.1 ≤ k.1 ∧ n.2 + k6.2 ≤ k.2) → VV X n S4 [(0, .ref a), (1, .ref p1), (2, .int p2), (3, .int v1)] [] 30) (by
    intro k6 S4 h r_a r_p1 n hk
    refine v_iconst (v := 0) F dX5_putVoice_30 (by decide) ?_
    refine v_istore (lv1 := [(4, .int 0), (0, .ref a), (1, .ref p1), (2, .int p2), (3, .int v1)]) F dX5_putVoice_31 (by rw [hN]; decide) rfl ?_
    refine v_sub [1, 2, 3, 4, 0] rfl ?_
    refine h (fun (x4_8 : Int32) (k10 : Nat × Nat) (S9 : PS) => Rf S9 a 4 → Rf S9 p1 7 → ∀ n : Nat × Nat, (n.1 + k10.1 ≤ k.1 ∧ n.2 + k10.2 ≤ k.2) → VV X n S9 [(0, .ref a), (1, .ref p1), (2, .int p2), (3, .int v1), (4, .int x4_8)] [] 33) (fun x4_8 k10 S9 h r_a r_p1 n hk => ?_) r_a r_p1 _ hk
    refine v_iload F dX5_putVoice_33 4 rfl ?_
    refine v_aload_n F dX5_putVoice_35 1 rfl rfl ?_
    refine g_X5_80 F r_p1 dX5_putVoice_36 ?_
    refine v_icmp_ge (tgt := 71) F dX5_putVoice_39 (by decide) h (fun h => ?_) (fun h => ?_)
    · refine v_iconst (v := 1) F dX5_putVoice_71 (by decide) ?_
      refine v_istore (lv1 := [(4, .int 1), (0, .ref a), (1, .ref p1), (2, .int p2), (3, .int v1)]) F dX5_putVoice_72 (by rw [hN]; decide) rfl ?_
      refine v_sub [1, 2, 3, 4, 0] rfl ?_
      refine h (fun (x4_12 : Int32) (k14 : Nat × Nat) (S13 : PS) => Rf S13 a 4 → Rf S13 p1 7 → ∀ n : Nat × Nat, (n.1 + k14.1 ≤ k.1 ∧ n.2 + k14.2 ≤ k.2) → VV X n S13 [(0, .ref a), (1, .ref p1), (2, .int p2), (3, .int v1), (4, .int x4_12)] [] 74) (fun x4_12 k14 S13 h r_a r_p1 n hk => ?_) r_a r_p1 _ hk
      refine v_iload F dX5_putVoice_74 4 rfl ?_
      refine v_iconst (v := 3) F dX5_putVoice_76 (by decide) ?_
      refine v_icmp_gt (tgt := 116) F dX5_putVoice_77 (by decide) h (fun h => ?_) (fun h => ?_)
      · exact v_vret F hQ h (kb_ret hk) dX5_putVoice_116
      · refine v_aload_n F dX5_putVoice_80 1 rfl rfl ?_
        refine v_iload_n F dX5_putVoice_81 2 rfl rfl ?_
        refine v_iload F dX5_putVoice_82 4 rfl ?_
        refine v_cI0 (v_runV F k_X5_93 rfl (c_X8_lastSung r_p1 h) r_p1 rfl rfl (Nat.le_of_ble_eq_true rfl) ⟨Nat.le_of_ble_eq_true rfl, Nat.le_of_ble_eq_true rfl⟩ (kb_z hk) dX5_putVoice_84) ⟨rfl, rfl⟩ (fun r16 S15 h hE => ?_)
        have r_a := r_a.tr hE
        have r_p1 := r_p1.tr hE
        refine v_istore (lv1 := [(5, .int r16), (0, .ref a), (1, .ref p1), (2, .int p2), (3, .int v1), (4, .int x4_12)]) F dX5_putVoice_87 (by rw [hN]; decide) rfl ?_
        refine v_iload F dX5_putVoice_89 0 rfl ?_
        refine v_iconst (v := (-1)) F dX5_putVoice_91 (by decide) ?_
        have h := h (fun (k19 : Nat × Nat) (S17 : PS) => Rf S17 a 4 → Rf S17 p1 7 → ∀ n : Nat × Nat, (n.1 + k19.1 ≤ k.1 ∧ n.2 + k19.2 ≤ k.2) → VV X n S17 [(0, .ref a), (1, .ref p1), (2, .int p2), (3, .int v1), (4, .int x4_12)] [] 110) (by
          intro k19 S17 h r_a r_p1 n hk
          obtain ⟨v20, e_v20⟩ : ∃ y : Int32, y = x4_12 + 1 := ⟨_, rfl⟩
          have h := h v20 e_v20
          refine v_iinc (v := v20) (lv1 := [(4, .int v20), (0, .ref a), (1, .ref p1), (2, .int p2), (3, .int v1)]) F dX5_putVoice_110 (q := 4) rfl (by rw [e_v20]; rfl) (by rw [hN]; decide) rfl ?_
          refine v_goto (tgt := 74) F dX5_putVoice_113 (by decide) ?_
          exact v_sub [1, 2, 3, 4, 0] rfl (h r_a r_p1 _ hk))
        refine v_icmp_eq (tgt := 110) F dX5_putVoice_92 (by decide) h (fun h => ?_) (fun h => ?_)
        · exact v_sub [1, 2, 3, 4, 5] rfl (h r_a r_p1 _ hk)
        · refine v_aload_n F dX5_putVoice_95 1 rfl rfl ?_
          refine v_iload_n F dX5_putVoice_96 4 rfl rfl ?_
          obtain ⟨k22, g_k22, h⟩ := h
          refine v_cV (v_runV F k_X5_87 rfl (c_X5_putGap r_a h) r_a rfl rfl (Nat.le_of_ble_eq_true rfl) ⟨Nat.le_of_ble_eq_true rfl, Nat.le_of_ble_eq_true rfl⟩ (kb_c hk g_k22) dX5_putVoice_97) (fun  S21 h hE => ?_)
          have r_a := r_a.tr hE
          have r_p1 := r_p1.tr hE
          have hk := kb_n hk g_k22
          refine v_gen (fun n hk => ?_) hk
          refine v_aload_n F dX5_putVoice_100 1 rfl rfl ?_
          refine v_aload_n F dX5_putVoice_101 2 rfl rfl ?_
          refine v_iload_n F dX5_putVoice_102 3 rfl rfl ?_
          refine v_iload F dX5_putVoice_103 5 rfl ?_
          refine v_iload F dX5_putVoice_105 0 rfl ?_
          obtain ⟨k24, g_k24, h⟩ := h
          refine v_cV (v_runV F k_X5_96 rfl (c_X5_putVerse hS r_a r_p1 h) r_a rfl rfl (Nat.le_of_ble_eq_true rfl) ⟨Nat.le_of_ble_eq_true rfl, Nat.le_of_ble_eq_true rfl⟩ (kb_c hk g_k24) dX5_putVoice_107) (fun  S23 h hE => ?_)
          have r_a := r_a.tr hE
          have r_p1 := r_p1.tr hE
          have hk := kb_n hk g_k24
          refine v_gen (fun n hk => ?_) hk
          exact v_sub [1, 2, 3, 4, 5] rfl (h r_a r_p1 _ hk)
    · refine v_aload_n F dX5_putVoice_42 1 rfl rfl ?_
      refine g_X5_83 F r_p1 h dX5_putVoice_43 (fun b25 r_b25 h => ?_)
      refine v_iload F dX5_putVoice_46 4 rfl ?_
      refine v_iald F r_b25 o_28 h dX5_putVoice_48 (fun h => ?_)
      refine v_iload_n F dX5_putVoice_49 2 rfl rfl ?_
      have h := h (fun (k28 : Nat × Nat) (S26 : PS) => Rf S26 a 4 → Rf S26 p1 7 → ∀ n : Nat × Nat, (n.1 + k28.1 ≤ k.1 ∧ n.2 + k28.2 ≤ k.2) → VV X n S26 [(0, .ref a), (1, .ref p1), (2, .int p2), (3, .int v1), (4, .int x4_8)] [] 65) (by
        intro k28 S26 h r_a r_p1 n hk
        obtain ⟨v29, e_v29⟩ : ∃ y : Int32, y = x4_8 + 1 := ⟨_, rfl⟩
        have h := h v29 e_v29
        refine v_iinc (v := v29) (lv1 := [(4, .int v29), (0, .ref a), (1, .ref p1), (2, .int p2), (3, .int v1)]) F dX5_putVoice_65 (q := 4) rfl (by rw [e_v29]; rfl) (by rw [hN]; decide) rfl ?_
        refine v_goto (tgt := 33) F dX5_putVoice_68 (by decide) ?_
        exact v_sub [1, 2, 3, 4, 0] rfl (h r_a r_p1 _ hk))
      refine v_icmp_ne (tgt := 65) F dX5_putVoice_50 (by decide) h (fun h => ?_) (fun h => ?_)
      · exact v_sub [0, 1, 2, 3, 4] rfl (h r_a r_p1 _ hk)
      · refine v_aload_n F dX5_putVoice_53 0 rfl rfl ?_
        refine v_iload_n F dX5_putVoice_54 3 rfl rfl ?_
        obtain ⟨k31, g_k31, h⟩ := h
        refine v_cV (v_runV F k_X5_87 rfl (c_X5_putGap r_a h) r_a rfl rfl (Nat.le_of_ble_eq_true rfl) ⟨Nat.le_of_ble_eq_true rfl, Nat.le_of_ble_eq_true rfl⟩ (kb_c hk g_k31) dX5_putVoice_55) (fun  S30 h hE => ?_)
        have r_a := r_a.tr hE
        have r_p1 := r_p1.tr hE
        have hk := kb_n hk g_k31
        refine v_gen (fun n hk => ?_) hk
        refine v_aload_n F dX5_putVoice_58 0 rfl rfl ?_
        refine v_aload_n F dX5_putVoice_59 1 rfl rfl ?_
        refine v_iload F dX5_putVoice_60 4 rfl ?_
        obtain ⟨k33, g_k33, h⟩ := h
        refine v_cV (v_runV F k_X5_90 rfl (c_X5_putSound r_a r_p1 h) r_a rfl rfl (Nat.le_of_ble_eq_true rfl) ⟨Nat.le_of_ble_eq_true rfl, Nat.le_of_ble_eq_true rfl⟩ (kb_c hk g_k33) dX5_putVoice_62) (fun  S32 h hE => ?_)
        have r_a := r_a.tr hE
        have r_p1 := r_p1.tr hE
        have hk := kb_n hk g_k33
        refine v_gen (fun n hk => ?_) hk
        exact v_sub [0, 1, 2, 3, 4] rfl (h r_a r_p1 _ hk))
  refine v_lcmp_le (tgt := 30) F dX5_putVoice_11 dX5_putVoice_12 (by decide) h (fun h => ?_) (fun h => ?_)
  · exact v_sub [1, 2, 3, 0] rfl (h r_a r_p1 _ hk)
  · refine v_aload_n F dX5_putVoice_15 1 rfl rfl ?_
    refine v_bipush (v := 114) F dX5_putVoice_16 (by decide) ?_
    obtain ⟨k35, g_k35, h⟩ := h
    refine v_cV (v_runV F k_X5_64 rfl (c_X5_put r_a h) r_a rfl rfl (Nat.le_of_ble_eq_true rfl) ⟨Nat.le_of_ble_eq_true rfl, Nat.le_of_ble_eq_true rfl⟩ (kb_c hk g_k35) dX5_putVoice_18) (fun  S34 h hE => ?_)
    have r_a := r_a.tr hE
    have r_p1 := r_p1.tr hE
    have hk := kb_n hk g_k35
    refine v_gen (fun n hk => ?_) hk
    refine v_aload_n F dX5_putVoice_21 1 rfl rfl ?_
    refine v_aload_n F dX5_putVoice_22 2 rfl rfl ?_
    refine v_iload_n F dX5_putVoice_23 3 rfl rfl ?_
    refine v_cL0 (v_runV F k_X5_72 rfl (c_X8_beginOfVoice r_p1 h) r_p1 rfl rfl (Nat.le_of_ble_eq_true rfl) ⟨Nat.le_of_ble_eq_true rfl, Nat.le_of_ble_eq_true rfl⟩ (kb_z hk) dX5_putVoice_24) ⟨rfl, rfl⟩ (fun r37 S36 h hE => ?_)
    have r_a := r_a.tr hE
    have r_p1 := r_p1.tr hE
    obtain ⟨k39, g_k39, h⟩ := h
    refine v_cV (v_runV F k_X5_76 rfl (c_X5_putTicks r_a h) r_a rfl rfl (Nat.le_of_ble_eq_true rfl) ⟨Nat.le_of_ble_eq_true rfl, Nat.le_of_ble_eq_true rfl⟩ (kb_c hk g_k39) dX5_putVoice_27) (fun  S38 h hE => ?_)
    have r_a := r_a.tr hE
    have r_p1 := r_p1.tr hE
    have hk := kb_n hk g_k39
    refine v_gen (fun n hk => ?_) hk
    exact v_sub [1, 2, 3, 0] rfl (h r_a r_p1 _ hk)
theorem dX5_print_0 : decode cX5_print 0 = .ok (.aload_n 0, 1) := by decide +kernel
theorem dX5_print_1 : decode cX5_print 1 = .ok (.iconst 0, 1) := by decide +kernel
theorem dX5_print_2 : decode cX5_print 2 = .ok (.putfield 18, 3) := by decide +kernel
theorem dX5_print_5 : decode cX5_print 5 = .ok (.aload_n 1, 1) := by decide +kernel
theorem dX5_print_6 : decode cX5_print 6 = .ok (.getfield 22, 3) := by decide +kernel
theorem dX5_print_9 : decode cX5_print 9 = .ok (.iconst 1, 1) := by decide +kernel
theorem dX5_print_10 : decode cX5_print 10 = .ok (.if_icmp .le 7, 3) := by decide +kernel
theorem dX5_print_13 : decode cX5_print 13 = .ok (.iconst 1, 1) := by decide +kernel
theorem dX5_print_14 : decode cX5_print 14 = .ok (.goto 4, 3) := by decide +kernel
theorem dX5_print_17 : decode cX5_print 17 = .ok (.iconst 0, 1) := by decide +kernel
theorem dX5_print_18 : decode cX5_print 18 = .ok (.istore_n 2, 1) := by decide +kernel
theorem dX5_print_19 : decode cX5_print 19 = .ok (.iload_n 2, 1) := by decide +kernel
theorem dX5_print_20 : decode cX5_print 20 = .ok (.ifCond .eq 9, 3) := by decide +kernel
theorem dX5_print_23 : decode cX5_print 23 = .ok (.aload_n 0, 1) := by decide +kernel
theorem dX5_print_24 : decode cX5_print 24 = .ok (.ldc 27, 2) := by decide +kernel
theorem dX5_print_26 : decode cX5_print 26 = .ok (.invokevirtual 29, 3) := by decide +kernel
theorem dX5_print_29 : decode cX5_print 29 = .ok (.iconst 0, 1) := by decide +kernel
theorem dX5_print_30 : decode cX5_print 30 = .ok (.istore_n 3, 1) := by decide +kernel
theorem dX5_print_31 : decode cX5_print 31 = .ok (.iload_n 3, 1) := by decide +kernel
theorem dX5_print_32 : decode cX5_print 32 = .ok (.aload_n 1, 1) := by decide +kernel
theorem dX5_print_33 : decode cX5_print 33 = .ok (.getfield 22, 3) := by decide +kernel
theorem dX5_print_36 : decode cX5_print 36 = .ok (.if_icmp .ge 25, 3) := by decide +kernel
theorem dX5_print_39 : decode cX5_print 39 = .ok (.iload_n 3, 1) := by decide +kernel
theorem dX5_print_40 : decode cX5_print 40 = .ok (.ifCond .le 9, 3) := by decide +kernel
theorem dX5_print_43 : decode cX5_print 43 = .ok (.aload_n 0, 1) := by decide +kernel
theorem dX5_print_44 : decode cX5_print 44 = .ok (.ldc 33, 2) := by decide +kernel
theorem dX5_print_46 : decode cX5_print 46 = .ok (.invokevirtual 29, 3) := by decide +kernel
theorem dX5_print_49 : decode cX5_print 49 = .ok (.aload_n 0, 1) := by decide +kernel
theorem dX5_print_50 : decode cX5_print 50 = .ok (.aload_n 1, 1) := by decide +kernel
theorem dX5_print_51 : decode cX5_print 51 = .ok (.iload_n 3, 1) := by decide +kernel
theorem dX5_print_52 : decode cX5_print 52 = .ok (.invokevirtual 35, 3) := by decide +kernel
theorem dX5_print_55 : decode cX5_print 55 = .ok (.iinc 3 1, 3) := by decide +kernel
theorem dX5_print_58 : decode cX5_print 58 = .ok (.goto (-27), 3) := by decide +kernel
theorem dX5_print_61 : decode cX5_print 61 = .ok (.iload_n 2, 1) := by decide +kernel
theorem dX5_print_62 : decode cX5_print 62 = .ok (.ifCond .eq 9, 3) := by decide +kernel
theorem dX5_print_65 : decode cX5_print 65 = .ok (.aload_n 0, 1) := by decide +kernel
theorem dX5_print_66 : decode cX5_print 66 = .ok (.ldc 39, 2) := by decide +kernel
theorem dX5_print_68 : decode cX5_print 68 = .ok (.invokevirtual 29, 3) := by decide +kernel
theorem dX5_print_71 : decode cX5_print 71 = .ok (.aload_n 0, 1) := by decide +kernel
theorem dX5_print_72 : decode cX5_print 72 = .ok (.getfield 18, 3) := by decide +kernel
theorem dX5_print_75 : decode cX5_print 75 = .ok (.ireturn, 1) := by decide +kernel
abbrev rm_X5_print (k : Nat × Nat) : Room := { frames := 7, cells := k.1, slots := k.2, locals := 199 }
def wp_X5_print (a : Nat) (p1 : Nat) (k : Nat × Nat) (S : PS) (Q : Int32 → PS → Prop) : Prop :=
  (∀ S1, S1 = sI S 41 a 0 → (∀ K18_4 : Int32 → Nat × Nat → PS → Prop, (∀ (t2 : Int32) (k5 : Nat × Nat) (S3 : PS),
 (∀ K29_7 : Nat × Nat → PS → Prop, (∀ (k8 : Nat × Nat) (S6 : PS),
 (∀ P31_9 : Int32 → Nat × Nat → PS → Prop, (∀ (x3_10 : Int32) (k12 : Nat × Nat) (S11 : PS),
 (if fI S11 79 p1 ≤ x3_10 then
 (∀ K71_14 : Nat × Nat → PS → Prop, (∀ (k15 : Nat × Nat) (S13 : PS),
 Q (fI S13 41 a) S13
 → K71_14 k15 S13) →
 (if t2 = 0 then
 K71_14 k12 S11
 else
 (∃ k17 : Nat × Nat, (k17.1 ≤ k12.1 ∧ k17.2 ≤ k12.2) ∧ wp_X5_putText a 5 k17 S11 (fun (S16 : PS) => 
 K71_14 (k12.1 - k17.1, k12.2 - k17.2) S16))))
 else
 (∀ K49_19 : Nat × Nat → PS → Prop, (∀ (k20 : Nat × Nat) (S18 : PS),
 (∃ k22 : Nat × Nat, (k22.1 ≤ k20.1 ∧ k22.2 ≤ k20.2) ∧ wp_X5_putVoice a p1 x3_10 k22 S18 (fun (S21 : PS) => 
 (∀ v23, v23 = x3_10 + 1 → P31_9 v23 (k20.1 - k22.1, k20.2 - k22.2) S21)))
 → K49_19 k20 S18) →
 (if x3_10 ≤ 0 then
 K49_19 k12 S11
 else
 (∃ k25 : Nat × Nat, (k25.1 ≤ k12.1 ∧ k25.2 ≤ k12.2) ∧ wp_X5_putText a 2 k25 S11 (fun (S24 : PS) => 
 K49_19 (k12.1 - k25.1, k12.2 - k25.2) S24)))))
 → P31_9 x3_10 k12 S11) → P31_9 0 k8 S6)
 → K29_7 k8 S6) →
 (if t2 = 0 then
 K29_7 k5 S3
 else
 (∃ k27 : Nat × Nat, (k27.1 ≤ k5.1 ∧ k27.2 ≤ k5.2) ∧ wp_X5_putText a 1 k27 S3 (fun (S26 : PS) => 
 K29_7 (k5.1 - k27.1, k5.2 - k27.2) S26))))
 → K18_4 t2 k5 S3) →
 (if fI S1 79 p1 ≤ 1 then
 K18_4 0 k S1
 else
 K18_4 1 k S1)))
set_option maxRecDepth 100000 in
set_option maxHeartbeats 4000000 in
theorem c_X5_print {l : Launch} {E : EE} {A : Nat → Prop} {a : Nat} {p1 : Nat} {k : Nat × Nat} {S : PS} {Q : Int32 → PS → Prop} {adK adV : Nat → Nat} (hS : hasStr E adK adV) (r_a : Rf S a 4) (r_p1 : Rf S p1 7) (h : wp_X5_print a p1 k S Q) : MtI l yX5_print (.code yX5_print cX5_print 4 (some .int)) (rm_X5_print k) E A [.ref a, .ref p1] S Q := by
  refine MtI.of2 (by decide) (Nat.le_of_ble_eq_true rfl) (fun X F hQ hX => ?_)
  show VV X (0, 0) S [(0, .ref a), (1, .ref p1)] [] 0
  obtain ⟨hXl, hXE, hXA, hN, hnm⟩ := hX
  subst hXE
  subst hXA
  subst hXl
  generalize hn0 : ((0, 0) : Nat × Nat) = n
  have hk : n.1 + k.1 ≤ k.1 ∧ n.2 + k.2 ≤ k.2 := by subst hn0; exact ⟨by omega, by omega⟩
  unfold wp_X5_print at h
  refine v_aload_n F dX5_print_0 0 rfl rfl ?_
  refine v_iconst (v := 0) F dX5_print_1 (by decide) ?_
  refine p_X5_18 F r_a h dX5_print_2 (fun S1 h hE => ?_)
  have r_a := r_a.tr hE
  have r_p1 := r_p1.tr hE
  refine v_aload_n F dX5_print_5 1 rfl rfl ?_
  refine g_X5_22 F r_p1 dX5_print_6 ?_
  refine v_iconst (v := 1) F dX5_print_9 (by decide) ?_
  have h := h (fun (t2 : Int32) (k5 : Nat × Nat) (S3 : PS) => Rf S3 a 4 → Rf S3 p1 7 → ∀ n : Nat × Nat, (n.1 + k5.1 ≤ k.1 ∧ n.2 + k5.2 ≤ k.2) → VV X n S3 [(0, .ref a), (1, .ref p1)] [.int t2] 18) (by
    intro t2 k5 S3 h r_a r_p1 n hk
    refine v_istore_n (lv1 := [(2, .int t2), (0, .ref a), (1, .ref p1)]) F dX5_print_18 rfl (by rw [hN]; decide) rfl ?_
    refine v_iload_n F dX5_print_19 0 rfl rfl ?_
    have h := h (fun (k8 : Nat × Nat) (S6 : PS) => Rf S6 a 4 → Rf S6 p1 7 → ∀ n : Nat × Nat, (n.1 + k8.1 ≤ k.1 ∧ n.2 + k8.2 ≤ k.2) → VV X n S6 [(0, .ref a), (1, .ref p1), (2, .int t2)] [] 29) (by
      intro k8 S6 h r_a r_p1 n hk
      refine v_iconst (v := 0) F dX5_print_29 (by decide) ?_
      refine v_istore_n (lv1 := [(3, .int 0), (0, .ref a), (1, .ref p1), (2, .int t2)]) F dX5_print_30 rfl (by rw [hN]; decide) rfl ?_
      refine v_sub [1, 2, 3, 0] rfl ?_
      refine h (fun (x3_10 : Int32) (k12 : Nat × Nat) (S11 : PS) => Rf S11 a 4 → Rf S11 p1 7 → ∀ n : Nat × Nat, (n.1 + k12.1 ≤ k.1 ∧ n.2 + k12.2 ≤ k.2) → VV X n S11 [(0, .ref a), (1, .ref p1), (2, .int t2), (3, .int x3_10)] [] 31) (fun x3_10 k12 S11 h r_a r_p1 n hk => ?_) r_a r_p1 _ hk
      refine v_iload_n F dX5_print_31 3 rfl rfl ?_
      refine v_aload_n F dX5_print_32 1 rfl rfl ?_
      refine g_X5_22 F r_p1 dX5_print_33 ?_
      refine v_icmp_ge (tgt := 61) F dX5_print_36 (by decide) h (fun h => ?_) (fun h => ?_)
      · refine v_iload_n F dX5_print_61 2 rfl rfl ?_
        have h := h (fun (k15 : Nat × Nat) (S13 : PS) => Rf S13 a 4 → ∀ n : Nat × Nat, (n.1 + k15.1 ≤ k.1 ∧ n.2 + k15.2 ≤ k.2) → VV X n S13 [(0, .ref a)] [] 71) (by
          intro k15 S13 h r_a n hk
          refine v_aload_n F dX5_print_71 0 rfl rfl ?_
          refine g_X5_18 F r_a dX5_print_72 ?_
          exact v_iret F hQ h (kb_ret hk) dX5_print_75)
        refine v_if_eq (tgt := 71) F dX5_print_62 (by decide) h (fun h => ?_) (fun h => ?_)
        · exact v_sub [0] rfl (h r_a _ hk)
        · refine v_aload_n F dX5_print_65 0 rfl rfl ?_
          refine v_ldcS (i := 5) F hS (by decide) ⟨rfl, rfl⟩ dX5_print_66 ?_
          obtain ⟨k17, g_k17, h⟩ := h
          refine v_cV (v_runV F k_X5_29 rfl (c_X5_putText hS r_a (by decide) h) r_a rfl rfl (Nat.le_of_ble_eq_true rfl) ⟨Nat.le_of_ble_eq_true rfl, Nat.le_of_ble_eq_true rfl⟩ (kb_c hk g_k17) dX5_print_68) (fun  S16 h hE => ?_)
          have r_a := r_a.tr hE
          have r_p1 := r_p1.tr hE
          have hk := kb_n hk g_k17
          refine v_gen (fun n hk => ?_) hk
          exact v_sub [0] rfl (h r_a _ hk)
      · refine v_iload_n F dX5_print_39 3 rfl rfl ?_
        have h := h (fun (k20 : Nat × Nat) (S18 : PS) => Rf S18 a 4 → Rf S18 p1 7 → ∀ n : Nat × Nat, (n.1 + k20.1 ≤ k.1 ∧ n.2 + k20.2 ≤ k.2) → VV X n S18 [(0, .ref a), (1, .ref p1), (2, .int t2), (3, .int x3_10)] [] 49) (by
          intro k20 S18 h r_a r_p1 n hk
          refine v_aload_n F dX5_print_49 0 rfl rfl ?_
          refine v_aload_n F dX5_print_50 1 rfl rfl ?_
          refine v_iload_n F dX5_print_51 3 rfl rfl ?_
          obtain ⟨k22, g_k22, h⟩ := h
          refine v_cV (v_runV F k_X5_35 rfl (c_X5_putVoice hS r_a r_p1 h) r_a rfl rfl (Nat.le_of_ble_eq_true rfl) ⟨Nat.le_of_ble_eq_true rfl, Nat.le_of_ble_eq_true rfl⟩ (kb_c hk g_k22) dX5_print_52) (fun  S21 h hE => ?_)
          have r_a := r_a.tr hE
          have r_p1 := r_p1.tr hE
          have hk := kb_n hk g_k22
          refine v_gen (fun n hk => ?_) hk
          obtain ⟨v23, e_v23⟩ : ∃ y : Int32, y = x3_10 + 1 := ⟨_, rfl⟩
          have h := h v23 e_v23
          refine v_iinc (v := v23) (lv1 := [(3, .int v23), (0, .ref a), (1, .ref p1), (2, .int t2)]) F dX5_print_55 (q := 3) rfl (by rw [e_v23]; rfl) (by rw [hN]; decide) rfl ?_
          refine v_goto (tgt := 31) F dX5_print_58 (by decide) ?_
          exact v_sub [1, 2, 3, 0] rfl (h r_a r_p1 _ hk))
        refine v_if_le (tgt := 49) F dX5_print_40 (by decide) h (fun h => ?_) (fun h => ?_)
        · exact v_sub [0, 1, 2, 3] rfl (h r_a r_p1 _ hk)
        · refine v_aload_n F dX5_print_43 0 rfl rfl ?_
          refine v_ldcS (i := 2) F hS (by decide) ⟨rfl, rfl⟩ dX5_print_44 ?_
          obtain ⟨k25, g_k25, h⟩ := h
          refine v_cV (v_runV F k_X5_29 rfl (c_X5_putText hS r_a (by decide) h) r_a rfl rfl (Nat.le_of_ble_eq_true rfl) ⟨Nat.le_of_ble_eq_true rfl, Nat.le_of_ble_eq_true rfl⟩ (kb_c hk g_k25) dX5_print_46) (fun  S24 h hE => ?_)
          have r_a := r_a.tr hE
          have r_p1 := r_p1.tr hE
          have hk := kb_n hk g_k25
          refine v_gen (fun n hk => ?_) hk
          exact v_sub [0, 1, 2, 3] rfl (h r_a r_p1 _ hk))
    refine v_if_eq (tgt := 29) F dX5_print_20 (by decide) h (fun h => ?_) (fun h => ?_)
    · exact v_sub [1, 2, 0] rfl (h r_a r_p1 _ hk)
    · refine v_aload_n F dX5_print_23 1 rfl rfl ?_
      refine v_ldcS (i := 1) F hS (by decide) ⟨rfl, rfl⟩ dX5_print_24 ?_
      obtain ⟨k27, g_k27, h⟩ := h
      refine v_cV (v_runV F k_X5_29 rfl (c_X5_putText hS r_a (by decide) h) r_a rfl rfl (Nat.le_of_ble_eq_true rfl) ⟨Nat.le_of_ble_eq_true rfl, Nat.le_of_ble_eq_true rfl⟩ (kb_c hk g_k27) dX5_print_26) (fun  S26 h hE => ?_)
      have r_a := r_a.tr hE
      have r_p1 := r_p1.tr hE
      have hk := kb_n hk g_k27
      refine v_gen (fun n hk => ?_) hk
      exact v_sub [1, 2, 0] rfl (h r_a r_p1 _ hk))
  refine v_icmp_le (tgt := 17) F dX5_print_10 (by decide) h (fun h => ?_) (fun h => ?_)
  · refine v_iconst (v := 0) F dX5_print_17 (by decide) ?_
    exact v_sub [0, 1] rfl (h r_a r_p1 _ hk)
  · refine v_iconst (v := 1) F dX5_print_13 (by decide) ?_
    refine v_goto (tgt := 18) F dX5_print_14 (by decide) ?_
    exact v_sub [0, 1] rfl (h r_a r_p1 _ hk)
theorem dX11_write_0 : decode cX11_write 0 = .ok (.aload_n 0, 1) := by decide +kernel
theorem dX11_write_1 : decode cX11_write 1 = .ok (.getfield 50, 3) := by decide +kernel
theorem dX11_write_4 : decode cX11_write 4 = .ok (.aload_n 0, 1) := by decide +kernel
theorem dX11_write_5 : decode cX11_write 5 = .ok (.getfield 57, 3) := by decide +kernel
theorem dX11_write_8 : decode cX11_write 8 = .ok (.invokevirtual 234, 3) := by decide +kernel
theorem dX11_write_11 : decode cX11_write 11 = .ok (.ireturn, 1) := by decide +kernel
abbrev rm_X11_write (k : Nat × Nat) : Room := { frames := 8, cells := k.1, slots := k.2, locals := 222 }
def wp_X11_write (a : Nat) (k : Nat × Nat) (S : PS) (Q : Int32 → PS → Prop) : Prop :=
  (∃ b1, fR S 93 a = some b1 ∧ (∃ b2, fR S 94 a = some b2 ∧ (∃ k5 : Nat × Nat, (k5.1 ≤ k.1 ∧ k5.2 ≤ k.2) ∧ wp_X5_print b1 b2 k5 S (fun (r4 : Int32) (S3 : PS) => 
 Q r4 S3))))
set_option maxRecDepth 100000 in
set_option maxHeartbeats 4000000 in
theorem c_X11_write {l : Launch} {E : EE} {A : Nat → Prop} {a : Nat} {k : Nat × Nat} {S : PS} {Q : Int32 → PS → Prop} {adK adV : Nat → Nat} (hS : hasStr E adK adV) (r_a : Rf S a 8) (h : wp_X11_write a k S Q) : MtI l yX11_write (.code yX11_write cX11_write 1 (some .int)) (rm_X11_write k) E A [.ref a] S Q := by
  refine MtI.of2 (by decide) (Nat.le_of_ble_eq_true rfl) (fun X F hQ hX => ?_)
  show VV X (0, 0) S [(0, .ref a)] [] 0
  obtain ⟨hXl, hXE, hXA, hN, hnm⟩ := hX
  subst hXE
  subst hXA
  subst hXl
  generalize hn0 : ((0, 0) : Nat × Nat) = n
  have hk : n.1 + k.1 ≤ k.1 ∧ n.2 + k.2 ≤ k.2 := by subst hn0; exact ⟨by omega, by omega⟩
  unfold wp_X11_write at h
  refine v_aload_n F dX11_write_0 0 rfl rfl ?_
  refine g_X11_50 F r_a h dX11_write_1 (fun b1 r_b1 h => ?_)
  refine v_aload_n F dX11_write_4 0 rfl rfl ?_
  refine g_X11_57 F r_a h dX11_write_5 (fun b2 r_b2 h => ?_)
  obtain ⟨k5, g_k5, h⟩ := h
  refine v_cI (v_runV F k_X11_234 rfl (c_X5_print hS r_b1 r_b2 h) r_b1 rfl rfl (Nat.le_of_ble_eq_true rfl) ⟨Nat.le_of_ble_eq_true rfl, Nat.le_of_ble_eq_true rfl⟩ (kb_c hk g_k5) dX11_write_8) (fun r4 S3 h hE => ?_)
  have r_a := r_a.tr hE
  have hk := kb_n hk g_k5
  refine v_gen (fun n hk => ?_) hk
  exact v_iret F hQ h (kb_ret hk) dX11_write_11
