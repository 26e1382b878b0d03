theorem dX12_read_0 : decode cX12_read 0 = .ok (.aload_n 0, 1) := by decide +kernel
theorem dX12_read_1 : decode cX12_read 1 = .ok (.iconst 0, 1) := by decide +kernel
theorem dX12_read_2 : decode cX12_read 2 = .ok (.putfield 1, 3) := by decide +kernel
theorem dX12_read_5 : decode cX12_read 5 = .ok (.iconst 0, 1) := by decide +kernel
theorem dX12_read_6 : decode cX12_read 6 = .ok (.istore_n 1, 1) := by decide +kernel
theorem dX12_read_7 : decode cX12_read 7 = .ok (.iload_n 1, 1) := by decide +kernel
theorem dX12_read_8 : decode cX12_read 8 = .ok (.aload_n 0, 1) := by decide +kernel
theorem dX12_read_9 : decode cX12_read 9 = .ok (.getfield 13, 3) := by decide +kernel
theorem dX12_read_12 : decode cX12_read 12 = .ok (.if_icmp .ge 21, 3) := by decide +kernel
theorem dX12_read_15 : decode cX12_read 15 = .ok (.aload_n 0, 1) := by decide +kernel
theorem dX12_read_16 : decode cX12_read 16 = .ok (.getfield 35, 3) := by decide +kernel
theorem dX12_read_19 : decode cX12_read 19 = .ok (.iload_n 1, 1) := by decide +kernel
theorem dX12_read_20 : decode cX12_read 20 = .ok (.aload_n 0, 1) := by decide +kernel
theorem dX12_read_21 : decode cX12_read 21 = .ok (.getfield 16, 3) := by decide +kernel
theorem dX12_read_24 : decode cX12_read 24 = .ok (.iload_n 1, 1) := by decide +kernel
theorem dX12_read_25 : decode cX12_read 25 = .ok (.baload, 1) := by decide +kernel
theorem dX12_read_26 : decode cX12_read 26 = .ok (.bastore, 1) := by decide +kernel
theorem dX12_read_27 : decode cX12_read 27 = .ok (.iinc 1 1, 3) := by decide +kernel
theorem dX12_read_30 : decode cX12_read 30 = .ok (.goto (-23), 3) := by decide +kernel
theorem dX12_read_33 : decode cX12_read 33 = .ok (.aload_n 0, 1) := by decide +kernel
theorem dX12_read_34 : decode cX12_read 34 = .ok (.aload_n 0, 1) := by decide +kernel
theorem dX12_read_35 : decode cX12_read 35 = .ok (.getfield 13, 3) := by decide +kernel
theorem dX12_read_38 : decode cX12_read 38 = .ok (.putfield 32, 3) := by decide +kernel
theorem dX12_read_41 : decode cX12_read 41 = .ok (.aload_n 0, 1) := by decide +kernel
theorem dX12_read_42 : decode cX12_read 42 = .ok (.iconst 0, 1) := by decide +kernel
theorem dX12_read_43 : decode cX12_read 43 = .ok (.putfield 13, 3) := by decide +kernel
theorem dX12_read_46 : decode cX12_read 46 = .ok (.aload_n 0, 1) := by decide +kernel
theorem dX12_read_47 : decode cX12_read 47 = .ok (.iconst 0, 1) := by decide +kernel
theorem dX12_read_48 : decode cX12_read 48 = .ok (.putfield 23, 3) := by decide +kernel
theorem dX12_read_51 : decode cX12_read 51 = .ok (.aload_n 0, 1) := by decide +kernel
theorem dX12_read_52 : decode cX12_read 52 = .ok (.invokevirtual 588, 3) := by decide +kernel
theorem dX12_read_55 : decode cX12_read 55 = .ok (.aload_n 0, 1) := by decide +kernel
theorem dX12_read_56 : decode cX12_read 56 = .ok (.getfield 23, 3) := by decide +kernel
theorem dX12_read_59 : decode cX12_read 59 = .ok (.ifCond .le 20, 3) := by decide +kernel
theorem dX12_read_62 : decode cX12_read 62 = .ok (.aload_n 0, 1) := by decide +kernel
theorem dX12_read_63 : decode cX12_read 63 = .ok (.aload_n 0, 1) := by decide +kernel
theorem dX12_read_64 : decode cX12_read 64 = .ok (.getfield 23, 3) := by decide +kernel
theorem dX12_read_67 : decode cX12_read 67 = .ok (.putfield 20, 3) := by decide +kernel
theorem dX12_read_70 : decode cX12_read 70 = .ok (.sipush (-1000), 3) := by decide +kernel
theorem dX12_read_73 : decode cX12_read 73 = .ok (.aload_n 0, 1) := by decide +kernel
theorem dX12_read_74 : decode cX12_read 74 = .ok (.getfield 26, 3) := by decide +kernel
theorem dX12_read_77 : decode cX12_read 77 = .ok (.isub, 1) := by decide +kernel
theorem dX12_read_78 : decode cX12_read 78 = .ok (.ireturn, 1) := by decide +kernel
theorem dX12_read_79 : decode cX12_read 79 = .ok (.aload_n 0, 1) := by decide +kernel
theorem dX12_read_80 : decode cX12_read 80 = .ok (.invokevirtual 591, 3) := by decide +kernel
theorem dX12_read_83 : decode cX12_read 83 = .ok (.aload_n 0, 1) := by decide +kernel
theorem dX12_read_84 : decode cX12_read 84 = .ok (.getfield 576, 3) := by decide +kernel
theorem dX12_read_87 : decode cX12_read 87 = .ok (.ireturn, 1) := by decide +kernel
abbrev rm_X12_read : Room := { frames := 8, cells := 0, slots := 0, locals := 195 }
def wp_X12_read (a : Nat) (S : PS) (Q : Int32 → PS → Prop) : Prop :=
  (∀ S1, S1 = sI S 96 a 0 → (∀ P7_2 : Int32 → PS → Prop, (∀ (x1_3 : Int32) (S4 : PS),
 (if fI S4 98 a ≤ x1_3 then
 (∀ S5, S5 = sI S4 100 a (fI S4 98 a) → (∀ S6, S6 = sI S5 98 a 0 → (∀ S7, S7 = sI S6 102 a 0 → wp_X12_readText a S7 (fun (S8 : PS) => 
 (if fI S8 102 a ≤ 0 then
 wp_X12_tell a S8 (fun (S9 : PS) => 
 Q (fI S9 206 a) S9)
 else
 (∀ S10, S10 = sI S8 104 a (fI S8 102 a) → Q ((-1000) - (fI S10 103 a)) S10))))))
 else
 (∃ b11, fR S4 99 a = some b11 ∧ (∃ b12, fR S4 97 a = some b12 ∧ (vp_in x1_3 (aN S4 b12) ∧ (vp_in x1_3 (aN S4 b11) ∧ ∀ S13, S13 = wI S4 41 b11 (x1_3).toNatClampNeg (vp_nar .byte (aI S4 40 b12 (x1_3).toNatClampNeg)) → (∀ v14, v14 = x1_3 + 1 → P7_2 v14 S13))))))
 → P7_2 x1_3 S4) → P7_2 0 S1))
set_option maxRecDepth 100000 in
set_option maxHeartbeats 4000000 in
theorem c_X12_read {l : Launch} {E : EE} {A : Nat → Prop} {a : Nat} {S : PS} {Q : Int32 → PS → Prop} (r_a : Rf S a 9) (h : wp_X12_read a S Q) : MtI l yX12_read (.code yX12_read cX12_read 2 (some .int)) rm_X12_read E A [.ref a] S Q := by
  refine MtI.of (by decide) (Nat.le_of_ble_eq_true rfl) (fun X F hQ hN => ?_)
  show VV X (0, 0) S [(0, .ref a)] [] 0
  unfold wp_X12_read at h
  refine v_aload_n F dX12_read_0 0 rfl rfl ?_
  refine v_iconst (v := 0) F dX12_read_1 (by decide) ?_
  refine p_X12_1 F r_a h dX12_read_2 (fun S1 h hE => ?_)
  have r_a := r_a.tr hE
  refine v_iconst (v := 0) F dX12_read_5 (by decide) ?_
  refine v_istore_n (lv1 := [(1, .int 0), (0, .ref a)]) F dX12_read_6 rfl (by rw [hN]; decide) rfl ?_
  refine v_sub [1, 0] rfl ?_
  refine h (fun (x1_3 : Int32) (S4 : PS) => Rf S4 a 9 → VV X (0, 0) S4 [(0, .ref a), (1, .int x1_3)] [] 7) (fun x1_3 S4 h r_a => ?_) r_a
  refine v_iload_n F dX12_read_7 1 rfl rfl ?_
  refine v_aload_n F dX12_read_8 0 rfl rfl ?_
  refine g_X12_13 F r_a dX12_read_9 ?_
  refine v_icmp_ge (tgt := 33) F dX12_read_12 (by decide) h (fun h => ?_) (fun h => ?_)
  · refine v_aload_n F dX12_read_33 0 rfl rfl ?_
    refine v_aload_n F dX12_read_34 0 rfl rfl ?_
    refine g_X12_13 F r_a dX12_read_35 ?_
    refine p_X12_32 F r_a h dX12_read_38 (fun S5 h hE => ?_)
    have r_a := r_a.tr hE
    refine v_aload_n F dX12_read_41 0 rfl rfl ?_
    refine v_iconst (v := 0) F dX12_read_42 (by decide) ?_
    refine p_X12_13 F r_a h dX12_read_43 (fun S6 h hE => ?_)
    have r_a := r_a.tr hE
    refine v_aload_n F dX12_read_46 0 rfl rfl ?_
    refine v_iconst (v := 0) F dX12_read_47 (by decide) ?_
    refine p_X12_23 F r_a h dX12_read_48 (fun S7 h hE => ?_)
    have r_a := r_a.tr hE
    refine v_aload_n F dX12_read_51 0 rfl rfl ?_
    refine v_cV0 (v_runV F k_X12_588 rfl (c_X12_readText r_a h) r_a rfl rfl (Nat.le_of_ble_eq_true rfl) (by decide) (by decide) dX12_read_52) ⟨rfl, rfl⟩ (fun  S8 h hE => ?_)
    have r_a := r_a.tr hE
    refine v_aload_n F dX12_read_55 0 rfl rfl ?_
    refine g_X12_23 F r_a dX12_read_56 ?_
    refine v_if_le (tgt := 79) F dX12_read_59 (by decide) h (fun h => ?_) (fun h => ?_)
    · refine v_aload_n F dX12_read_79 0 rfl rfl ?_
      refine v_cV0 (v_runV F k_X12_591 rfl (c_X12_tell r_a h) r_a rfl rfl (Nat.le_of_ble_eq_true rfl) (by decide) (by decide) dX12_read_80) ⟨rfl, rfl⟩ (fun  S9 h hE => ?_)
      have r_a := r_a.tr hE
      refine v_aload_n F dX12_read_83 0 rfl rfl ?_
      refine g_X12_576 F r_a dX12_read_84 ?_
      exact v_iret F hQ h (by decide) dX12_read_87
    · refine v_aload_n F dX12_read_62 0 rfl rfl ?_
      refine v_aload_n F dX12_read_63 0 rfl rfl ?_
      refine g_X12_23 F r_a dX12_read_64 ?_
      refine p_X12_20 F r_a h dX12_read_67 (fun S10 h hE => ?_)
      have r_a := r_a.tr hE
      refine v_sipush (v := (-1000)) F dX12_read_70 (by decide) ?_
      refine v_aload_n F dX12_read_73 0 rfl rfl ?_
      refine g_X12_26 F r_a dX12_read_74 ?_
      refine v_isub F dX12_read_77 ?_
      exact v_iret F hQ h (by decide) dX12_read_78
  · refine v_aload_n F dX12_read_15 0 rfl rfl ?_
    refine g_X12_35 F r_a h dX12_read_16 (fun b11 r_b11 h => ?_)
    refine v_iload_n F dX12_read_19 1 rfl rfl ?_
    refine v_aload_n F dX12_read_20 0 rfl rfl ?_
    refine g_X12_16 F r_a h dX12_read_21 (fun b12 r_b12 h => ?_)
    refine v_iload_n F dX12_read_24 1 rfl rfl ?_
    refine v_bald F r_b12 o_40 h dX12_read_25 (fun h => ?_)
    refine v_bast F r_b11 o_41 h dX12_read_26 (fun S13 h hE => ?_)
    have r_a := r_a.tr hE
    obtain ⟨v14, e_v14⟩ : ∃ y : Int32, y = x1_3 + 1 := ⟨_, rfl⟩
    have h := h v14 e_v14
    refine v_iinc (v := v14) (lv1 := [(1, .int v14), (0, .ref a)]) F dX12_read_27 (q := 1) rfl (by rw [e_v14]; rfl) (by rw [hN]; decide) rfl ?_
    refine v_goto (tgt := 7) F dX12_read_30 (by decide) ?_
    exact v_sub [1, 0] rfl (h r_a)
theorem dX12_barsOf_0 : decode cX12_barsOf 0 = .ok (.iload_n 1, 1) := by decide +kernel
theorem dX12_barsOf_1 : decode cX12_barsOf 1 = .ok (.iconst 1, 1) := by decide +kernel
theorem dX12_barsOf_2 : decode cX12_barsOf 2 = .ok (.iadd, 1) := by decide +kernel
theorem dX12_barsOf_3 : decode cX12_barsOf 3 = .ok (.aload_n 0, 1) := by decide +kernel
theorem dX12_barsOf_4 : decode cX12_barsOf 4 = .ok (.getfield 561, 3) := by decide +kernel
theorem dX12_barsOf_7 : decode cX12_barsOf 7 = .ok (.if_icmp .ge 30, 3) := by decide +kernel
theorem dX12_barsOf_10 : decode cX12_barsOf 10 = .ok (.aload_n 0, 1) := by decide +kernel
theorem dX12_barsOf_11 : decode cX12_barsOf 11 = .ok (.getfield 549, 3) := by decide +kernel
theorem dX12_barsOf_14 : decode cX12_barsOf 14 = .ok (.iload_n 1, 1) := by decide +kernel
theorem dX12_barsOf_15 : decode cX12_barsOf 15 = .ok (.iconst 1, 1) := by decide +kernel
theorem dX12_barsOf_16 : decode cX12_barsOf 16 = .ok (.iadd, 1) := by decide +kernel
theorem dX12_barsOf_17 : decode cX12_barsOf 17 = .ok (.laload, 1) := by decide +kernel
theorem dX12_barsOf_18 : decode cX12_barsOf 18 = .ok (.aload_n 0, 1) := by decide +kernel
theorem dX12_barsOf_19 : decode cX12_barsOf 19 = .ok (.getfield 585, 3) := by decide +kernel
theorem dX12_barsOf_22 : decode cX12_barsOf 22 = .ok (.lcmp, 1) := by decide +kernel
theorem dX12_barsOf_23 : decode cX12_barsOf 23 = .ok (.ifCond .ge 14, 3) := by decide +kernel
theorem dX12_barsOf_26 : decode cX12_barsOf 26 = .ok (.aload_n 0, 1) := by decide +kernel
theorem dX12_barsOf_27 : decode cX12_barsOf 27 = .ok (.getfield 549, 3) := by decide +kernel
theorem dX12_barsOf_30 : decode cX12_barsOf 30 = .ok (.iload_n 1, 1) := by decide +kernel
theorem dX12_barsOf_31 : decode cX12_barsOf 31 = .ok (.iconst 1, 1) := by decide +kernel
theorem dX12_barsOf_32 : decode cX12_barsOf 32 = .ok (.iadd, 1) := by decide +kernel
theorem dX12_barsOf_33 : decode cX12_barsOf 33 = .ok (.laload, 1) := by decide +kernel
theorem dX12_barsOf_34 : decode cX12_barsOf 34 = .ok (.goto 7, 3) := by decide +kernel
theorem dX12_barsOf_37 : decode cX12_barsOf 37 = .ok (.aload_n 0, 1) := by decide +kernel
theorem dX12_barsOf_38 : decode cX12_barsOf 38 = .ok (.getfield 585, 3) := by decide +kernel
theorem dX12_barsOf_41 : decode cX12_barsOf 41 = .ok (.lstore_n 2, 1) := by decide +kernel
theorem dX12_barsOf_42 : decode cX12_barsOf 42 = .ok (.aload_n 0, 1) := by decide +kernel
theorem dX12_barsOf_43 : decode cX12_barsOf 43 = .ok (.getfield 552, 3) := by decide +kernel
theorem dX12_barsOf_46 : decode cX12_barsOf 46 = .ok (.iload_n 1, 1) := by decide +kernel
theorem dX12_barsOf_47 : decode cX12_barsOf 47 = .ok (.iaload, 1) := by decide +kernel
theorem dX12_barsOf_48 : decode cX12_barsOf 48 = .ok (.aload_n 0, 1) := by decide +kernel
theorem dX12_barsOf_49 : decode cX12_barsOf 49 = .ok (.getfield 555, 3) := by decide +kernel
theorem dX12_barsOf_52 : decode cX12_barsOf 52 = .ok (.iload_n 1, 1) := by decide +kernel
theorem dX12_barsOf_53 : decode cX12_barsOf 53 = .ok (.iaload, 1) := by decide +kernel
theorem dX12_barsOf_54 : decode cX12_barsOf 54 = .ok (.invokestatic 474, 3) := by decide +kernel
theorem dX12_barsOf_57 : decode cX12_barsOf 57 = .ok (.lstore 4, 2) := by decide +kernel
theorem dX12_barsOf_59 : decode cX12_barsOf 59 = .ok (.lload_n 2, 1) := by decide +kernel
theorem dX12_barsOf_60 : decode cX12_barsOf 60 = .ok (.aload_n 0, 1) := by decide +kernel
theorem dX12_barsOf_61 : decode cX12_barsOf 61 = .ok (.getfield 549, 3) := by decide +kernel
theorem dX12_barsOf_64 : decode cX12_barsOf 64 = .ok (.iload_n 1, 1) := by decide +kernel
theorem dX12_barsOf_65 : decode cX12_barsOf 65 = .ok (.laload, 1) := by decide +kernel
theorem dX12_barsOf_66 : decode cX12_barsOf 66 = .ok (.lcmp, 1) := by decide +kernel
theorem dX12_barsOf_67 : decode cX12_barsOf 67 = .ok (.ifCond .gt 7, 3) := by decide +kernel
theorem dX12_barsOf_70 : decode cX12_barsOf 70 = .ok (.lconst 0, 1) := by decide +kernel
theorem dX12_barsOf_71 : decode cX12_barsOf 71 = .ok (.goto 19, 3) := by decide +kernel
theorem dX12_barsOf_74 : decode cX12_barsOf 74 = .ok (.lload_n 2, 1) := by decide +kernel
theorem dX12_barsOf_75 : decode cX12_barsOf 75 = .ok (.aload_n 0, 1) := by decide +kernel
theorem dX12_barsOf_76 : decode cX12_barsOf 76 = .ok (.getfield 549, 3) := by decide +kernel
theorem dX12_barsOf_79 : decode cX12_barsOf 79 = .ok (.iload_n 1, 1) := by decide +kernel
theorem dX12_barsOf_80 : decode cX12_barsOf 80 = .ok (.laload, 1) := by decide +kernel
theorem dX12_barsOf_81 : decode cX12_barsOf 81 = .ok (.lsub, 1) := by decide +kernel
theorem dX12_barsOf_82 : decode cX12_barsOf 82 = .ok (.lload 4, 2) := by decide +kernel
theorem dX12_barsOf_84 : decode cX12_barsOf 84 = .ok (.ladd, 1) := by decide +kernel
theorem dX12_barsOf_85 : decode cX12_barsOf 85 = .ok (.lconst 1, 1) := by decide +kernel
theorem dX12_barsOf_86 : decode cX12_barsOf 86 = .ok (.lsub, 1) := by decide +kernel
theorem dX12_barsOf_87 : decode cX12_barsOf 87 = .ok (.lload 4, 2) := by decide +kernel
theorem dX12_barsOf_89 : decode cX12_barsOf 89 = .ok (.ldiv, 1) := by decide +kernel
theorem dX12_barsOf_90 : decode cX12_barsOf 90 = .ok (.lreturn, 1) := by decide +kernel
abbrev rm_X12_barsOf : Room := { frames := 1, cells := 0, slots := 0, locals := 21 }
def wp_X12_barsOf (a : Nat) (p1 : Int32) (S : PS) (Q : Int64 → PS → Prop) : Prop :=
  (∀ K41_3 : Int64 → PS → Prop, (∀ (t1 : Int64) (S2 : PS),
 (∃ b4, fR S2 204 a = some b4 ∧ (vp_in p1 (aN S2 b4) ∧ (∃ b5, fR S2 205 a = some b5 ∧ (vp_in p1 (aN S2 b5) ∧ wp_X12_barLong (aI S2 116 b4 (p1).toNatClampNeg) (aI S2 117 b5 (p1).toNatClampNeg) S2 (fun (r7 : Int64) (S6 : PS) => 
 (∃ b8, fR S6 203 a = some b8 ∧ (vp_in p1 (aN S6 b8) ∧ (if aL S6 115 b8 (p1).toNatClampNeg < t1 then
 (∃ b9, fR S6 203 a = some b9 ∧ (vp_in p1 (aN S6 b9) ∧ (¬ r7 = 0 ∧ Q ((((t1 - (aL S6 115 b9 (p1).toNatClampNeg)) + r7) - 1) / r7) S6)))
 else
 Q 0 S6))))))))
 → K41_3 t1 S2) →
 (∀ K37_11 : PS → Prop, (∀ (S10 : PS),
 K41_3 (fL S10 211 a) S10
 → K37_11 S10) →
 (if fI S 210 a ≤ p1 + 1 then
 K37_11 S
 else
 (∃ b12, fR S 203 a = some b12 ∧ (vp_in (p1 + 1) (aN S b12) ∧ (if fL S 211 a ≤ aL S 115 b12 (p1 + 1).toNatClampNeg then
 K37_11 S
 else
 (∃ b13, fR S 203 a = some b13 ∧ (vp_in (p1 + 1) (aN S b13) ∧ K41_3 (aL S 115 b13 (p1 + 1).toNatClampNeg) S))))))))
set_option maxRecDepth 100000 in
set_option maxHeartbeats 4000000 in
theorem c_X12_barsOf {l : Launch} {E : EE} {A : Nat → Prop} {a : Nat} {p1 : Int32} {S : PS} {Q : Int64 → PS → Prop} (r_a : Rf S a 9) (h : wp_X12_barsOf a p1 S Q) : MtL l yX12_barsOf (.code yX12_barsOf cX12_barsOf 6 (some .long)) rm_X12_barsOf E A [.ref a, .int p1] S Q := by
  refine MtL.of (by decide) (Nat.le_of_ble_eq_true rfl) (fun X F hQ hN => ?_)
  show VV X (0, 0) S [(0, .ref a), (1, .int p1)] [] 0
  unfold wp_X12_barsOf at h
  refine v_iload_n F dX12_barsOf_0 1 rfl rfl ?_
  refine v_iconst (v := 1) F dX12_barsOf_1 (by decide) ?_
  refine v_iadd F dX12_barsOf_2 ?_
  refine v_aload_n F dX12_barsOf_3 0 rfl rfl ?_
  refine g_X12_561 F r_a dX12_barsOf_4 ?_
  have h := h (fun (t1 : Int64) (S2 : PS) => Rf S2 a 9 → VV X (0, 0) S2 [(0, .ref a), (1, .int p1)] [.long t1] 41) (by
    intro t1 S2 h r_a
    refine v_lstore_n (lv1 := [(2, .long t1), (0, .ref a), (1, .int p1)]) F dX12_barsOf_41 rfl (by rw [hN]; decide) rfl ?_
    refine v_aload_n F dX12_barsOf_42 1 rfl rfl ?_
    refine g_X12_552 F r_a h dX12_barsOf_43 (fun b4 r_b4 h => ?_)
    refine v_iload_n F dX12_barsOf_46 2 rfl rfl ?_
    refine v_iald F r_b4 o_116 h dX12_barsOf_47 (fun h => ?_)
    refine v_aload_n F dX12_barsOf_48 1 rfl rfl ?_
    refine g_X12_555 F r_a h dX12_barsOf_49 (fun b5 r_b5 h => ?_)
    refine v_iload_n F dX12_barsOf_52 2 rfl rfl ?_
    refine v_iald F r_b5 o_117 h dX12_barsOf_53 (fun h => ?_)
    refine v_cL0 (v_runS F k_X12_474 (c_X12_barLong h) rfl rfl (Nat.le_of_ble_eq_true rfl) (by decide) (by decide) dX12_barsOf_54) ⟨rfl, rfl⟩ (fun r7 S6 h hE => ?_)
    have r_a := r_a.tr hE
    refine v_lstore (lv1 := [(4, .long r7), (2, .long t1), (0, .ref a), (1, .int p1)]) F dX12_barsOf_57 (by rw [hN]; decide) rfl ?_
    refine v_lload_n F dX12_barsOf_59 1 rfl rfl ?_
    refine v_aload_n F dX12_barsOf_60 2 rfl rfl ?_
    refine g_X12_549 F r_a h dX12_barsOf_61 (fun b8 r_b8 h => ?_)
    refine v_iload_n F dX12_barsOf_64 3 rfl rfl ?_
    refine v_lald F r_b8 o_115 h dX12_barsOf_65 (fun h => ?_)
    refine v_lcmp_gt (tgt := 74) F dX12_barsOf_66 dX12_barsOf_67 (by decide) h (fun h => ?_) (fun h => ?_)
    · refine v_lload_n F dX12_barsOf_74 1 rfl rfl ?_
      refine v_aload_n F dX12_barsOf_75 2 rfl rfl ?_
      refine g_X12_549 F r_a h dX12_barsOf_76 (fun b9 r_b9 h => ?_)
      refine v_iload_n F dX12_barsOf_79 3 rfl rfl ?_
      refine v_lald F r_b9 o_115 h dX12_barsOf_80 (fun h => ?_)
      refine v_lsub F dX12_barsOf_81 ?_
      refine v_lload F dX12_barsOf_82 0 rfl ?_
      refine v_ladd F dX12_barsOf_84 ?_
      refine v_lconst (v := 1) F dX12_barsOf_85 (by decide) ?_
      refine v_lsub F dX12_barsOf_86 ?_
      refine v_lload F dX12_barsOf_87 0 rfl ?_
      refine v_ldiv F dX12_barsOf_89 h.1 ?_
      have h := h.2
      exact v_lret F hQ h (by decide) dX12_barsOf_90
    · refine v_lconst (v := 0) F dX12_barsOf_70 (by decide) ?_
      refine v_goto (tgt := 90) F dX12_barsOf_71 (by decide) ?_
      exact v_lret F hQ h (by decide) dX12_barsOf_90)
  have h := h (fun (S10 : PS) => Rf S10 a 9 → VV X (0, 0) S10 [(0, .ref a), (1, .int p1)] [] 37) (by
    intro S10 h r_a
    refine v_aload_n F dX12_barsOf_37 0 rfl rfl ?_
    refine g_X12_585 F r_a dX12_barsOf_38 ?_
    exact v_sub [0, 1] rfl (h r_a))
  refine v_icmp_ge (tgt := 37) F dX12_barsOf_7 (by decide) h (fun h => ?_) (fun h => ?_)
  · exact v_sub [0, 1] rfl (h r_a)
  · refine v_aload_n F dX12_barsOf_10 0 rfl rfl ?_
    refine g_X12_549 F r_a h dX12_barsOf_11 (fun b12 r_b12 h => ?_)
    refine v_iload_n F dX12_barsOf_14 1 rfl rfl ?_
    refine v_iconst (v := 1) F dX12_barsOf_15 (by decide) ?_
    refine v_iadd F dX12_barsOf_16 ?_
    refine v_lald F r_b12 o_115 h dX12_barsOf_17 (fun h => ?_)
    refine v_aload_n F dX12_barsOf_18 0 rfl rfl ?_
    refine g_X12_585 F r_a dX12_barsOf_19 ?_
    refine v_lcmp_ge (tgt := 37) F dX12_barsOf_22 dX12_barsOf_23 (by decide) h (fun h => ?_) (fun h => ?_)
    · exact v_sub [0, 1] rfl (h r_a)
    · refine v_aload_n F dX12_barsOf_26 0 rfl rfl ?_
      refine g_X12_549 F r_a h dX12_barsOf_27 (fun b13 r_b13 h => ?_)
      refine v_iload_n F dX12_barsOf_30 1 rfl rfl ?_
      refine v_iconst (v := 1) F dX12_barsOf_31 (by decide) ?_
      refine v_iadd F dX12_barsOf_32 ?_
      refine v_lald F r_b13 o_115 h dX12_barsOf_33 (fun h => ?_)
      refine v_goto (tgt := 41) F dX12_barsOf_34 (by decide) ?_
      exact v_sub [0, 1] rfl (h r_a)
theorem dX12_count_0 : decode cX12_count 0 = .ok (.aload_n 0, 1) := by decide +kernel
theorem dX12_count_1 : decode cX12_count 1 = .ok (.iload_n 1, 1) := by decide +kernel
theorem dX12_count_2 : decode cX12_count 2 = .ok (.i2l, 1) := by decide +kernel
theorem dX12_count_3 : decode cX12_count 3 = .ok (.lconst 0, 1) := by decide +kernel
theorem dX12_count_4 : decode cX12_count 4 = .ok (.ldc2_w 594, 3) := by decide +kernel
theorem dX12_count_7 : decode cX12_count 7 = .ok (.invokestatic 9, 3) := by decide +kernel
theorem dX12_count_10 : decode cX12_count 10 = .ok (.ifCond .eq 7, 3) := by decide +kernel
theorem dX12_count_13 : decode cX12_count 13 = .ok (.iconst 0, 1) := by decide +kernel
theorem dX12_count_14 : decode cX12_count 14 = .ok (.goto 4, 3) := by decide +kernel
theorem dX12_count_17 : decode cX12_count 17 = .ok (.iconst 1, 1) := by decide +kernel
theorem dX12_count_18 : decode cX12_count 18 = .ok (.putfield 1, 3) := by decide +kernel
theorem dX12_count_21 : decode cX12_count 21 = .ok (.aload_n 0, 1) := by decide +kernel
theorem dX12_count_22 : decode cX12_count 22 = .ok (.getfield 1, 3) := by decide +kernel
theorem dX12_count_25 : decode cX12_count 25 = .ok (.ifCond .le 5, 3) := by decide +kernel
theorem dX12_count_28 : decode cX12_count 28 = .ok (.iconst 0, 1) := by decide +kernel
theorem dX12_count_29 : decode cX12_count 29 = .ok (.ireturn, 1) := by decide +kernel
theorem dX12_count_30 : decode cX12_count 30 = .ok (.iload_n 1, 1) := by decide +kernel
theorem dX12_count_31 : decode cX12_count 31 = .ok (.iconst 2, 1) := by decide +kernel
theorem dX12_count_32 : decode cX12_count 32 = .ok (.if_icmp .ne 40, 3) := by decide +kernel
theorem dX12_count_35 : decode cX12_count 35 = .ok (.iconst 0, 1) := by decide +kernel
theorem dX12_count_36 : decode cX12_count 36 = .ok (.istore_n 2, 1) := by decide +kernel
theorem dX12_count_37 : decode cX12_count 37 = .ok (.iconst 0, 1) := by decide +kernel
theorem dX12_count_38 : decode cX12_count 38 = .ok (.istore_n 3, 1) := by decide +kernel
theorem dX12_count_39 : decode cX12_count 39 = .ok (.iload_n 3, 1) := by decide +kernel
theorem dX12_count_40 : decode cX12_count 40 = .ok (.aload_n 0, 1) := by decide +kernel
theorem dX12_count_41 : decode cX12_count 41 = .ok (.getfield 576, 3) := by decide +kernel
theorem dX12_count_44 : decode cX12_count 44 = .ok (.if_icmp .ge 26, 3) := by decide +kernel
theorem dX12_count_47 : decode cX12_count 47 = .ok (.iload_n 2, 1) := by decide +kernel
theorem dX12_count_48 : decode cX12_count 48 = .ok (.aload_n 0, 1) := by decide +kernel
theorem dX12_count_49 : decode cX12_count 49 = .ok (.getfield 513, 3) := by decide +kernel
theorem dX12_count_52 : decode cX12_count 52 = .ok (.iload_n 3, 1) := by decide +kernel
theorem dX12_count_53 : decode cX12_count 53 = .ok (.iaload, 1) := by decide +kernel
theorem dX12_count_54 : decode cX12_count 54 = .ok (.ifCond .ne 7, 3) := by decide +kernel
theorem dX12_count_57 : decode cX12_count 57 = .ok (.iconst 1, 1) := by decide +kernel
theorem dX12_count_58 : decode cX12_count 58 = .ok (.goto 4, 3) := by decide +kernel
theorem dX12_count_61 : decode cX12_count 61 = .ok (.iconst 0, 1) := by decide +kernel
theorem dX12_count_62 : decode cX12_count 62 = .ok (.iadd, 1) := by decide +kernel
theorem dX12_count_63 : decode cX12_count 63 = .ok (.istore_n 2, 1) := by decide +kernel
theorem dX12_count_64 : decode cX12_count 64 = .ok (.iinc 3 1, 3) := by decide +kernel
theorem dX12_count_67 : decode cX12_count 67 = .ok (.goto (-28), 3) := by decide +kernel
theorem dX12_count_70 : decode cX12_count 70 = .ok (.iload_n 2, 1) := by decide +kernel
theorem dX12_count_71 : decode cX12_count 71 = .ok (.ireturn, 1) := by decide +kernel
theorem dX12_count_72 : decode cX12_count 72 = .ok (.iload_n 1, 1) := by decide +kernel
theorem dX12_count_73 : decode cX12_count 73 = .ok (.bipush 6, 2) := by decide +kernel
theorem dX12_count_75 : decode cX12_count 75 = .ok (.if_icmp .ne 35, 3) := by decide +kernel
theorem dX12_count_78 : decode cX12_count 78 = .ok (.lconst 0, 1) := by decide +kernel
theorem dX12_count_79 : decode cX12_count 79 = .ok (.lstore_n 2, 1) := by decide +kernel
theorem dX12_count_80 : decode cX12_count 80 = .ok (.iconst 0, 1) := by decide +kernel
theorem dX12_count_81 : decode cX12_count 81 = .ok (.istore 4, 2) := by decide +kernel
theorem dX12_count_83 : decode cX12_count 83 = .ok (.iload 4, 2) := by decide +kernel
theorem dX12_count_85 : decode cX12_count 85 = .ok (.aload_n 0, 1) := by decide +kernel
theorem dX12_count_86 : decode cX12_count 86 = .ok (.getfield 561, 3) := by decide +kernel
theorem dX12_count_89 : decode cX12_count 89 = .ok (.if_icmp .ge 18, 3) := by decide +kernel
theorem dX12_count_92 : decode cX12_count 92 = .ok (.lload_n 2, 1) := by decide +kernel
theorem dX12_count_93 : decode cX12_count 93 = .ok (.aload_n 0, 1) := by decide +kernel
theorem dX12_count_94 : decode cX12_count 94 = .ok (.iload 4, 2) := by decide +kernel
theorem dX12_count_96 : decode cX12_count 96 = .ok (.invokevirtual 596, 3) := by decide +kernel
theorem dX12_count_99 : decode cX12_count 99 = .ok (.ladd, 1) := by decide +kernel
theorem dX12_count_100 : decode cX12_count 100 = .ok (.lstore_n 2, 1) := by decide +kernel
theorem dX12_count_101 : decode cX12_count 101 = .ok (.iinc 4 1, 3) := by decide +kernel
theorem dX12_count_104 : decode cX12_count 104 = .ok (.goto (-21), 3) := by decide +kernel
theorem dX12_count_107 : decode cX12_count 107 = .ok (.lload_n 2, 1) := by decide +kernel
theorem dX12_count_108 : decode cX12_count 108 = .ok (.l2i, 1) := by decide +kernel
theorem dX12_count_109 : decode cX12_count 109 = .ok (.ireturn, 1) := by decide +kernel
theorem dX12_count_110 : decode cX12_count 110 = .ok (.iload_n 1, 1) := by decide +kernel
theorem dX12_count_111 : decode cX12_count 111 = .ok (.ifCond .ne 10, 3) := by decide +kernel
theorem dX12_count_114 : decode cX12_count 114 = .ok (.aload_n 0, 1) := by decide +kernel
theorem dX12_count_115 : decode cX12_count 115 = .ok (.getfield 576, 3) := by decide +kernel
theorem dX12_count_118 : decode cX12_count 118 = .ok (.goto 43, 3) := by decide +kernel
theorem dX12_count_121 : decode cX12_count 121 = .ok (.iload_n 1, 1) := by decide +kernel
theorem dX12_count_122 : decode cX12_count 122 = .ok (.iconst 1, 1) := by decide +kernel
theorem dX12_count_123 : decode cX12_count 123 = .ok (.if_icmp .ne 10, 3) := by decide +kernel
theorem dX12_count_126 : decode cX12_count 126 = .ok (.aload_n 0, 1) := by decide +kernel
theorem dX12_count_127 : decode cX12_count 127 = .ok (.getfield 558, 3) := by decide +kernel
theorem dX12_count_130 : decode cX12_count 130 = .ok (.goto 31, 3) := by decide +kernel
theorem dX12_count_133 : decode cX12_count 133 = .ok (.iload_n 1, 1) := by decide +kernel
theorem dX12_count_134 : decode cX12_count 134 = .ok (.iconst 3, 1) := by decide +kernel
theorem dX12_count_135 : decode cX12_count 135 = .ok (.if_icmp .ne 10, 3) := by decide +kernel
theorem dX12_count_138 : decode cX12_count 138 = .ok (.aload_n 0, 1) := by decide +kernel
theorem dX12_count_139 : decode cX12_count 139 = .ok (.getfield 579, 3) := by decide +kernel
theorem dX12_count_142 : decode cX12_count 142 = .ok (.goto 19, 3) := by decide +kernel
theorem dX12_count_145 : decode cX12_count 145 = .ok (.iload_n 1, 1) := by decide +kernel
theorem dX12_count_146 : decode cX12_count 146 = .ok (.iconst 4, 1) := by decide +kernel
theorem dX12_count_147 : decode cX12_count 147 = .ok (.if_icmp .ne 10, 3) := by decide +kernel
theorem dX12_count_150 : decode cX12_count 150 = .ok (.aload_n 0, 1) := by decide +kernel
theorem dX12_count_151 : decode cX12_count 151 = .ok (.getfield 582, 3) := by decide +kernel
theorem dX12_count_154 : decode cX12_count 154 = .ok (.goto 7, 3) := by decide +kernel
theorem dX12_count_157 : decode cX12_count 157 = .ok (.aload_n 0, 1) := by decide +kernel
theorem dX12_count_158 : decode cX12_count 158 = .ok (.getfield 561, 3) := by decide +kernel
theorem dX12_count_161 : decode cX12_count 161 = .ok (.ireturn, 1) := by decide +kernel
abbrev rm_X12_count : Room := { frames := 2, cells := 0, slots := 0, locals := 46 }
def wp_X12_count (a : Nat) (p1 : Int32) (S : PS) (Q : Int32 → PS → Prop) : Prop :=
  wp_X12_in (p1.toInt64) 0 6 S (fun (r2 : Int32) (S1 : PS) => 
 (∀ K18_6 : Nat → Int32 → PS → Prop, (∀ (t3 : Nat) (t4 : Int32) (S5 : PS),
 (∀ S7, S7 = sI S5 96 t3 t4 → (if fI S7 96 a ≤ 0 then
 (if p1 = 2 then
 (∀ P39_16 : Int32 → Int32 → PS → Prop, (∀ (x2_17 : Int32) (x3_18 : Int32) (S19 : PS),
 (if fI S19 206 a ≤ x3_18 then
 Q x2_17 S19
 else
 (∃ b20, fR S19 191 a = some b20 ∧ (vp_in x3_18 (aN S19 b20) ∧ (∀ K62_24 : Int32 → Int32 → PS → Prop, (∀ (t21 : Int32) (t22 : Int32) (S23 : PS),
 (∀ v25, v25 = t21 + t22 → (∀ v26, v26 = x3_18 + 1 → P39_16 v25 v26 S23))
 → K62_24 t21 t22 S23) →
 (if aI S19 103 b20 (x3_18).toNatClampNeg = 0 then
 K62_24 x2_17 1 S19
 else
 K62_24 x2_17 0 S19)))))
 → P39_16 x2_17 x3_18 S19) → P39_16 0 0 S7)
 else
 (if p1 = 6 then
 (∀ P83_8 : Int64 → Int32 → PS → Prop, (∀ (x2_9 : Int64) (x4_10 : Int32) (S11 : PS),
 (if fI S11 210 a ≤ x4_10 then
 Q (x2_9.toInt32) S11
 else
 wp_X12_barsOf a x4_10 S11 (fun (r13 : Int64) (S12 : PS) => 
 (∀ v14, v14 = x2_9 + r13 → (∀ v15, v15 = x4_10 + 1 → P83_8 v14 v15 S12))))
 → P83_8 x2_9 x4_10 S11) → P83_8 0 0 S7)
 else
 (if p1 = 0 then
 Q (fI S7 206 a) S7
 else
 (if p1 = 1 then
 Q (fI S7 207 a) S7
 else
 (if p1 = 3 then
 Q (fI S7 208 a) S7
 else
 (if p1 = 4 then
 Q (fI S7 209 a) S7
 else
 Q (fI S7 210 a) S7))))))
 else
 Q 0 S7))
 → K18_6 t3 t4 S5) →
 (if r2 = 0 then
 K18_6 a 1 S1
 else
 K18_6 a 0 S1)))
set_option maxRecDepth 100000 in
set_option maxHeartbeats 4000000 in
theorem c_X12_count {l : Launch} {E : EE} {A : Nat → Prop} {a : Nat} {p1 : Int32} {S : PS} {Q : Int32 → PS → Prop} (r_a : Rf S a 9) (h : wp_X12_count a p1 S Q) : MtI l yX12_count (.code yX12_count cX12_count 5 (some .int)) rm_X12_count E A [.ref a, .int p1] S Q := by
  refine MtI.of (by decide) (Nat.le_of_ble_eq_true rfl) (fun X F hQ hN => ?_)
  show VV X (0, 0) S [(0, .ref a), (1, .int p1)] [] 0
  unfold wp_X12_count at h
  refine v_aload_n F dX12_count_0 0 rfl rfl ?_
  refine v_iload_n F dX12_count_1 1 rfl rfl ?_
  refine v_i2l F dX12_count_2 ?_
  refine v_lconst (v := 0) F dX12_count_3 (by decide) ?_
  refine v_ldc2 F kc_X12_594 dX12_count_4 ?_
  refine v_cI0 (v_runS F k_X12_9 (c_X12_in h) rfl rfl (Nat.le_of_ble_eq_true rfl) (by decide) (by decide) dX12_count_7) ⟨rfl, rfl⟩ (fun r2 S1 h hE => ?_)
  obtain ⟨nz_r2, h⟩ := h
  have r_a := r_a.tr hE
  have h := h (fun (t3 : Nat) (t4 : Int32) (S5 : PS) => Rf S5 a 9 → Rf S5 t3 9 → VV X (0, 0) S5 [(0, .ref a), (1, .int p1)] [.int t4, .ref t3] 18) (by
    intro t3 t4 S5 h r_a r_t3
    refine p_X12_1 F r_t3 h dX12_count_18 (fun S7 h hE => ?_)
    have r_a := r_a.tr hE
    refine v_aload_n F dX12_count_21 0 rfl rfl ?_
    refine g_X12_1 F r_a dX12_count_22 ?_
    refine v_if_le (tgt := 30) F dX12_count_25 (by decide) h (fun h => ?_) (fun h => ?_)
    · refine v_iload_n F dX12_count_30 1 rfl rfl ?_
      refine v_iconst (v := 2) F dX12_count_31 (by decide) ?_
      refine v_icmp_ne (tgt := 72) F dX12_count_32 (by decide) h (fun h => ?_) (fun h => ?_)
      · refine v_iload_n F dX12_count_72 1 rfl rfl ?_
        refine v_bipush (v := 6) F dX12_count_73 (by decide) ?_
        refine v_icmp_ne (tgt := 110) F dX12_count_75 (by decide) h (fun h => ?_) (fun h => ?_)
        · refine v_iload_n F dX12_count_110 1 rfl rfl ?_
          refine v_if_ne (tgt := 121) F dX12_count_111 (by decide) h (fun h => ?_) (fun h => ?_)
          · refine v_iload_n F dX12_count_121 1 rfl rfl ?_
            refine v_iconst (v := 1) F dX12_count_122 (by decide) ?_
            refine v_icmp_ne (tgt := 133) F dX12_count_123 (by decide) h (fun h => ?_) (fun h => ?_)
            · refine v_iload_n F dX12_count_133 1 rfl rfl ?_
              refine v_iconst (v := 3) F dX12_count_134 (by decide) ?_
              refine v_icmp_ne (tgt := 145) F dX12_count_135 (by decide) h (fun h => ?_) (fun h => ?_)
              · refine v_iload_n F dX12_count_145 1 rfl rfl ?_
                refine v_iconst (v := 4) F dX12_count_146 (by decide) ?_
                refine v_icmp_ne (tgt := 157) F dX12_count_147 (by decide) h (fun h => ?_) (fun h => ?_)
                · refine v_aload_n F dX12_count_157 0 rfl rfl ?_
                  refine g_X12_561 F r_a dX12_count_158 ?_
                  exact v_iret F hQ h (by decide) dX12_count_161
                · refine v_aload_n F dX12_count_150 0 rfl rfl ?_
                  refine g_X12_582 F r_a dX12_count_151 ?_
                  refine v_goto (tgt := 161) F dX12_count_154 (by decide) ?_
                  exact v_iret F hQ h (by decide) dX12_count_161
              · refine v_aload_n F dX12_count_138 0 rfl rfl ?_
                refine g_X12_579 F r_a dX12_count_139 ?_
                refine v_goto (tgt := 161) F dX12_count_142 (by decide) ?_
                exact v_iret F hQ h (by decide) dX12_count_161
            · refine v_aload_n F dX12_count_126 0 rfl rfl ?_
              refine g_X12_558 F r_a dX12_count_127 ?_
              refine v_goto (tgt := 161) F dX12_count_130 (by decide) ?_
              exact v_iret F hQ h (by decide) dX12_count_161
          · refine v_aload_n F dX12_count_114 0 rfl rfl ?_
            refine g_X12_576 F r_a dX12_count_115 ?_
            refine v_goto (tgt := 161) F dX12_count_118 (by decide) ?_
            exact v_iret F hQ h (by decide) dX12_count_161
        · refine v_lconst (v := 0) F dX12_count_78 (by decide) ?_
          refine v_lstore_n (lv1 := [(2, .long 0), (0, .ref a), (1, .int p1)]) F dX12_count_79 rfl (by rw [hN]; decide) rfl ?_
          refine v_iconst (v := 0) F dX12_count_80 (by decide) ?_
          refine v_istore (lv1 := [(4, .int 0), (2, .long 0), (0, .ref a), (1, .int p1)]) F dX12_count_81 (by rw [hN]; decide) rfl ?_
          refine v_sub [2, 1, 0] rfl ?_
          refine h (fun (x2_9 : Int64) (x4_10 : Int32) (S11 : PS) => Rf S11 a 9 → VV X (0, 0) S11 [(0, .ref a), (2, .long x2_9), (4, .int x4_10)] [] 83) (fun x2_9 x4_10 S11 h r_a => ?_) r_a
          refine v_iload F dX12_count_83 2 rfl ?_
          refine v_aload_n F dX12_count_85 0 rfl rfl ?_
          refine g_X12_561 F r_a dX12_count_86 ?_
          refine v_icmp_ge (tgt := 107) F dX12_count_89 (by decide) h (fun h => ?_) (fun h => ?_)
          · refine v_lload_n F dX12_count_107 1 rfl rfl ?_
            refine v_l2i F dX12_count_108 ?_
            exact v_iret F hQ h (by decide) dX12_count_109
          · refine v_lload_n F dX12_count_92 1 rfl rfl ?_
            refine v_aload_n F dX12_count_93 0 rfl rfl ?_
            refine v_iload F dX12_count_94 2 rfl ?_
            refine v_cL0 (v_runV F k_X12_596 rfl (c_X12_barsOf r_a h) r_a rfl rfl (Nat.le_of_ble_eq_true rfl) (by decide) (by decide) dX12_count_96) ⟨rfl, rfl⟩ (fun r13 S12 h hE => ?_)
            have r_a := r_a.tr hE
            refine v_ladd F dX12_count_99 ?_
            refine v_topl (fun v14 e_v14 => ?_)
            have h := h v14 e_v14
            refine v_lstore_n (lv1 := [(2, .long v14), (0, .ref a), (4, .int x4_10)]) F dX12_count_100 rfl (by rw [hN]; decide) rfl ?_
            obtain ⟨v15, e_v15⟩ : ∃ y : Int32, y = x4_10 + 1 := ⟨_, rfl⟩
            have h := h v15 e_v15
            refine v_iinc (v := v15) (lv1 := [(4, .int v15), (2, .long v14), (0, .ref a)]) F dX12_count_101 (q := 2) rfl (by rw [e_v15]; rfl) (by rw [hN]; decide) rfl ?_
            refine v_goto (tgt := 83) F dX12_count_104 (by decide) ?_
            exact v_sub [2, 1, 0] rfl (h r_a)
      · refine v_iconst (v := 0) F dX12_count_35 (by decide) ?_
        refine v_istore_n (lv1 := [(2, .int 0), (0, .ref a), (1, .int p1)]) F dX12_count_36 rfl (by rw [hN]; decide) rfl ?_
        refine v_iconst (v := 0) F dX12_count_37 (by decide) ?_
        refine v_istore_n (lv1 := [(3, .int 0), (2, .int 0), (0, .ref a), (1, .int p1)]) F dX12_count_38 rfl (by rw [hN]; decide) rfl ?_
        refine v_sub [2, 1, 0] rfl ?_
        refine h (fun (x2_17 : Int32) (x3_18 : Int32) (S19 : PS) => Rf S19 a 9 → VV X (0, 0) S19 [(0, .ref a), (2, .int x2_17), (3, .int x3_18)] [] 39) (fun x2_17 x3_18 S19 h r_a => ?_) r_a
        refine v_iload_n F dX12_count_39 2 rfl rfl ?_
        refine v_aload_n F dX12_count_40 0 rfl rfl ?_
        refine g_X12_576 F r_a dX12_count_41 ?_
        refine v_icmp_ge (tgt := 70) F dX12_count_44 (by decide) h (fun h => ?_) (fun h => ?_)
        · refine v_iload_n F dX12_count_70 1 rfl rfl ?_
          exact v_iret F hQ h (by decide) dX12_count_71
        · refine v_iload_n F dX12_count_47 1 rfl rfl ?_
          refine v_aload_n F dX12_count_48 0 rfl rfl ?_
          refine g_X12_513 F r_a h dX12_count_49 (fun b20 r_b20 h => ?_)
          refine v_iload_n F dX12_count_52 2 rfl rfl ?_
          refine v_iald F r_b20 o_103 h dX12_count_53 (fun h => ?_)
          have h := h (fun (t21 : Int32) (t22 : Int32) (S23 : PS) => Rf S23 a 9 → VV X (0, 0) S23 [(0, .ref a), (3, .int x3_18)] [.int t22, .int t21] 62) (by
            intro t21 t22 S23 h r_a
            refine v_iadd F dX12_count_62 ?_
            refine v_topi (fun v25 e_v25 => ?_)
            have h := h v25 e_v25
            refine v_istore_n (lv1 := [(2, .int v25), (0, .ref a), (3, .int x3_18)]) F dX12_count_63 rfl (by rw [hN]; decide) rfl ?_
            obtain ⟨v26, e_v26⟩ : ∃ y : Int32, y = x3_18 + 1 := ⟨_, rfl⟩
            have h := h v26 e_v26
            refine v_iinc (v := v26) (lv1 := [(3, .int v26), (2, .int v25), (0, .ref a)]) F dX12_count_64 (q := 2) rfl (by rw [e_v26]; rfl) (by rw [hN]; decide) rfl ?_
            refine v_goto (tgt := 39) F dX12_count_67 (by decide) ?_
            exact v_sub [2, 1, 0] rfl (h r_a))
          refine v_if_ne (tgt := 61) F dX12_count_54 (by decide) h (fun h => ?_) (fun h => ?_)
          · refine v_iconst (v := 0) F dX12_count_61 (by decide) ?_
            exact v_sub [0, 2] rfl (h r_a)
          · refine v_iconst (v := 1) F dX12_count_57 (by decide) ?_
            refine v_goto (tgt := 62) F dX12_count_58 (by decide) ?_
            exact v_sub [0, 2] rfl (h r_a)
    · refine v_iconst (v := 0) F dX12_count_28 (by decide) ?_
      exact v_iret F hQ h (by decide) dX12_count_29)
  refine v_if_eq (tgt := 17) F dX12_count_10 (by decide) h (fun h => ?_) (fun h => ?_)
  · refine v_iconst (v := 1) F dX12_count_17 (by decide) ?_
    exact v_sub [0, 1] rfl (h r_a r_a)
  · refine v_iconst (v := 0) F dX12_count_13 (by decide) ?_
    refine v_goto (tgt := 18) F dX12_count_14 (by decide) ?_
    exact v_sub [0, 1] rfl (h r_a r_a)
theorem dX12_isEvent_0 : decode cX12_isEvent 0 = .ok (.iload_n 1, 1) := by decide +kernel
theorem dX12_isEvent_1 : decode cX12_isEvent 1 = .ok (.i2l, 1) := by decide +kernel
theorem dX12_isEvent_2 : decode cX12_isEvent 2 = .ok (.lconst 0, 1) := by decide +kernel
theorem dX12_isEvent_3 : decode cX12_isEvent 3 = .ok (.aload_n 0, 1) := by decide +kernel
theorem dX12_isEvent_4 : decode cX12_isEvent 4 = .ok (.getfield 576, 3) := by decide +kernel
theorem dX12_isEvent_7 : decode cX12_isEvent 7 = .ok (.iconst 1, 1) := by decide +kernel
theorem dX12_isEvent_8 : decode cX12_isEvent 8 = .ok (.isub, 1) := by decide +kernel
theorem dX12_isEvent_9 : decode cX12_isEvent 9 = .ok (.i2l, 1) := by decide +kernel
theorem dX12_isEvent_10 : decode cX12_isEvent 10 = .ok (.invokestatic 9, 3) := by decide +kernel
theorem dX12_isEvent_13 : decode cX12_isEvent 13 = .ok (.ireturn, 1) := by decide +kernel
abbrev rm_X12_isEvent : Room := { frames := 1, cells := 0, slots := 0, locals := 25 }
def wp_X12_isEvent (a : Nat) (p1 : Int32) (S : PS) (Q : Int32 → PS → Prop) : Prop :=
  wp_X12_in (p1.toInt64) 0 (((fI S 206 a) - 1).toInt64) S (fun (r2 : Int32) (S1 : PS) => 
 Q r2 S1)
set_option maxRecDepth 100000 in
set_option maxHeartbeats 4000000 in
theorem c_X12_isEvent {l : Launch} {E : EE} {A : Nat → Prop} {a : Nat} {p1 : Int32} {S : PS} {Q : Int32 → PS → Prop} (r_a : Rf S a 9) (h : wp_X12_isEvent a p1 S Q) : MtI l yX12_isEvent (.code yX12_isEvent cX12_isEvent 2 (some .boolean)) rm_X12_isEvent E A [.ref a, .int p1] S (fun r S1 => nz r ∧ Q r S1) := by
  refine MtI.of (by decide) (Nat.le_of_ble_eq_true rfl) (fun X F hQ hN => ?_)
  show VV X (0, 0) S [(0, .ref a), (1, .int p1)] [] 0
  unfold wp_X12_isEvent at h
  refine v_iload_n F dX12_isEvent_0 1 rfl rfl ?_
  refine v_i2l F dX12_isEvent_1 ?_
  refine v_lconst (v := 0) F dX12_isEvent_2 (by decide) ?_
  refine v_aload_n F dX12_isEvent_3 0 rfl rfl ?_
  refine g_X12_576 F r_a dX12_isEvent_4 ?_
  refine v_iconst (v := 1) F dX12_isEvent_7 (by decide) ?_
  refine v_isub F dX12_isEvent_8 ?_
  refine v_i2l F dX12_isEvent_9 ?_
  refine v_cI0 (v_runS F k_X12_9 (c_X12_in h) rfl rfl (Nat.le_of_ble_eq_true rfl) (by decide) (by decide) dX12_isEvent_10) ⟨rfl, rfl⟩ (fun r2 S1 h hE => ?_)
  obtain ⟨nz_r2, h⟩ := h
  have r_a := r_a.tr hE
  exact v_zret F hQ nz_r2 ⟨nz_r2, h⟩ (by decide) dX12_isEvent_13
theorem dX12_behind_0 : decode cX12_behind 0 = .ok (.iload_n 1, 1) := by decide +kernel
theorem dX12_behind_1 : decode cX12_behind 1 = .ok (.iconst 1, 1) := by decide +kernel
theorem dX12_behind_2 : decode cX12_behind 2 = .ok (.iadd, 1) := by decide +kernel
theorem dX12_behind_3 : decode cX12_behind 3 = .ok (.istore_n 2, 1) := by decide +kernel
theorem dX12_behind_4 : decode cX12_behind 4 = .ok (.aload_n 0, 1) := by decide +kernel
theorem dX12_behind_5 : decode cX12_behind 5 = .ok (.getfield 516, 3) := by decide +kernel
theorem dX12_behind_8 : decode cX12_behind 8 = .ok (.iload_n 1, 1) := by decide +kernel
theorem dX12_behind_9 : decode cX12_behind 9 = .ok (.baload, 1) := by decide +kernel
theorem dX12_behind_10 : decode cX12_behind 10 = .ok (.ifCond .eq 32, 3) := by decide +kernel
theorem dX12_behind_13 : decode cX12_behind 13 = .ok (.iload_n 2, 1) := by decide +kernel
theorem dX12_behind_14 : decode cX12_behind 14 = .ok (.aload_n 0, 1) := by decide +kernel
theorem dX12_behind_15 : decode cX12_behind 15 = .ok (.getfield 576, 3) := by decide +kernel
theorem dX12_behind_18 : decode cX12_behind 18 = .ok (.if_icmp .ge 24, 3) := by decide +kernel
theorem dX12_behind_21 : decode cX12_behind 21 = .ok (.aload_n 0, 1) := by decide +kernel
theorem dX12_behind_22 : decode cX12_behind 22 = .ok (.getfield 510, 3) := by decide +kernel
theorem dX12_behind_25 : decode cX12_behind 25 = .ok (.iload_n 2, 1) := by decide +kernel
theorem dX12_behind_26 : decode cX12_behind 26 = .ok (.iaload, 1) := by decide +kernel
theorem dX12_behind_27 : decode cX12_behind 27 = .ok (.aload_n 0, 1) := by decide +kernel
theorem dX12_behind_28 : decode cX12_behind 28 = .ok (.getfield 510, 3) := by decide +kernel
theorem dX12_behind_31 : decode cX12_behind 31 = .ok (.iload_n 1, 1) := by decide +kernel
theorem dX12_behind_32 : decode cX12_behind 32 = .ok (.iaload, 1) := by decide +kernel
theorem dX12_behind_33 : decode cX12_behind 33 = .ok (.if_icmp .eq 9, 3) := by decide +kernel
theorem dX12_behind_36 : decode cX12_behind 36 = .ok (.iinc 2 1, 3) := by decide +kernel
theorem dX12_behind_39 : decode cX12_behind 39 = .ok (.goto (-35), 3) := by decide +kernel
theorem dX12_behind_42 : decode cX12_behind 42 = .ok (.aload_n 0, 1) := by decide +kernel
theorem dX12_behind_43 : decode cX12_behind 43 = .ok (.getfield 516, 3) := by decide +kernel
theorem dX12_behind_46 : decode cX12_behind 46 = .ok (.iload_n 1, 1) := by decide +kernel
theorem dX12_behind_47 : decode cX12_behind 47 = .ok (.baload, 1) := by decide +kernel
theorem dX12_behind_48 : decode cX12_behind 48 = .ok (.ifCond .eq 7, 3) := by decide +kernel
theorem dX12_behind_51 : decode cX12_behind 51 = .ok (.iload_n 2, 1) := by decide +kernel
theorem dX12_behind_52 : decode cX12_behind 52 = .ok (.goto 4, 3) := by decide +kernel
theorem dX12_behind_55 : decode cX12_behind 55 = .ok (.iconst (-1), 1) := by decide +kernel
theorem dX12_behind_56 : decode cX12_behind 56 = .ok (.ireturn, 1) := by decide +kernel
abbrev rm_X12_behind : Room := { frames := 0, cells := 0, slots := 0, locals := 0 }
def wp_X12_behind (a : Nat) (p1 : Int32) (S : PS) (Q : Int32 → PS → Prop) : Prop :=
  (∀ v1, v1 = p1 + 1 → (∀ P4_2 : Int32 → PS → Prop, (∀ (x2_3 : Int32) (S4 : PS),
 (∃ b5, fR S4 192 a = some b5 ∧ (vp_in p1 (aN S4 b5) ∧ (∀ K42_7 : PS → Prop, (∀ (S6 : PS),
 (∃ b8, fR S6 192 a = some b8 ∧ (vp_in p1 (aN S6 b8) ∧ (if aI S6 104 b8 (p1).toNatClampNeg = 0 then
 Q (-1) S6
 else
 Q x2_3 S6)))
 → K42_7 S6) →
 (if aI S4 104 b5 (p1).toNatClampNeg = 0 then
 K42_7 S4
 else
 (if fI S4 206 a ≤ x2_3 then
 K42_7 S4
 else
 (∃ b9, fR S4 190 a = some b9 ∧ (vp_in x2_3 (aN S4 b9) ∧ (∃ b10, fR S4 190 a = some b10 ∧ (vp_in p1 (aN S4 b10) ∧ (if aI S4 102 b9 (x2_3).toNatClampNeg = aI S4 102 b10 (p1).toNatClampNeg then
 K42_7 S4
 else
 (∀ v11, v11 = x2_3 + 1 → P4_2 v11 S4)))))))))))
 → P4_2 x2_3 S4) → P4_2 v1 S))
set_option maxRecDepth 100000 in
set_option maxHeartbeats 4000000 in
theorem c_X12_behind {l : Launch} {E : EE} {A : Nat → Prop} {a : Nat} {p1 : Int32} {S : PS} {Q : Int32 → PS → Prop} (r_a : Rf S a 9) (h : wp_X12_behind a p1 S Q) : MtI l yX12_behind (.code yX12_behind cX12_behind 3 (some .int)) rm_X12_behind E A [.ref a, .int p1] S Q := by
  refine MtI.of (by decide) (Nat.le_of_ble_eq_true rfl) (fun X F hQ hN => ?_)
  show VV X (0, 0) S [(0, .ref a), (1, .int p1)] [] 0
  unfold wp_X12_behind at h
  refine v_iload_n F dX12_behind_0 1 rfl rfl ?_
  refine v_iconst (v := 1) F dX12_behind_1 (by decide) ?_
  refine v_iadd F dX12_behind_2 ?_
  refine v_topi (fun v1 e_v1 => ?_)
  have h := h v1 e_v1
  refine v_istore_n (lv1 := [(2, .int v1), (0, .ref a), (1, .int p1)]) F dX12_behind_3 rfl (by rw [hN]; decide) rfl ?_
  refine v_sub [1, 2, 0] rfl ?_
  refine h (fun (x2_3 : Int32) (S4 : PS) => Rf S4 a 9 → VV X (0, 0) S4 [(0, .ref a), (1, .int p1), (2, .int x2_3)] [] 4) (fun x2_3 S4 h r_a => ?_) r_a
  refine v_aload_n F dX12_behind_4 0 rfl rfl ?_
  refine g_X12_516 F r_a h dX12_behind_5 (fun b5 r_b5 h => ?_)
  refine v_iload_n F dX12_behind_8 1 rfl rfl ?_
  refine v_zald F r_b5 o_104 h dX12_behind_9 (fun h => ?_)
  have h := h (fun (S6 : PS) => Rf S6 a 9 → VV X (0, 0) S6 [(0, .ref a), (1, .int p1), (2, .int x2_3)] [] 42) (by
    intro S6 h r_a
    refine v_aload_n F dX12_behind_42 0 rfl rfl ?_
    refine g_X12_516 F r_a h dX12_behind_43 (fun b8 r_b8 h => ?_)
    refine v_iload_n F dX12_behind_46 1 rfl rfl ?_
    refine v_zald F r_b8 o_104 h dX12_behind_47 (fun h => ?_)
    refine v_if_eq (tgt := 55) F dX12_behind_48 (by decide) h (fun h => ?_) (fun h => ?_)
    · refine v_iconst (v := (-1)) F dX12_behind_55 (by decide) ?_
      exact v_iret F hQ h (by decide) dX12_behind_56
    · refine v_iload_n F dX12_behind_51 2 rfl rfl ?_
      refine v_goto (tgt := 56) F dX12_behind_52 (by decide) ?_
      exact v_iret F hQ h (by decide) dX12_behind_56)
  refine v_if_eq (tgt := 42) F dX12_behind_10 (by decide) h (fun h => ?_) (fun h => ?_)
  · exact v_sub [0, 1, 2] rfl (h r_a)
  · refine v_iload_n F dX12_behind_13 2 rfl rfl ?_
    refine v_aload_n F dX12_behind_14 0 rfl rfl ?_
    refine g_X12_576 F r_a dX12_behind_15 ?_
    refine v_icmp_ge (tgt := 42) F dX12_behind_18 (by decide) h (fun h => ?_) (fun h => ?_)
    · exact v_sub [0, 1, 2] rfl (h r_a)
    · refine v_aload_n F dX12_behind_21 0 rfl rfl ?_
      refine g_X12_510 F r_a h dX12_behind_22 (fun b9 r_b9 h => ?_)
      refine v_iload_n F dX12_behind_25 2 rfl rfl ?_
      refine v_iald F r_b9 o_102 h dX12_behind_26 (fun h => ?_)
      refine v_aload_n F dX12_behind_27 0 rfl rfl ?_
      refine g_X12_510 F r_a h dX12_behind_28 (fun b10 r_b10 h => ?_)
      refine v_iload_n F dX12_behind_31 1 rfl rfl ?_
      refine v_iald F r_b10 o_102 h dX12_behind_32 (fun h => ?_)
      refine v_icmp_eq (tgt := 42) F dX12_behind_33 (by decide) h (fun h => ?_) (fun h => ?_)
      · exact v_sub [0, 1, 2] rfl (h r_a)
      · obtain ⟨v11, e_v11⟩ : ∃ y : Int32, y = x2_3 + 1 := ⟨_, rfl⟩
        have h := h v11 e_v11
        refine v_iinc (v := v11) (lv1 := [(2, .int v11), (0, .ref a), (1, .int p1)]) F dX12_behind_36 (q := 2) rfl (by rw [e_v11]; rfl) (by rw [hN]; decide) rfl ?_
        refine v_goto (tgt := 4) F dX12_behind_39 (by decide) ?_
        exact v_sub [1, 2, 0] rfl (h r_a)
theorem dX12_event__0 : decode cX12_event_ 0 = .ok (.aload_n 0, 1) := by decide +kernel
theorem dX12_event__1 : decode cX12_event_ 1 = .ok (.aload_n 0, 1) := by decide +kernel
theorem dX12_event__2 : decode cX12_event_ 2 = .ok (.iload_n 1, 1) := by decide +kernel
theorem dX12_event__3 : decode cX12_event_ 3 = .ok (.invokevirtual 599, 3) := by decide +kernel
theorem dX12_event__6 : decode cX12_event_ 6 = .ok (.ifCond .ne 7, 3) := by decide +kernel
theorem dX12_event__9 : decode cX12_event_ 9 = .ok (.iconst 1, 1) := by decide +kernel
theorem dX12_event__10 : decode cX12_event_ 10 = .ok (.goto 20, 3) := by decide +kernel
theorem dX12_event__13 : decode cX12_event_ 13 = .ok (.iload_n 2, 1) := by decide +kernel
theorem dX12_event__14 : decode cX12_event_ 14 = .ok (.i2l, 1) := by decide +kernel
theorem dX12_event__15 : decode cX12_event_ 15 = .ok (.lconst 0, 1) := by decide +kernel
theorem dX12_event__16 : decode cX12_event_ 16 = .ok (.ldc2_w 594, 3) := by decide +kernel
theorem dX12_event__19 : decode cX12_event_ 19 = .ok (.invokestatic 9, 3) := by decide +kernel
theorem dX12_event__22 : decode cX12_event_ 22 = .ok (.ifCond .ne 7, 3) := by decide +kernel
theorem dX12_event__25 : decode cX12_event_ 25 = .ok (.iconst 2, 1) := by decide +kernel
theorem dX12_event__26 : decode cX12_event_ 26 = .ok (.goto 4, 3) := by decide +kernel
theorem dX12_event__29 : decode cX12_event_ 29 = .ok (.iconst 0, 1) := by decide +kernel
theorem dX12_event__30 : decode cX12_event_ 30 = .ok (.putfield 1, 3) := by decide +kernel
theorem dX12_event__33 : decode cX12_event_ 33 = .ok (.aload_n 0, 1) := by decide +kernel
theorem dX12_event__34 : decode cX12_event_ 34 = .ok (.getfield 1, 3) := by decide +kernel
theorem dX12_event__37 : decode cX12_event_ 37 = .ok (.ifCond .le 5, 3) := by decide +kernel
theorem dX12_event__40 : decode cX12_event_ 40 = .ok (.lconst 0, 1) := by decide +kernel
theorem dX12_event__41 : decode cX12_event_ 41 = .ok (.lreturn, 1) := by decide +kernel
theorem dX12_event__42 : decode cX12_event_ 42 = .ok (.iload_n 2, 1) := by decide +kernel
theorem dX12_event__43 : decode cX12_event_ 43 = .ok (.bipush 6, 2) := by decide +kernel
theorem dX12_event__45 : decode cX12_event_ 45 = .ok (.if_icmp .ne 50, 3) := by decide +kernel
theorem dX12_event__48 : decode cX12_event_ 48 = .ok (.lconst 0, 1) := by decide +kernel
theorem dX12_event__49 : decode cX12_event_ 49 = .ok (.lstore_n 3, 1) := by decide +kernel
theorem dX12_event__50 : decode cX12_event_ 50 = .ok (.aload_n 0, 1) := by decide +kernel
theorem dX12_event__51 : decode cX12_event_ 51 = .ok (.getfield 519, 3) := by decide +kernel
theorem dX12_event__54 : decode cX12_event_ 54 = .ok (.iload_n 1, 1) := by decide +kernel
theorem dX12_event__55 : decode cX12_event_ 55 = .ok (.baload, 1) := by decide +kernel
theorem dX12_event__56 : decode cX12_event_ 56 = .ok (.ifCond .eq 7, 3) := by decide +kernel
theorem dX12_event__59 : decode cX12_event_ 59 = .ok (.iconst (-1), 1) := by decide +kernel
theorem dX12_event__60 : decode cX12_event_ 60 = .ok (.goto 4, 3) := by decide +kernel
theorem dX12_event__63 : decode cX12_event_ 63 = .ok (.iload_n 1, 1) := by decide +kernel
theorem dX12_event__64 : decode cX12_event_ 64 = .ok (.istore 5, 2) := by decide +kernel
theorem dX12_event__66 : decode cX12_event_ 66 = .ok (.iload 5, 2) := by decide +kernel
theorem dX12_event__68 : decode cX12_event_ 68 = .ok (.iconst (-1), 1) := by decide +kernel
theorem dX12_event__69 : decode cX12_event_ 69 = .ok (.if_icmp .eq 24, 3) := by decide +kernel
theorem dX12_event__72 : decode cX12_event_ 72 = .ok (.lload_n 3, 1) := by decide +kernel
theorem dX12_event__73 : decode cX12_event_ 73 = .ok (.aload_n 0, 1) := by decide +kernel
theorem dX12_event__74 : decode cX12_event_ 74 = .ok (.getfield 525, 3) := by decide +kernel
theorem dX12_event__77 : decode cX12_event_ 77 = .ok (.iload 5, 2) := by decide +kernel
theorem dX12_event__79 : decode cX12_event_ 79 = .ok (.laload, 1) := by decide +kernel
theorem dX12_event__80 : decode cX12_event_ 80 = .ok (.ladd, 1) := by decide +kernel
theorem dX12_event__81 : decode cX12_event_ 81 = .ok (.lstore_n 3, 1) := by decide +kernel
theorem dX12_event__82 : decode cX12_event_ 82 = .ok (.aload_n 0, 1) := by decide +kernel
theorem dX12_event__83 : decode cX12_event_ 83 = .ok (.iload 5, 2) := by decide +kernel
theorem dX12_event__85 : decode cX12_event_ 85 = .ok (.invokevirtual 602, 3) := by decide +kernel
theorem dX12_event__88 : decode cX12_event_ 88 = .ok (.istore 5, 2) := by decide +kernel
theorem dX12_event__90 : decode cX12_event_ 90 = .ok (.goto (-24), 3) := by decide +kernel
theorem dX12_event__93 : decode cX12_event_ 93 = .ok (.lload_n 3, 1) := by decide +kernel
theorem dX12_event__94 : decode cX12_event_ 94 = .ok (.lreturn, 1) := by decide +kernel
theorem dX12_event__95 : decode cX12_event_ 95 = .ok (.iload_n 2, 1) := by decide +kernel
theorem dX12_event__96 : decode cX12_event_ 96 = .ok (.ifCond .ne 13, 3) := by decide +kernel
theorem dX12_event__99 : decode cX12_event_ 99 = .ok (.aload_n 0, 1) := by decide +kernel
theorem dX12_event__100 : decode cX12_event_ 100 = .ok (.getfield 510, 3) := by decide +kernel
theorem dX12_event__103 : decode cX12_event_ 103 = .ok (.iload_n 1, 1) := by decide +kernel
theorem dX12_event__104 : decode cX12_event_ 104 = .ok (.iaload, 1) := by decide +kernel
theorem dX12_event__105 : decode cX12_event_ 105 = .ok (.i2l, 1) := by decide +kernel
theorem dX12_event__106 : decode cX12_event_ 106 = .ok (.goto 82, 3) := by decide +kernel
theorem dX12_event__109 : decode cX12_event_ 109 = .ok (.iload_n 2, 1) := by decide +kernel
theorem dX12_event__110 : decode cX12_event_ 110 = .ok (.iconst 1, 1) := by decide +kernel
theorem dX12_event__111 : decode cX12_event_ 111 = .ok (.if_icmp .ne 13, 3) := by decide +kernel
theorem dX12_event__114 : decode cX12_event_ 114 = .ok (.aload_n 0, 1) := by decide +kernel
theorem dX12_event__115 : decode cX12_event_ 115 = .ok (.getfield 513, 3) := by decide +kernel
theorem dX12_event__118 : decode cX12_event_ 118 = .ok (.iload_n 1, 1) := by decide +kernel
theorem dX12_event__119 : decode cX12_event_ 119 = .ok (.iaload, 1) := by decide +kernel
theorem dX12_event__120 : decode cX12_event_ 120 = .ok (.i2l, 1) := by decide +kernel
theorem dX12_event__121 : decode cX12_event_ 121 = .ok (.goto 67, 3) := by decide +kernel
theorem dX12_event__124 : decode cX12_event_ 124 = .ok (.iload_n 2, 1) := by decide +kernel
theorem dX12_event__125 : decode cX12_event_ 125 = .ok (.iconst 2, 1) := by decide +kernel
theorem dX12_event__126 : decode cX12_event_ 126 = .ok (.if_icmp .ne 20, 3) := by decide +kernel
theorem dX12_event__129 : decode cX12_event_ 129 = .ok (.aload_n 0, 1) := by decide +kernel
theorem dX12_event__130 : decode cX12_event_ 130 = .ok (.getfield 516, 3) := by decide +kernel
theorem dX12_event__133 : decode cX12_event_ 133 = .ok (.iload_n 1, 1) := by decide +kernel
theorem dX12_event__134 : decode cX12_event_ 134 = .ok (.baload, 1) := by decide +kernel
theorem dX12_event__135 : decode cX12_event_ 135 = .ok (.ifCond .eq 7, 3) := by decide +kernel
theorem dX12_event__138 : decode cX12_event_ 138 = .ok (.lconst 1, 1) := by decide +kernel
theorem dX12_event__139 : decode cX12_event_ 139 = .ok (.goto 49, 3) := by decide +kernel
theorem dX12_event__142 : decode cX12_event_ 142 = .ok (.lconst 0, 1) := by decide +kernel
theorem dX12_event__143 : decode cX12_event_ 143 = .ok (.goto 45, 3) := by decide +kernel
theorem dX12_event__146 : decode cX12_event_ 146 = .ok (.iload_n 2, 1) := by decide +kernel
theorem dX12_event__147 : decode cX12_event_ 147 = .ok (.iconst 3, 1) := by decide +kernel
theorem dX12_event__148 : decode cX12_event_ 148 = .ok (.if_icmp .ne 20, 3) := by decide +kernel
theorem dX12_event__151 : decode cX12_event_ 151 = .ok (.aload_n 0, 1) := by decide +kernel
theorem dX12_event__152 : decode cX12_event_ 152 = .ok (.getfield 519, 3) := by decide +kernel
theorem dX12_event__155 : decode cX12_event_ 155 = .ok (.iload_n 1, 1) := by decide +kernel
theorem dX12_event__156 : decode cX12_event_ 156 = .ok (.baload, 1) := by decide +kernel
theorem dX12_event__157 : decode cX12_event_ 157 = .ok (.ifCond .eq 7, 3) := by decide +kernel
theorem dX12_event__160 : decode cX12_event_ 160 = .ok (.lconst 1, 1) := by decide +kernel
theorem dX12_event__161 : decode cX12_event_ 161 = .ok (.goto 27, 3) := by decide +kernel
theorem dX12_event__164 : decode cX12_event_ 164 = .ok (.lconst 0, 1) := by decide +kernel
theorem dX12_event__165 : decode cX12_event_ 165 = .ok (.goto 23, 3) := by decide +kernel
theorem dX12_event__168 : decode cX12_event_ 168 = .ok (.iload_n 2, 1) := by decide +kernel
theorem dX12_event__169 : decode cX12_event_ 169 = .ok (.iconst 4, 1) := by decide +kernel
theorem dX12_event__170 : decode cX12_event_ 170 = .ok (.if_icmp .ne 12, 3) := by decide +kernel
theorem dX12_event__173 : decode cX12_event_ 173 = .ok (.aload_n 0, 1) := by decide +kernel
theorem dX12_event__174 : decode cX12_event_ 174 = .ok (.getfield 522, 3) := by decide +kernel
theorem dX12_event__177 : decode cX12_event_ 177 = .ok (.iload_n 1, 1) := by decide +kernel
theorem dX12_event__178 : decode cX12_event_ 178 = .ok (.laload, 1) := by decide +kernel
theorem dX12_event__179 : decode cX12_event_ 179 = .ok (.goto 9, 3) := by decide +kernel
theorem dX12_event__182 : decode cX12_event_ 182 = .ok (.aload_n 0, 1) := by decide +kernel
theorem dX12_event__183 : decode cX12_event_ 183 = .ok (.getfield 525, 3) := by decide +kernel
theorem dX12_event__186 : decode cX12_event_ 186 = .ok (.iload_n 1, 1) := by decide +kernel
theorem dX12_event__187 : decode cX12_event_ 187 = .ok (.laload, 1) := by decide +kernel
theorem dX12_event__188 : decode cX12_event_ 188 = .ok (.lreturn, 1) := by decide +kernel
abbrev rm_X12_event_ : Room := { frames := 2, cells := 0, slots := 0, locals := 46 }
def wp_X12_event_ (a : Nat) (p1 : Int32) (p2 : Int32) (S : PS) (Q : Int64 → PS → Prop) : Prop :=
  wp_X12_isEvent a p1 S (fun (r2 : Int32) (S1 : PS) => 
 (∀ K30_6 : Nat → Int32 → PS → Prop, (∀ (t3 : Nat) (t4 : Int32) (S5 : PS),
 (∀ S7, S7 = sI S5 96 t3 t4 → (if fI S7 96 a ≤ 0 then
 (if p2 = 6 then
 (∃ b14, fR S7 193 a = some b14 ∧ (vp_in p1 (aN S7 b14) ∧ (∀ K64_17 : Int32 → PS → Prop, (∀ (t15 : Int32) (S16 : PS),
 (∀ P66_18 : Int64 → Int32 → PS → Prop, (∀ (x3_19 : Int64) (x5_20 : Int32) (S21 : PS),
 (if x5_20 = (-1) then
 Q x3_19 S21
 else
 (∃ b22, fR S21 195 a = some b22 ∧ (vp_in x5_20 (aN S21 b22) ∧ (∀ v23, v23 = x3_19 + (aL S21 107 b22 (x5_20).toNatClampNeg) → wp_X12_behind a x5_20 S21 (fun (r25 : Int32) (S24 : PS) => 
 P66_18 v23 r25 S24)))))
 → P66_18 x3_19 x5_20 S21) → P66_18 0 t15 S16)
 → K64_17 t15 S16) →
 (if aI S7 105 b14 (p1).toNatClampNeg = 0 then
 K64_17 p1 S7
 else
 K64_17 (-1) S7))))
 else
 (if p2 = 0 then
 (∃ b13, fR S7 190 a = some b13 ∧ (vp_in p1 (aN S7 b13) ∧ Q ((aI S7 102 b13 (p1).toNatClampNeg).toInt64) S7))
 else
 (if p2 = 1 then
 (∃ b12, fR S7 191 a = some b12 ∧ (vp_in p1 (aN S7 b12) ∧ Q ((aI S7 103 b12 (p1).toNatClampNeg).toInt64) S7))
 else
 (if p2 = 2 then
 (∃ b11, fR S7 192 a = some b11 ∧ (vp_in p1 (aN S7 b11) ∧ (if aI S7 104 b11 (p1).toNatClampNeg = 0 then
 Q 0 S7
 else
 Q 1 S7)))
 else
 (if p2 = 3 then
 (∃ b10, fR S7 193 a = some b10 ∧ (vp_in p1 (aN S7 b10) ∧ (if aI S7 105 b10 (p1).toNatClampNeg = 0 then
 Q 0 S7
 else
 Q 1 S7)))
 else
 (if p2 = 4 then
 (∃ b9, fR S7 194 a = some b9 ∧ (vp_in p1 (aN S7 b9) ∧ Q (aL S7 106 b9 (p1).toNatClampNeg) S7))
 else
 (∃ b8, fR S7 195 a = some b8 ∧ (vp_in p1 (aN S7 b8) ∧ Q (aL S7 107 b8 (p1).toNatClampNeg) S7))))))))
 else
 Q 0 S7))
 → K30_6 t3 t4 S5) →
 (if r2 = 0 then
 K30_6 a 1 S1
 else
 wp_X12_in (p2.toInt64) 0 6 S1 (fun (r27 : Int32) (S26 : PS) => 
 (if r27 = 0 then
 K30_6 a 2 S26
 else
 K30_6 a 0 S26)))))
set_option maxRecDepth 100000 in
set_option maxHeartbeats 4000000 in
theorem c_X12_event_ {l : Launch} {E : EE} {A : Nat → Prop} {a : Nat} {p1 : Int32} {p2 : Int32} {S : PS} {Q : Int64 → PS → Prop} (r_a : Rf S a 9) (h : wp_X12_event_ a p1 p2 S Q) : MtL l yX12_event_ (.code yX12_event_ cX12_event_ 6 (some .long)) rm_X12_event_ E A [.ref a, .int p1, .int p2] S Q := by
  refine MtL.of (by decide) (Nat.le_of_ble_eq_true rfl) (fun X F hQ hN => ?_)
  show VV X (0, 0) S [(0, .ref a), (1, .int p1), (2, .int p2)] [] 0
  unfold wp_X12_event_ at h
  refine v_aload_n F dX12_event__0 0 rfl rfl ?_
  refine v_aload_n F dX12_event__1 0 rfl rfl ?_
  refine v_iload_n F dX12_event__2 1 rfl rfl ?_
  refine v_cI0 (v_runV F k_X12_599 rfl (c_X12_isEvent r_a h) r_a rfl rfl (Nat.le_of_ble_eq_true rfl) (by decide) (by decide) dX12_event__3) ⟨rfl, rfl⟩ (fun r2 S1 h hE => ?_)
  obtain ⟨nz_r2, h⟩ := h
  have r_a := r_a.tr hE
  have h := h (fun (t3 : Nat) (t4 : Int32) (S5 : PS) => Rf S5 a 9 → Rf S5 t3 9 → VV X (0, 0) S5 [(0, .ref a), (1, .int p1), (2, .int p2)] [.int t4, .ref t3] 30) (by
    intro t3 t4 S5 h r_a r_t3
    refine p_X12_1 F r_t3 h dX12_event__30 (fun S7 h hE => ?_)
    have r_a := r_a.tr hE
    refine v_aload_n F dX12_event__33 0 rfl rfl ?_
    refine g_X12_1 F r_a dX12_event__34 ?_
    refine v_if_le (tgt := 42) F dX12_event__37 (by decide) h (fun h => ?_) (fun h => ?_)
    · refine v_iload_n F dX12_event__42 2 rfl rfl ?_
      refine v_bipush (v := 6) F dX12_event__43 (by decide) ?_
      refine v_icmp_ne (tgt := 95) F dX12_event__45 (by decide) h (fun h => ?_) (fun h => ?_)
      · refine v_iload_n F dX12_event__95 2 rfl rfl ?_
        refine v_if_ne (tgt := 109) F dX12_event__96 (by decide) h (fun h => ?_) (fun h => ?_)
        · refine v_iload_n F dX12_event__109 2 rfl rfl ?_
          refine v_iconst (v := 1) F dX12_event__110 (by decide) ?_
          refine v_icmp_ne (tgt := 124) F dX12_event__111 (by decide) h (fun h => ?_) (fun h => ?_)
          · refine v_iload_n F dX12_event__124 2 rfl rfl ?_
            refine v_iconst (v := 2) F dX12_event__125 (by decide) ?_
            refine v_icmp_ne (tgt := 146) F dX12_event__126 (by decide) h (fun h => ?_) (fun h => ?_)
            · refine v_iload_n F dX12_event__146 2 rfl rfl ?_
              refine v_iconst (v := 3) F dX12_event__147 (by decide) ?_
              refine v_icmp_ne (tgt := 168) F dX12_event__148 (by decide) h (fun h => ?_) (fun h => ?_)
              · refine v_iload_n F dX12_event__168 2 rfl rfl ?_
                refine v_iconst (v := 4) F dX12_event__169 (by decide) ?_
                refine v_icmp_ne (tgt := 182) F dX12_event__170 (by decide) h (fun h => ?_) (fun h => ?_)
                · refine v_aload_n F dX12_event__182 0 rfl rfl ?_
                  refine g_X12_525 F r_a h dX12_event__183 (fun b8 r_b8 h => ?_)
                  refine v_iload_n F dX12_event__186 1 rfl rfl ?_
                  refine v_lald F r_b8 o_107 h dX12_event__187 (fun h => ?_)
                  exact v_lret F hQ h (by decide) dX12_event__188
                · refine v_aload_n F dX12_event__173 0 rfl rfl ?_
                  refine g_X12_522 F r_a h dX12_event__174 (fun b9 r_b9 h => ?_)
                  refine v_iload_n F dX12_event__177 1 rfl rfl ?_
                  refine v_lald F r_b9 o_106 h dX12_event__178 (fun h => ?_)
                  refine v_goto (tgt := 188) F dX12_event__179 (by decide) ?_
                  exact v_lret F hQ h (by decide) dX12_event__188
              · refine v_aload_n F dX12_event__151 0 rfl rfl ?_
                refine g_X12_519 F r_a h dX12_event__152 (fun b10 r_b10 h => ?_)
                refine v_iload_n F dX12_event__155 1 rfl rfl ?_
                refine v_zald F r_b10 o_105 h dX12_event__156 (fun h => ?_)
                refine v_if_eq (tgt := 164) F dX12_event__157 (by decide) h (fun h => ?_) (fun h => ?_)
                · refine v_lconst (v := 0) F dX12_event__164 (by decide) ?_
                  refine v_goto (tgt := 188) F dX12_event__165 (by decide) ?_
                  exact v_lret F hQ h (by decide) dX12_event__188
                · refine v_lconst (v := 1) F dX12_event__160 (by decide) ?_
                  refine v_goto (tgt := 188) F dX12_event__161 (by decide) ?_
                  exact v_lret F hQ h (by decide) dX12_event__188
            · refine v_aload_n F dX12_event__129 0 rfl rfl ?_
              refine g_X12_516 F r_a h dX12_event__130 (fun b11 r_b11 h => ?_)
              refine v_iload_n F dX12_event__133 1 rfl rfl ?_
              refine v_zald F r_b11 o_104 h dX12_event__134 (fun h => ?_)
              refine v_if_eq (tgt := 142) F dX12_event__135 (by decide) h (fun h => ?_) (fun h => ?_)
              · refine v_lconst (v := 0) F dX12_event__142 (by decide) ?_
                refine v_goto (tgt := 188) F dX12_event__143 (by decide) ?_
                exact v_lret F hQ h (by decide) dX12_event__188
              · refine v_lconst (v := 1) F dX12_event__138 (by decide) ?_
                refine v_goto (tgt := 188) F dX12_event__139 (by decide) ?_
                exact v_lret F hQ h (by decide) dX12_event__188
          · refine v_aload_n F dX12_event__114 0 rfl rfl ?_
            refine g_X12_513 F r_a h dX12_event__115 (fun b12 r_b12 h => ?_)
            refine v_iload_n F dX12_event__118 1 rfl rfl ?_
            refine v_iald F r_b12 o_103 h dX12_event__119 (fun h => ?_)
            refine v_i2l F dX12_event__120 ?_
            refine v_goto (tgt := 188) F dX12_event__121 (by decide) ?_
            exact v_lret F hQ h (by decide) dX12_event__188
        · refine v_aload_n F dX12_event__99 0 rfl rfl ?_
          refine g_X12_510 F r_a h dX12_event__100 (fun b13 r_b13 h => ?_)
          refine v_iload_n F dX12_event__103 1 rfl rfl ?_
          refine v_iald F r_b13 o_102 h dX12_event__104 (fun h => ?_)
          refine v_i2l F dX12_event__105 ?_
          refine v_goto (tgt := 188) F dX12_event__106 (by decide) ?_
          exact v_lret F hQ h (by decide) dX12_event__188
      · refine v_lconst (v := 0) F dX12_event__48 (by decide) ?_
        refine v_lstore_n (lv1 := [(3, .long 0), (0, .ref a), (1, .int p1), (2, .int p2)]) F dX12_event__49 rfl (by rw [hN]; decide) rfl ?_
        refine v_aload_n F dX12_event__50 1 rfl rfl ?_
        refine g_X12_519 F r_a h dX12_event__51 (fun b14 r_b14 h => ?_)
        refine v_iload_n F dX12_event__54 2 rfl rfl ?_
        refine v_zald F r_b14 o_105 h dX12_event__55 (fun h => ?_)
        have h := h (fun (t15 : Int32) (S16 : PS) => Rf S16 a 9 → VV X (0, 0) S16 [(0, .ref a), (3, .long 0)] [.int t15] 64) (by
          intro t15 S16 h r_a
          refine v_istore (lv1 := [(5, .int t15), (0, .ref a), (3, .long 0)]) F dX12_event__64 (by rw [hN]; decide) rfl ?_
          refine v_sub [1, 2, 0] rfl ?_
          refine h (fun (x3_19 : Int64) (x5_20 : Int32) (S21 : PS) => Rf S21 a 9 → VV X (0, 0) S21 [(0, .ref a), (3, .long x3_19), (5, .int x5_20)] [] 66) (fun x3_19 x5_20 S21 h r_a => ?_) r_a
          refine v_iload F dX12_event__66 2 rfl ?_
          refine v_iconst (v := (-1)) F dX12_event__68 (by decide) ?_
          refine v_icmp_eq (tgt := 93) F dX12_event__69 (by decide) h (fun h => ?_) (fun h => ?_)
          · refine v_lload_n F dX12_event__93 1 rfl rfl ?_
            exact v_lret F hQ h (by decide) dX12_event__94
          · refine v_lload_n F dX12_event__72 1 rfl rfl ?_
            refine v_aload_n F dX12_event__73 0 rfl rfl ?_
            refine g_X12_525 F r_a h dX12_event__74 (fun b22 r_b22 h => ?_)
            refine v_iload F dX12_event__77 2 rfl ?_
            refine v_lald F r_b22 o_107 h dX12_event__79 (fun h => ?_)
            refine v_ladd F dX12_event__80 ?_
            refine v_topl (fun v23 e_v23 => ?_)
            have h := h v23 e_v23
            refine v_lstore_n (lv1 := [(3, .long v23), (0, .ref a), (5, .int x5_20)]) F dX12_event__81 rfl (by rw [hN]; decide) rfl ?_
            refine v_aload_n F dX12_event__82 1 rfl rfl ?_
            refine v_iload F dX12_event__83 2 rfl ?_
            refine v_cI0 (v_runV F k_X12_602 rfl (c_X12_behind r_a h) r_a rfl rfl (Nat.le_of_ble_eq_true rfl) (by decide) (by decide) dX12_event__85) ⟨rfl, rfl⟩ (fun r25 S24 h hE => ?_)
            have r_a := r_a.tr hE
            refine v_istore (lv1 := [(5, .int r25), (3, .long v23), (0, .ref a)]) F dX12_event__88 (by rw [hN]; decide) rfl ?_
            refine v_goto (tgt := 66) F dX12_event__90 (by decide) ?_
            exact v_sub [2, 1, 0] rfl (h r_a))
        refine v_if_eq (tgt := 63) F dX12_event__56 (by decide) h (fun h => ?_) (fun h => ?_)
        · refine v_iload_n F dX12_event__63 2 rfl rfl ?_
          exact v_sub [1, 0] rfl (h r_a)
        · refine v_iconst (v := (-1)) F dX12_event__59 (by decide) ?_
          refine v_goto (tgt := 64) F dX12_event__60 (by decide) ?_
          exact v_sub [1, 0] rfl (h r_a)
    · refine v_lconst (v := 0) F dX12_event__40 (by decide) ?_
      exact v_lret F hQ h (by decide) dX12_event__41)
  refine v_if_ne (tgt := 13) F dX12_event__6 (by decide) h (fun h => ?_) (fun h => ?_)
  · refine v_iload_n F dX12_event__13 2 rfl rfl ?_
    refine v_i2l F dX12_event__14 ?_
    refine v_lconst (v := 0) F dX12_event__15 (by decide) ?_
    refine v_ldc2 F kc_X12_594 dX12_event__16 ?_
    refine v_cI0 (v_runS F k_X12_9 (c_X12_in h) rfl rfl (Nat.le_of_ble_eq_true rfl) (by decide) (by decide) dX12_event__19) ⟨rfl, rfl⟩ (fun r27 S26 h hE => ?_)
    obtain ⟨nz_r27, h⟩ := h
    have r_a := r_a.tr hE
    refine v_if_ne (tgt := 29) F dX12_event__22 (by decide) h (fun h => ?_) (fun h => ?_)
    · refine v_iconst (v := 0) F dX12_event__29 (by decide) ?_
      exact v_sub [0, 1, 2] rfl (h r_a r_a)
    · refine v_iconst (v := 2) F dX12_event__25 (by decide) ?_
      refine v_goto (tgt := 30) F dX12_event__26 (by decide) ?_
      exact v_sub [0, 1, 2] rfl (h r_a r_a)
  · refine v_iconst (v := 1) F dX12_event__9 (by decide) ?_
    refine v_goto (tgt := 30) F dX12_event__10 (by decide) ?_
    exact v_sub [0, 1, 2] rfl (h r_a r_a)
theorem dX12_pitch_0 : decode cX12_pitch 0 = .ok (.aload_n 0, 1) := by decide +kernel
theorem dX12_pitch_1 : decode cX12_pitch 1 = .ok (.aload_n 0, 1) := by decide +kernel
theorem dX12_pitch_2 : decode cX12_pitch 2 = .ok (.iload_n 1, 1) := by decide +kernel
theorem dX12_pitch_3 : decode cX12_pitch 3 = .ok (.invokevirtual 599, 3) := by decide +kernel
theorem dX12_pitch_6 : decode cX12_pitch 6 = .ok (.ifCond .eq 21, 3) := by decide +kernel
theorem dX12_pitch_9 : decode cX12_pitch 9 = .ok (.iload_n 2, 1) := by decide +kernel
theorem dX12_pitch_10 : decode cX12_pitch 10 = .ok (.i2l, 1) := by decide +kernel
theorem dX12_pitch_11 : decode cX12_pitch 11 = .ok (.lconst 0, 1) := by decide +kernel
theorem dX12_pitch_12 : decode cX12_pitch 12 = .ok (.aload_n 0, 1) := by decide +kernel
theorem dX12_pitch_13 : decode cX12_pitch 13 = .ok (.getfield 513, 3) := by decide +kernel
theorem dX12_pitch_16 : decode cX12_pitch 16 = .ok (.iload_n 1, 1) := by decide +kernel
theorem dX12_pitch_17 : decode cX12_pitch 17 = .ok (.iaload, 1) := by decide +kernel
theorem dX12_pitch_18 : decode cX12_pitch 18 = .ok (.iconst 1, 1) := by decide +kernel
theorem dX12_pitch_19 : decode cX12_pitch 19 = .ok (.isub, 1) := by decide +kernel
theorem dX12_pitch_20 : decode cX12_pitch 20 = .ok (.i2l, 1) := by decide +kernel
theorem dX12_pitch_21 : decode cX12_pitch 21 = .ok (.invokestatic 9, 3) := by decide +kernel
theorem dX12_pitch_24 : decode cX12_pitch 24 = .ok (.ifCond .ne 7, 3) := by decide +kernel
theorem dX12_pitch_27 : decode cX12_pitch 27 = .ok (.iconst 1, 1) := by decide +kernel
theorem dX12_pitch_28 : decode cX12_pitch 28 = .ok (.goto 20, 3) := by decide +kernel
theorem dX12_pitch_31 : decode cX12_pitch 31 = .ok (.iload_n 3, 1) := by decide +kernel
theorem dX12_pitch_32 : decode cX12_pitch 32 = .ok (.i2l, 1) := by decide +kernel
theorem dX12_pitch_33 : decode cX12_pitch 33 = .ok (.lconst 0, 1) := by decide +kernel
theorem dX12_pitch_34 : decode cX12_pitch 34 = .ok (.ldc2_w 605, 3) := by decide +kernel
theorem dX12_pitch_37 : decode cX12_pitch 37 = .ok (.invokestatic 9, 3) := by decide +kernel
theorem dX12_pitch_40 : decode cX12_pitch 40 = .ok (.ifCond .ne 7, 3) := by decide +kernel
theorem dX12_pitch_43 : decode cX12_pitch 43 = .ok (.iconst 2, 1) := by decide +kernel
theorem dX12_pitch_44 : decode cX12_pitch 44 = .ok (.goto 4, 3) := by decide +kernel
theorem dX12_pitch_47 : decode cX12_pitch 47 = .ok (.iconst 0, 1) := by decide +kernel
theorem dX12_pitch_48 : decode cX12_pitch 48 = .ok (.putfield 1, 3) := by decide +kernel
theorem dX12_pitch_51 : decode cX12_pitch 51 = .ok (.aload_n 0, 1) := by decide +kernel
theorem dX12_pitch_52 : decode cX12_pitch 52 = .ok (.getfield 1, 3) := by decide +kernel
theorem dX12_pitch_55 : decode cX12_pitch 55 = .ok (.ifCond .le 5, 3) := by decide +kernel
theorem dX12_pitch_58 : decode cX12_pitch 58 = .ok (.iconst 0, 1) := by decide +kernel
theorem dX12_pitch_59 : decode cX12_pitch 59 = .ok (.ireturn, 1) := by decide +kernel
theorem dX12_pitch_60 : decode cX12_pitch 60 = .ok (.bipush 6, 2) := by decide +kernel
theorem dX12_pitch_62 : decode cX12_pitch 62 = .ok (.iload_n 1, 1) := by decide +kernel
theorem dX12_pitch_63 : decode cX12_pitch 63 = .ok (.imul, 1) := by decide +kernel
theorem dX12_pitch_64 : decode cX12_pitch 64 = .ok (.iload_n 2, 1) := by decide +kernel
theorem dX12_pitch_65 : decode cX12_pitch 65 = .ok (.iadd, 1) := by decide +kernel
theorem dX12_pitch_66 : decode cX12_pitch 66 = .ok (.istore 4, 2) := by decide +kernel
theorem dX12_pitch_68 : decode cX12_pitch 68 = .ok (.iload_n 3, 1) := by decide +kernel
theorem dX12_pitch_69 : decode cX12_pitch 69 = .ok (.ifCond .ne 13, 3) := by decide +kernel
theorem dX12_pitch_72 : decode cX12_pitch 72 = .ok (.aload_n 0, 1) := by decide +kernel
theorem dX12_pitch_73 : decode cX12_pitch 73 = .ok (.getfield 528, 3) := by decide +kernel
theorem dX12_pitch_76 : decode cX12_pitch 76 = .ok (.iload 4, 2) := by decide +kernel
theorem dX12_pitch_78 : decode cX12_pitch 78 = .ok (.iaload, 1) := by decide +kernel
theorem dX12_pitch_79 : decode cX12_pitch 79 = .ok (.goto 62, 3) := by decide +kernel
theorem dX12_pitch_82 : decode cX12_pitch 82 = .ok (.iload_n 3, 1) := by decide +kernel
theorem dX12_pitch_83 : decode cX12_pitch 83 = .ok (.iconst 1, 1) := by decide +kernel
theorem dX12_pitch_84 : decode cX12_pitch 84 = .ok (.if_icmp .ne 13, 3) := by decide +kernel
theorem dX12_pitch_87 : decode cX12_pitch 87 = .ok (.aload_n 0, 1) := by decide +kernel
theorem dX12_pitch_88 : decode cX12_pitch 88 = .ok (.getfield 531, 3) := by decide +kernel
theorem dX12_pitch_91 : decode cX12_pitch 91 = .ok (.iload 4, 2) := by decide +kernel
theorem dX12_pitch_93 : decode cX12_pitch 93 = .ok (.iaload, 1) := by decide +kernel
theorem dX12_pitch_94 : decode cX12_pitch 94 = .ok (.goto 47, 3) := by decide +kernel
theorem dX12_pitch_97 : decode cX12_pitch 97 = .ok (.iload_n 3, 1) := by decide +kernel
theorem dX12_pitch_98 : decode cX12_pitch 98 = .ok (.iconst 2, 1) := by decide +kernel
theorem dX12_pitch_99 : decode cX12_pitch 99 = .ok (.if_icmp .ne 13, 3) := by decide +kernel
theorem dX12_pitch_102 : decode cX12_pitch 102 = .ok (.aload_n 0, 1) := by decide +kernel
theorem dX12_pitch_103 : decode cX12_pitch 103 = .ok (.getfield 534, 3) := by decide +kernel
theorem dX12_pitch_106 : decode cX12_pitch 106 = .ok (.iload 4, 2) := by decide +kernel
theorem dX12_pitch_108 : decode cX12_pitch 108 = .ok (.iaload, 1) := by decide +kernel
theorem dX12_pitch_109 : decode cX12_pitch 109 = .ok (.goto 32, 3) := by decide +kernel
theorem dX12_pitch_112 : decode cX12_pitch 112 = .ok (.bipush 12, 2) := by decide +kernel
theorem dX12_pitch_114 : decode cX12_pitch 114 = .ok (.aload_n 0, 1) := by decide +kernel
theorem dX12_pitch_115 : decode cX12_pitch 115 = .ok (.getfield 534, 3) := by decide +kernel
theorem dX12_pitch_118 : decode cX12_pitch 118 = .ok (.iload 4, 2) := by decide +kernel
theorem dX12_pitch_120 : decode cX12_pitch 120 = .ok (.iaload, 1) := by decide +kernel
theorem dX12_pitch_121 : decode cX12_pitch 121 = .ok (.imul, 1) := by decide +kernel
theorem dX12_pitch_122 : decode cX12_pitch 122 = .ok (.aload_n 0, 1) := by decide +kernel
theorem dX12_pitch_123 : decode cX12_pitch 123 = .ok (.getfield 528, 3) := by decide +kernel
theorem dX12_pitch_126 : decode cX12_pitch 126 = .ok (.iload 4, 2) := by decide +kernel
theorem dX12_pitch_128 : decode cX12_pitch 128 = .ok (.iaload, 1) := by decide +kernel
theorem dX12_pitch_129 : decode cX12_pitch 129 = .ok (.invokestatic 405, 3) := by decide +kernel
theorem dX12_pitch_132 : decode cX12_pitch 132 = .ok (.iadd, 1) := by decide +kernel
theorem dX12_pitch_133 : decode cX12_pitch 133 = .ok (.aload_n 0, 1) := by decide +kernel
theorem dX12_pitch_134 : decode cX12_pitch 134 = .ok (.getfield 531, 3) := by decide +kernel
theorem dX12_pitch_137 : decode cX12_pitch 137 = .ok (.iload 4, 2) := by decide +kernel
theorem dX12_pitch_139 : decode cX12_pitch 139 = .ok (.iaload, 1) := by decide +kernel
theorem dX12_pitch_140 : decode cX12_pitch 140 = .ok (.iadd, 1) := by decide +kernel
theorem dX12_pitch_141 : decode cX12_pitch 141 = .ok (.ireturn, 1) := by decide +kernel
abbrev rm_X12_pitch : Room := { frames := 2, cells := 0, slots := 0, locals := 46 }
def wp_X12_pitch (a : Nat) (p1 : Int32) (p2 : Int32) (p3 : Int32) (S : PS) (Q : Int32 → PS → Prop) : Prop :=
  wp_X12_isEvent a p1 S (fun (r2 : Int32) (S1 : PS) => 
 (∀ K48_6 : Nat → Int32 → PS → Prop, (∀ (t3 : Nat) (t4 : Int32) (S5 : PS),
 (∀ S7, S7 = sI S5 96 t3 t4 → (if fI S7 96 a ≤ 0 then
 (∀ v8, v8 = ((6 : Int32) * p1) + p2 → (if p3 = 0 then
 (∃ b16, fR S7 196 a = some b16 ∧ (vp_in v8 (aN S7 b16) ∧ Q (aI S7 108 b16 (v8).toNatClampNeg) S7))
 else
 (if p3 = 1 then
 (∃ b15, fR S7 197 a = some b15 ∧ (vp_in v8 (aN S7 b15) ∧ Q (aI S7 109 b15 (v8).toNatClampNeg) S7))
 else
 (if p3 = 2 then
 (∃ b14, fR S7 198 a = some b14 ∧ (vp_in v8 (aN S7 b14) ∧ Q (aI S7 110 b14 (v8).toNatClampNeg) S7))
 else
 (∃ b9, fR S7 198 a = some b9 ∧ (vp_in v8 (aN S7 b9) ∧ (∃ b10, fR S7 196 a = some b10 ∧ (vp_in v8 (aN S7 b10) ∧ wp_X12_halves (aI S7 108 b10 (v8).toNatClampNeg) S7 (fun (r12 : Int32) (S11 : PS) => 
 (∃ b13, fR S11 197 a = some b13 ∧ (vp_in v8 (aN S11 b13) ∧ Q ((((12 : Int32) * (aI S7 110 b9 (v8).toNatClampNeg)) + r12) + (aI S11 109 b13 (v8).toNatClampNeg)) S11)))))))))))
 else
 Q 0 S7))
 → K48_6 t3 t4 S5) →
 (if r2 = 0 then
 K48_6 a 1 S1
 else
 (∃ b17, fR S1 191 a = some b17 ∧ (vp_in p1 (aN S1 b17) ∧ wp_X12_in (p2.toInt64) 0 (((aI S1 103 b17 (p1).toNatClampNeg) - 1).toInt64) S1 (fun (r19 : Int32) (S18 : PS) => 
 (if r19 = 0 then
 K48_6 a 1 S18
 else
 wp_X12_in (p3.toInt64) 0 3 S18 (fun (r21 : Int32) (S20 : PS) => 
 (if r21 = 0 then
 K48_6 a 2 S20
 else
 K48_6 a 0 S20)))))))))
set_option maxRecDepth 100000 in
set_option maxHeartbeats 4000000 in
theorem c_X12_pitch {l : Launch} {E : EE} {A : Nat → Prop} {a : Nat} {p1 : Int32} {p2 : Int32} {p3 : Int32} {S : PS} {Q : Int32 → PS → Prop} (r_a : Rf S a 9) (h : wp_X12_pitch a p1 p2 p3 S Q) : MtI l yX12_pitch (.code yX12_pitch cX12_pitch 5 (some .int)) rm_X12_pitch E A [.ref a, .int p1, .int p2, .int p3] S Q := by
  refine MtI.of (by decide) (Nat.le_of_ble_eq_true rfl) (fun X F hQ hN => ?_)
  show VV X (0, 0) S [(0, .ref a), (1, .int p1), (2, .int p2), (3, .int p3)] [] 0
  unfold wp_X12_pitch at h
  refine v_aload_n F dX12_pitch_0 0 rfl rfl ?_
  refine v_aload_n F dX12_pitch_1 0 rfl rfl ?_
  refine v_iload_n F dX12_pitch_2 1 rfl rfl ?_
  refine v_cI0 (v_runV F k_X12_599 rfl (c_X12_isEvent r_a h) r_a rfl rfl (Nat.le_of_ble_eq_true rfl) (by decide) (by decide) dX12_pitch_3) ⟨rfl, rfl⟩ (fun r2 S1 h hE => ?_)
  obtain ⟨nz_r2, h⟩ := h
  have r_a := r_a.tr hE
  have h := h (fun (t3 : Nat) (t4 : Int32) (S5 : PS) => Rf S5 a 9 → Rf S5 t3 9 → VV X (0, 0) S5 [(0, .ref a), (1, .int p1), (2, .int p2), (3, .int p3)] [.int t4, .ref t3] 48) (by
    intro t3 t4 S5 h r_a r_t3
    refine p_X12_1 F r_t3 h dX12_pitch_48 (fun S7 h hE => ?_)
    have r_a := r_a.tr hE
    refine v_aload_n F dX12_pitch_51 0 rfl rfl ?_
    refine g_X12_1 F r_a dX12_pitch_52 ?_
    refine v_if_le (tgt := 60) F dX12_pitch_55 (by decide) h (fun h => ?_) (fun h => ?_)
    · refine v_bipush (v := 6) F dX12_pitch_60 (by decide) ?_
      refine v_iload_n F dX12_pitch_62 1 rfl rfl ?_
      refine v_imul F dX12_pitch_63 ?_
      refine v_iload_n F dX12_pitch_64 2 rfl rfl ?_
      refine v_iadd F dX12_pitch_65 ?_
      refine v_topi (fun v8 e_v8 => ?_)
      have h := h v8 e_v8
      refine v_istore (lv1 := [(4, .int v8), (0, .ref a), (1, .int p1), (2, .int p2), (3, .int p3)]) F dX12_pitch_66 (by rw [hN]; decide) rfl ?_
      refine v_iload_n F dX12_pitch_68 4 rfl rfl ?_
      refine v_if_ne (tgt := 82) F dX12_pitch_69 (by decide) h (fun h => ?_) (fun h => ?_)
      · refine v_iload_n F dX12_pitch_82 4 rfl rfl ?_
        refine v_iconst (v := 1) F dX12_pitch_83 (by decide) ?_
        refine v_icmp_ne (tgt := 97) F dX12_pitch_84 (by decide) h (fun h => ?_) (fun h => ?_)
        · refine v_iload_n F dX12_pitch_97 4 rfl rfl ?_
          refine v_iconst (v := 2) F dX12_pitch_98 (by decide) ?_
          refine v_icmp_ne (tgt := 112) F dX12_pitch_99 (by decide) h (fun h => ?_) (fun h => ?_)
          · refine v_bipush (v := 12) F dX12_pitch_112 (by decide) ?_
            refine v_aload_n F dX12_pitch_114 1 rfl rfl ?_
            refine g_X12_534 F r_a h dX12_pitch_115 (fun b9 r_b9 h => ?_)
            refine v_iload F dX12_pitch_118 0 rfl ?_
            refine v_iald F r_b9 o_110 h dX12_pitch_120 (fun h => ?_)
            refine v_imul F dX12_pitch_121 ?_
            refine v_aload_n F dX12_pitch_122 1 rfl rfl ?_
            refine g_X12_528 F r_a h dX12_pitch_123 (fun b10 r_b10 h => ?_)
            refine v_iload F dX12_pitch_126 0 rfl ?_
            refine v_iald F r_b10 o_108 h dX12_pitch_128 (fun h => ?_)
            refine v_cI0 (v_runS F k_X12_405 (c_X12_halves h) rfl rfl (Nat.le_of_ble_eq_true rfl) (by decide) (by decide) dX12_pitch_129) ⟨rfl, rfl⟩ (fun r12 S11 h hE => ?_)
            have r_a := r_a.tr hE
            refine v_iadd F dX12_pitch_132 ?_
            refine v_aload_n F dX12_pitch_133 1 rfl rfl ?_
            refine g_X12_531 F r_a h dX12_pitch_134 (fun b13 r_b13 h => ?_)
            refine v_iload F dX12_pitch_137 0 rfl ?_
            refine v_iald F r_b13 o_109 h dX12_pitch_139 (fun h => ?_)
            refine v_iadd F dX12_pitch_140 ?_
            exact v_iret F hQ h (by decide) dX12_pitch_141
          · refine v_aload_n F dX12_pitch_102 1 rfl rfl ?_
            refine g_X12_534 F r_a h dX12_pitch_103 (fun b14 r_b14 h => ?_)
            refine v_iload F dX12_pitch_106 0 rfl ?_
            refine v_iald F r_b14 o_110 h dX12_pitch_108 (fun h => ?_)
            refine v_goto (tgt := 141) F dX12_pitch_109 (by decide) ?_
            exact v_iret F hQ h (by decide) dX12_pitch_141
        · refine v_aload_n F dX12_pitch_87 1 rfl rfl ?_
          refine g_X12_531 F r_a h dX12_pitch_88 (fun b15 r_b15 h => ?_)
          refine v_iload F dX12_pitch_91 0 rfl ?_
          refine v_iald F r_b15 o_109 h dX12_pitch_93 (fun h => ?_)
          refine v_goto (tgt := 141) F dX12_pitch_94 (by decide) ?_
          exact v_iret F hQ h (by decide) dX12_pitch_141
      · refine v_aload_n F dX12_pitch_72 1 rfl rfl ?_
        refine g_X12_528 F r_a h dX12_pitch_73 (fun b16 r_b16 h => ?_)
        refine v_iload F dX12_pitch_76 0 rfl ?_
        refine v_iald F r_b16 o_108 h dX12_pitch_78 (fun h => ?_)
        refine v_goto (tgt := 141) F dX12_pitch_79 (by decide) ?_
        exact v_iret F hQ h (by decide) dX12_pitch_141
    · refine v_iconst (v := 0) F dX12_pitch_58 (by decide) ?_
      exact v_iret F hQ h (by decide) dX12_pitch_59)
  refine v_if_eq (tgt := 27) F dX12_pitch_6 (by decide) h (fun h => ?_) (fun h => ?_)
  · refine v_iconst (v := 1) F dX12_pitch_27 (by decide) ?_
    refine v_goto (tgt := 48) F dX12_pitch_28 (by decide) ?_
    exact v_sub [0, 1, 2, 3] rfl (h r_a r_a)
  · refine v_iload_n F dX12_pitch_9 2 rfl rfl ?_
    refine v_i2l F dX12_pitch_10 ?_
    refine v_lconst (v := 0) F dX12_pitch_11 (by decide) ?_
    refine v_aload_n F dX12_pitch_12 0 rfl rfl ?_
    refine g_X12_513 F r_a h dX12_pitch_13 (fun b17 r_b17 h => ?_)
    refine v_iload_n F dX12_pitch_16 1 rfl rfl ?_
    refine v_iald F r_b17 o_103 h dX12_pitch_17 (fun h => ?_)
    refine v_iconst (v := 1) F dX12_pitch_18 (by decide) ?_
    refine v_isub F dX12_pitch_19 ?_
    refine v_i2l F dX12_pitch_20 ?_
    refine v_cI0 (v_runS F k_X12_9 (c_X12_in h) rfl rfl (Nat.le_of_ble_eq_true rfl) (by decide) (by decide) dX12_pitch_21) ⟨rfl, rfl⟩ (fun r19 S18 h hE => ?_)
    obtain ⟨nz_r19, h⟩ := h
    have r_a := r_a.tr hE
    refine v_if_ne (tgt := 31) F dX12_pitch_24 (by decide) h (fun h => ?_) (fun h => ?_)
    · refine v_iload_n F dX12_pitch_31 3 rfl rfl ?_
      refine v_i2l F dX12_pitch_32 ?_
      refine v_lconst (v := 0) F dX12_pitch_33 (by decide) ?_
      refine v_ldc2 F kc_X12_605 dX12_pitch_34 ?_
      refine v_cI0 (v_runS F k_X12_9 (c_X12_in h) rfl rfl (Nat.le_of_ble_eq_true rfl) (by decide) (by decide) dX12_pitch_37) ⟨rfl, rfl⟩ (fun r21 S20 h hE => ?_)
      obtain ⟨nz_r21, h⟩ := h
      have r_a := r_a.tr hE
      refine v_if_ne (tgt := 47) F dX12_pitch_40 (by decide) h (fun h => ?_) (fun h => ?_)
      · refine v_iconst (v := 0) F dX12_pitch_47 (by decide) ?_
        exact v_sub [0, 1, 2, 3] rfl (h r_a r_a)
      · refine v_iconst (v := 2) F dX12_pitch_43 (by decide) ?_
        refine v_goto (tgt := 48) F dX12_pitch_44 (by decide) ?_
        exact v_sub [0, 1, 2, 3] rfl (h r_a r_a)
    · refine v_iconst (v := 1) F dX12_pitch_27 (by decide) ?_
      refine v_goto (tgt := 48) F dX12_pitch_28 (by decide) ?_
      exact v_sub [0, 1, 2, 3] rfl (h r_a r_a)
theorem dX12_word_0 : decode cX12_word 0 = .ok (.aload_n 0, 1) := by decide +kernel
theorem dX12_word_1 : decode cX12_word 1 = .ok (.aload_n 0, 1) := by decide +kernel
theorem dX12_word_2 : decode cX12_word 2 = .ok (.iload_n 1, 1) := by decide +kernel
theorem dX12_word_3 : decode cX12_word 3 = .ok (.invokevirtual 599, 3) := by decide +kernel
theorem dX12_word_6 : decode cX12_word 6 = .ok (.ifCond .ne 7, 3) := by decide +kernel
theorem dX12_word_9 : decode cX12_word 9 = .ok (.iconst 1, 1) := by decide +kernel
theorem dX12_word_10 : decode cX12_word 10 = .ok (.goto 20, 3) := by decide +kernel
theorem dX12_word_13 : decode cX12_word 13 = .ok (.iload_n 2, 1) := by decide +kernel
theorem dX12_word_14 : decode cX12_word 14 = .ok (.i2l, 1) := by decide +kernel
theorem dX12_word_15 : decode cX12_word 15 = .ok (.lconst 1, 1) := by decide +kernel
theorem dX12_word_16 : decode cX12_word 16 = .ok (.ldc2_w 605, 3) := by decide +kernel
theorem dX12_word_19 : decode cX12_word 19 = .ok (.invokestatic 9, 3) := by decide +kernel
theorem dX12_word_22 : decode cX12_word 22 = .ok (.ifCond .ne 7, 3) := by decide +kernel
theorem dX12_word_25 : decode cX12_word 25 = .ok (.iconst 2, 1) := by decide +kernel
theorem dX12_word_26 : decode cX12_word 26 = .ok (.goto 4, 3) := by decide +kernel
theorem dX12_word_29 : decode cX12_word 29 = .ok (.iconst 0, 1) := by decide +kernel
theorem dX12_word_30 : decode cX12_word 30 = .ok (.putfield 1, 3) := by decide +kernel
theorem dX12_word_33 : decode cX12_word 33 = .ok (.aload_n 0, 1) := by decide +kernel
theorem dX12_word_34 : decode cX12_word 34 = .ok (.getfield 1, 3) := by decide +kernel
theorem dX12_word_37 : decode cX12_word 37 = .ok (.ifCond .le 5, 3) := by decide +kernel
theorem dX12_word_40 : decode cX12_word 40 = .ok (.iconst 0, 1) := by decide +kernel
theorem dX12_word_41 : decode cX12_word 41 = .ok (.ireturn, 1) := by decide +kernel
theorem dX12_word_42 : decode cX12_word 42 = .ok (.iconst 3, 1) := by decide +kernel
theorem dX12_word_43 : decode cX12_word 43 = .ok (.iload_n 1, 1) := by decide +kernel
theorem dX12_word_44 : decode cX12_word 44 = .ok (.imul, 1) := by decide +kernel
theorem dX12_word_45 : decode cX12_word 45 = .ok (.iload_n 2, 1) := by decide +kernel
theorem dX12_word_46 : decode cX12_word 46 = .ok (.iadd, 1) := by decide +kernel
theorem dX12_word_47 : decode cX12_word 47 = .ok (.iconst 1, 1) := by decide +kernel
theorem dX12_word_48 : decode cX12_word 48 = .ok (.isub, 1) := by decide +kernel
theorem dX12_word_49 : decode cX12_word 49 = .ok (.istore 4, 2) := by decide +kernel
theorem dX12_word_51 : decode cX12_word 51 = .ok (.iload_n 3, 1) := by decide +kernel
theorem dX12_word_52 : decode cX12_word 52 = .ok (.i2l, 1) := by decide +kernel
theorem dX12_word_53 : decode cX12_word 53 = .ok (.lconst 0, 1) := by decide +kernel
theorem dX12_word_54 : decode cX12_word 54 = .ok (.aload_n 0, 1) := by decide +kernel
theorem dX12_word_55 : decode cX12_word 55 = .ok (.getfield 540, 3) := by decide +kernel
theorem dX12_word_58 : decode cX12_word 58 = .ok (.iload 4, 2) := by decide +kernel
theorem dX12_word_60 : decode cX12_word 60 = .ok (.iaload, 1) := by decide +kernel
theorem dX12_word_61 : decode cX12_word 61 = .ok (.iconst 1, 1) := by decide +kernel
theorem dX12_word_62 : decode cX12_word 62 = .ok (.isub, 1) := by decide +kernel
theorem dX12_word_63 : decode cX12_word 63 = .ok (.i2l, 1) := by decide +kernel
theorem dX12_word_64 : decode cX12_word 64 = .ok (.invokestatic 9, 3) := by decide +kernel
theorem dX12_word_67 : decode cX12_word 67 = .ok (.ifCond .eq 20, 3) := by decide +kernel
theorem dX12_word_70 : decode cX12_word 70 = .ok (.aload_n 0, 1) := by decide +kernel
theorem dX12_word_71 : decode cX12_word 71 = .ok (.getfield 507, 3) := by decide +kernel
theorem dX12_word_74 : decode cX12_word 74 = .ok (.aload_n 0, 1) := by decide +kernel
theorem dX12_word_75 : decode cX12_word 75 = .ok (.getfield 537, 3) := by decide +kernel
theorem dX12_word_78 : decode cX12_word 78 = .ok (.iload 4, 2) := by decide +kernel
theorem dX12_word_80 : decode cX12_word 80 = .ok (.iaload, 1) := by decide +kernel
theorem dX12_word_81 : decode cX12_word 81 = .ok (.iload_n 3, 1) := by decide +kernel
theorem dX12_word_82 : decode cX12_word 82 = .ok (.iadd, 1) := by decide +kernel
theorem dX12_word_83 : decode cX12_word 83 = .ok (.baload, 1) := by decide +kernel
theorem dX12_word_84 : decode cX12_word 84 = .ok (.goto 4, 3) := by decide +kernel
theorem dX12_word_87 : decode cX12_word 87 = .ok (.iconst (-1), 1) := by decide +kernel
theorem dX12_word_88 : decode cX12_word 88 = .ok (.ireturn, 1) := by decide +kernel
abbrev rm_X12_word : Room := { frames := 2, cells := 0, slots := 0, locals := 46 }
def wp_X12_word (a : Nat) (p1 : Int32) (p2 : Int32) (p3 : Int32) (S : PS) (Q : Int32 → PS → Prop) : Prop :=
  wp_X12_isEvent a p1 S (fun (r2 : Int32) (S1 : PS) => 
 (∀ K30_6 : Nat → Int32 → PS → Prop, (∀ (t3 : Nat) (t4 : Int32) (S5 : PS),
 (∀ S7, S7 = sI S5 96 t3 t4 → (if fI S7 96 a ≤ 0 then
 (∀ v8, v8 = (((3 : Int32) * p1) + p2) - 1 → (∃ b9, fR S7 200 a = some b9 ∧ (vp_in v8 (aN S7 b9) ∧ wp_X12_in (p3.toInt64) 0 (((aI S7 112 b9 (v8).toNatClampNeg) - 1).toInt64) S7 (fun (r11 : Int32) (S10 : PS) => 
 (if r11 = 0 then
 Q (-1) S10
 else
 (∃ b12, fR S10 189 a = some b12 ∧ (∃ b13, fR S10 199 a = some b13 ∧ (vp_in v8 (aN S10 b13) ∧ (vp_in ((aI S10 111 b13 (v8).toNatClampNeg) + p3) (aN S10 b12) ∧ Q (aI S10 101 b12 ((aI S10 111 b13 (v8).toNatClampNeg) + p3).toNatClampNeg) S10)))))))))
 else
 Q 0 S7))
 → K30_6 t3 t4 S5) →
 (if r2 = 0 then
 K30_6 a 1 S1
 else
 wp_X12_in (p2.toInt64) 1 3 S1 (fun (r15 : Int32) (S14 : PS) => 
 (if r15 = 0 then
 K30_6 a 2 S14
 else
 K30_6 a 0 S14)))))
set_option maxRecDepth 100000 in
set_option maxHeartbeats 4000000 in
theorem c_X12_word {l : Launch} {E : EE} {A : Nat → Prop} {a : Nat} {p1 : Int32} {p2 : Int32} {p3 : Int32} {S : PS} {Q : Int32 → PS → Prop} (r_a : Rf S a 9) (h : wp_X12_word a p1 p2 p3 S Q) : MtI l yX12_word (.code yX12_word cX12_word 5 (some .int)) rm_X12_word E A [.ref a, .int p1, .int p2, .int p3] S Q := by
  refine MtI.of (by decide) (Nat.le_of_ble_eq_true rfl) (fun X F hQ hN => ?_)
  show VV X (0, 0) S [(0, .ref a), (1, .int p1), (2, .int p2), (3, .int p3)] [] 0
  unfold wp_X12_word at h
  refine v_aload_n F dX12_word_0 0 rfl rfl ?_
  refine v_aload_n F dX12_word_1 0 rfl rfl ?_
  refine v_iload_n F dX12_word_2 1 rfl rfl ?_
  refine v_cI0 (v_runV F k_X12_599 rfl (c_X12_isEvent r_a h) r_a rfl rfl (Nat.le_of_ble_eq_true rfl) (by decide) (by decide) dX12_word_3) ⟨rfl, rfl⟩ (fun r2 S1 h hE => ?_)
  obtain ⟨nz_r2, h⟩ := h
  have r_a := r_a.tr hE
  have h := h (fun (t3 : Nat) (t4 : Int32) (S5 : PS) => Rf S5 a 9 → Rf S5 t3 9 → VV X (0, 0) S5 [(0, .ref a), (1, .int p1), (2, .int p2), (3, .int p3)] [.int t4, .ref t3] 30) (by
    intro t3 t4 S5 h r_a r_t3
    refine p_X12_1 F r_t3 h dX12_word_30 (fun S7 h hE => ?_)
    have r_a := r_a.tr hE
    refine v_aload_n F dX12_word_33 0 rfl rfl ?_
    refine g_X12_1 F r_a dX12_word_34 ?_
    refine v_if_le (tgt := 42) F dX12_word_37 (by decide) h (fun h => ?_) (fun h => ?_)
    · refine v_iconst (v := 3) F dX12_word_42 (by decide) ?_
      refine v_iload_n F dX12_word_43 1 rfl rfl ?_
      refine v_imul F dX12_word_44 ?_
      refine v_iload_n F dX12_word_45 2 rfl rfl ?_
      refine v_iadd F dX12_word_46 ?_
      refine v_iconst (v := 1) F dX12_word_47 (by decide) ?_
      refine v_isub F dX12_word_48 ?_
      refine v_topi (fun v8 e_v8 => ?_)
      have h := h v8 e_v8
      refine v_istore (lv1 := [(4, .int v8), (0, .ref a), (1, .int p1), (2, .int p2), (3, .int p3)]) F dX12_word_49 (by rw [hN]; decide) rfl ?_
      refine v_iload_n F dX12_word_51 4 rfl rfl ?_
      refine v_i2l F dX12_word_52 ?_
      refine v_lconst (v := 0) F dX12_word_53 (by decide) ?_
      refine v_aload_n F dX12_word_54 1 rfl rfl ?_
      refine g_X12_540 F r_a h dX12_word_55 (fun b9 r_b9 h => ?_)
      refine v_iload F dX12_word_58 0 rfl ?_
      refine v_iald F r_b9 o_112 h dX12_word_60 (fun h => ?_)
      refine v_iconst (v := 1) F dX12_word_61 (by decide) ?_
      refine v_isub F dX12_word_62 ?_
      refine v_i2l F dX12_word_63 ?_
      refine v_cI0 (v_runS F k_X12_9 (c_X12_in h) rfl rfl (Nat.le_of_ble_eq_true rfl) (by decide) (by decide) dX12_word_64) ⟨rfl, rfl⟩ (fun r11 S10 h hE => ?_)
      obtain ⟨nz_r11, h⟩ := h
      have r_a := r_a.tr hE
      refine v_if_eq (tgt := 87) F dX12_word_67 (by decide) h (fun h => ?_) (fun h => ?_)
      · refine v_iconst (v := (-1)) F dX12_word_87 (by decide) ?_
        exact v_iret F hQ h (by decide) dX12_word_88
      · refine v_aload_n F dX12_word_70 1 rfl rfl ?_
        refine g_X12_507 F r_a h dX12_word_71 (fun b12 r_b12 h => ?_)
        refine v_aload_n F dX12_word_74 1 rfl rfl ?_
        refine g_X12_537 F r_a h dX12_word_75 (fun b13 r_b13 h => ?_)
        refine v_iload F dX12_word_78 0 rfl ?_
        refine v_iald F r_b13 o_111 h dX12_word_80 (fun h => ?_)
        refine v_iload_n F dX12_word_81 4 rfl rfl ?_
        refine v_iadd F dX12_word_82 ?_
        refine v_bald F r_b12 o_101 h dX12_word_83 (fun h => ?_)
        refine v_goto (tgt := 88) F dX12_word_84 (by decide) ?_
        exact v_iret F hQ h (by decide) dX12_word_88
    · refine v_iconst (v := 0) F dX12_word_40 (by decide) ?_
      exact v_iret F hQ h (by decide) dX12_word_41)
  refine v_if_ne (tgt := 13) F dX12_word_6 (by decide) h (fun h => ?_) (fun h => ?_)
  · refine v_iload_n F dX12_word_13 2 rfl rfl ?_
    refine v_i2l F dX12_word_14 ?_
    refine v_lconst (v := 1) F dX12_word_15 (by decide) ?_
    refine v_ldc2 F kc_X12_605 dX12_word_16 ?_
    refine v_cI0 (v_runS F k_X12_9 (c_X12_in h) rfl rfl (Nat.le_of_ble_eq_true rfl) (by decide) (by decide) dX12_word_19) ⟨rfl, rfl⟩ (fun r15 S14 h hE => ?_)
    obtain ⟨nz_r15, h⟩ := h
    have r_a := r_a.tr hE
    refine v_if_ne (tgt := 29) F dX12_word_22 (by decide) h (fun h => ?_) (fun h => ?_)
    · refine v_iconst (v := 0) F dX12_word_29 (by decide) ?_
      exact v_sub [0, 1, 2, 3] rfl (h r_a r_a)
    · refine v_iconst (v := 2) F dX12_word_25 (by decide) ?_
      refine v_goto (tgt := 30) F dX12_word_26 (by decide) ?_
      exact v_sub [0, 1, 2, 3] rfl (h r_a r_a)
  · refine v_iconst (v := 1) F dX12_word_9 (by decide) ?_
    refine v_goto (tgt := 30) F dX12_word_10 (by decide) ?_
    exact v_sub [0, 1, 2, 3] rfl (h r_a r_a)
theorem dX12_walk_0 : decode cX12_walk 0 = .ok (.aload_n 0, 1) := by decide +kernel
theorem dX12_walk_1 : decode cX12_walk 1 = .ok (.aload_n 0, 1) := by decide +kernel
theorem dX12_walk_2 : decode cX12_walk 2 = .ok (.iload_n 1, 1) := by decide +kernel
theorem dX12_walk_3 : decode cX12_walk 3 = .ok (.invokevirtual 599, 3) := by decide +kernel
theorem dX12_walk_6 : decode cX12_walk 6 = .ok (.ifCond .eq 7, 3) := by decide +kernel
theorem dX12_walk_9 : decode cX12_walk 9 = .ok (.iconst 0, 1) := by decide +kernel
theorem dX12_walk_10 : decode cX12_walk 10 = .ok (.goto 4, 3) := by decide +kernel
theorem dX12_walk_13 : decode cX12_walk 13 = .ok (.iconst 1, 1) := by decide +kernel
theorem dX12_walk_14 : decode cX12_walk 14 = .ok (.putfield 1, 3) := by decide +kernel
theorem dX12_walk_17 : decode cX12_walk 17 = .ok (.aload_n 0, 1) := by decide +kernel
theorem dX12_walk_18 : decode cX12_walk 18 = .ok (.getfield 1, 3) := by decide +kernel
theorem dX12_walk_21 : decode cX12_walk 21 = .ok (.ifCond .le 7, 3) := by decide +kernel
theorem dX12_walk_24 : decode cX12_walk 24 = .ok (.iconst 0, 1) := by decide +kernel
theorem dX12_walk_25 : decode cX12_walk 25 = .ok (.goto 9, 3) := by decide +kernel
theorem dX12_walk_28 : decode cX12_walk 28 = .ok (.aload_n 0, 1) := by decide +kernel
theorem dX12_walk_29 : decode cX12_walk 29 = .ok (.getfield 543, 3) := by decide +kernel
theorem dX12_walk_32 : decode cX12_walk 32 = .ok (.iload_n 1, 1) := by decide +kernel
theorem dX12_walk_33 : decode cX12_walk 33 = .ok (.iaload, 1) := by decide +kernel
theorem dX12_walk_34 : decode cX12_walk 34 = .ok (.ireturn, 1) := by decide +kernel
abbrev rm_X12_walk : Room := { frames := 2, cells := 0, slots := 0, locals := 46 }
def wp_X12_walk (a : Nat) (p1 : Int32) (S : PS) (Q : Int32 → PS → Prop) : Prop :=
  wp_X12_isEvent a p1 S (fun (r2 : Int32) (S1 : PS) => 
 (∀ K14_6 : Nat → Int32 → PS → Prop, (∀ (t3 : Nat) (t4 : Int32) (S5 : PS),
 (∀ S7, S7 = sI S5 96 t3 t4 → (if fI S7 96 a ≤ 0 then
 (∃ b8, fR S7 201 a = some b8 ∧ (vp_in p1 (aN S7 b8) ∧ Q (aI S7 113 b8 (p1).toNatClampNeg) S7))
 else
 Q 0 S7))
 → K14_6 t3 t4 S5) →
 (if r2 = 0 then
 K14_6 a 1 S1
 else
 K14_6 a 0 S1)))
set_option maxRecDepth 100000 in
set_option maxHeartbeats 4000000 in
theorem c_X12_walk {l : Launch} {E : EE} {A : Nat → Prop} {a : Nat} {p1 : Int32} {S : PS} {Q : Int32 → PS → Prop} (r_a : Rf S a 9) (h : wp_X12_walk a p1 S Q) : MtI l yX12_walk (.code yX12_walk cX12_walk 2 (some .int)) rm_X12_walk E A [.ref a, .int p1] S Q := by
  refine MtI.of (by decide) (Nat.le_of_ble_eq_true rfl) (fun X F hQ hN => ?_)
  show VV X (0, 0) S [(0, .ref a), (1, .int p1)] [] 0
  unfold wp_X12_walk at h
  refine v_aload_n F dX12_walk_0 0 rfl rfl ?_
  refine v_aload_n F dX12_walk_1 0 rfl rfl ?_
  refine v_iload_n F dX12_walk_2 1 rfl rfl ?_
  refine v_cI0 (v_runV F k_X12_599 rfl (c_X12_isEvent r_a h) r_a rfl rfl (Nat.le_of_ble_eq_true rfl) (by decide) (by decide) dX12_walk_3) ⟨rfl, rfl⟩ (fun r2 S1 h hE => ?_)
  obtain ⟨nz_r2, h⟩ := h
  have r_a := r_a.tr hE
  have h := h (fun (t3 : Nat) (t4 : Int32) (S5 : PS) => Rf S5 a 9 → Rf S5 t3 9 → VV X (0, 0) S5 [(0, .ref a), (1, .int p1)] [.int t4, .ref t3] 14) (by
    intro t3 t4 S5 h r_a r_t3
    refine p_X12_1 F r_t3 h dX12_walk_14 (fun S7 h hE => ?_)
    have r_a := r_a.tr hE
    refine v_aload_n F dX12_walk_17 0 rfl rfl ?_
    refine g_X12_1 F r_a dX12_walk_18 ?_
    refine v_if_le (tgt := 28) F dX12_walk_21 (by decide) h (fun h => ?_) (fun h => ?_)
    · refine v_aload_n F dX12_walk_28 0 rfl rfl ?_
      refine g_X12_543 F r_a h dX12_walk_29 (fun b8 r_b8 h => ?_)
      refine v_iload_n F dX12_walk_32 1 rfl rfl ?_
      refine v_iald F r_b8 o_113 h dX12_walk_33 (fun h => ?_)
      exact v_iret F hQ h (by decide) dX12_walk_34
    · refine v_iconst (v := 0) F dX12_walk_24 (by decide) ?_
      refine v_goto (tgt := 34) F dX12_walk_25 (by decide) ?_
      exact v_iret F hQ h (by decide) dX12_walk_34)
  refine v_if_eq (tgt := 13) F dX12_walk_6 (by decide) h (fun h => ?_) (fun h => ?_)
  · refine v_iconst (v := 1) F dX12_walk_13 (by decide) ?_
    exact v_sub [0, 1] rfl (h r_a r_a)
  · refine v_iconst (v := 0) F dX12_walk_9 (by decide) ?_
    refine v_goto (tgt := 14) F dX12_walk_10 (by decide) ?_
    exact v_sub [0, 1] rfl (h r_a r_a)
theorem dX12_bar_0 : decode cX12_bar 0 = .ok (.iconst 0, 1) := by decide +kernel
theorem dX12_bar_1 : decode cX12_bar 1 = .ok (.istore_n 3, 1) := by decide +kernel
theorem dX12_bar_2 : decode cX12_bar 2 = .ok (.iload_n 1, 1) := by decide +kernel
theorem dX12_bar_3 : decode cX12_bar 3 = .ok (.i2l, 1) := by decide +kernel
theorem dX12_bar_4 : decode cX12_bar 4 = .ok (.lstore 4, 2) := by decide +kernel
theorem dX12_bar_6 : decode cX12_bar 6 = .ok (.iload_n 3, 1) := by decide +kernel
theorem dX12_bar_7 : decode cX12_bar 7 = .ok (.aload_n 0, 1) := by decide +kernel
theorem dX12_bar_8 : decode cX12_bar 8 = .ok (.getfield 561, 3) := by decide +kernel
theorem dX12_bar_11 : decode cX12_bar 11 = .ok (.if_icmp .ge 30, 3) := by decide +kernel
theorem dX12_bar_14 : decode cX12_bar 14 = .ok (.lload 4, 2) := by decide +kernel
theorem dX12_bar_16 : decode cX12_bar 16 = .ok (.aload_n 0, 1) := by decide +kernel
theorem dX12_bar_17 : decode cX12_bar 17 = .ok (.iload_n 3, 1) := by decide +kernel
theorem dX12_bar_18 : decode cX12_bar 18 = .ok (.invokevirtual 596, 3) := by decide +kernel
theorem dX12_bar_21 : decode cX12_bar 21 = .ok (.lcmp, 1) := by decide +kernel
theorem dX12_bar_22 : decode cX12_bar 22 = .ok (.ifCond .lt 19, 3) := by decide +kernel
theorem dX12_bar_25 : decode cX12_bar 25 = .ok (.lload 4, 2) := by decide +kernel
theorem dX12_bar_27 : decode cX12_bar 27 = .ok (.aload_n 0, 1) := by decide +kernel
theorem dX12_bar_28 : decode cX12_bar 28 = .ok (.iload_n 3, 1) := by decide +kernel
theorem dX12_bar_29 : decode cX12_bar 29 = .ok (.invokevirtual 596, 3) := by decide +kernel
theorem dX12_bar_32 : decode cX12_bar 32 = .ok (.lsub, 1) := by decide +kernel
theorem dX12_bar_33 : decode cX12_bar 33 = .ok (.lstore 4, 2) := by decide +kernel
theorem dX12_bar_35 : decode cX12_bar 35 = .ok (.iinc 3 1, 3) := by decide +kernel
theorem dX12_bar_38 : decode cX12_bar 38 = .ok (.goto (-32), 3) := by decide +kernel
theorem dX12_bar_41 : decode cX12_bar 41 = .ok (.aload_n 0, 1) := by decide +kernel
theorem dX12_bar_42 : decode cX12_bar 42 = .ok (.iload_n 1, 1) := by decide +kernel
theorem dX12_bar_43 : decode cX12_bar 43 = .ok (.ifCond .lt 11, 3) := by decide +kernel
theorem dX12_bar_46 : decode cX12_bar 46 = .ok (.iload_n 3, 1) := by decide +kernel
theorem dX12_bar_47 : decode cX12_bar 47 = .ok (.aload_n 0, 1) := by decide +kernel
theorem dX12_bar_48 : decode cX12_bar 48 = .ok (.getfield 561, 3) := by decide +kernel
theorem dX12_bar_51 : decode cX12_bar 51 = .ok (.if_icmp .ne 7, 3) := by decide +kernel
theorem dX12_bar_54 : decode cX12_bar 54 = .ok (.iconst 1, 1) := by decide +kernel
theorem dX12_bar_55 : decode cX12_bar 55 = .ok (.goto 20, 3) := by decide +kernel
theorem dX12_bar_58 : decode cX12_bar 58 = .ok (.iload_n 2, 1) := by decide +kernel
theorem dX12_bar_59 : decode cX12_bar 59 = .ok (.i2l, 1) := by decide +kernel
theorem dX12_bar_60 : decode cX12_bar 60 = .ok (.lconst 0, 1) := by decide +kernel
theorem dX12_bar_61 : decode cX12_bar 61 = .ok (.ldc2_w 605, 3) := by decide +kernel
theorem dX12_bar_64 : decode cX12_bar 64 = .ok (.invokestatic 9, 3) := by decide +kernel
theorem dX12_bar_67 : decode cX12_bar 67 = .ok (.ifCond .ne 7, 3) := by decide +kernel
theorem dX12_bar_70 : decode cX12_bar 70 = .ok (.iconst 2, 1) := by decide +kernel
theorem dX12_bar_71 : decode cX12_bar 71 = .ok (.goto 4, 3) := by decide +kernel
theorem dX12_bar_74 : decode cX12_bar 74 = .ok (.iconst 0, 1) := by decide +kernel
theorem dX12_bar_75 : decode cX12_bar 75 = .ok (.putfield 1, 3) := by decide +kernel
theorem dX12_bar_78 : decode cX12_bar 78 = .ok (.aload_n 0, 1) := by decide +kernel
theorem dX12_bar_79 : decode cX12_bar 79 = .ok (.getfield 1, 3) := by decide +kernel
theorem dX12_bar_82 : decode cX12_bar 82 = .ok (.ifCond .le 5, 3) := by decide +kernel
theorem dX12_bar_85 : decode cX12_bar 85 = .ok (.lconst 0, 1) := by decide +kernel
theorem dX12_bar_86 : decode cX12_bar 86 = .ok (.lreturn, 1) := by decide +kernel
theorem dX12_bar_87 : decode cX12_bar 87 = .ok (.aload_n 0, 1) := by decide +kernel
theorem dX12_bar_88 : decode cX12_bar 88 = .ok (.getfield 549, 3) := by decide +kernel
theorem dX12_bar_91 : decode cX12_bar 91 = .ok (.iload_n 3, 1) := by decide +kernel
theorem dX12_bar_92 : decode cX12_bar 92 = .ok (.laload, 1) := by decide +kernel
theorem dX12_bar_93 : decode cX12_bar 93 = .ok (.lload 4, 2) := by decide +kernel
theorem dX12_bar_95 : decode cX12_bar 95 = .ok (.aload_n 0, 1) := by decide +kernel
theorem dX12_bar_96 : decode cX12_bar 96 = .ok (.getfield 552, 3) := by decide +kernel
theorem dX12_bar_99 : decode cX12_bar 99 = .ok (.iload_n 3, 1) := by decide +kernel
theorem dX12_bar_100 : decode cX12_bar 100 = .ok (.iaload, 1) := by decide +kernel
theorem dX12_bar_101 : decode cX12_bar 101 = .ok (.aload_n 0, 1) := by decide +kernel
theorem dX12_bar_102 : decode cX12_bar 102 = .ok (.getfield 555, 3) := by decide +kernel
theorem dX12_bar_105 : decode cX12_bar 105 = .ok (.iload_n 3, 1) := by decide +kernel
theorem dX12_bar_106 : decode cX12_bar 106 = .ok (.iaload, 1) := by decide +kernel
theorem dX12_bar_107 : decode cX12_bar 107 = .ok (.invokestatic 474, 3) := by decide +kernel
theorem dX12_bar_110 : decode cX12_bar 110 = .ok (.lmul, 1) := by decide +kernel
theorem dX12_bar_111 : decode cX12_bar 111 = .ok (.ladd, 1) := by decide +kernel
theorem dX12_bar_112 : decode cX12_bar 112 = .ok (.lstore 6, 2) := by decide +kernel
theorem dX12_bar_114 : decode cX12_bar 114 = .ok (.lload 6, 2) := by decide +kernel
theorem dX12_bar_116 : decode cX12_bar 116 = .ok (.aload_n 0, 1) := by decide +kernel
theorem dX12_bar_117 : decode cX12_bar 117 = .ok (.getfield 552, 3) := by decide +kernel
theorem dX12_bar_120 : decode cX12_bar 120 = .ok (.iload_n 3, 1) := by decide +kernel
theorem dX12_bar_121 : decode cX12_bar 121 = .ok (.iaload, 1) := by decide +kernel
theorem dX12_bar_122 : decode cX12_bar 122 = .ok (.aload_n 0, 1) := by decide +kernel
theorem dX12_bar_123 : decode cX12_bar 123 = .ok (.getfield 555, 3) := by decide +kernel
theorem dX12_bar_126 : decode cX12_bar 126 = .ok (.iload_n 3, 1) := by decide +kernel
theorem dX12_bar_127 : decode cX12_bar 127 = .ok (.iaload, 1) := by decide +kernel
theorem dX12_bar_128 : decode cX12_bar 128 = .ok (.invokestatic 474, 3) := by decide +kernel
theorem dX12_bar_131 : decode cX12_bar 131 = .ok (.ladd, 1) := by decide +kernel
theorem dX12_bar_132 : decode cX12_bar 132 = .ok (.lstore 8, 2) := by decide +kernel
theorem dX12_bar_134 : decode cX12_bar 134 = .ok (.iload_n 2, 1) := by decide +kernel
theorem dX12_bar_135 : decode cX12_bar 135 = .ok (.iconst 3, 1) := by decide +kernel
theorem dX12_bar_136 : decode cX12_bar 136 = .ok (.if_icmp .ne 56, 3) := by decide +kernel
theorem dX12_bar_139 : decode cX12_bar 139 = .ok (.lconst 0, 1) := by decide +kernel
theorem dX12_bar_140 : decode cX12_bar 140 = .ok (.lstore 10, 2) := by decide +kernel
theorem dX12_bar_142 : decode cX12_bar 142 = .ok (.iconst 0, 1) := by decide +kernel
theorem dX12_bar_143 : decode cX12_bar 143 = .ok (.istore 12, 2) := by decide +kernel
theorem dX12_bar_145 : decode cX12_bar 145 = .ok (.iload 12, 2) := by decide +kernel
theorem dX12_bar_147 : decode cX12_bar 147 = .ok (.aload_n 0, 1) := by decide +kernel
theorem dX12_bar_148 : decode cX12_bar 148 = .ok (.getfield 576, 3) := by decide +kernel
theorem dX12_bar_151 : decode cX12_bar 151 = .ok (.if_icmp .ge 38, 3) := by decide +kernel
theorem dX12_bar_154 : decode cX12_bar 154 = .ok (.lload 10, 2) := by decide +kernel
theorem dX12_bar_156 : decode cX12_bar 156 = .ok (.aload_n 0, 1) := by decide +kernel
theorem dX12_bar_157 : decode cX12_bar 157 = .ok (.getfield 522, 3) := by decide +kernel
theorem dX12_bar_160 : decode cX12_bar 160 = .ok (.iload 12, 2) := by decide +kernel
theorem dX12_bar_162 : decode cX12_bar 162 = .ok (.laload, 1) := by decide +kernel
theorem dX12_bar_163 : decode cX12_bar 163 = .ok (.lload 6, 2) := by decide +kernel
theorem dX12_bar_165 : decode cX12_bar 165 = .ok (.lload 8, 2) := by decide +kernel
theorem dX12_bar_167 : decode cX12_bar 167 = .ok (.lconst 1, 1) := by decide +kernel
theorem dX12_bar_168 : decode cX12_bar 168 = .ok (.lsub, 1) := by decide +kernel
theorem dX12_bar_169 : decode cX12_bar 169 = .ok (.invokestatic 9, 3) := by decide +kernel
theorem dX12_bar_172 : decode cX12_bar 172 = .ok (.ifCond .eq 7, 3) := by decide +kernel
theorem dX12_bar_175 : decode cX12_bar 175 = .ok (.lconst 1, 1) := by decide +kernel
theorem dX12_bar_176 : decode cX12_bar 176 = .ok (.goto 4, 3) := by decide +kernel
theorem dX12_bar_179 : decode cX12_bar 179 = .ok (.lconst 0, 1) := by decide +kernel
theorem dX12_bar_180 : decode cX12_bar 180 = .ok (.ladd, 1) := by decide +kernel
theorem dX12_bar_181 : decode cX12_bar 181 = .ok (.lstore 10, 2) := by decide +kernel
theorem dX12_bar_183 : decode cX12_bar 183 = .ok (.iinc 12 1, 3) := by decide +kernel
theorem dX12_bar_186 : decode cX12_bar 186 = .ok (.goto (-41), 3) := by decide +kernel
theorem dX12_bar_189 : decode cX12_bar 189 = .ok (.lload 10, 2) := by decide +kernel
theorem dX12_bar_191 : decode cX12_bar 191 = .ok (.lreturn, 1) := by decide +kernel
theorem dX12_bar_192 : decode cX12_bar 192 = .ok (.iload_n 2, 1) := by decide +kernel
theorem dX12_bar_193 : decode cX12_bar 193 = .ok (.ifCond .ne 8, 3) := by decide +kernel
theorem dX12_bar_196 : decode cX12_bar 196 = .ok (.lload 6, 2) := by decide +kernel
theorem dX12_bar_198 : decode cX12_bar 198 = .ok (.goto 25, 3) := by decide +kernel
theorem dX12_bar_201 : decode cX12_bar 201 = .ok (.iload_n 2, 1) := by decide +kernel
theorem dX12_bar_202 : decode cX12_bar 202 = .ok (.iconst 1, 1) := by decide +kernel
theorem dX12_bar_203 : decode cX12_bar 203 = .ok (.if_icmp .ne 13, 3) := by decide +kernel
theorem dX12_bar_206 : decode cX12_bar 206 = .ok (.aload_n 0, 1) := by decide +kernel
theorem dX12_bar_207 : decode cX12_bar 207 = .ok (.getfield 552, 3) := by decide +kernel
theorem dX12_bar_210 : decode cX12_bar 210 = .ok (.iload_n 3, 1) := by decide +kernel
theorem dX12_bar_211 : decode cX12_bar 211 = .ok (.iaload, 1) := by decide +kernel
theorem dX12_bar_212 : decode cX12_bar 212 = .ok (.i2l, 1) := by decide +kernel
theorem dX12_bar_213 : decode cX12_bar 213 = .ok (.goto 10, 3) := by decide +kernel
theorem dX12_bar_216 : decode cX12_bar 216 = .ok (.aload_n 0, 1) := by decide +kernel
theorem dX12_bar_217 : decode cX12_bar 217 = .ok (.getfield 555, 3) := by decide +kernel
theorem dX12_bar_220 : decode cX12_bar 220 = .ok (.iload_n 3, 1) := by decide +kernel
theorem dX12_bar_221 : decode cX12_bar 221 = .ok (.iaload, 1) := by decide +kernel
theorem dX12_bar_222 : decode cX12_bar 222 = .ok (.i2l, 1) := by decide +kernel
theorem dX12_bar_223 : decode cX12_bar 223 = .ok (.lreturn, 1) := by decide +kernel
abbrev rm_X12_bar : Room := { frames := 2, cells := 0, slots := 0, locals := 46 }
def wp_X12_bar (a : Nat) (p1 : Int32) (p2 : Int32) (S : PS) (Q : Int64 → PS → Prop) : Prop :=
  (∀ v1, v1 = p1.toInt64 → (∀ P6_2 : Int32 → Int64 → PS → Prop, (∀ (x3_3 : Int32) (x4_4 : Int64) (S5 : PS),
 (∀ K41_7 : PS → Prop, (∀ (S6 : PS),
 (∀ K75_11 : Nat → Int32 → PS → Prop, (∀ (t8 : Nat) (t9 : Int32) (S10 : PS),
 (∀ S12, S12 = sI S10 96 t8 t9 → (if fI S12 96 a ≤ 0 then
 (∃ b13, fR S12 203 a = some b13 ∧ (vp_in x3_3 (aN S12 b13) ∧ (∃ b14, fR S12 204 a = some b14 ∧ (vp_in x3_3 (aN S12 b14) ∧ (∃ b15, fR S12 205 a = some b15 ∧ (vp_in x3_3 (aN S12 b15) ∧ wp_X12_barLong (aI S12 116 b14 (x3_3).toNatClampNeg) (aI S12 117 b15 (x3_3).toNatClampNeg) S12 (fun (r17 : Int64) (S16 : PS) => 
 (∀ v18, v18 = (aL S12 115 b13 (x3_3).toNatClampNeg) + (x4_4 * r17) → (∃ b19, fR S16 204 a = some b19 ∧ (vp_in x3_3 (aN S16 b19) ∧ (∃ b20, fR S16 205 a = some b20 ∧ (vp_in x3_3 (aN S16 b20) ∧ wp_X12_barLong (aI S16 116 b19 (x3_3).toNatClampNeg) (aI S16 117 b20 (x3_3).toNatClampNeg) S16 (fun (r22 : Int64) (S21 : PS) => 
 (∀ v23, v23 = v18 + r22 → (if p2 = 3 then
 (∀ P145_26 : Int64 → Int32 → PS → Prop, (∀ (x10_27 : Int64) (x12_28 : Int32) (S29 : PS),
 (if fI S29 206 a ≤ x12_28 then
 Q x10_27 S29
 else
 (∃ b30, fR S29 194 a = some b30 ∧ (vp_in x12_28 (aN S29 b30) ∧ wp_X12_in (aL S29 106 b30 (x12_28).toNatClampNeg) v18 (v23 - 1) S29 (fun (r32 : Int32) (S31 : PS) => 
 (∀ K180_36 : Int64 → Int64 → PS → Prop, (∀ (t33 : Int64) (t34 : Int64) (S35 : PS),
 (∀ v37, v37 = t33 + t34 → (∀ v38, v38 = x12_28 + 1 → P145_26 v37 v38 S35))
 → K180_36 t33 t34 S35) →
 (if r32 = 0 then
 K180_36 x10_27 0 S31
 else
 K180_36 x10_27 1 S31))))))
 → P145_26 x10_27 x12_28 S29) → P145_26 0 0 S21)
 else
 (if p2 = 0 then
 Q v18 S21
 else
 (if p2 = 1 then
 (∃ b25, fR S21 204 a = some b25 ∧ (vp_in x3_3 (aN S21 b25) ∧ Q ((aI S21 116 b25 (x3_3).toNatClampNeg).toInt64) S21))
 else
 (∃ b24, fR S21 205 a = some b24 ∧ (vp_in x3_3 (aN S21 b24) ∧ Q ((aI S21 117 b24 (x3_3).toNatClampNeg).toInt64) S21)))))))))))))))))))
 else
 Q 0 S12))
 → K75_11 t8 t9 S10) →
 (if p1 < 0 then
 K75_11 a 1 S6
 else
 (if x3_3 = fI S6 210 a then
 K75_11 a 1 S6
 else
 wp_X12_in (p2.toInt64) 0 3 S6 (fun (r40 : Int32) (S39 : PS) => 
 (if r40 = 0 then
 K75_11 a 2 S39
 else
 K75_11 a 0 S39)))))
 → K41_7 S6) →
 (if fI S5 210 a ≤ x3_3 then
 K41_7 S5
 else
 wp_X12_barsOf a x3_3 S5 (fun (r42 : Int64) (S41 : PS) => 
 (if x4_4 < r42 then
 K41_7 S41
 else
 wp_X12_barsOf a x3_3 S41 (fun (r44 : Int64) (S43 : PS) => 
 (∀ v45, v45 = x4_4 - r44 → (∀ v46, v46 = x3_3 + 1 → P6_2 v46 v45 S43)))))))
 → P6_2 x3_3 x4_4 S5) → P6_2 0 v1 S))
set_option maxRecDepth 100000 in
set_option maxHeartbeats 4000000 in
theorem c_X12_bar {l : Launch} {E : EE} {A : Nat → Prop} {a : Nat} {p1 : Int32} {p2 : Int32} {S : PS} {Q : Int64 → PS → Prop} (r_a : Rf S a 9) (h : wp_X12_bar a p1 p2 S Q) : MtL l yX12_bar (.code yX12_bar cX12_bar 13 (some .long)) rm_X12_bar E A [.ref a, .int p1, .int p2] S Q := by
  refine MtL.of (by decide) (Nat.le_of_ble_eq_true rfl) (fun X F hQ hN => ?_)
  show VV X (0, 0) S [(0, .ref a), (1, .int p1), (2, .int p2)] [] 0
  unfold wp_X12_bar at h
  refine v_iconst (v := 0) F dX12_bar_0 (by decide) ?_
  refine v_istore_n (lv1 := [(3, .int 0), (0, .ref a), (1, .int p1), (2, .int p2)]) F dX12_bar_1 rfl (by rw [hN]; decide) rfl ?_
  refine v_iload_n F dX12_bar_2 2 rfl rfl ?_
  refine v_i2l F dX12_bar_3 ?_
  refine v_topl (fun v1 e_v1 => ?_)
  have h := h v1 e_v1
  refine v_lstore (lv1 := [(4, .long v1), (3, .int 0), (0, .ref a), (1, .int p1), (2, .int p2)]) F dX12_bar_4 (by rw [hN]; decide) rfl ?_
  refine v_sub [2, 3, 4, 1, 0] rfl ?_
  refine h (fun (x3_3 : Int32) (x4_4 : Int64) (S5 : PS) => Rf S5 a 9 → VV X (0, 0) S5 [(0, .ref a), (1, .int p1), (2, .int p2), (3, .int x3_3), (4, .long x4_4)] [] 6) (fun x3_3 x4_4 S5 h r_a => ?_) r_a
  refine v_iload_n F dX12_bar_6 3 rfl rfl ?_
  refine v_aload_n F dX12_bar_7 0 rfl rfl ?_
  refine g_X12_561 F r_a dX12_bar_8 ?_
  have h := h (fun (S6 : PS) => Rf S6 a 9 → VV X (0, 0) S6 [(0, .ref a), (1, .int p1), (2, .int p2), (3, .int x3_3), (4, .long x4_4)] [] 41) (by
    intro S6 h r_a
    refine v_aload_n F dX12_bar_41 0 rfl rfl ?_
    refine v_iload_n F dX12_bar_42 1 rfl rfl ?_
    have h := h (fun (t8 : Nat) (t9 : Int32) (S10 : PS) => Rf S10 a 9 → Rf S10 t8 9 → VV X (0, 0) S10 [(0, .ref a), (2, .int p2), (3, .int x3_3), (4, .long x4_4)] [.int t9, .ref t8] 75) (by
      intro t8 t9 S10 h r_a r_t8
      refine p_X12_1 F r_t8 h dX12_bar_75 (fun S12 h hE => ?_)
      have r_a := r_a.tr hE
      refine v_aload_n F dX12_bar_78 0 rfl rfl ?_
      refine g_X12_1 F r_a dX12_bar_79 ?_
      refine v_if_le (tgt := 87) F dX12_bar_82 (by decide) h (fun h => ?_) (fun h => ?_)
      · refine v_aload_n F dX12_bar_87 0 rfl rfl ?_
        refine g_X12_549 F r_a h dX12_bar_88 (fun b13 r_b13 h => ?_)
        refine v_iload_n F dX12_bar_91 2 rfl rfl ?_
        refine v_lald F r_b13 o_115 h dX12_bar_92 (fun h => ?_)
        refine v_lload F dX12_bar_93 3 rfl ?_
        refine v_aload_n F dX12_bar_95 0 rfl rfl ?_
        refine g_X12_552 F r_a h dX12_bar_96 (fun b14 r_b14 h => ?_)
        refine v_iload_n F dX12_bar_99 2 rfl rfl ?_
        refine v_iald F r_b14 o_116 h dX12_bar_100 (fun h => ?_)
        refine v_aload_n F dX12_bar_101 0 rfl rfl ?_
        refine g_X12_555 F r_a h dX12_bar_102 (fun b15 r_b15 h => ?_)
        refine v_iload_n F dX12_bar_105 2 rfl rfl ?_
        refine v_iald F r_b15 o_117 h dX12_bar_106 (fun h => ?_)
        refine v_cL0 (v_runS F k_X12_474 (c_X12_barLong h) rfl rfl (Nat.le_of_ble_eq_true rfl) (by decide) (by decide) dX12_bar_107) ⟨rfl, rfl⟩ (fun r17 S16 h hE => ?_)
        have r_a := r_a.tr hE
        refine v_lmul F dX12_bar_110 ?_
        refine v_ladd F dX12_bar_111 ?_
        refine v_topl (fun v18 e_v18 => ?_)
        have h := h v18 e_v18
        refine v_lstore (lv1 := [(6, .long v18), (0, .ref a), (2, .int p2), (3, .int x3_3), (4, .long x4_4)]) F dX12_bar_112 (by rw [hN]; decide) rfl ?_
        refine v_lload F dX12_bar_114 0 rfl ?_
        refine v_aload_n F dX12_bar_116 1 rfl rfl ?_
        refine g_X12_552 F r_a h dX12_bar_117 (fun b19 r_b19 h => ?_)
        refine v_iload_n F dX12_bar_120 3 rfl rfl ?_
        refine v_iald F r_b19 o_116 h dX12_bar_121 (fun h => ?_)
        refine v_aload_n F dX12_bar_122 1 rfl rfl ?_
        refine g_X12_555 F r_a h dX12_bar_123 (fun b20 r_b20 h => ?_)
        refine v_iload_n F dX12_bar_126 3 rfl rfl ?_
        refine v_iald F r_b20 o_117 h dX12_bar_127 (fun h => ?_)
        refine v_cL0 (v_runS F k_X12_474 (c_X12_barLong h) rfl rfl (Nat.le_of_ble_eq_true rfl) (by decide) (by decide) dX12_bar_128) ⟨rfl, rfl⟩ (fun r22 S21 h hE => ?_)
        have r_a := r_a.tr hE
        refine v_ladd F dX12_bar_131 ?_
        refine v_topl (fun v23 e_v23 => ?_)
        have h := h v23 e_v23
        refine v_lstore (lv1 := [(8, .long v23), (6, .long v18), (0, .ref a), (2, .int p2), (3, .int x3_3), (4, .long x4_4)]) F dX12_bar_132 (by rw [hN]; decide) rfl ?_
        refine v_iload_n F dX12_bar_134 3 rfl rfl ?_
        refine v_iconst (v := 3) F dX12_bar_135 (by decide) ?_
        refine v_icmp_ne (tgt := 192) F dX12_bar_136 (by decide) h (fun h => ?_) (fun h => ?_)
        · refine v_iload_n F dX12_bar_192 3 rfl rfl ?_
          refine v_if_ne (tgt := 201) F dX12_bar_193 (by decide) h (fun h => ?_) (fun h => ?_)
          · refine v_iload_n F dX12_bar_201 3 rfl rfl ?_
            refine v_iconst (v := 1) F dX12_bar_202 (by decide) ?_
            refine v_icmp_ne (tgt := 216) F dX12_bar_203 (by decide) h (fun h => ?_) (fun h => ?_)
            · refine v_aload_n F dX12_bar_216 2 rfl rfl ?_
              refine g_X12_555 F r_a h dX12_bar_217 (fun b24 r_b24 h => ?_)
              refine v_iload_n F dX12_bar_220 4 rfl rfl ?_
              refine v_iald F r_b24 o_117 h dX12_bar_221 (fun h => ?_)
              refine v_i2l F dX12_bar_222 ?_
              exact v_lret F hQ h (by decide) dX12_bar_223
            · refine v_aload_n F dX12_bar_206 2 rfl rfl ?_
              refine g_X12_552 F r_a h dX12_bar_207 (fun b25 r_b25 h => ?_)
              refine v_iload_n F dX12_bar_210 4 rfl rfl ?_
              refine v_iald F r_b25 o_116 h dX12_bar_211 (fun h => ?_)
              refine v_i2l F dX12_bar_212 ?_
              refine v_goto (tgt := 223) F dX12_bar_213 (by decide) ?_
              exact v_lret F hQ h (by decide) dX12_bar_223
          · refine v_lload F dX12_bar_196 1 rfl ?_
            refine v_goto (tgt := 223) F dX12_bar_198 (by decide) ?_
            exact v_lret F hQ h (by decide) dX12_bar_223
        · refine v_lconst (v := 0) F dX12_bar_139 (by decide) ?_
          refine v_lstore (lv1 := [(10, .long 0), (8, .long v23), (6, .long v18), (0, .ref a), (2, .int p2), (3, .int x3_3), (4, .long x4_4)]) F dX12_bar_140 (by rw [hN]; decide) rfl ?_
          refine v_iconst (v := 0) F dX12_bar_142 (by decide) ?_
          refine v_istore (lv1 := [(12, .int 0), (10, .long 0), (8, .long v23), (6, .long v18), (0, .ref a), (2, .int p2), (3, .int x3_3), (4, .long x4_4)]) F dX12_bar_143 (by rw [hN]; decide) rfl ?_
          refine v_sub [4, 3, 2, 1, 0] rfl ?_
          refine h (fun (x10_27 : Int64) (x12_28 : Int32) (S29 : PS) => Rf S29 a 9 → VV X (0, 0) S29 [(0, .ref a), (6, .long v18), (8, .long v23), (10, .long x10_27), (12, .int x12_28)] [] 145) (fun x10_27 x12_28 S29 h r_a => ?_) r_a
          refine v_iload F dX12_bar_145 4 rfl ?_
          refine v_aload_n F dX12_bar_147 0 rfl rfl ?_
          refine g_X12_576 F r_a dX12_bar_148 ?_
          refine v_icmp_ge (tgt := 189) F dX12_bar_151 (by decide) h (fun h => ?_) (fun h => ?_)
          · refine v_lload F dX12_bar_189 3 rfl ?_
            exact v_lret F hQ h (by decide) dX12_bar_191
          · refine v_lload F dX12_bar_154 3 rfl ?_
            refine v_aload_n F dX12_bar_156 0 rfl rfl ?_
            refine g_X12_522 F r_a h dX12_bar_157 (fun b30 r_b30 h => ?_)
            refine v_iload F dX12_bar_160 4 rfl ?_
            refine v_lald F r_b30 o_106 h dX12_bar_162 (fun h => ?_)
            refine v_lload F dX12_bar_163 1 rfl ?_
            refine v_lload F dX12_bar_165 2 rfl ?_
            refine v_lconst (v := 1) F dX12_bar_167 (by decide) ?_
            refine v_lsub F dX12_bar_168 ?_
            refine v_cI0 (v_runS F k_X12_9 (c_X12_in h) rfl rfl (Nat.le_of_ble_eq_true rfl) (by decide) (by decide) dX12_bar_169) ⟨rfl, rfl⟩ (fun r32 S31 h hE => ?_)
            obtain ⟨nz_r32, h⟩ := h
            have r_a := r_a.tr hE
            have h := h (fun (t33 : Int64) (t34 : Int64) (S35 : PS) => Rf S35 a 9 → VV X (0, 0) S35 [(0, .ref a), (6, .long v18), (8, .long v23), (12, .int x12_28)] [.long t34, .long t33] 180) (by
              intro t33 t34 S35 h r_a
              refine v_ladd F dX12_bar_180 ?_
              refine v_topl (fun v37 e_v37 => ?_)
              have h := h v37 e_v37
              refine v_lstore (lv1 := [(10, .long v37), (0, .ref a), (6, .long v18), (8, .long v23), (12, .int x12_28)]) F dX12_bar_181 (by rw [hN]; decide) rfl ?_
              obtain ⟨v38, e_v38⟩ : ∃ y : Int32, y = x12_28 + 1 := ⟨_, rfl⟩
              have h := h v38 e_v38
              refine v_iinc (v := v38) (lv1 := [(12, .int v38), (10, .long v37), (0, .ref a), (6, .long v18), (8, .long v23)]) F dX12_bar_183 (q := 4) rfl (by rw [e_v38]; rfl) (by rw [hN]; decide) rfl ?_
              refine v_goto (tgt := 145) F dX12_bar_186 (by decide) ?_
              exact v_sub [2, 3, 4, 1, 0] rfl (h r_a))
            refine v_if_eq (tgt := 179) F dX12_bar_172 (by decide) h (fun h => ?_) (fun h => ?_)
            · refine v_lconst (v := 0) F dX12_bar_179 (by decide) ?_
              exact v_sub [0, 1, 2, 4] rfl (h r_a)
            · refine v_lconst (v := 1) F dX12_bar_175 (by decide) ?_
              refine v_goto (tgt := 180) F dX12_bar_176 (by decide) ?_
              exact v_sub [0, 1, 2, 4] rfl (h r_a)
      · refine v_lconst (v := 0) F dX12_bar_85 (by decide) ?_
        exact v_lret F hQ h (by decide) dX12_bar_86)
    refine v_if_lt (tgt := 54) F dX12_bar_43 (by decide) h (fun h => ?_) (fun h => ?_)
    · refine v_iconst (v := 1) F dX12_bar_54 (by decide) ?_
      refine v_goto (tgt := 75) F dX12_bar_55 (by decide) ?_
      exact v_sub [0, 2, 3, 4] rfl (h r_a r_a)
    · refine v_iload_n F dX12_bar_46 3 rfl rfl ?_
      refine v_aload_n F dX12_bar_47 0 rfl rfl ?_
      refine g_X12_561 F r_a dX12_bar_48 ?_
      refine v_icmp_ne (tgt := 58) F dX12_bar_51 (by decide) h (fun h => ?_) (fun h => ?_)
      · refine v_iload_n F dX12_bar_58 2 rfl rfl ?_
        refine v_i2l F dX12_bar_59 ?_
        refine v_lconst (v := 0) F dX12_bar_60 (by decide) ?_
        refine v_ldc2 F kc_X12_605 dX12_bar_61 ?_
        refine v_cI0 (v_runS F k_X12_9 (c_X12_in h) rfl rfl (Nat.le_of_ble_eq_true rfl) (by decide) (by decide) dX12_bar_64) ⟨rfl, rfl⟩ (fun r40 S39 h hE => ?_)
        obtain ⟨nz_r40, h⟩ := h
        have r_a := r_a.tr hE
        refine v_if_ne (tgt := 74) F dX12_bar_67 (by decide) h (fun h => ?_) (fun h => ?_)
        · refine v_iconst (v := 0) F dX12_bar_74 (by decide) ?_
          exact v_sub [0, 2, 3, 4] rfl (h r_a r_a)
        · refine v_iconst (v := 2) F dX12_bar_70 (by decide) ?_
          refine v_goto (tgt := 75) F dX12_bar_71 (by decide) ?_
          exact v_sub [0, 2, 3, 4] rfl (h r_a r_a)
      · refine v_iconst (v := 1) F dX12_bar_54 (by decide) ?_
        refine v_goto (tgt := 75) F dX12_bar_55 (by decide) ?_
        exact v_sub [0, 2, 3, 4] rfl (h r_a r_a))
  refine v_icmp_ge (tgt := 41) F dX12_bar_11 (by decide) h (fun h => ?_) (fun h => ?_)
  · exact v_sub [0, 1, 2, 3, 4] rfl (h r_a)
  · refine v_lload F dX12_bar_14 4 rfl ?_
    refine v_aload_n F dX12_bar_16 0 rfl rfl ?_
    refine v_iload_n F dX12_bar_17 3 rfl rfl ?_
    refine v_cL0 (v_runV F k_X12_596 rfl (c_X12_barsOf r_a h) r_a rfl rfl (Nat.le_of_ble_eq_true rfl) (by decide) (by decide) dX12_bar_18) ⟨rfl, rfl⟩ (fun r42 S41 h hE => ?_)
    have r_a := r_a.tr hE
    refine v_lcmp_lt (tgt := 41) F dX12_bar_21 dX12_bar_22 (by decide) h (fun h => ?_) (fun h => ?_)
    · exact v_sub [0, 1, 2, 3, 4] rfl (h r_a)
    · refine v_lload F dX12_bar_25 4 rfl ?_
      refine v_aload_n F dX12_bar_27 0 rfl rfl ?_
      refine v_iload_n F dX12_bar_28 3 rfl rfl ?_
      refine v_cL0 (v_runV F k_X12_596 rfl (c_X12_barsOf r_a h) r_a rfl rfl (Nat.le_of_ble_eq_true rfl) (by decide) (by decide) dX12_bar_29) ⟨rfl, rfl⟩ (fun r44 S43 h hE => ?_)
      have r_a := r_a.tr hE
      refine v_lsub F dX12_bar_32 ?_
      refine v_topl (fun v45 e_v45 => ?_)
      have h := h v45 e_v45
      refine v_lstore (lv1 := [(4, .long v45), (0, .ref a), (1, .int p1), (2, .int p2), (3, .int x3_3)]) F dX12_bar_33 (by rw [hN]; decide) rfl ?_
      obtain ⟨v46, e_v46⟩ : ∃ y : Int32, y = x3_3 + 1 := ⟨_, rfl⟩
      have h := h v46 e_v46
      refine v_iinc (v := v46) (lv1 := [(3, .int v46), (4, .long v45), (0, .ref a), (1, .int p1), (2, .int p2)]) F dX12_bar_35 (q := 4) rfl (by rw [e_v46]; rfl) (by rw [hN]; decide) rfl ?_
      refine v_goto (tgt := 6) F dX12_bar_38 (by decide) ?_
      exact v_sub [2, 3, 4, 0, 1] rfl (h r_a)
theorem dX12_at_0 : decode cX12_at 0 = .ok (.aload_n 0, 1) := by decide +kernel
theorem dX12_at_1 : decode cX12_at 1 = .ok (.iload_n 1, 1) := by decide +kernel
theorem dX12_at_2 : decode cX12_at 2 = .ok (.i2l, 1) := by decide +kernel
theorem dX12_at_3 : decode cX12_at 3 = .ok (.lconst 0, 1) := by decide +kernel
theorem dX12_at_4 : decode cX12_at 4 = .ok (.aload_n 0, 1) := by decide +kernel
theorem dX12_at_5 : decode cX12_at 5 = .ok (.getfield 558, 3) := by decide +kernel
theorem dX12_at_8 : decode cX12_at 8 = .ok (.iconst 1, 1) := by decide +kernel
theorem dX12_at_9 : decode cX12_at 9 = .ok (.isub, 1) := by decide +kernel
theorem dX12_at_10 : decode cX12_at 10 = .ok (.i2l, 1) := by decide +kernel
theorem dX12_at_11 : decode cX12_at 11 = .ok (.invokestatic 9, 3) := by decide +kernel
theorem dX12_at_14 : decode cX12_at 14 = .ok (.ifCond .ne 7, 3) := by decide +kernel
theorem dX12_at_17 : decode cX12_at 17 = .ok (.iconst 1, 1) := by decide +kernel
theorem dX12_at_18 : decode cX12_at 18 = .ok (.goto 20, 3) := by decide +kernel
theorem dX12_at_21 : decode cX12_at 21 = .ok (.iload_n 3, 1) := by decide +kernel
theorem dX12_at_22 : decode cX12_at 22 = .ok (.ifCond .ne 7, 3) := by decide +kernel
theorem dX12_at_25 : decode cX12_at 25 = .ok (.iconst 2, 1) := by decide +kernel
theorem dX12_at_26 : decode cX12_at 26 = .ok (.goto 12, 3) := by decide +kernel
theorem dX12_at_29 : decode cX12_at 29 = .ok (.iload_n 3, 1) := by decide +kernel
theorem dX12_at_30 : decode cX12_at 30 = .ok (.ifCond .ge 7, 3) := by decide +kernel
theorem dX12_at_33 : decode cX12_at 33 = .ok (.iconst 3, 1) := by decide +kernel
theorem dX12_at_34 : decode cX12_at 34 = .ok (.goto 4, 3) := by decide +kernel
theorem dX12_at_37 : decode cX12_at 37 = .ok (.iconst 0, 1) := by decide +kernel
theorem dX12_at_38 : decode cX12_at 38 = .ok (.putfield 1, 3) := by decide +kernel
theorem dX12_at_41 : decode cX12_at 41 = .ok (.aload_n 0, 1) := by decide +kernel
theorem dX12_at_42 : decode cX12_at 42 = .ok (.getfield 1, 3) := by decide +kernel
theorem dX12_at_45 : decode cX12_at 45 = .ok (.ifCond .le 5, 3) := by decide +kernel
theorem dX12_at_48 : decode cX12_at 48 = .ok (.iconst 0, 1) := by decide +kernel
theorem dX12_at_49 : decode cX12_at 49 = .ok (.ireturn, 1) := by decide +kernel
theorem dX12_at_50 : decode cX12_at 50 = .ok (.iload_n 2, 1) := by decide +kernel
theorem dX12_at_51 : decode cX12_at 51 = .ok (.i2l, 1) := by decide +kernel
theorem dX12_at_52 : decode cX12_at 52 = .ok (.ldc2_w 212, 3) := by decide +kernel
theorem dX12_at_55 : decode cX12_at 55 = .ok (.lmul, 1) := by decide +kernel
theorem dX12_at_56 : decode cX12_at 56 = .ok (.lstore 4, 2) := by decide +kernel
theorem dX12_at_58 : decode cX12_at 58 = .ok (.iload_n 3, 1) := by decide +kernel
theorem dX12_at_59 : decode cX12_at 59 = .ok (.i2l, 1) := by decide +kernel
theorem dX12_at_60 : decode cX12_at 60 = .ok (.lstore 6, 2) := by decide +kernel
theorem dX12_at_62 : decode cX12_at 62 = .ok (.iconst 0, 1) := by decide +kernel
theorem dX12_at_63 : decode cX12_at 63 = .ok (.istore 8, 2) := by decide +kernel
theorem dX12_at_65 : decode cX12_at 65 = .ok (.iload 8, 2) := by decide +kernel
theorem dX12_at_67 : decode cX12_at 67 = .ok (.aload_n 0, 1) := by decide +kernel
theorem dX12_at_68 : decode cX12_at 68 = .ok (.getfield 576, 3) := by decide +kernel
theorem dX12_at_71 : decode cX12_at 71 = .ok (.if_icmp .ge 63, 3) := by decide +kernel
theorem dX12_at_74 : decode cX12_at 74 = .ok (.aload_n 0, 1) := by decide +kernel
theorem dX12_at_75 : decode cX12_at 75 = .ok (.getfield 510, 3) := by decide +kernel
theorem dX12_at_78 : decode cX12_at 78 = .ok (.iload 8, 2) := by decide +kernel
theorem dX12_at_80 : decode cX12_at 80 = .ok (.iaload, 1) := by decide +kernel
theorem dX12_at_81 : decode cX12_at 81 = .ok (.iload_n 1, 1) := by decide +kernel
theorem dX12_at_82 : decode cX12_at 82 = .ok (.if_icmp .ne 46, 3) := by decide +kernel
theorem dX12_at_85 : decode cX12_at 85 = .ok (.aload_n 0, 1) := by decide +kernel
theorem dX12_at_86 : decode cX12_at 86 = .ok (.getfield 522, 3) := by decide +kernel
theorem dX12_at_89 : decode cX12_at 89 = .ok (.iload 8, 2) := by decide +kernel
theorem dX12_at_91 : decode cX12_at 91 = .ok (.laload, 1) := by decide +kernel
theorem dX12_at_92 : decode cX12_at 92 = .ok (.lload 6, 2) := by decide +kernel
theorem dX12_at_94 : decode cX12_at 94 = .ok (.lmul, 1) := by decide +kernel
theorem dX12_at_95 : decode cX12_at 95 = .ok (.lload 4, 2) := by decide +kernel
theorem dX12_at_97 : decode cX12_at 97 = .ok (.lcmp, 1) := by decide +kernel
theorem dX12_at_98 : decode cX12_at 98 = .ok (.ifCond .gt 30, 3) := by decide +kernel
theorem dX12_at_101 : decode cX12_at 101 = .ok (.lload 4, 2) := by decide +kernel
theorem dX12_at_103 : decode cX12_at 103 = .ok (.aload_n 0, 1) := by decide +kernel
theorem dX12_at_104 : decode cX12_at 104 = .ok (.getfield 522, 3) := by decide +kernel
theorem dX12_at_107 : decode cX12_at 107 = .ok (.iload 8, 2) := by decide +kernel
theorem dX12_at_109 : decode cX12_at 109 = .ok (.laload, 1) := by decide +kernel
theorem dX12_at_110 : decode cX12_at 110 = .ok (.aload_n 0, 1) := by decide +kernel
theorem dX12_at_111 : decode cX12_at 111 = .ok (.getfield 525, 3) := by decide +kernel
theorem dX12_at_114 : decode cX12_at 114 = .ok (.iload 8, 2) := by decide +kernel
theorem dX12_at_116 : decode cX12_at 116 = .ok (.laload, 1) := by decide +kernel
theorem dX12_at_117 : decode cX12_at 117 = .ok (.ladd, 1) := by decide +kernel
theorem dX12_at_118 : decode cX12_at 118 = .ok (.lload 6, 2) := by decide +kernel
theorem dX12_at_120 : decode cX12_at 120 = .ok (.lmul, 1) := by decide +kernel
theorem dX12_at_121 : decode cX12_at 121 = .ok (.lcmp, 1) := by decide +kernel
theorem dX12_at_122 : decode cX12_at 122 = .ok (.ifCond .ge 6, 3) := by decide +kernel
theorem dX12_at_125 : decode cX12_at 125 = .ok (.iload 8, 2) := by decide +kernel
theorem dX12_at_127 : decode cX12_at 127 = .ok (.ireturn, 1) := by decide +kernel
theorem dX12_at_128 : decode cX12_at 128 = .ok (.iinc 8 1, 3) := by decide +kernel
theorem dX12_at_131 : decode cX12_at 131 = .ok (.goto (-66), 3) := by decide +kernel
theorem dX12_at_134 : decode cX12_at 134 = .ok (.iconst (-1), 1) := by decide +kernel
theorem dX12_at_135 : decode cX12_at 135 = .ok (.ireturn, 1) := by decide +kernel
abbrev rm_X12_at : Room := { frames := 1, cells := 0, slots := 0, locals := 25 }
def wp_X12_at (a : Nat) (p1 : Int32) (p2 : Int32) (p3 : Int32) (S : PS) (Q : Int32 → PS → Prop) : Prop :=
  wp_X12_in (p1.toInt64) 0 (((fI S 207 a) - 1).toInt64) S (fun (r2 : Int32) (S1 : PS) => 
 (∀ K38_6 : Nat → Int32 → PS → Prop, (∀ (t3 : Nat) (t4 : Int32) (S5 : PS),
 (∀ S7, S7 = sI S5 96 t3 t4 → (if fI S7 96 a ≤ 0 then
 (∀ v8, v8 = (p2.toInt64) * 3870720 → (∀ v9, v9 = p3.toInt64 → (∀ P65_10 : Int32 → PS → Prop, (∀ (x8_11 : Int32) (S12 : PS),
 (if fI S12 206 a ≤ x8_11 then
 Q (-1) S12
 else
 (∃ b13, fR S12 190 a = some b13 ∧ (vp_in x8_11 (aN S12 b13) ∧ (∀ K128_15 : PS → Prop, (∀ (S14 : PS),
 (∀ v16, v16 = x8_11 + 1 → P65_10 v16 S14)
 → K128_15 S14) →
 (if aI S12 102 b13 (x8_11).toNatClampNeg = p1 then
 (∃ b17, fR S12 194 a = some b17 ∧ (vp_in x8_11 (aN S12 b17) ∧ (if v8 < (aL S12 106 b17 (x8_11).toNatClampNeg) * v9 then
 K128_15 S12
 else
 (∃ b18, fR S12 194 a = some b18 ∧ (vp_in x8_11 (aN S12 b18) ∧ (∃ b19, fR S12 195 a = some b19 ∧ (vp_in x8_11 (aN S12 b19) ∧ (if ((aL S12 106 b18 (x8_11).toNatClampNeg) + (aL S12 107 b19 (x8_11).toNatClampNeg)) * v9 ≤ v8 then
 K128_15 S12
 else
 Q x8_11 S12))))))))
 else
 K128_15 S12)))))
 → P65_10 x8_11 S12) → P65_10 0 S7)))
 else
 Q 0 S7))
 → K38_6 t3 t4 S5) →
 (if r2 = 0 then
 K38_6 a 1 S1
 else
 (if p3 = 0 then
 K38_6 a 2 S1
 else
 (if 0 ≤ p3 then
 K38_6 a 0 S1
 else
 K38_6 a 3 S1)))))
set_option maxRecDepth 100000 in
set_option maxHeartbeats 4000000 in
theorem c_X12_at {l : Launch} {E : EE} {A : Nat → Prop} {a : Nat} {p1 : Int32} {p2 : Int32} {p3 : Int32} {S : PS} {Q : Int32 → PS → Prop} (r_a : Rf S a 9) (h : wp_X12_at a p1 p2 p3 S Q) : MtI l yX12_at (.code yX12_at cX12_at 9 (some .int)) rm_X12_at E A [.ref a, .int p1, .int p2, .int p3] S Q := by
  refine MtI.of (by decide) (Nat.le_of_ble_eq_true rfl) (fun X F hQ hN => ?_)
  show VV X (0, 0) S [(0, .ref a), (1, .int p1), (2, .int p2), (3, .int p3)] [] 0
  unfold wp_X12_at at h
  refine v_aload_n F dX12_at_0 0 rfl rfl ?_
  refine v_iload_n F dX12_at_1 1 rfl rfl ?_
  refine v_i2l F dX12_at_2 ?_
  refine v_lconst (v := 0) F dX12_at_3 (by decide) ?_
  refine v_aload_n F dX12_at_4 0 rfl rfl ?_
  refine g_X12_558 F r_a dX12_at_5 ?_
  refine v_iconst (v := 1) F dX12_at_8 (by decide) ?_
  refine v_isub F dX12_at_9 ?_
  refine v_i2l F dX12_at_10 ?_
  refine v_cI0 (v_runS F k_X12_9 (c_X12_in h) rfl rfl (Nat.le_of_ble_eq_true rfl) (by decide) (by decide) dX12_at_11) ⟨rfl, rfl⟩ (fun r2 S1 h hE => ?_)
  obtain ⟨nz_r2, h⟩ := h
  have r_a := r_a.tr hE
  have h := h (fun (t3 : Nat) (t4 : Int32) (S5 : PS) => Rf S5 a 9 → Rf S5 t3 9 → VV X (0, 0) S5 [(0, .ref a), (1, .int p1), (2, .int p2), (3, .int p3)] [.int t4, .ref t3] 38) (by
    intro t3 t4 S5 h r_a r_t3
    refine p_X12_1 F r_t3 h dX12_at_38 (fun S7 h hE => ?_)
    have r_a := r_a.tr hE
    refine v_aload_n F dX12_at_41 0 rfl rfl ?_
    refine g_X12_1 F r_a dX12_at_42 ?_
    refine v_if_le (tgt := 50) F dX12_at_45 (by decide) h (fun h => ?_) (fun h => ?_)
    · refine v_iload_n F dX12_at_50 2 rfl rfl ?_
      refine v_i2l F dX12_at_51 ?_
      refine v_ldc2 F kc_X12_212 dX12_at_52 ?_
      refine v_lmul F dX12_at_55 ?_
      refine v_topl (fun v8 e_v8 => ?_)
      have h := h v8 e_v8
      refine v_lstore (lv1 := [(4, .long v8), (0, .ref a), (1, .int p1), (2, .int p2), (3, .int p3)]) F dX12_at_56 (by rw [hN]; decide) rfl ?_
      refine v_iload_n F dX12_at_58 4 rfl rfl ?_
      refine v_i2l F dX12_at_59 ?_
      refine v_topl (fun v9 e_v9 => ?_)
      have h := h v9 e_v9
      refine v_lstore (lv1 := [(6, .long v9), (4, .long v8), (0, .ref a), (1, .int p1), (2, .int p2), (3, .int p3)]) F dX12_at_60 (by rw [hN]; decide) rfl ?_
      refine v_iconst (v := 0) F dX12_at_62 (by decide) ?_
      refine v_istore (lv1 := [(8, .int 0), (6, .long v9), (4, .long v8), (0, .ref a), (1, .int p1), (2, .int p2), (3, .int p3)]) F dX12_at_63 (by rw [hN]; decide) rfl ?_
      refine v_sub [3, 4, 2, 1, 0] rfl ?_
      refine h (fun (x8_11 : Int32) (S12 : PS) => Rf S12 a 9 → VV X (0, 0) S12 [(0, .ref a), (1, .int p1), (4, .long v8), (6, .long v9), (8, .int x8_11)] [] 65) (fun x8_11 S12 h r_a => ?_) r_a
      refine v_iload F dX12_at_65 4 rfl ?_
      refine v_aload_n F dX12_at_67 0 rfl rfl ?_
      refine g_X12_576 F r_a dX12_at_68 ?_
      refine v_icmp_ge (tgt := 134) F dX12_at_71 (by decide) h (fun h => ?_) (fun h => ?_)
      · refine v_iconst (v := (-1)) F dX12_at_134 (by decide) ?_
        exact v_iret F hQ h (by decide) dX12_at_135
      · refine v_aload_n F dX12_at_74 0 rfl rfl ?_
        refine g_X12_510 F r_a h dX12_at_75 (fun b13 r_b13 h => ?_)
        refine v_iload F dX12_at_78 4 rfl ?_
        refine v_iald F r_b13 o_102 h dX12_at_80 (fun h => ?_)
        refine v_iload_n F dX12_at_81 1 rfl rfl ?_
        have h := h (fun (S14 : PS) => Rf S14 a 9 → VV X (0, 0) S14 [(0, .ref a), (1, .int p1), (4, .long v8), (6, .long v9), (8, .int x8_11)] [] 128) (by
          intro S14 h r_a
          obtain ⟨v16, e_v16⟩ : ∃ y : Int32, y = x8_11 + 1 := ⟨_, rfl⟩
          have h := h v16 e_v16
          refine v_iinc (v := v16) (lv1 := [(8, .int v16), (0, .ref a), (1, .int p1), (4, .long v8), (6, .long v9)]) F dX12_at_128 (q := 4) rfl (by rw [e_v16]; rfl) (by rw [hN]; decide) rfl ?_
          refine v_goto (tgt := 65) F dX12_at_131 (by decide) ?_
          exact v_sub [1, 2, 3, 4, 0] rfl (h r_a))
        refine v_icmp_ne (tgt := 128) F dX12_at_82 (by decide) h (fun h => ?_) (fun h => ?_)
        · exact v_sub [0, 1, 2, 3, 4] rfl (h r_a)
        · refine v_aload_n F dX12_at_85 0 rfl rfl ?_
          refine g_X12_522 F r_a h dX12_at_86 (fun b17 r_b17 h => ?_)
          refine v_iload F dX12_at_89 4 rfl ?_
          refine v_lald F r_b17 o_106 h dX12_at_91 (fun h => ?_)
          refine v_lload F dX12_at_92 3 rfl ?_
          refine v_lmul F dX12_at_94 ?_
          refine v_lload F dX12_at_95 2 rfl ?_
          refine v_lcmp_gt (tgt := 128) F dX12_at_97 dX12_at_98 (by decide) h (fun h => ?_) (fun h => ?_)
          · exact v_sub [0, 1, 2, 3, 4] rfl (h r_a)
          · refine v_lload F dX12_at_101 2 rfl ?_
            refine v_aload_n F dX12_at_103 0 rfl rfl ?_
            refine g_X12_522 F r_a h dX12_at_104 (fun b18 r_b18 h => ?_)
            refine v_iload F dX12_at_107 4 rfl ?_
            refine v_lald F r_b18 o_106 h dX12_at_109 (fun h => ?_)
            refine v_aload_n F dX12_at_110 0 rfl rfl ?_
            refine g_X12_525 F r_a h dX12_at_111 (fun b19 r_b19 h => ?_)
            refine v_iload F dX12_at_114 4 rfl ?_
            refine v_lald F r_b19 o_107 h dX12_at_116 (fun h => ?_)
            refine v_ladd F dX12_at_117 ?_
            refine v_lload F dX12_at_118 3 rfl ?_
            refine v_lmul F dX12_at_120 ?_
            refine v_lcmp_ge (tgt := 128) F dX12_at_121 dX12_at_122 (by decide) h (fun h => ?_) (fun h => ?_)
            · exact v_sub [0, 1, 2, 3, 4] rfl (h r_a)
            · refine v_iload F dX12_at_125 4 rfl ?_
              exact v_iret F hQ h (by decide) dX12_at_127
    · refine v_iconst (v := 0) F dX12_at_48 (by decide) ?_
      exact v_iret F hQ h (by decide) dX12_at_49)
  refine v_if_ne (tgt := 21) F dX12_at_14 (by decide) h (fun h => ?_) (fun h => ?_)
  · refine v_iload_n F dX12_at_21 3 rfl rfl ?_
    refine v_if_ne (tgt := 29) F dX12_at_22 (by decide) h (fun h => ?_) (fun h => ?_)
    · refine v_iload_n F dX12_at_29 3 rfl rfl ?_
      refine v_if_ge (tgt := 37) F dX12_at_30 (by decide) h (fun h => ?_) (fun h => ?_)
      · refine v_iconst (v := 0) F dX12_at_37 (by decide) ?_
        exact v_sub [0, 1, 2, 3] rfl (h r_a r_a)
      · refine v_iconst (v := 3) F dX12_at_33 (by decide) ?_
        refine v_goto (tgt := 38) F dX12_at_34 (by decide) ?_
        exact v_sub [0, 1, 2, 3] rfl (h r_a r_a)
    · refine v_iconst (v := 2) F dX12_at_25 (by decide) ?_
      refine v_goto (tgt := 38) F dX12_at_26 (by decide) ?_
      exact v_sub [0, 1, 2, 3] rfl (h r_a r_a)
  · refine v_iconst (v := 1) F dX12_at_17 (by decide) ?_
    refine v_goto (tgt := 38) F dX12_at_18 (by decide) ?_
    exact v_sub [0, 1, 2, 3] rfl (h r_a r_a)
theorem dX12_put_0 : decode cX12_put 0 = .ok (.aload_n 0, 1) := by decide +kernel
theorem dX12_put_1 : decode cX12_put 1 = .ok (.getfield 565, 3) := by decide +kernel
theorem dX12_put_4 : decode cX12_put 4 = .ok (.aload_n 0, 1) := by decide +kernel
theorem dX12_put_5 : decode cX12_put 5 = .ok (.getfield 607, 3) := by decide +kernel
theorem dX12_put_8 : decode cX12_put 8 = .ok (.iload_n 1, 1) := by decide +kernel
theorem dX12_put_9 : decode cX12_put 9 = .ok (.i2b, 1) := by decide +kernel
theorem dX12_put_10 : decode cX12_put 10 = .ok (.bastore, 1) := by decide +kernel
theorem dX12_put_11 : decode cX12_put 11 = .ok (.aload_n 0, 1) := by decide +kernel
theorem dX12_put_12 : decode cX12_put 12 = .ok (.dup, 1) := by decide +kernel
theorem dX12_put_13 : decode cX12_put 13 = .ok (.getfield 607, 3) := by decide +kernel
theorem dX12_put_16 : decode cX12_put 16 = .ok (.iconst 1, 1) := by decide +kernel
theorem dX12_put_17 : decode cX12_put 17 = .ok (.iadd, 1) := by decide +kernel
theorem dX12_put_18 : decode cX12_put 18 = .ok (.putfield 607, 3) := by decide +kernel
theorem dX12_put_21 : decode cX12_put 21 = .ok (.return_, 1) := by decide +kernel
abbrev rm_X12_put : Room := { frames := 0, cells := 0, slots := 0, locals := 0 }
def wp_X12_put (a : Nat) (p1 : Int32) (S : PS) (Q : PS → Prop) : Prop :=
  (∃ b1, fR S 212 a = some b1 ∧ (vp_in (fI S 213 a) (aN S b1) ∧ ∀ S2, S2 = wI S 118 b1 (fI S 213 a).toNatClampNeg (vp_nar .byte (p1.toInt8.toInt32)) → (∀ S3, S3 = sI S2 213 a ((fI S2 213 a) + 1) → Q S3)))
set_option maxRecDepth 100000 in
set_option maxHeartbeats 4000000 in
theorem c_X12_put {l : Launch} {E : EE} {A : Nat → Prop} {a : Nat} {p1 : Int32} {S : PS} {Q : PS → Prop} (r_a : Rf S a 9) (h : wp_X12_put a p1 S Q) : MtV l yX12_put (.code yX12_put cX12_put 2 none) rm_X12_put E A [.ref a, .int p1] S Q := by
  refine MtV.of (by decide) (Nat.le_of_ble_eq_true rfl) (fun X F hQ hN => ?_)
  show VV X (0, 0) S [(0, .ref a), (1, .int p1)] [] 0
  unfold wp_X12_put at h
  refine v_aload_n F dX12_put_0 0 rfl rfl ?_
  refine g_X12_565 F r_a h dX12_put_1 (fun b1 r_b1 h => ?_)
  refine v_aload_n F dX12_put_4 0 rfl rfl ?_
  refine g_X12_607 F r_a dX12_put_5 ?_
  refine v_iload_n F dX12_put_8 1 rfl rfl ?_
  refine v_i2b F dX12_put_9 ?_
  refine v_bast F r_b1 o_118 h dX12_put_10 (fun S2 h hE => ?_)
  have r_a := r_a.tr hE
  refine v_aload_n F dX12_put_11 0 rfl rfl ?_
  refine v_dup F dX12_put_12 rfl ?_
  refine g_X12_607 F r_a dX12_put_13 ?_
  refine v_iconst (v := 1) F dX12_put_16 (by decide) ?_
  refine v_iadd F dX12_put_17 ?_
  refine p_X12_607 F r_a h dX12_put_18 (fun S3 h hE => ?_)
  have r_a := r_a.tr hE
  exact v_vret F hQ h (by decide) dX12_put_21
theorem dX12_apart_0 : decode cX12_apart 0 = .ok (.aload_n 0, 1) := by decide +kernel
theorem dX12_apart_1 : decode cX12_apart 1 = .ok (.getfield 610, 3) := by decide +kernel
theorem dX12_apart_4 : decode cX12_apart 4 = .ok (.ifCond .eq 9, 3) := by decide +kernel
theorem dX12_apart_7 : decode cX12_apart 7 = .ok (.aload_n 0, 1) := by decide +kernel
theorem dX12_apart_8 : decode cX12_apart 8 = .ok (.bipush 32, 2) := by decide +kernel
theorem dX12_apart_10 : decode cX12_apart 10 = .ok (.invokevirtual 613, 3) := by decide +kernel
theorem dX12_apart_13 : decode cX12_apart 13 = .ok (.aload_n 0, 1) := by decide +kernel
theorem dX12_apart_14 : decode cX12_apart 14 = .ok (.iconst 1, 1) := by decide +kernel
theorem dX12_apart_15 : decode cX12_apart 15 = .ok (.putfield 610, 3) := by decide +kernel
theorem dX12_apart_18 : decode cX12_apart 18 = .ok (.return_, 1) := by decide +kernel
abbrev rm_X12_apart : Room := { frames := 1, cells := 0, slots := 0, locals := 21 }
def wp_X12_apart (a : Nat) (S : PS) (Q : PS → Prop) : Prop :=
  (∀ K13_2 : PS → Prop, (∀ (S1 : PS),
 (∀ S3, S3 = sI S1 214 a 1 → Q S3)
 → K13_2 S1) →
 (if fI S 214 a = 0 then
 K13_2 S
 else
 wp_X12_put a 32 S (fun (S4 : PS) => 
 K13_2 S4)))
set_option maxRecDepth 100000 in
set_option maxHeartbeats 4000000 in
theorem c_X12_apart {l : Launch} {E : EE} {A : Nat → Prop} {a : Nat} {S : PS} {Q : PS → Prop} (r_a : Rf S a 9) (h : wp_X12_apart a S Q) : MtV l yX12_apart (.code yX12_apart cX12_apart 1 none) rm_X12_apart E A [.ref a] S Q := by
  refine MtV.of (by decide) (Nat.le_of_ble_eq_true rfl) (fun X F hQ hN => ?_)
  show VV X (0, 0) S [(0, .ref a)] [] 0
  unfold wp_X12_apart at h
  refine v_aload_n F dX12_apart_0 0 rfl rfl ?_
  refine g_X12_610 F r_a dX12_apart_1 ?_
  have h := h (fun (S1 : PS) => Rf S1 a 9 → VV X (0, 0) S1 [(0, .ref a)] [] 13) (by
    intro S1 h r_a
    refine v_aload_n F dX12_apart_13 0 rfl rfl ?_
    refine v_iconst (v := 1) F dX12_apart_14 (by decide) ?_
    refine p_X12_610 F r_a rfl rfl h dX12_apart_15 (fun S3 h hE => ?_)
    have r_a := r_a.tr hE
    exact v_vret F hQ h (by decide) dX12_apart_18)
  refine v_if_eq (tgt := 13) F dX12_apart_4 (by decide) h (fun h => ?_) (fun h => ?_)
  · exact v_sub [0] rfl (h r_a)
  · refine v_aload_n F dX12_apart_7 0 rfl rfl ?_
    refine v_bipush (v := 32) F dX12_apart_8 (by decide) ?_
    refine v_cV0 (v_runV F k_X12_613 rfl (c_X12_put r_a h) r_a rfl rfl (Nat.le_of_ble_eq_true rfl) (by decide) (by decide) dX12_apart_10) ⟨rfl, rfl⟩ (fun  S4 h hE => ?_)
    have r_a := r_a.tr hE
    exact v_sub [0] rfl (h r_a)
theorem dX12_putNumber_0 : decode cX12_putNumber 0 = .ok (.lconst 1, 1) := by decide +kernel
theorem dX12_putNumber_1 : decode cX12_putNumber 1 = .ok (.lstore_n 3, 1) := by decide +kernel
theorem dX12_putNumber_2 : decode cX12_putNumber 2 = .ok (.lload_n 1, 1) := by decide +kernel
theorem dX12_putNumber_3 : decode cX12_putNumber 3 = .ok (.lload_n 3, 1) := by decide +kernel
theorem dX12_putNumber_4 : decode cX12_putNumber 4 = .ok (.ldiv, 1) := by decide +kernel
theorem dX12_putNumber_5 : decode cX12_putNumber 5 = .ok (.ldc2_w 411, 3) := by decide +kernel
theorem dX12_putNumber_8 : decode cX12_putNumber 8 = .ok (.lcmp, 1) := by decide +kernel
theorem dX12_putNumber_9 : decode cX12_putNumber 9 = .ok (.ifCond .le 12, 3) := by decide +kernel
theorem dX12_putNumber_12 : decode cX12_putNumber 12 = .ok (.lload_n 3, 1) := by decide +kernel
theorem dX12_putNumber_13 : decode cX12_putNumber 13 = .ok (.ldc2_w 57, 3) := by decide +kernel
theorem dX12_putNumber_16 : decode cX12_putNumber 16 = .ok (.lmul, 1) := by decide +kernel
theorem dX12_putNumber_17 : decode cX12_putNumber 17 = .ok (.lstore_n 3, 1) := by decide +kernel
theorem dX12_putNumber_18 : decode cX12_putNumber 18 = .ok (.goto (-16), 3) := by decide +kernel
theorem dX12_putNumber_21 : decode cX12_putNumber 21 = .ok (.lload_n 3, 1) := by decide +kernel
theorem dX12_putNumber_22 : decode cX12_putNumber 22 = .ok (.lconst 0, 1) := by decide +kernel
theorem dX12_putNumber_23 : decode cX12_putNumber 23 = .ok (.lcmp, 1) := by decide +kernel
theorem dX12_putNumber_24 : decode cX12_putNumber 24 = .ok (.ifCond .le 27, 3) := by decide +kernel
theorem dX12_putNumber_27 : decode cX12_putNumber 27 = .ok (.aload_n 0, 1) := by decide +kernel
theorem dX12_putNumber_28 : decode cX12_putNumber 28 = .ok (.bipush 48, 2) := by decide +kernel
theorem dX12_putNumber_30 : decode cX12_putNumber 30 = .ok (.lload_n 1, 1) := by decide +kernel
theorem dX12_putNumber_31 : decode cX12_putNumber 31 = .ok (.lload_n 3, 1) := by decide +kernel
theorem dX12_putNumber_32 : decode cX12_putNumber 32 = .ok (.ldiv, 1) := by decide +kernel
theorem dX12_putNumber_33 : decode cX12_putNumber 33 = .ok (.ldc2_w 57, 3) := by decide +kernel
theorem dX12_putNumber_36 : decode cX12_putNumber 36 = .ok (.lrem, 1) := by decide +kernel
theorem dX12_putNumber_37 : decode cX12_putNumber 37 = .ok (.l2i, 1) := by decide +kernel
theorem dX12_putNumber_38 : decode cX12_putNumber 38 = .ok (.iadd, 1) := by decide +kernel
theorem dX12_putNumber_39 : decode cX12_putNumber 39 = .ok (.invokevirtual 613, 3) := by decide +kernel
theorem dX12_putNumber_42 : decode cX12_putNumber 42 = .ok (.lload_n 3, 1) := by decide +kernel
theorem dX12_putNumber_43 : decode cX12_putNumber 43 = .ok (.ldc2_w 57, 3) := by decide +kernel
theorem dX12_putNumber_46 : decode cX12_putNumber 46 = .ok (.ldiv, 1) := by decide +kernel
theorem dX12_putNumber_47 : decode cX12_putNumber 47 = .ok (.lstore_n 3, 1) := by decide +kernel
theorem dX12_putNumber_48 : decode cX12_putNumber 48 = .ok (.goto (-27), 3) := by decide +kernel
theorem dX12_putNumber_51 : decode cX12_putNumber 51 = .ok (.return_, 1) := by decide +kernel
abbrev rm_X12_putNumber : Room := { frames := 1, cells := 0, slots := 0, locals := 21 }
def wp_X12_putNumber (a : Nat) (p1 : Int64) (S : PS) (Q : PS → Prop) : Prop :=
  (∀ P2_1 : Int64 → PS → Prop, (∀ (x3_2 : Int64) (S3 : PS),
 (¬ x3_2 = 0 ∧ (if p1 / x3_2 ≤ 9 then
 (∀ P21_4 : Int64 → PS → Prop, (∀ (x3_5 : Int64) (S6 : PS),
 (if x3_5 ≤ 0 then
 Q S6
 else
 (¬ x3_5 = 0 ∧ wp_X12_put a ((48 : Int32) + (((p1 / x3_5) - (p1 / x3_5) / 10 * 10).toInt32)) S6 (fun (S7 : PS) => 
 (∀ v8, v8 = x3_5 / 10 → P21_4 v8 S7))))
 → P21_4 x3_5 S6) → P21_4 x3_2 S3)
 else
 (∀ v9, v9 = x3_2 * 10 → P2_1 v9 S3)))
 → P2_1 x3_2 S3) → P2_1 1 S)
set_option maxRecDepth 100000 in
set_option maxHeartbeats 4000000 in
theorem c_X12_putNumber {l : Launch} {E : EE} {A : Nat → Prop} {a : Nat} {p1 : Int64} {S : PS} {Q : PS → Prop} (r_a : Rf S a 9) (h : wp_X12_putNumber a p1 S Q) : MtV l yX12_putNumber (.code yX12_putNumber cX12_putNumber 5 none) rm_X12_putNumber E A [.ref a, .long p1] S Q := by
  refine MtV.of (by decide) (Nat.le_of_ble_eq_true rfl) (fun X F hQ hN => ?_)
  show VV X (0, 0) S [(0, .ref a), (1, .long p1)] [] 0
  unfold wp_X12_putNumber at h
  refine v_lconst (v := 1) F dX12_putNumber_0 (by decide) ?_
  refine v_lstore_n (lv1 := [(3, .long 1), (0, .ref a), (1, .long p1)]) F dX12_putNumber_1 rfl (by rw [hN]; decide) rfl ?_
  refine v_sub [1, 2, 0] rfl ?_
  refine h (fun (x3_2 : Int64) (S3 : PS) => Rf S3 a 9 → VV X (0, 0) S3 [(0, .ref a), (1, .long p1), (3, .long x3_2)] [] 2) (fun x3_2 S3 h r_a => ?_) r_a
  refine v_lload_n F dX12_putNumber_2 1 rfl rfl ?_
  refine v_lload_n F dX12_putNumber_3 2 rfl rfl ?_
  refine v_ldiv F dX12_putNumber_4 h.1 ?_
  have h := h.2
  refine v_ldc2 F kc_X12_411 dX12_putNumber_5 ?_
  refine v_lcmp_le (tgt := 21) F dX12_putNumber_8 dX12_putNumber_9 (by decide) h (fun h => ?_) (fun h => ?_)
  · refine v_sub [0, 1, 2] rfl ?_
    refine h (fun (x3_5 : Int64) (S6 : PS) => Rf S6 a 9 → VV X (0, 0) S6 [(0, .ref a), (1, .long p1), (3, .long x3_5)] [] 21) (fun x3_5 S6 h r_a => ?_) r_a
    refine v_lload_n F dX12_putNumber_21 2 rfl rfl ?_
    refine v_lconst (v := 0) F dX12_putNumber_22 (by decide) ?_
    refine v_lcmp_le (tgt := 51) F dX12_putNumber_23 dX12_putNumber_24 (by decide) h (fun h => ?_) (fun h => ?_)
    · exact v_vret F hQ h (by decide) dX12_putNumber_51
    · refine v_aload_n F dX12_putNumber_27 0 rfl rfl ?_
      refine v_bipush (v := 48) F dX12_putNumber_28 (by decide) ?_
      refine v_lload_n F dX12_putNumber_30 1 rfl rfl ?_
      refine v_lload_n F dX12_putNumber_31 2 rfl rfl ?_
      refine v_ldiv F dX12_putNumber_32 h.1 ?_
      have h := h.2
      refine v_ldc2 F kc_X12_57 dX12_putNumber_33 ?_
      refine v_lrem F dX12_putNumber_36 (by decide) ?_
      refine v_l2i F dX12_putNumber_37 ?_
      refine v_iadd F dX12_putNumber_38 ?_
      refine v_cV0 (v_runV F k_X12_613 rfl (c_X12_put r_a h) r_a rfl rfl (Nat.le_of_ble_eq_true rfl) (by decide) (by decide) dX12_putNumber_39) ⟨rfl, rfl⟩ (fun  S7 h hE => ?_)
      have r_a := r_a.tr hE
      refine v_lload_n F dX12_putNumber_42 2 rfl rfl ?_
      refine v_ldc2 F kc_X12_57 dX12_putNumber_43 ?_
      refine v_ldiv F dX12_putNumber_46 (by decide) ?_
      refine v_topl (fun v8 e_v8 => ?_)
      have h := h v8 e_v8
      refine v_lstore_n (lv1 := [(3, .long v8), (0, .ref a), (1, .long p1)]) F dX12_putNumber_47 rfl (by rw [hN]; decide) rfl ?_
      refine v_goto (tgt := 21) F dX12_putNumber_48 (by decide) ?_
      exact v_sub [1, 2, 0] rfl (h r_a)
  · refine v_lload_n F dX12_putNumber_12 2 rfl rfl ?_
    refine v_ldc2 F kc_X12_57 dX12_putNumber_13 ?_
    refine v_lmul F dX12_putNumber_16 ?_
    refine v_topl (fun v9 e_v9 => ?_)
    have h := h v9 e_v9
    refine v_lstore_n (lv1 := [(3, .long v9), (0, .ref a), (1, .long p1)]) F dX12_putNumber_17 rfl (by rw [hN]; decide) rfl ?_
    refine v_goto (tgt := 2) F dX12_putNumber_18 (by decide) ?_
    exact v_sub [1, 2, 0] rfl (h r_a)
theorem dX12_putMany_0 : decode cX12_putMany 0 = .ok (.iconst 0, 1) := by decide +kernel
theorem dX12_putMany_1 : decode cX12_putMany 1 = .ok (.istore_n 3, 1) := by decide +kernel
theorem dX12_putMany_2 : decode cX12_putMany 2 = .ok (.iload_n 3, 1) := by decide +kernel
theorem dX12_putMany_3 : decode cX12_putMany 3 = .ok (.iload_n 2, 1) := by decide +kernel
theorem dX12_putMany_4 : decode cX12_putMany 4 = .ok (.if_icmp .ge 14, 3) := by decide +kernel
theorem dX12_putMany_7 : decode cX12_putMany 7 = .ok (.aload_n 0, 1) := by decide +kernel
theorem dX12_putMany_8 : decode cX12_putMany 8 = .ok (.iload_n 1, 1) := by decide +kernel
theorem dX12_putMany_9 : decode cX12_putMany 9 = .ok (.invokevirtual 613, 3) := by decide +kernel
theorem dX12_putMany_12 : decode cX12_putMany 12 = .ok (.iinc 3 1, 3) := by decide +kernel
theorem dX12_putMany_15 : decode cX12_putMany 15 = .ok (.goto (-13), 3) := by decide +kernel
theorem dX12_putMany_18 : decode cX12_putMany 18 = .ok (.return_, 1) := by decide +kernel
abbrev rm_X12_putMany : Room := { frames := 1, cells := 0, slots := 0, locals := 21 }
def wp_X12_putMany (a : Nat) (p1 : Int32) (p2 : Int32) (S : PS) (Q : PS → Prop) : Prop :=
  (∀ P2_1 : Int32 → PS → Prop, (∀ (x3_2 : Int32) (S3 : PS),
 (if p2 ≤ x3_2 then
 Q S3
 else
 wp_X12_put a p1 S3 (fun (S4 : PS) => 
 (∀ v5, v5 = x3_2 + 1 → P2_1 v5 S4)))
 → P2_1 x3_2 S3) → P2_1 0 S)
set_option maxRecDepth 100000 in
set_option maxHeartbeats 4000000 in
theorem c_X12_putMany {l : Launch} {E : EE} {A : Nat → Prop} {a : Nat} {p1 : Int32} {p2 : Int32} {S : PS} {Q : PS → Prop} (r_a : Rf S a 9) (h : wp_X12_putMany a p1 p2 S Q) : MtV l yX12_putMany (.code yX12_putMany cX12_putMany 4 none) rm_X12_putMany E A [.ref a, .int p1, .int p2] S Q := by
  refine MtV.of (by decide) (Nat.le_of_ble_eq_true rfl) (fun X F hQ hN => ?_)
  show VV X (0, 0) S [(0, .ref a), (1, .int p1), (2, .int p2)] [] 0
  unfold wp_X12_putMany at h
  refine v_iconst (v := 0) F dX12_putMany_0 (by decide) ?_
  refine v_istore_n (lv1 := [(3, .int 0), (0, .ref a), (1, .int p1), (2, .int p2)]) F dX12_putMany_1 rfl (by rw [hN]; decide) rfl ?_
  refine v_sub [1, 2, 3, 0] rfl ?_
  refine h (fun (x3_2 : Int32) (S3 : PS) => Rf S3 a 9 → VV X (0, 0) S3 [(0, .ref a), (1, .int p1), (2, .int p2), (3, .int x3_2)] [] 2) (fun x3_2 S3 h r_a => ?_) r_a
  refine v_iload_n F dX12_putMany_2 3 rfl rfl ?_
  refine v_iload_n F dX12_putMany_3 2 rfl rfl ?_
  refine v_icmp_ge (tgt := 18) F dX12_putMany_4 (by decide) h (fun h => ?_) (fun h => ?_)
  · exact v_vret F hQ h (by decide) dX12_putMany_18
  · refine v_aload_n F dX12_putMany_7 0 rfl rfl ?_
    refine v_iload_n F dX12_putMany_8 1 rfl rfl ?_
    refine v_cV0 (v_runV F k_X12_613 rfl (c_X12_put r_a h) r_a rfl rfl (Nat.le_of_ble_eq_true rfl) (by decide) (by decide) dX12_putMany_9) ⟨rfl, rfl⟩ (fun  S4 h hE => ?_)
    have r_a := r_a.tr hE
    obtain ⟨v5, e_v5⟩ : ∃ y : Int32, y = x3_2 + 1 := ⟨_, rfl⟩
    have h := h v5 e_v5
    refine v_iinc (v := v5) (lv1 := [(3, .int v5), (0, .ref a), (1, .int p1), (2, .int p2)]) F dX12_putMany_12 (q := 3) rfl (by rw [e_v5]; rfl) (by rw [hN]; decide) rfl ?_
    refine v_goto (tgt := 2) F dX12_putMany_15 (by decide) ?_
    exact v_sub [1, 2, 3, 0] rfl (h r_a)
theorem dX12_putPitch_0 : decode cX12_putPitch 0 = .ok (.aload_n 0, 1) := by decide +kernel
theorem dX12_putPitch_1 : decode cX12_putPitch 1 = .ok (.bipush 97, 2) := by decide +kernel
theorem dX12_putPitch_3 : decode cX12_putPitch 3 = .ok (.aload_n 0, 1) := by decide +kernel
theorem dX12_putPitch_4 : decode cX12_putPitch 4 = .ok (.getfield 528, 3) := by decide +kernel
theorem dX12_putPitch_7 : decode cX12_putPitch 7 = .ok (.iload_n 1, 1) := by decide +kernel
theorem dX12_putPitch_8 : decode cX12_putPitch 8 = .ok (.iaload, 1) := by decide +kernel
theorem dX12_putPitch_9 : decode cX12_putPitch 9 = .ok (.iconst 2, 1) := by decide +kernel
theorem dX12_putPitch_10 : decode cX12_putPitch 10 = .ok (.iadd, 1) := by decide +kernel
theorem dX12_putPitch_11 : decode cX12_putPitch 11 = .ok (.bipush 7, 2) := by decide +kernel
theorem dX12_putPitch_13 : decode cX12_putPitch 13 = .ok (.irem, 1) := by decide +kernel
theorem dX12_putPitch_14 : decode cX12_putPitch 14 = .ok (.iadd, 1) := by decide +kernel
theorem dX12_putPitch_15 : decode cX12_putPitch 15 = .ok (.invokevirtual 613, 3) := by decide +kernel
theorem dX12_putPitch_18 : decode cX12_putPitch 18 = .ok (.aload_n 0, 1) := by decide +kernel
theorem dX12_putPitch_19 : decode cX12_putPitch 19 = .ok (.bipush 43, 2) := by decide +kernel
theorem dX12_putPitch_21 : decode cX12_putPitch 21 = .ok (.aload_n 0, 1) := by decide +kernel
theorem dX12_putPitch_22 : decode cX12_putPitch 22 = .ok (.getfield 531, 3) := by decide +kernel
theorem dX12_putPitch_25 : decode cX12_putPitch 25 = .ok (.iload_n 1, 1) := by decide +kernel
theorem dX12_putPitch_26 : decode cX12_putPitch 26 = .ok (.iaload, 1) := by decide +kernel
theorem dX12_putPitch_27 : decode cX12_putPitch 27 = .ok (.invokevirtual 616, 3) := by decide +kernel
theorem dX12_putPitch_30 : decode cX12_putPitch 30 = .ok (.aload_n 0, 1) := by decide +kernel
theorem dX12_putPitch_31 : decode cX12_putPitch 31 = .ok (.bipush 45, 2) := by decide +kernel
theorem dX12_putPitch_33 : decode cX12_putPitch 33 = .ok (.aload_n 0, 1) := by decide +kernel
theorem dX12_putPitch_34 : decode cX12_putPitch 34 = .ok (.getfield 531, 3) := by decide +kernel
theorem dX12_putPitch_37 : decode cX12_putPitch 37 = .ok (.iload_n 1, 1) := by decide +kernel
theorem dX12_putPitch_38 : decode cX12_putPitch 38 = .ok (.iaload, 1) := by decide +kernel
theorem dX12_putPitch_39 : decode cX12_putPitch 39 = .ok (.ineg, 1) := by decide +kernel
theorem dX12_putPitch_40 : decode cX12_putPitch 40 = .ok (.invokevirtual 616, 3) := by decide +kernel
theorem dX12_putPitch_43 : decode cX12_putPitch 43 = .ok (.aload_n 0, 1) := by decide +kernel
theorem dX12_putPitch_44 : decode cX12_putPitch 44 = .ok (.bipush 39, 2) := by decide +kernel
theorem dX12_putPitch_46 : decode cX12_putPitch 46 = .ok (.aload_n 0, 1) := by decide +kernel
theorem dX12_putPitch_47 : decode cX12_putPitch 47 = .ok (.getfield 534, 3) := by decide +kernel
theorem dX12_putPitch_50 : decode cX12_putPitch 50 = .ok (.iload_n 1, 1) := by decide +kernel
theorem dX12_putPitch_51 : decode cX12_putPitch 51 = .ok (.iaload, 1) := by decide +kernel
theorem dX12_putPitch_52 : decode cX12_putPitch 52 = .ok (.iconst 4, 1) := by decide +kernel
theorem dX12_putPitch_53 : decode cX12_putPitch 53 = .ok (.isub, 1) := by decide +kernel
theorem dX12_putPitch_54 : decode cX12_putPitch 54 = .ok (.invokevirtual 616, 3) := by decide +kernel
theorem dX12_putPitch_57 : decode cX12_putPitch 57 = .ok (.aload_n 0, 1) := by decide +kernel
theorem dX12_putPitch_58 : decode cX12_putPitch 58 = .ok (.bipush 44, 2) := by decide +kernel
theorem dX12_putPitch_60 : decode cX12_putPitch 60 = .ok (.iconst 4, 1) := by decide +kernel
theorem dX12_putPitch_61 : decode cX12_putPitch 61 = .ok (.aload_n 0, 1) := by decide +kernel
theorem dX12_putPitch_62 : decode cX12_putPitch 62 = .ok (.getfield 534, 3) := by decide +kernel
theorem dX12_putPitch_65 : decode cX12_putPitch 65 = .ok (.iload_n 1, 1) := by decide +kernel
theorem dX12_putPitch_66 : decode cX12_putPitch 66 = .ok (.iaload, 1) := by decide +kernel
theorem dX12_putPitch_67 : decode cX12_putPitch 67 = .ok (.isub, 1) := by decide +kernel
theorem dX12_putPitch_68 : decode cX12_putPitch 68 = .ok (.invokevirtual 616, 3) := by decide +kernel
theorem dX12_putPitch_71 : decode cX12_putPitch 71 = .ok (.return_, 1) := by decide +kernel
abbrev rm_X12_putPitch : Room := { frames := 2, cells := 0, slots := 0, locals := 44 }
def wp_X12_putPitch (a : Nat) (p1 : Int32) (S : PS) (Q : PS → Prop) : Prop :=
  (∃ b1, fR S 196 a = some b1 ∧ (vp_in p1 (aN S b1) ∧ wp_X12_put a ((97 : Int32) + (((aI S 108 b1 (p1).toNatClampNeg) + 2) - ((aI S 108 b1 (p1).toNatClampNeg) + 2) / 7 * 7)) S (fun (S2 : PS) => 
 (∃ b3, fR S2 197 a = some b3 ∧ (vp_in p1 (aN S2 b3) ∧ wp_X12_putMany a 43 (aI S2 109 b3 (p1).toNatClampNeg) S2 (fun (S4 : PS) => 
 (∃ b5, fR S4 197 a = some b5 ∧ (vp_in p1 (aN S4 b5) ∧ wp_X12_putMany a 45 (-(aI S4 109 b5 (p1).toNatClampNeg)) S4 (fun (S6 : PS) => 
 (∃ b7, fR S6 198 a = some b7 ∧ (vp_in p1 (aN S6 b7) ∧ wp_X12_putMany a 39 ((aI S6 110 b7 (p1).toNatClampNeg) - 4) S6 (fun (S8 : PS) => 
 (∃ b9, fR S8 198 a = some b9 ∧ (vp_in p1 (aN S8 b9) ∧ wp_X12_putMany a 44 ((4 : Int32) - (aI S8 110 b9 (p1).toNatClampNeg)) S8 (fun (S10 : PS) => 
 Q S10)))))))))))))))
set_option maxRecDepth 100000 in
set_option maxHeartbeats 4000000 in
theorem c_X12_putPitch {l : Launch} {E : EE} {A : Nat → Prop} {a : Nat} {p1 : Int32} {S : PS} {Q : PS → Prop} (r_a : Rf S a 9) (h : wp_X12_putPitch a p1 S Q) : MtV l yX12_putPitch (.code yX12_putPitch cX12_putPitch 2 none) rm_X12_putPitch E A [.ref a, .int p1] S Q := by
  refine MtV.of (by decide) (Nat.le_of_ble_eq_true rfl) (fun X F hQ hN => ?_)
  show VV X (0, 0) S [(0, .ref a), (1, .int p1)] [] 0
  unfold wp_X12_putPitch at h
  refine v_aload_n F dX12_putPitch_0 0 rfl rfl ?_
  refine v_bipush (v := 97) F dX12_putPitch_1 (by decide) ?_
  refine v_aload_n F dX12_putPitch_3 0 rfl rfl ?_
  refine g_X12_528 F r_a h dX12_putPitch_4 (fun b1 r_b1 h => ?_)
  refine v_iload_n F dX12_putPitch_7 1 rfl rfl ?_
  refine v_iald F r_b1 o_108 h dX12_putPitch_8 (fun h => ?_)
  refine v_iconst (v := 2) F dX12_putPitch_9 (by decide) ?_
  refine v_iadd F dX12_putPitch_10 ?_
  refine v_bipush (v := 7) F dX12_putPitch_11 (by decide) ?_
  refine v_irem F dX12_putPitch_13 (by decide) ?_
  refine v_iadd F dX12_putPitch_14 ?_
  refine v_cV0 (v_runV F k_X12_613 rfl (c_X12_put r_a h) r_a rfl rfl (Nat.le_of_ble_eq_true rfl) (by decide) (by decide) dX12_putPitch_15) ⟨rfl, rfl⟩ (fun  S2 h hE => ?_)
  have r_a := r_a.tr hE
  refine v_aload_n F dX12_putPitch_18 0 rfl rfl ?_
  refine v_bipush (v := 43) F dX12_putPitch_19 (by decide) ?_
  refine v_aload_n F dX12_putPitch_21 0 rfl rfl ?_
  refine g_X12_531 F r_a h dX12_putPitch_22 (fun b3 r_b3 h => ?_)
  refine v_iload_n F dX12_putPitch_25 1 rfl rfl ?_
  refine v_iald F r_b3 o_109 h dX12_putPitch_26 (fun h => ?_)
  refine v_cV0 (v_runV F k_X12_616 rfl (c_X12_putMany r_a h) r_a rfl rfl (Nat.le_of_ble_eq_true rfl) (by decide) (by decide) dX12_putPitch_27) ⟨rfl, rfl⟩ (fun  S4 h hE => ?_)
  have r_a := r_a.tr hE
  refine v_aload_n F dX12_putPitch_30 0 rfl rfl ?_
  refine v_bipush (v := 45) F dX12_putPitch_31 (by decide) ?_
  refine v_aload_n F dX12_putPitch_33 0 rfl rfl ?_
  refine g_X12_531 F r_a h dX12_putPitch_34 (fun b5 r_b5 h => ?_)
  refine v_iload_n F dX12_putPitch_37 1 rfl rfl ?_
  refine v_iald F r_b5 o_109 h dX12_putPitch_38 (fun h => ?_)
  refine v_ineg F dX12_putPitch_39 ?_
  refine v_cV0 (v_runV F k_X12_616 rfl (c_X12_putMany r_a h) r_a rfl rfl (Nat.le_of_ble_eq_true rfl) (by decide) (by decide) dX12_putPitch_40) ⟨rfl, rfl⟩ (fun  S6 h hE => ?_)
  have r_a := r_a.tr hE
  refine v_aload_n F dX12_putPitch_43 0 rfl rfl ?_
  refine v_bipush (v := 39) F dX12_putPitch_44 (by decide) ?_
  refine v_aload_n F dX12_putPitch_46 0 rfl rfl ?_
  refine g_X12_534 F r_a h dX12_putPitch_47 (fun b7 r_b7 h => ?_)
  refine v_iload_n F dX12_putPitch_50 1 rfl rfl ?_
  refine v_iald F r_b7 o_110 h dX12_putPitch_51 (fun h => ?_)
  refine v_iconst (v := 4) F dX12_putPitch_52 (by decide) ?_
  refine v_isub F dX12_putPitch_53 ?_
  refine v_cV0 (v_runV F k_X12_616 rfl (c_X12_putMany r_a h) r_a rfl rfl (Nat.le_of_ble_eq_true rfl) (by decide) (by decide) dX12_putPitch_54) ⟨rfl, rfl⟩ (fun  S8 h hE => ?_)
  have r_a := r_a.tr hE
  refine v_aload_n F dX12_putPitch_57 0 rfl rfl ?_
  refine v_bipush (v := 44) F dX12_putPitch_58 (by decide) ?_
  refine v_iconst (v := 4) F dX12_putPitch_60 (by decide) ?_
  refine v_aload_n F dX12_putPitch_61 0 rfl rfl ?_
  refine g_X12_534 F r_a h dX12_putPitch_62 (fun b9 r_b9 h => ?_)
  refine v_iload_n F dX12_putPitch_65 1 rfl rfl ?_
  refine v_iald F r_b9 o_110 h dX12_putPitch_66 (fun h => ?_)
  refine v_isub F dX12_putPitch_67 ?_
  refine v_cV0 (v_runV F k_X12_616 rfl (c_X12_putMany r_a h) r_a rfl rfl (Nat.le_of_ble_eq_true rfl) (by decide) (by decide) dX12_putPitch_68) ⟨rfl, rfl⟩ (fun  S10 h hE => ?_)
  have r_a := r_a.tr hE
  exact v_vret F hQ h (by decide) dX12_putPitch_71
theorem dX12_putEvent_0 : decode cX12_putEvent 0 = .ok (.aload_n 0, 1) := by decide +kernel
theorem dX12_putEvent_1 : decode cX12_putEvent 1 = .ok (.invokevirtual 619, 3) := by decide +kernel
theorem dX12_putEvent_4 : decode cX12_putEvent 4 = .ok (.aload_n 0, 1) := by decide +kernel
theorem dX12_putEvent_5 : decode cX12_putEvent 5 = .ok (.getfield 513, 3) := by decide +kernel
theorem dX12_putEvent_8 : decode cX12_putEvent 8 = .ok (.iload_n 1, 1) := by decide +kernel
theorem dX12_putEvent_9 : decode cX12_putEvent 9 = .ok (.iaload, 1) := by decide +kernel
theorem dX12_putEvent_10 : decode cX12_putEvent 10 = .ok (.ifCond .ne 12, 3) := by decide +kernel
theorem dX12_putEvent_13 : decode cX12_putEvent 13 = .ok (.aload_n 0, 1) := by decide +kernel
theorem dX12_putEvent_14 : decode cX12_putEvent 14 = .ok (.bipush 114, 2) := by decide +kernel
theorem dX12_putEvent_16 : decode cX12_putEvent 16 = .ok (.invokevirtual 613, 3) := by decide +kernel
theorem dX12_putEvent_19 : decode cX12_putEvent 19 = .ok (.goto 73, 3) := by decide +kernel
theorem dX12_putEvent_22 : decode cX12_putEvent 22 = .ok (.aload_n 0, 1) := by decide +kernel
theorem dX12_putEvent_23 : decode cX12_putEvent 23 = .ok (.getfield 513, 3) := by decide +kernel
theorem dX12_putEvent_26 : decode cX12_putEvent 26 = .ok (.iload_n 1, 1) := by decide +kernel
theorem dX12_putEvent_27 : decode cX12_putEvent 27 = .ok (.iaload, 1) := by decide +kernel
theorem dX12_putEvent_28 : decode cX12_putEvent 28 = .ok (.iconst 1, 1) := by decide +kernel
theorem dX12_putEvent_29 : decode cX12_putEvent 29 = .ok (.if_icmp .ne 14, 3) := by decide +kernel
theorem dX12_putEvent_32 : decode cX12_putEvent 32 = .ok (.aload_n 0, 1) := by decide +kernel
theorem dX12_putEvent_33 : decode cX12_putEvent 33 = .ok (.bipush 6, 2) := by decide +kernel
theorem dX12_putEvent_35 : decode cX12_putEvent 35 = .ok (.iload_n 1, 1) := by decide +kernel
theorem dX12_putEvent_36 : decode cX12_putEvent 36 = .ok (.imul, 1) := by decide +kernel
theorem dX12_putEvent_37 : decode cX12_putEvent 37 = .ok (.invokevirtual 622, 3) := by decide +kernel
theorem dX12_putEvent_40 : decode cX12_putEvent 40 = .ok (.goto 52, 3) := by decide +kernel
theorem dX12_putEvent_43 : decode cX12_putEvent 43 = .ok (.iconst 0, 1) := by decide +kernel
theorem dX12_putEvent_44 : decode cX12_putEvent 44 = .ok (.istore_n 2, 1) := by decide +kernel
theorem dX12_putEvent_45 : decode cX12_putEvent 45 = .ok (.iload_n 2, 1) := by decide +kernel
theorem dX12_putEvent_46 : decode cX12_putEvent 46 = .ok (.aload_n 0, 1) := by decide +kernel
theorem dX12_putEvent_47 : decode cX12_putEvent 47 = .ok (.getfield 513, 3) := by decide +kernel
theorem dX12_putEvent_50 : decode cX12_putEvent 50 = .ok (.iload_n 1, 1) := by decide +kernel
theorem dX12_putEvent_51 : decode cX12_putEvent 51 = .ok (.iaload, 1) := by decide +kernel
theorem dX12_putEvent_52 : decode cX12_putEvent 52 = .ok (.if_icmp .ge 34, 3) := by decide +kernel
theorem dX12_putEvent_55 : decode cX12_putEvent 55 = .ok (.aload_n 0, 1) := by decide +kernel
theorem dX12_putEvent_56 : decode cX12_putEvent 56 = .ok (.iload_n 2, 1) := by decide +kernel
theorem dX12_putEvent_57 : decode cX12_putEvent 57 = .ok (.ifCond .ne 8, 3) := by decide +kernel
theorem dX12_putEvent_60 : decode cX12_putEvent 60 = .ok (.bipush 60, 2) := by decide +kernel
theorem dX12_putEvent_62 : decode cX12_putEvent 62 = .ok (.goto 5, 3) := by decide +kernel
theorem dX12_putEvent_65 : decode cX12_putEvent 65 = .ok (.bipush 32, 2) := by decide +kernel
theorem dX12_putEvent_67 : decode cX12_putEvent 67 = .ok (.invokevirtual 613, 3) := by decide +kernel
theorem dX12_putEvent_70 : decode cX12_putEvent 70 = .ok (.aload_n 0, 1) := by decide +kernel
theorem dX12_putEvent_71 : decode cX12_putEvent 71 = .ok (.bipush 6, 2) := by decide +kernel
theorem dX12_putEvent_73 : decode cX12_putEvent 73 = .ok (.iload_n 1, 1) := by decide +kernel
theorem dX12_putEvent_74 : decode cX12_putEvent 74 = .ok (.imul, 1) := by decide +kernel
theorem dX12_putEvent_75 : decode cX12_putEvent 75 = .ok (.iload_n 2, 1) := by decide +kernel
theorem dX12_putEvent_76 : decode cX12_putEvent 76 = .ok (.iadd, 1) := by decide +kernel
theorem dX12_putEvent_77 : decode cX12_putEvent 77 = .ok (.invokevirtual 622, 3) := by decide +kernel
theorem dX12_putEvent_80 : decode cX12_putEvent 80 = .ok (.iinc 2 1, 3) := by decide +kernel
theorem dX12_putEvent_83 : decode cX12_putEvent 83 = .ok (.goto (-38), 3) := by decide +kernel
theorem dX12_putEvent_86 : decode cX12_putEvent 86 = .ok (.aload_n 0, 1) := by decide +kernel
theorem dX12_putEvent_87 : decode cX12_putEvent 87 = .ok (.bipush 62, 2) := by decide +kernel
theorem dX12_putEvent_89 : decode cX12_putEvent 89 = .ok (.invokevirtual 613, 3) := by decide +kernel
theorem dX12_putEvent_92 : decode cX12_putEvent 92 = .ok (.aload_n 0, 1) := by decide +kernel
theorem dX12_putEvent_93 : decode cX12_putEvent 93 = .ok (.bipush 58, 2) := by decide +kernel
theorem dX12_putEvent_95 : decode cX12_putEvent 95 = .ok (.invokevirtual 613, 3) := by decide +kernel
theorem dX12_putEvent_98 : decode cX12_putEvent 98 = .ok (.aload_n 0, 1) := by decide +kernel
theorem dX12_putEvent_99 : decode cX12_putEvent 99 = .ok (.aload_n 0, 1) := by decide +kernel
theorem dX12_putEvent_100 : decode cX12_putEvent 100 = .ok (.getfield 525, 3) := by decide +kernel
theorem dX12_putEvent_103 : decode cX12_putEvent 103 = .ok (.iload_n 1, 1) := by decide +kernel
theorem dX12_putEvent_104 : decode cX12_putEvent 104 = .ok (.laload, 1) := by decide +kernel
theorem dX12_putEvent_105 : decode cX12_putEvent 105 = .ok (.invokevirtual 625, 3) := by decide +kernel
theorem dX12_putEvent_108 : decode cX12_putEvent 108 = .ok (.aload_n 0, 1) := by decide +kernel
theorem dX12_putEvent_109 : decode cX12_putEvent 109 = .ok (.getfield 516, 3) := by decide +kernel
theorem dX12_putEvent_112 : decode cX12_putEvent 112 = .ok (.iload_n 1, 1) := by decide +kernel
theorem dX12_putEvent_113 : decode cX12_putEvent 113 = .ok (.baload, 1) := by decide +kernel
theorem dX12_putEvent_114 : decode cX12_putEvent 114 = .ok (.ifCond .eq 9, 3) := by decide +kernel
theorem dX12_putEvent_117 : decode cX12_putEvent 117 = .ok (.aload_n 0, 1) := by decide +kernel
theorem dX12_putEvent_118 : decode cX12_putEvent 118 = .ok (.bipush 126, 2) := by decide +kernel
theorem dX12_putEvent_120 : decode cX12_putEvent 120 = .ok (.invokevirtual 613, 3) := by decide +kernel
theorem dX12_putEvent_123 : decode cX12_putEvent 123 = .ok (.return_, 1) := by decide +kernel
abbrev rm_X12_putEvent : Room := { frames := 3, cells := 0, slots := 0, locals := 65 }
def wp_X12_putEvent (a : Nat) (p1 : Int32) (S : PS) (Q : PS → Prop) : Prop :=
  wp_X12_apart a S (fun (S1 : PS) => 
 (∃ b2, fR S1 191 a = some b2 ∧ (vp_in p1 (aN S1 b2) ∧ (∀ K92_4 : PS → Prop, (∀ (S3 : PS),
 wp_X12_put a 58 S3 (fun (S5 : PS) => 
 (∃ b6, fR S5 195 a = some b6 ∧ (vp_in p1 (aN S5 b6) ∧ wp_X12_putNumber a (aL S5 107 b6 (p1).toNatClampNeg) S5 (fun (S7 : PS) => 
 (∃ b8, fR S7 192 a = some b8 ∧ (vp_in p1 (aN S7 b8) ∧ (if aI S7 104 b8 (p1).toNatClampNeg = 0 then
 Q S7
 else
 wp_X12_put a 126 S7 (fun (S9 : PS) => 
 Q S9))))))))
 → K92_4 S3) →
 (if aI S1 103 b2 (p1).toNatClampNeg = 0 then
 wp_X12_put a 114 S1 (fun (S24 : PS) => 
 K92_4 S24)
 else
 (∃ b10, fR S1 191 a = some b10 ∧ (vp_in p1 (aN S1 b10) ∧ (if aI S1 103 b10 (p1).toNatClampNeg = 1 then
 wp_X12_putPitch a ((6 : Int32) * p1) S1 (fun (S23 : PS) => 
 K92_4 S23)
 else
 (∀ P45_11 : Int32 → PS → Prop, (∀ (x2_12 : Int32) (S13 : PS),
 (∃ b14, fR S13 191 a = some b14 ∧ (vp_in p1 (aN S13 b14) ∧ (if aI S13 103 b14 (p1).toNatClampNeg ≤ x2_12 then
 wp_X12_put a 62 S13 (fun (S15 : PS) => 
 K92_4 S15)
 else
 (∀ K67_19 : Nat → Int32 → PS → Prop, (∀ (t16 : Nat) (t17 : Int32) (S18 : PS),
 wp_X12_put t16 t17 S18 (fun (S20 : PS) => 
 wp_X12_putPitch a (((6 : Int32) * p1) + x2_12) S20 (fun (S21 : PS) => 
 (∀ v22, v22 = x2_12 + 1 → P45_11 v22 S21)))
 → K67_19 t16 t17 S18) →
 (if x2_12 = 0 then
 K67_19 a 60 S13
 else
 K67_19 a 32 S13)))))
 → P45_11 x2_12 S13) → P45_11 0 S1)))))))))
set_option maxRecDepth 100000 in
set_option maxHeartbeats 4000000 in
theorem c_X12_putEvent {l : Launch} {E : EE} {A : Nat → Prop} {a : Nat} {p1 : Int32} {S : PS} {Q : PS → Prop} (r_a : Rf S a 9) (h : wp_X12_putEvent a p1 S Q) : MtV l yX12_putEvent (.code yX12_putEvent cX12_putEvent 3 none) rm_X12_putEvent E A [.ref a, .int p1] S Q := by
  refine MtV.of (by decide) (Nat.le_of_ble_eq_true rfl) (fun X F hQ hN => ?_)
  show VV X (0, 0) S [(0, .ref a), (1, .int p1)] [] 0
  unfold wp_X12_putEvent at h
  refine v_aload_n F dX12_putEvent_0 0 rfl rfl ?_
  refine v_cV0 (v_runV F k_X12_619 rfl (c_X12_apart r_a h) r_a rfl rfl (Nat.le_of_ble_eq_true rfl) (by decide) (by decide) dX12_putEvent_1) ⟨rfl, rfl⟩ (fun  S1 h hE => ?_)
  have r_a := r_a.tr hE
  refine v_aload_n F dX12_putEvent_4 0 rfl rfl ?_
  refine g_X12_513 F r_a h dX12_putEvent_5 (fun b2 r_b2 h => ?_)
  refine v_iload_n F dX12_putEvent_8 1 rfl rfl ?_
  refine v_iald F r_b2 o_103 h dX12_putEvent_9 (fun h => ?_)
  have h := h (fun (S3 : PS) => Rf S3 a 9 → VV X (0, 0) S3 [(0, .ref a), (1, .int p1)] [] 92) (by
    intro S3 h r_a
    refine v_aload_n F dX12_putEvent_92 0 rfl rfl ?_
    refine v_bipush (v := 58) F dX12_putEvent_93 (by decide) ?_
    refine v_cV0 (v_runV F k_X12_613 rfl (c_X12_put r_a h) r_a rfl rfl (Nat.le_of_ble_eq_true rfl) (by decide) (by decide) dX12_putEvent_95) ⟨rfl, rfl⟩ (fun  S5 h hE => ?_)
    have r_a := r_a.tr hE
    refine v_aload_n F dX12_putEvent_98 0 rfl rfl ?_
    refine v_aload_n F dX12_putEvent_99 0 rfl rfl ?_
    refine g_X12_525 F r_a h dX12_putEvent_100 (fun b6 r_b6 h => ?_)
    refine v_iload_n F dX12_putEvent_103 1 rfl rfl ?_
    refine v_lald F r_b6 o_107 h dX12_putEvent_104 (fun h => ?_)
    refine v_cV0 (v_runV F k_X12_625 rfl (c_X12_putNumber r_a h) r_a rfl rfl (Nat.le_of_ble_eq_true rfl) (by decide) (by decide) dX12_putEvent_105) ⟨rfl, rfl⟩ (fun  S7 h hE => ?_)
    have r_a := r_a.tr hE
    refine v_aload_n F dX12_putEvent_108 0 rfl rfl ?_
    refine g_X12_516 F r_a h dX12_putEvent_109 (fun b8 r_b8 h => ?_)
    refine v_iload_n F dX12_putEvent_112 1 rfl rfl ?_
    refine v_zald F r_b8 o_104 h dX12_putEvent_113 (fun h => ?_)
    refine v_if_eq (tgt := 123) F dX12_putEvent_114 (by decide) h (fun h => ?_) (fun h => ?_)
    · exact v_vret F hQ h (by decide) dX12_putEvent_123
    · refine v_aload_n F dX12_putEvent_117 0 rfl rfl ?_
      refine v_bipush (v := 126) F dX12_putEvent_118 (by decide) ?_
      refine v_cV0 (v_runV F k_X12_613 rfl (c_X12_put r_a h) r_a rfl rfl (Nat.le_of_ble_eq_true rfl) (by decide) (by decide) dX12_putEvent_120) ⟨rfl, rfl⟩ (fun  S9 h hE => ?_)
      have r_a := r_a.tr hE
      exact v_vret F hQ h (by decide) dX12_putEvent_123)
  refine v_if_ne (tgt := 22) F dX12_putEvent_10 (by decide) h (fun h => ?_) (fun h => ?_)
  · refine v_aload_n F dX12_putEvent_22 0 rfl rfl ?_
    refine g_X12_513 F r_a h dX12_putEvent_23 (fun b10 r_b10 h => ?_)
    refine v_iload_n F dX12_putEvent_26 1 rfl rfl ?_
    refine v_iald F r_b10 o_103 h dX12_putEvent_27 (fun h => ?_)
    refine v_iconst (v := 1) F dX12_putEvent_28 (by decide) ?_
    refine v_icmp_ne (tgt := 43) F dX12_putEvent_29 (by decide) h (fun h => ?_) (fun h => ?_)
    · refine v_iconst (v := 0) F dX12_putEvent_43 (by decide) ?_
      refine v_istore_n (lv1 := [(2, .int 0), (0, .ref a), (1, .int p1)]) F dX12_putEvent_44 rfl (by rw [hN]; decide) rfl ?_
      refine v_sub [1, 2, 0] rfl ?_
      refine h (fun (x2_12 : Int32) (S13 : PS) => Rf S13 a 9 → VV X (0, 0) S13 [(0, .ref a), (1, .int p1), (2, .int x2_12)] [] 45) (fun x2_12 S13 h r_a => ?_) r_a
      refine v_iload_n F dX12_putEvent_45 2 rfl rfl ?_
      refine v_aload_n F dX12_putEvent_46 0 rfl rfl ?_
      refine g_X12_513 F r_a h dX12_putEvent_47 (fun b14 r_b14 h => ?_)
      refine v_iload_n F dX12_putEvent_50 1 rfl rfl ?_
      refine v_iald F r_b14 o_103 h dX12_putEvent_51 (fun h => ?_)
      refine v_icmp_ge (tgt := 86) F dX12_putEvent_52 (by decide) h (fun h => ?_) (fun h => ?_)
      · refine v_aload_n F dX12_putEvent_86 0 rfl rfl ?_
        refine v_bipush (v := 62) F dX12_putEvent_87 (by decide) ?_
        refine v_cV0 (v_runV F k_X12_613 rfl (c_X12_put r_a h) r_a rfl rfl (Nat.le_of_ble_eq_true rfl) (by decide) (by decide) dX12_putEvent_89) ⟨rfl, rfl⟩ (fun  S15 h hE => ?_)
        have r_a := r_a.tr hE
        exact v_sub [0, 1] rfl (h r_a)
      · refine v_aload_n F dX12_putEvent_55 0 rfl rfl ?_
        refine v_iload_n F dX12_putEvent_56 2 rfl rfl ?_
        have h := h (fun (t16 : Nat) (t17 : Int32) (S18 : PS) => Rf S18 a 9 → Rf S18 t16 9 → VV X (0, 0) S18 [(0, .ref a), (1, .int p1), (2, .int x2_12)] [.int t17, .ref t16] 67) (by
          intro t16 t17 S18 h r_a r_t16
          refine v_cV0 (v_runV F k_X12_613 rfl (c_X12_put r_t16 h) r_t16 rfl rfl (Nat.le_of_ble_eq_true rfl) (by decide) (by decide) dX12_putEvent_67) ⟨rfl, rfl⟩ (fun  S20 h hE => ?_)
          have r_a := r_a.tr hE
          refine v_aload_n F dX12_putEvent_70 0 rfl rfl ?_
          refine v_bipush (v := 6) F dX12_putEvent_71 (by decide) ?_
          refine v_iload_n F dX12_putEvent_73 1 rfl rfl ?_
          refine v_imul F dX12_putEvent_74 ?_
          refine v_iload_n F dX12_putEvent_75 2 rfl rfl ?_
          refine v_iadd F dX12_putEvent_76 ?_
          refine v_cV0 (v_runV F k_X12_622 rfl (c_X12_putPitch r_a h) r_a rfl rfl (Nat.le_of_ble_eq_true rfl) (by decide) (by decide) dX12_putEvent_77) ⟨rfl, rfl⟩ (fun  S21 h hE => ?_)
          have r_a := r_a.tr hE
          obtain ⟨v22, e_v22⟩ : ∃ y : Int32, y = x2_12 + 1 := ⟨_, rfl⟩
          have h := h v22 e_v22
          refine v_iinc (v := v22) (lv1 := [(2, .int v22), (0, .ref a), (1, .int p1)]) F dX12_putEvent_80 (q := 2) rfl (by rw [e_v22]; rfl) (by rw [hN]; decide) rfl ?_
          refine v_goto (tgt := 45) F dX12_putEvent_83 (by decide) ?_
          exact v_sub [1, 2, 0] rfl (h r_a))
        refine v_if_ne (tgt := 65) F dX12_putEvent_57 (by decide) h (fun h => ?_) (fun h => ?_)
        · refine v_bipush (v := 32) F dX12_putEvent_65 (by decide) ?_
          exact v_sub [0, 1, 2] rfl (h r_a r_a)
        · refine v_bipush (v := 60) F dX12_putEvent_60 (by decide) ?_
          refine v_goto (tgt := 67) F dX12_putEvent_62 (by decide) ?_
          exact v_sub [0, 1, 2] rfl (h r_a r_a)
    · refine v_aload_n F dX12_putEvent_32 0 rfl rfl ?_
      refine v_bipush (v := 6) F dX12_putEvent_33 (by decide) ?_
      refine v_iload_n F dX12_putEvent_35 1 rfl rfl ?_
      refine v_imul F dX12_putEvent_36 ?_
      refine v_cV0 (v_runV F k_X12_622 rfl (c_X12_putPitch r_a h) r_a rfl rfl (Nat.le_of_ble_eq_true rfl) (by decide) (by decide) dX12_putEvent_37) ⟨rfl, rfl⟩ (fun  S23 h hE => ?_)
      have r_a := r_a.tr hE
      refine v_goto (tgt := 92) F dX12_putEvent_40 (by decide) ?_
      exact v_sub [0, 1] rfl (h r_a)
  · refine v_aload_n F dX12_putEvent_13 0 rfl rfl ?_
    refine v_bipush (v := 114) F dX12_putEvent_14 (by decide) ?_
    refine v_cV0 (v_runV F k_X12_613 rfl (c_X12_put r_a h) r_a rfl rfl (Nat.le_of_ble_eq_true rfl) (by decide) (by decide) dX12_putEvent_16) ⟨rfl, rfl⟩ (fun  S24 h hE => ?_)
    have r_a := r_a.tr hE
    refine v_goto (tgt := 92) F dX12_putEvent_19 (by decide) ?_
    exact v_sub [0, 1] rfl (h r_a)
theorem dX12_putVerse_0 : decode cX12_putVerse 0 = .ok (.iconst (-1), 1) := by decide +kernel
theorem dX12_putVerse_1 : decode cX12_putVerse 1 = .ok (.istore_n 3, 1) := by decide +kernel
theorem dX12_putVerse_2 : decode cX12_putVerse 2 = .ok (.iconst 0, 1) := by decide +kernel
theorem dX12_putVerse_3 : decode cX12_putVerse 3 = .ok (.istore 4, 2) := by decide +kernel
theorem dX12_putVerse_5 : decode cX12_putVerse 5 = .ok (.iload 4, 2) := by decide +kernel
theorem dX12_putVerse_7 : decode cX12_putVerse 7 = .ok (.aload_n 0, 1) := by decide +kernel
theorem dX12_putVerse_8 : decode cX12_putVerse 8 = .ok (.getfield 576, 3) := by decide +kernel
theorem dX12_putVerse_11 : decode cX12_putVerse 11 = .ok (.if_icmp .ge 43, 3) := by decide +kernel
theorem dX12_putVerse_14 : decode cX12_putVerse 14 = .ok (.aload_n 0, 1) := by decide +kernel
theorem dX12_putVerse_15 : decode cX12_putVerse 15 = .ok (.getfield 510, 3) := by decide +kernel
theorem dX12_putVerse_18 : decode cX12_putVerse 18 = .ok (.iload 4, 2) := by decide +kernel
theorem dX12_putVerse_20 : decode cX12_putVerse 20 = .ok (.iaload, 1) := by decide +kernel
theorem dX12_putVerse_21 : decode cX12_putVerse 21 = .ok (.iload_n 1, 1) := by decide +kernel
theorem dX12_putVerse_22 : decode cX12_putVerse 22 = .ok (.if_icmp .ne 24, 3) := by decide +kernel
theorem dX12_putVerse_25 : decode cX12_putVerse 25 = .ok (.aload_n 0, 1) := by decide +kernel
theorem dX12_putVerse_26 : decode cX12_putVerse 26 = .ok (.getfield 540, 3) := by decide +kernel
theorem dX12_putVerse_29 : decode cX12_putVerse 29 = .ok (.iconst 3, 1) := by decide +kernel
theorem dX12_putVerse_30 : decode cX12_putVerse 30 = .ok (.iload 4, 2) := by decide +kernel
theorem dX12_putVerse_32 : decode cX12_putVerse 32 = .ok (.imul, 1) := by decide +kernel
theorem dX12_putVerse_33 : decode cX12_putVerse 33 = .ok (.iload_n 2, 1) := by decide +kernel
theorem dX12_putVerse_34 : decode cX12_putVerse 34 = .ok (.iadd, 1) := by decide +kernel
theorem dX12_putVerse_35 : decode cX12_putVerse 35 = .ok (.iconst 1, 1) := by decide +kernel
theorem dX12_putVerse_36 : decode cX12_putVerse 36 = .ok (.isub, 1) := by decide +kernel
theorem dX12_putVerse_37 : decode cX12_putVerse 37 = .ok (.iaload, 1) := by decide +kernel
theorem dX12_putVerse_38 : decode cX12_putVerse 38 = .ok (.ifCond .le 8, 3) := by decide +kernel
theorem dX12_putVerse_41 : decode cX12_putVerse 41 = .ok (.iload 4, 2) := by decide +kernel
theorem dX12_putVerse_43 : decode cX12_putVerse 43 = .ok (.goto 4, 3) := by decide +kernel
theorem dX12_putVerse_46 : decode cX12_putVerse 46 = .ok (.iload_n 3, 1) := by decide +kernel
theorem dX12_putVerse_47 : decode cX12_putVerse 47 = .ok (.istore_n 3, 1) := by decide +kernel
theorem dX12_putVerse_48 : decode cX12_putVerse 48 = .ok (.iinc 4 1, 3) := by decide +kernel
theorem dX12_putVerse_51 : decode cX12_putVerse 51 = .ok (.goto (-46), 3) := by decide +kernel
theorem dX12_putVerse_54 : decode cX12_putVerse 54 = .ok (.iload_n 3, 1) := by decide +kernel
theorem dX12_putVerse_55 : decode cX12_putVerse 55 = .ok (.iconst (-1), 1) := by decide +kernel
theorem dX12_putVerse_56 : decode cX12_putVerse 56 = .ok (.if_icmp .ne 4, 3) := by decide +kernel
theorem dX12_putVerse_59 : decode cX12_putVerse 59 = .ok (.return_, 1) := by decide +kernel
theorem dX12_putVerse_60 : decode cX12_putVerse 60 = .ok (.aload_n 0, 1) := by decide +kernel
theorem dX12_putVerse_61 : decode cX12_putVerse 61 = .ok (.invokevirtual 619, 3) := by decide +kernel
theorem dX12_putVerse_64 : decode cX12_putVerse 64 = .ok (.aload_n 0, 1) := by decide +kernel
theorem dX12_putVerse_65 : decode cX12_putVerse 65 = .ok (.bipush 87, 2) := by decide +kernel
theorem dX12_putVerse_67 : decode cX12_putVerse 67 = .ok (.invokevirtual 613, 3) := by decide +kernel
theorem dX12_putVerse_70 : decode cX12_putVerse 70 = .ok (.aload_n 0, 1) := by decide +kernel
theorem dX12_putVerse_71 : decode cX12_putVerse 71 = .ok (.bipush 32, 2) := by decide +kernel
theorem dX12_putVerse_73 : decode cX12_putVerse 73 = .ok (.invokevirtual 613, 3) := by decide +kernel
theorem dX12_putVerse_76 : decode cX12_putVerse 76 = .ok (.aload_n 0, 1) := by decide +kernel
theorem dX12_putVerse_77 : decode cX12_putVerse 77 = .ok (.bipush 48, 2) := by decide +kernel
theorem dX12_putVerse_79 : decode cX12_putVerse 79 = .ok (.iload_n 2, 1) := by decide +kernel
theorem dX12_putVerse_80 : decode cX12_putVerse 80 = .ok (.iadd, 1) := by decide +kernel
theorem dX12_putVerse_81 : decode cX12_putVerse 81 = .ok (.invokevirtual 613, 3) := by decide +kernel
theorem dX12_putVerse_84 : decode cX12_putVerse 84 = .ok (.aload_n 0, 1) := by decide +kernel
theorem dX12_putVerse_85 : decode cX12_putVerse 85 = .ok (.bipush 32, 2) := by decide +kernel
theorem dX12_putVerse_87 : decode cX12_putVerse 87 = .ok (.invokevirtual 613, 3) := by decide +kernel
theorem dX12_putVerse_90 : decode cX12_putVerse 90 = .ok (.aload_n 0, 1) := by decide +kernel
theorem dX12_putVerse_91 : decode cX12_putVerse 91 = .ok (.bipush 34, 2) := by decide +kernel
theorem dX12_putVerse_93 : decode cX12_putVerse 93 = .ok (.invokevirtual 613, 3) := by decide +kernel
theorem dX12_putVerse_96 : decode cX12_putVerse 96 = .ok (.iconst 0, 1) := by decide +kernel
theorem dX12_putVerse_97 : decode cX12_putVerse 97 = .ok (.istore 4, 2) := by decide +kernel
theorem dX12_putVerse_99 : decode cX12_putVerse 99 = .ok (.iconst 0, 1) := by decide +kernel
theorem dX12_putVerse_100 : decode cX12_putVerse 100 = .ok (.istore 5, 2) := by decide +kernel
theorem dX12_putVerse_102 : decode cX12_putVerse 102 = .ok (.iload 5, 2) := by decide +kernel
theorem dX12_putVerse_104 : decode cX12_putVerse 104 = .ok (.iload_n 3, 1) := by decide +kernel
theorem dX12_putVerse_105 : decode cX12_putVerse 105 = .ok (.if_icmp .gt 120, 3) := by decide +kernel
theorem dX12_putVerse_108 : decode cX12_putVerse 108 = .ok (.aload_n 0, 1) := by decide +kernel
theorem dX12_putVerse_109 : decode cX12_putVerse 109 = .ok (.getfield 510, 3) := by decide +kernel
theorem dX12_putVerse_112 : decode cX12_putVerse 112 = .ok (.iload 5, 2) := by decide +kernel
theorem dX12_putVerse_114 : decode cX12_putVerse 114 = .ok (.iaload, 1) := by decide +kernel
theorem dX12_putVerse_115 : decode cX12_putVerse 115 = .ok (.iload_n 1, 1) := by decide +kernel
theorem dX12_putVerse_116 : decode cX12_putVerse 116 = .ok (.if_icmp .ne 103, 3) := by decide +kernel
theorem dX12_putVerse_119 : decode cX12_putVerse 119 = .ok (.aload_n 0, 1) := by decide +kernel
theorem dX12_putVerse_120 : decode cX12_putVerse 120 = .ok (.getfield 513, 3) := by decide +kernel
theorem dX12_putVerse_123 : decode cX12_putVerse 123 = .ok (.iload 5, 2) := by decide +kernel
theorem dX12_putVerse_125 : decode cX12_putVerse 125 = .ok (.iaload, 1) := by decide +kernel
theorem dX12_putVerse_126 : decode cX12_putVerse 126 = .ok (.ifCond .le 93, 3) := by decide +kernel
theorem dX12_putVerse_129 : decode cX12_putVerse 129 = .ok (.aload_n 0, 1) := by decide +kernel
theorem dX12_putVerse_130 : decode cX12_putVerse 130 = .ok (.getfield 519, 3) := by decide +kernel
theorem dX12_putVerse_133 : decode cX12_putVerse 133 = .ok (.iload 5, 2) := by decide +kernel
theorem dX12_putVerse_135 : decode cX12_putVerse 135 = .ok (.baload, 1) := by decide +kernel
theorem dX12_putVerse_136 : decode cX12_putVerse 136 = .ok (.ifCond .ne 83, 3) := by decide +kernel
theorem dX12_putVerse_139 : decode cX12_putVerse 139 = .ok (.iload 4, 2) := by decide +kernel
theorem dX12_putVerse_141 : decode cX12_putVerse 141 = .ok (.ifCond .eq 9, 3) := by decide +kernel
theorem dX12_putVerse_144 : decode cX12_putVerse 144 = .ok (.aload_n 0, 1) := by decide +kernel
theorem dX12_putVerse_145 : decode cX12_putVerse 145 = .ok (.bipush 32, 2) := by decide +kernel
theorem dX12_putVerse_147 : decode cX12_putVerse 147 = .ok (.invokevirtual 613, 3) := by decide +kernel
theorem dX12_putVerse_150 : decode cX12_putVerse 150 = .ok (.iconst 1, 1) := by decide +kernel
theorem dX12_putVerse_151 : decode cX12_putVerse 151 = .ok (.istore 4, 2) := by decide +kernel
theorem dX12_putVerse_153 : decode cX12_putVerse 153 = .ok (.iconst 3, 1) := by decide +kernel
theorem dX12_putVerse_154 : decode cX12_putVerse 154 = .ok (.iload 5, 2) := by decide +kernel
theorem dX12_putVerse_156 : decode cX12_putVerse 156 = .ok (.imul, 1) := by decide +kernel
theorem dX12_putVerse_157 : decode cX12_putVerse 157 = .ok (.iload_n 2, 1) := by decide +kernel
theorem dX12_putVerse_158 : decode cX12_putVerse 158 = .ok (.iadd, 1) := by decide +kernel
theorem dX12_putVerse_159 : decode cX12_putVerse 159 = .ok (.iconst 1, 1) := by decide +kernel
theorem dX12_putVerse_160 : decode cX12_putVerse 160 = .ok (.isub, 1) := by decide +kernel
theorem dX12_putVerse_161 : decode cX12_putVerse 161 = .ok (.istore 6, 2) := by decide +kernel
theorem dX12_putVerse_163 : decode cX12_putVerse 163 = .ok (.iconst 0, 1) := by decide +kernel
theorem dX12_putVerse_164 : decode cX12_putVerse 164 = .ok (.istore 7, 2) := by decide +kernel
theorem dX12_putVerse_166 : decode cX12_putVerse 166 = .ok (.iload 7, 2) := by decide +kernel
theorem dX12_putVerse_168 : decode cX12_putVerse 168 = .ok (.aload_n 0, 1) := by decide +kernel
theorem dX12_putVerse_169 : decode cX12_putVerse 169 = .ok (.getfield 540, 3) := by decide +kernel
theorem dX12_putVerse_172 : decode cX12_putVerse 172 = .ok (.iload 6, 2) := by decide +kernel
theorem dX12_putVerse_174 : decode cX12_putVerse 174 = .ok (.iaload, 1) := by decide +kernel
theorem dX12_putVerse_175 : decode cX12_putVerse 175 = .ok (.if_icmp .ge 28, 3) := by decide +kernel
theorem dX12_putVerse_178 : decode cX12_putVerse 178 = .ok (.aload_n 0, 1) := by decide +kernel
theorem dX12_putVerse_179 : decode cX12_putVerse 179 = .ok (.aload_n 0, 1) := by decide +kernel
theorem dX12_putVerse_180 : decode cX12_putVerse 180 = .ok (.getfield 507, 3) := by decide +kernel
theorem dX12_putVerse_183 : decode cX12_putVerse 183 = .ok (.aload_n 0, 1) := by decide +kernel
theorem dX12_putVerse_184 : decode cX12_putVerse 184 = .ok (.getfield 537, 3) := by decide +kernel
theorem dX12_putVerse_187 : decode cX12_putVerse 187 = .ok (.iload 6, 2) := by decide +kernel
theorem dX12_putVerse_189 : decode cX12_putVerse 189 = .ok (.iaload, 1) := by decide +kernel
theorem dX12_putVerse_190 : decode cX12_putVerse 190 = .ok (.iload 7, 2) := by decide +kernel
theorem dX12_putVerse_192 : decode cX12_putVerse 192 = .ok (.iadd, 1) := by decide +kernel
theorem dX12_putVerse_193 : decode cX12_putVerse 193 = .ok (.baload, 1) := by decide +kernel
theorem dX12_putVerse_194 : decode cX12_putVerse 194 = .ok (.invokevirtual 613, 3) := by decide +kernel
theorem dX12_putVerse_197 : decode cX12_putVerse 197 = .ok (.iinc 7 1, 3) := by decide +kernel
theorem dX12_putVerse_200 : decode cX12_putVerse 200 = .ok (.goto (-34), 3) := by decide +kernel
theorem dX12_putVerse_203 : decode cX12_putVerse 203 = .ok (.aload_n 0, 1) := by decide +kernel
theorem dX12_putVerse_204 : decode cX12_putVerse 204 = .ok (.getfield 540, 3) := by decide +kernel
theorem dX12_putVerse_207 : decode cX12_putVerse 207 = .ok (.iload 6, 2) := by decide +kernel
theorem dX12_putVerse_209 : decode cX12_putVerse 209 = .ok (.iaload, 1) := by decide +kernel
theorem dX12_putVerse_210 : decode cX12_putVerse 210 = .ok (.ifCond .ne 9, 3) := by decide +kernel
theorem dX12_putVerse_213 : decode cX12_putVerse 213 = .ok (.aload_n 0, 1) := by decide +kernel
theorem dX12_putVerse_214 : decode cX12_putVerse 214 = .ok (.bipush 95, 2) := by decide +kernel
theorem dX12_putVerse_216 : decode cX12_putVerse 216 = .ok (.invokevirtual 613, 3) := by decide +kernel
theorem dX12_putVerse_219 : decode cX12_putVerse 219 = .ok (.iinc 5 1, 3) := by decide +kernel
theorem dX12_putVerse_222 : decode cX12_putVerse 222 = .ok (.goto (-120), 3) := by decide +kernel
theorem dX12_putVerse_225 : decode cX12_putVerse 225 = .ok (.aload_n 0, 1) := by decide +kernel
theorem dX12_putVerse_226 : decode cX12_putVerse 226 = .ok (.bipush 34, 2) := by decide +kernel
theorem dX12_putVerse_228 : decode cX12_putVerse 228 = .ok (.invokevirtual 613, 3) := by decide +kernel
theorem dX12_putVerse_231 : decode cX12_putVerse 231 = .ok (.return_, 1) := by decide +kernel
abbrev rm_X12_putVerse : Room := { frames := 2, cells := 0, slots := 0, locals := 41 }
def wp_X12_putVerse (a : Nat) (p1 : Int32) (p2 : Int32) (S : PS) (Q : PS → Prop) : Prop :=
  (∀ P5_1 : Int32 → Int32 → PS → Prop, (∀ (x3_2 : Int32) (x4_3 : Int32) (S4 : PS),
 (if fI S4 206 a ≤ x4_3 then
 (if x3_2 = (-1) then
 Q S4
 else
 wp_X12_apart a S4 (fun (S5 : PS) => 
 wp_X12_put a 87 S5 (fun (S6 : PS) => 
 wp_X12_put a 32 S6 (fun (S7 : PS) => 
 wp_X12_put a ((48 : Int32) + p2) S7 (fun (S8 : PS) => 
 wp_X12_put a 32 S8 (fun (S9 : PS) => 
 wp_X12_put a 34 S9 (fun (S10 : PS) => 
 (∀ P102_11 : Int32 → Int32 → PS → Prop, (∀ (x4_12 : Int32) (x5_13 : Int32) (S14 : PS),
 (if x3_2 < x5_13 then
 wp_X12_put a 34 S14 (fun (S15 : PS) => 
 Q S15)
 else
 (∃ b16, fR S14 190 a = some b16 ∧ (vp_in x5_13 (aN S14 b16) ∧ (∀ K219_19 : Int32 → PS → Prop, (∀ (x4_17 : Int32) (S18 : PS),
 (∀ v20, v20 = x5_13 + 1 → P102_11 x4_17 v20 S18)
 → K219_19 x4_17 S18) →
 (if aI S14 102 b16 (x5_13).toNatClampNeg = p1 then
 (∃ b21, fR S14 191 a = some b21 ∧ (vp_in x5_13 (aN S14 b21) ∧ (if aI S14 103 b21 (x5_13).toNatClampNeg ≤ 0 then
 K219_19 x4_12 S14
 else
 (∃ b22, fR S14 193 a = some b22 ∧ (vp_in x5_13 (aN S14 b22) ∧ (if aI S14 105 b22 (x5_13).toNatClampNeg = 0 then
 (∀ K150_24 : PS → Prop, (∀ (S23 : PS),
 (∀ v25, v25 = (((3 : Int32) * x5_13) + p2) - 1 → (∀ P166_26 : Int32 → PS → Prop, (∀ (x7_27 : Int32) (S28 : PS),
 (∃ b29, fR S28 200 a = some b29 ∧ (vp_in v25 (aN S28 b29) ∧ (if aI S28 112 b29 (v25).toNatClampNeg ≤ x7_27 then
 (∃ b30, fR S28 200 a = some b30 ∧ (vp_in v25 (aN S28 b30) ∧ (if aI S28 112 b30 (v25).toNatClampNeg = 0 then
 wp_X12_put a 95 S28 (fun (S31 : PS) => 
 K219_19 1 S31)
 else
 K219_19 1 S28)))
 else
 (∃ b32, fR S28 189 a = some b32 ∧ (∃ b33, fR S28 199 a = some b33 ∧ (vp_in v25 (aN S28 b33) ∧ (vp_in ((aI S28 111 b33 (v25).toNatClampNeg) + x7_27) (aN S28 b32) ∧ wp_X12_put a (aI S28 101 b32 ((aI S28 111 b33 (v25).toNatClampNeg) + x7_27).toNatClampNeg) S28 (fun (S34 : PS) => 
 (∀ v35, v35 = x7_27 + 1 → P166_26 v35 S34)))))))))
 → P166_26 x7_27 S28) → P166_26 0 S23))
 → K150_24 S23) →
 (if x4_12 = 0 then
 K150_24 S14
 else
 wp_X12_put a 32 S14 (fun (S36 : PS) => 
 K150_24 S36)))
 else
 K219_19 x4_12 S14))))))
 else
 K219_19 x4_12 S14)))))
 → P102_11 x4_12 x5_13 S14) → P102_11 0 0 S10))))))))
 else
 (∃ b37, fR S4 190 a = some b37 ∧ (vp_in x4_3 (aN S4 b37) ∧ (∀ K47_40 : Int32 → PS → Prop, (∀ (t38 : Int32) (S39 : PS),
 (∀ v41, v41 = x4_3 + 1 → P5_1 t38 v41 S39)
 → K47_40 t38 S39) →
 (if aI S4 102 b37 (x4_3).toNatClampNeg = p1 then
 (∃ b42, fR S4 200 a = some b42 ∧ (vp_in ((((3 : Int32) * x4_3) + p2) - 1) (aN S4 b42) ∧ (if aI S4 112 b42 ((((3 : Int32) * x4_3) + p2) - 1).toNatClampNeg ≤ 0 then
 K47_40 x3_2 S4
 else
 K47_40 x4_3 S4)))
 else
 K47_40 x3_2 S4)))))
 → P5_1 x3_2 x4_3 S4) → P5_1 (-1) 0 S)
set_option maxRecDepth 100000 in
set_option maxHeartbeats 4000000 in
theorem c_X12_putVerse {l : Launch} {E : EE} {A : Nat → Prop} {a : Nat} {p1 : Int32} {p2 : Int32} {S : PS} {Q : PS → Prop} (r_a : Rf S a 9) (h : wp_X12_putVerse a p1 p2 S Q) : MtV l yX12_putVerse (.code yX12_putVerse cX12_putVerse 8 none) rm_X12_putVerse E A [.ref a, .int p1, .int p2] S Q := by
  refine MtV.of (by decide) (Nat.le_of_ble_eq_true rfl) (fun X F hQ hN => ?_)
  show VV X (0, 0) S [(0, .ref a), (1, .int p1), (2, .int p2)] [] 0
  unfold wp_X12_putVerse at h
  refine v_iconst (v := (-1)) F dX12_putVerse_0 (by decide) ?_
  refine v_istore_n (lv1 := [(3, .int (-1)), (0, .ref a), (1, .int p1), (2, .int p2)]) F dX12_putVerse_1 rfl (by rw [hN]; decide) rfl ?_
  refine v_iconst (v := 0) F dX12_putVerse_2 (by decide) ?_
  refine v_istore (lv1 := [(4, .int 0), (3, .int (-1)), (0, .ref a), (1, .int p1), (2, .int p2)]) F dX12_putVerse_3 (by rw [hN]; decide) rfl ?_
  refine v_sub [2, 3, 4, 1, 0] rfl ?_
  refine h (fun (x3_2 : Int32) (x4_3 : Int32) (S4 : PS) => Rf S4 a 9 → VV X (0, 0) S4 [(0, .ref a), (1, .int p1), (2, .int p2), (3, .int x3_2), (4, .int x4_3)] [] 5) (fun x3_2 x4_3 S4 h r_a => ?_) r_a
  refine v_iload F dX12_putVerse_5 4 rfl ?_
  refine v_aload_n F dX12_putVerse_7 0 rfl rfl ?_
  refine g_X12_576 F r_a dX12_putVerse_8 ?_
  refine v_icmp_ge (tgt := 54) F dX12_putVerse_11 (by decide) h (fun h => ?_) (fun h => ?_)
  · refine v_iload_n F dX12_putVerse_54 3 rfl rfl ?_
    refine v_iconst (v := (-1)) F dX12_putVerse_55 (by decide) ?_
    refine v_icmp_ne (tgt := 60) F dX12_putVerse_56 (by decide) h (fun h => ?_) (fun h => ?_)
    · refine v_aload_n F dX12_putVerse_60 0 rfl rfl ?_
      refine v_cV0 (v_runV F k_X12_619 rfl (c_X12_apart r_a h) r_a rfl rfl (Nat.le_of_ble_eq_true rfl) (by decide) (by decide) dX12_putVerse_61) ⟨rfl, rfl⟩ (fun  S5 h hE => ?_)
      have r_a := r_a.tr hE
      refine v_aload_n F dX12_putVerse_64 0 rfl rfl ?_
      refine v_bipush (v := 87) F dX12_putVerse_65 (by decide) ?_
      refine v_cV0 (v_runV F k_X12_613 rfl (c_X12_put r_a h) r_a rfl rfl (Nat.le_of_ble_eq_true rfl) (by decide) (by decide) dX12_putVerse_67) ⟨rfl, rfl⟩ (fun  S6 h hE => ?_)
      have r_a := r_a.tr hE
      refine v_aload_n F dX12_putVerse_70 0 rfl rfl ?_
      refine v_bipush (v := 32) F dX12_putVerse_71 (by decide) ?_
      refine v_cV0 (v_runV F k_X12_613 rfl (c_X12_put r_a h) r_a rfl rfl (Nat.le_of_ble_eq_true rfl) (by decide) (by decide) dX12_putVerse_73) ⟨rfl, rfl⟩ (fun  S7 h hE => ?_)
      have r_a := r_a.tr hE
      refine v_aload_n F dX12_putVerse_76 0 rfl rfl ?_
      refine v_bipush (v := 48) F dX12_putVerse_77 (by decide) ?_
      refine v_iload_n F dX12_putVerse_79 2 rfl rfl ?_
      refine v_iadd F dX12_putVerse_80 ?_
      refine v_cV0 (v_runV F k_X12_613 rfl (c_X12_put r_a h) r_a rfl rfl (Nat.le_of_ble_eq_true rfl) (by decide) (by decide) dX12_putVerse_81) ⟨rfl, rfl⟩ (fun  S8 h hE => ?_)
      have r_a := r_a.tr hE
      refine v_aload_n F dX12_putVerse_84 0 rfl rfl ?_
      refine v_bipush (v := 32) F dX12_putVerse_85 (by decide) ?_
      refine v_cV0 (v_runV F k_X12_613 rfl (c_X12_put r_a h) r_a rfl rfl (Nat.le_of_ble_eq_true rfl) (by decide) (by decide) dX12_putVerse_87) ⟨rfl, rfl⟩ (fun  S9 h hE => ?_)
      have r_a := r_a.tr hE
      refine v_aload_n F dX12_putVerse_90 0 rfl rfl ?_
      refine v_bipush (v := 34) F dX12_putVerse_91 (by decide) ?_
      refine v_cV0 (v_runV F k_X12_613 rfl (c_X12_put r_a h) r_a rfl rfl (Nat.le_of_ble_eq_true rfl) (by decide) (by decide) dX12_putVerse_93) ⟨rfl, rfl⟩ (fun  S10 h hE => ?_)
      have r_a := r_a.tr hE
      refine v_iconst (v := 0) F dX12_putVerse_96 (by decide) ?_
      refine v_istore (lv1 := [(4, .int 0), (0, .ref a), (1, .int p1), (2, .int p2), (3, .int x3_2)]) F dX12_putVerse_97 (by rw [hN]; decide) rfl ?_
      refine v_iconst (v := 0) F dX12_putVerse_99 (by decide) ?_
      refine v_istore (lv1 := [(5, .int 0), (4, .int 0), (0, .ref a), (1, .int p1), (2, .int p2), (3, .int x3_2)]) F dX12_putVerse_100 (by rw [hN]; decide) rfl ?_
      refine v_sub [2, 3, 4, 5, 1, 0] rfl ?_
      refine h (fun (x4_12 : Int32) (x5_13 : Int32) (S14 : PS) => Rf S14 a 9 → VV X (0, 0) S14 [(0, .ref a), (1, .int p1), (2, .int p2), (3, .int x3_2), (4, .int x4_12), (5, .int x5_13)] [] 102) (fun x4_12 x5_13 S14 h r_a => ?_) r_a
      refine v_iload F dX12_putVerse_102 5 rfl ?_
      refine v_iload_n F dX12_putVerse_104 3 rfl rfl ?_
      refine v_icmp_gt (tgt := 225) F dX12_putVerse_105 (by decide) h (fun h => ?_) (fun h => ?_)
      · refine v_aload_n F dX12_putVerse_225 0 rfl rfl ?_
        refine v_bipush (v := 34) F dX12_putVerse_226 (by decide) ?_
        refine v_cV0 (v_runV F k_X12_613 rfl (c_X12_put r_a h) r_a rfl rfl (Nat.le_of_ble_eq_true rfl) (by decide) (by decide) dX12_putVerse_228) ⟨rfl, rfl⟩ (fun  S15 h hE => ?_)
        have r_a := r_a.tr hE
        exact v_vret F hQ h (by decide) dX12_putVerse_231
      · refine v_aload_n F dX12_putVerse_108 0 rfl rfl ?_
        refine g_X12_510 F r_a h dX12_putVerse_109 (fun b16 r_b16 h => ?_)
        refine v_iload F dX12_putVerse_112 5 rfl ?_
        refine v_iald F r_b16 o_102 h dX12_putVerse_114 (fun h => ?_)
        refine v_iload_n F dX12_putVerse_115 1 rfl rfl ?_
        have h := h (fun (x4_17 : Int32) (S18 : PS) => Rf S18 a 9 → VV X (0, 0) S18 [(0, .ref a), (1, .int p1), (2, .int p2), (3, .int x3_2), (4, .int x4_17), (5, .int x5_13)] [] 219) (by
          intro x4_17 S18 h r_a
          obtain ⟨v20, e_v20⟩ : ∃ y : Int32, y = x5_13 + 1 := ⟨_, rfl⟩
          have h := h v20 e_v20
          refine v_iinc (v := v20) (lv1 := [(5, .int v20), (0, .ref a), (1, .int p1), (2, .int p2), (3, .int x3_2), (4, .int x4_17)]) F dX12_putVerse_219 (q := 5) rfl (by rw [e_v20]; rfl) (by rw [hN]; decide) rfl ?_
          refine v_goto (tgt := 102) F dX12_putVerse_222 (by decide) ?_
          exact v_sub [1, 2, 3, 4, 5, 0] rfl (h r_a))
        refine v_icmp_ne (tgt := 219) F dX12_putVerse_116 (by decide) h (fun h => ?_) (fun h => ?_)
        · exact v_sub [0, 1, 2, 3, 4, 5] rfl (h r_a)
        · refine v_aload_n F dX12_putVerse_119 0 rfl rfl ?_
          refine g_X12_513 F r_a h dX12_putVerse_120 (fun b21 r_b21 h => ?_)
          refine v_iload F dX12_putVerse_123 5 rfl ?_
          refine v_iald F r_b21 o_103 h dX12_putVerse_125 (fun h => ?_)
          refine v_if_le (tgt := 219) F dX12_putVerse_126 (by decide) h (fun h => ?_) (fun h => ?_)
          · exact v_sub [0, 1, 2, 3, 4, 5] rfl (h r_a)
          · refine v_aload_n F dX12_putVerse_129 0 rfl rfl ?_
            refine g_X12_519 F r_a h dX12_putVerse_130 (fun b22 r_b22 h => ?_)
            refine v_iload F dX12_putVerse_133 5 rfl ?_
            refine v_zald F r_b22 o_105 h dX12_putVerse_135 (fun h => ?_)
            refine v_if_ne (tgt := 219) F dX12_putVerse_136 (by decide) h (fun h => ?_) (fun h => ?_)
            · exact v_sub [0, 1, 2, 3, 4, 5] rfl (h r_a)
            · refine v_iload F dX12_putVerse_139 4 rfl ?_
              have h := h (fun (S23 : PS) => Rf S23 a 9 → VV X (0, 0) S23 [(0, .ref a), (1, .int p1), (2, .int p2), (3, .int x3_2), (5, .int x5_13)] [] 150) (by
                intro S23 h r_a
                refine v_iconst (v := 1) F dX12_putVerse_150 (by decide) ?_
                refine v_istore (lv1 := [(4, .int 1), (0, .ref a), (1, .int p1), (2, .int p2), (3, .int x3_2), (5, .int x5_13)]) F dX12_putVerse_151 (by rw [hN]; decide) rfl ?_
                refine v_iconst (v := 3) F dX12_putVerse_153 (by decide) ?_
                refine v_iload F dX12_putVerse_154 5 rfl ?_
                refine v_imul F dX12_putVerse_156 ?_
                refine v_iload_n F dX12_putVerse_157 3 rfl rfl ?_
                refine v_iadd F dX12_putVerse_158 ?_
                refine v_iconst (v := 1) F dX12_putVerse_159 (by decide) ?_
                refine v_isub F dX12_putVerse_160 ?_
                refine v_topi (fun v25 e_v25 => ?_)
                have h := h v25 e_v25
                refine v_istore (lv1 := [(6, .int v25), (4, .int 1), (0, .ref a), (1, .int p1), (2, .int p2), (3, .int x3_2), (5, .int x5_13)]) F dX12_putVerse_161 (by rw [hN]; decide) rfl ?_
                refine v_iconst (v := 0) F dX12_putVerse_163 (by decide) ?_
                refine v_istore (lv1 := [(7, .int 0), (6, .int v25), (4, .int 1), (0, .ref a), (1, .int p1), (2, .int p2), (3, .int x3_2), (5, .int x5_13)]) F dX12_putVerse_164 (by rw [hN]; decide) rfl ?_
                refine v_sub [3, 4, 5, 6, 2, 7, 1, 0] rfl ?_
                refine h (fun (x7_27 : Int32) (S28 : PS) => Rf S28 a 9 → VV X (0, 0) S28 [(0, .ref a), (1, .int p1), (2, .int p2), (3, .int x3_2), (4, .int 1), (5, .int x5_13), (6, .int v25), (7, .int x7_27)] [] 166) (fun x7_27 S28 h r_a => ?_) r_a
                refine v_iload F dX12_putVerse_166 7 rfl ?_
                refine v_aload_n F dX12_putVerse_168 0 rfl rfl ?_
                refine g_X12_540 F r_a h dX12_putVerse_169 (fun b29 r_b29 h => ?_)
                refine v_iload F dX12_putVerse_172 6 rfl ?_
                refine v_iald F r_b29 o_112 h dX12_putVerse_174 (fun h => ?_)
                refine v_icmp_ge (tgt := 203) F dX12_putVerse_175 (by decide) h (fun h => ?_) (fun h => ?_)
                · refine v_aload_n F dX12_putVerse_203 0 rfl rfl ?_
                  refine g_X12_540 F r_a h dX12_putVerse_204 (fun b30 r_b30 h => ?_)
                  refine v_iload F dX12_putVerse_207 6 rfl ?_
                  refine v_iald F r_b30 o_112 h dX12_putVerse_209 (fun h => ?_)
                  refine v_if_ne (tgt := 219) F dX12_putVerse_210 (by decide) h (fun h => ?_) (fun h => ?_)
                  · exact v_sub [0, 1, 2, 3, 4, 5] rfl (h r_a)
                  · refine v_aload_n F dX12_putVerse_213 0 rfl rfl ?_
                    refine v_bipush (v := 95) F dX12_putVerse_214 (by decide) ?_
                    refine v_cV0 (v_runV F k_X12_613 rfl (c_X12_put r_a h) r_a rfl rfl (Nat.le_of_ble_eq_true rfl) (by decide) (by decide) dX12_putVerse_216) ⟨rfl, rfl⟩ (fun  S31 h hE => ?_)
                    have r_a := r_a.tr hE
                    exact v_sub [0, 1, 2, 3, 4, 5] rfl (h r_a)
                · refine v_aload_n F dX12_putVerse_178 0 rfl rfl ?_
                  refine v_aload_n F dX12_putVerse_179 0 rfl rfl ?_
                  refine g_X12_507 F r_a h dX12_putVerse_180 (fun b32 r_b32 h => ?_)
                  refine v_aload_n F dX12_putVerse_183 0 rfl rfl ?_
                  refine g_X12_537 F r_a h dX12_putVerse_184 (fun b33 r_b33 h => ?_)
                  refine v_iload F dX12_putVerse_187 6 rfl ?_
                  refine v_iald F r_b33 o_111 h dX12_putVerse_189 (fun h => ?_)
                  refine v_iload F dX12_putVerse_190 7 rfl ?_
                  refine v_iadd F dX12_putVerse_192 ?_
                  refine v_bald F r_b32 o_101 h dX12_putVerse_193 (fun h => ?_)
                  refine v_cV0 (v_runV F k_X12_613 rfl (c_X12_put r_a h) r_a rfl rfl (Nat.le_of_ble_eq_true rfl) (by decide) (by decide) dX12_putVerse_194) ⟨rfl, rfl⟩ (fun  S34 h hE => ?_)
                  have r_a := r_a.tr hE
                  obtain ⟨v35, e_v35⟩ : ∃ y : Int32, y = x7_27 + 1 := ⟨_, rfl⟩
                  have h := h v35 e_v35
                  refine v_iinc (v := v35) (lv1 := [(7, .int v35), (0, .ref a), (1, .int p1), (2, .int p2), (3, .int x3_2), (4, .int 1), (5, .int x5_13), (6, .int v25)]) F dX12_putVerse_197 (q := 7) rfl (by rw [e_v35]; rfl) (by rw [hN]; decide) rfl ?_
                  refine v_goto (tgt := 166) F dX12_putVerse_200 (by decide) ?_
                  exact v_sub [1, 2, 3, 4, 5, 6, 7, 0] rfl (h r_a))
              refine v_if_eq (tgt := 150) F dX12_putVerse_141 (by decide) h (fun h => ?_) (fun h => ?_)
              · exact v_sub [0, 1, 2, 3, 5] rfl (h r_a)
              · refine v_aload_n F dX12_putVerse_144 0 rfl rfl ?_
                refine v_bipush (v := 32) F dX12_putVerse_145 (by decide) ?_
                refine v_cV0 (v_runV F k_X12_613 rfl (c_X12_put r_a h) r_a rfl rfl (Nat.le_of_ble_eq_true rfl) (by decide) (by decide) dX12_putVerse_147) ⟨rfl, rfl⟩ (fun  S36 h hE => ?_)
                have r_a := r_a.tr hE
                exact v_sub [0, 1, 2, 3, 5] rfl (h r_a)
    · exact v_vret F hQ h (by decide) dX12_putVerse_59
  · refine v_aload_n F dX12_putVerse_14 0 rfl rfl ?_
    refine g_X12_510 F r_a h dX12_putVerse_15 (fun b37 r_b37 h => ?_)
    refine v_iload F dX12_putVerse_18 4 rfl ?_
    refine v_iald F r_b37 o_102 h dX12_putVerse_20 (fun h => ?_)
    refine v_iload_n F dX12_putVerse_21 1 rfl rfl ?_
    have h := h (fun (t38 : Int32) (S39 : PS) => Rf S39 a 9 → VV X (0, 0) S39 [(0, .ref a), (1, .int p1), (2, .int p2), (4, .int x4_3)] [.int t38] 47) (by
      intro t38 S39 h r_a
      refine v_istore_n (lv1 := [(3, .int t38), (0, .ref a), (1, .int p1), (2, .int p2), (4, .int x4_3)]) F dX12_putVerse_47 rfl (by rw [hN]; decide) rfl ?_
      obtain ⟨v41, e_v41⟩ : ∃ y : Int32, y = x4_3 + 1 := ⟨_, rfl⟩
      have h := h v41 e_v41
      refine v_iinc (v := v41) (lv1 := [(4, .int v41), (3, .int t38), (0, .ref a), (1, .int p1), (2, .int p2)]) F dX12_putVerse_48 (q := 4) rfl (by rw [e_v41]; rfl) (by rw [hN]; decide) rfl ?_
      refine v_goto (tgt := 5) F dX12_putVerse_51 (by decide) ?_
      exact v_sub [2, 3, 4, 1, 0] rfl (h r_a))
    refine v_icmp_ne (tgt := 46) F dX12_putVerse_22 (by decide) h (fun h => ?_) (fun h => ?_)
    · refine v_iload_n F dX12_putVerse_46 3 rfl rfl ?_
      exact v_sub [0, 1, 2, 4] rfl (h r_a)
    · refine v_aload_n F dX12_putVerse_25 0 rfl rfl ?_
      refine g_X12_540 F r_a h dX12_putVerse_26 (fun b42 r_b42 h => ?_)
      refine v_iconst (v := 3) F dX12_putVerse_29 (by decide) ?_
      refine v_iload F dX12_putVerse_30 4 rfl ?_
      refine v_imul F dX12_putVerse_32 ?_
      refine v_iload_n F dX12_putVerse_33 2 rfl rfl ?_
      refine v_iadd F dX12_putVerse_34 ?_
      refine v_iconst (v := 1) F dX12_putVerse_35 (by decide) ?_
      refine v_isub F dX12_putVerse_36 ?_
      refine v_iald F r_b42 o_112 h dX12_putVerse_37 (fun h => ?_)
      refine v_if_le (tgt := 46) F dX12_putVerse_38 (by decide) h (fun h => ?_) (fun h => ?_)
      · refine v_iload_n F dX12_putVerse_46 3 rfl rfl ?_
        exact v_sub [0, 1, 2, 4] rfl (h r_a)
      · refine v_iload F dX12_putVerse_41 4 rfl ?_
        refine v_goto (tgt := 47) F dX12_putVerse_43 (by decide) ?_
        exact v_sub [0, 1, 2, 4] rfl (h r_a)
theorem dX12_putVoice_0 : decode cX12_putVoice 0 = .ok (.aload_n 0, 1) := by decide +kernel
theorem dX12_putVoice_1 : decode cX12_putVoice 1 = .ok (.iconst 0, 1) := by decide +kernel
theorem dX12_putVoice_2 : decode cX12_putVoice 2 = .ok (.putfield 610, 3) := by decide +kernel
theorem dX12_putVoice_5 : decode cX12_putVoice 5 = .ok (.aload_n 0, 1) := by decide +kernel
theorem dX12_putVoice_6 : decode cX12_putVoice 6 = .ok (.getfield 546, 3) := by decide +kernel
theorem dX12_putVoice_9 : decode cX12_putVoice 9 = .ok (.iload_n 1, 1) := by decide +kernel
theorem dX12_putVoice_10 : decode cX12_putVoice 10 = .ok (.laload, 1) := by decide +kernel
theorem dX12_putVoice_11 : decode cX12_putVoice 11 = .ok (.lconst 0, 1) := by decide +kernel
theorem dX12_putVoice_12 : decode cX12_putVoice 12 = .ok (.lcmp, 1) := by decide +kernel
theorem dX12_putVoice_13 : decode cX12_putVoice 13 = .ok (.ifCond .le 29, 3) := by decide +kernel
theorem dX12_putVoice_16 : decode cX12_putVoice 16 = .ok (.aload_n 0, 1) := by decide +kernel
theorem dX12_putVoice_17 : decode cX12_putVoice 17 = .ok (.invokevirtual 619, 3) := by decide +kernel
theorem dX12_putVoice_20 : decode cX12_putVoice 20 = .ok (.aload_n 0, 1) := by decide +kernel
theorem dX12_putVoice_21 : decode cX12_putVoice 21 = .ok (.bipush 114, 2) := by decide +kernel
theorem dX12_putVoice_23 : decode cX12_putVoice 23 = .ok (.invokevirtual 613, 3) := by decide +kernel
theorem dX12_putVoice_26 : decode cX12_putVoice 26 = .ok (.aload_n 0, 1) := by decide +kernel
theorem dX12_putVoice_27 : decode cX12_putVoice 27 = .ok (.bipush 58, 2) := by decide +kernel
theorem dX12_putVoice_29 : decode cX12_putVoice 29 = .ok (.invokevirtual 613, 3) := by decide +kernel
theorem dX12_putVoice_32 : decode cX12_putVoice 32 = .ok (.aload_n 0, 1) := by decide +kernel
theorem dX12_putVoice_33 : decode cX12_putVoice 33 = .ok (.aload_n 0, 1) := by decide +kernel
theorem dX12_putVoice_34 : decode cX12_putVoice 34 = .ok (.getfield 546, 3) := by decide +kernel
theorem dX12_putVoice_37 : decode cX12_putVoice 37 = .ok (.iload_n 1, 1) := by decide +kernel
theorem dX12_putVoice_38 : decode cX12_putVoice 38 = .ok (.laload, 1) := by decide +kernel
theorem dX12_putVoice_39 : decode cX12_putVoice 39 = .ok (.invokevirtual 625, 3) := by decide +kernel
theorem dX12_putVoice_42 : decode cX12_putVoice 42 = .ok (.iconst 0, 1) := by decide +kernel
theorem dX12_putVoice_43 : decode cX12_putVoice 43 = .ok (.istore_n 2, 1) := by decide +kernel
theorem dX12_putVoice_44 : decode cX12_putVoice 44 = .ok (.iload_n 2, 1) := by decide +kernel
theorem dX12_putVoice_45 : decode cX12_putVoice 45 = .ok (.aload_n 0, 1) := by decide +kernel
theorem dX12_putVoice_46 : decode cX12_putVoice 46 = .ok (.getfield 576, 3) := by decide +kernel
theorem dX12_putVoice_49 : decode cX12_putVoice 49 = .ok (.if_icmp .ge 24, 3) := by decide +kernel
theorem dX12_putVoice_52 : decode cX12_putVoice 52 = .ok (.aload_n 0, 1) := by decide +kernel
theorem dX12_putVoice_53 : decode cX12_putVoice 53 = .ok (.getfield 510, 3) := by decide +kernel
theorem dX12_putVoice_56 : decode cX12_putVoice 56 = .ok (.iload_n 2, 1) := by decide +kernel
theorem dX12_putVoice_57 : decode cX12_putVoice 57 = .ok (.iaload, 1) := by decide +kernel
theorem dX12_putVoice_58 : decode cX12_putVoice 58 = .ok (.iload_n 1, 1) := by decide +kernel
theorem dX12_putVoice_59 : decode cX12_putVoice 59 = .ok (.if_icmp .ne 8, 3) := by decide +kernel
theorem dX12_putVoice_62 : decode cX12_putVoice 62 = .ok (.aload_n 0, 1) := by decide +kernel
theorem dX12_putVoice_63 : decode cX12_putVoice 63 = .ok (.iload_n 2, 1) := by decide +kernel
theorem dX12_putVoice_64 : decode cX12_putVoice 64 = .ok (.invokevirtual 629, 3) := by decide +kernel
theorem dX12_putVoice_67 : decode cX12_putVoice 67 = .ok (.iinc 2 1, 3) := by decide +kernel
theorem dX12_putVoice_70 : decode cX12_putVoice 70 = .ok (.goto (-26), 3) := by decide +kernel
theorem dX12_putVoice_73 : decode cX12_putVoice 73 = .ok (.iconst 1, 1) := by decide +kernel
theorem dX12_putVoice_74 : decode cX12_putVoice 74 = .ok (.istore_n 2, 1) := by decide +kernel
theorem dX12_putVoice_75 : decode cX12_putVoice 75 = .ok (.iload_n 2, 1) := by decide +kernel
theorem dX12_putVoice_76 : decode cX12_putVoice 76 = .ok (.iconst 4, 1) := by decide +kernel
theorem dX12_putVoice_77 : decode cX12_putVoice 77 = .ok (.if_icmp .ge 15, 3) := by decide +kernel
theorem dX12_putVoice_80 : decode cX12_putVoice 80 = .ok (.aload_n 0, 1) := by decide +kernel
theorem dX12_putVoice_81 : decode cX12_putVoice 81 = .ok (.iload_n 1, 1) := by decide +kernel
theorem dX12_putVoice_82 : decode cX12_putVoice 82 = .ok (.iload_n 2, 1) := by decide +kernel
theorem dX12_putVoice_83 : decode cX12_putVoice 83 = .ok (.invokevirtual 632, 3) := by decide +kernel
theorem dX12_putVoice_86 : decode cX12_putVoice 86 = .ok (.iinc 2 1, 3) := by decide +kernel
theorem dX12_putVoice_89 : decode cX12_putVoice 89 = .ok (.goto (-14), 3) := by decide +kernel
theorem dX12_putVoice_92 : decode cX12_putVoice 92 = .ok (.return_, 1) := by decide +kernel
abbrev rm_X12_putVoice : Room := { frames := 4, cells := 0, slots := 0, locals := 87 }
def wp_X12_putVoice (a : Nat) (p1 : Int32) (S : PS) (Q : PS → Prop) : Prop :=
  (∀ S1, S1 = sI S 214 a 0 → (∃ b2, fR S1 202 a = some b2 ∧ (vp_in p1 (aN S1 b2) ∧ (∀ K42_4 : PS → Prop, (∀ (S3 : PS),
 (∀ P44_5 : Int32 → PS → Prop, (∀ (x2_6 : Int32) (S7 : PS),
 (if fI S7 206 a ≤ x2_6 then
 (∀ P75_8 : Int32 → PS → Prop, (∀ (x2_9 : Int32) (S10 : PS),
 (if 4 ≤ x2_9 then
 Q S10
 else
 wp_X12_putVerse a p1 x2_9 S10 (fun (S11 : PS) => 
 (∀ v12, v12 = x2_9 + 1 → P75_8 v12 S11)))
 → P75_8 x2_9 S10) → P75_8 1 S7)
 else
 (∃ b13, fR S7 190 a = some b13 ∧ (vp_in x2_6 (aN S7 b13) ∧ (∀ K67_15 : PS → Prop, (∀ (S14 : PS),
 (∀ v16, v16 = x2_6 + 1 → P44_5 v16 S14)
 → K67_15 S14) →
 (if aI S7 102 b13 (x2_6).toNatClampNeg = p1 then
 wp_X12_putEvent a x2_6 S7 (fun (S17 : PS) => 
 K67_15 S17)
 else
 K67_15 S7)))))
 → P44_5 x2_6 S7) → P44_5 0 S3)
 → K42_4 S3) →
 (if aL S1 114 b2 (p1).toNatClampNeg ≤ 0 then
 K42_4 S1
 else
 wp_X12_apart a S1 (fun (S18 : PS) => 
 wp_X12_put a 114 S18 (fun (S19 : PS) => 
 wp_X12_put a 58 S19 (fun (S20 : PS) => 
 (∃ b21, fR S20 202 a = some b21 ∧ (vp_in p1 (aN S20 b21) ∧ wp_X12_putNumber a (aL S20 114 b21 (p1).toNatClampNeg) S20 (fun (S22 : PS) => 
 K42_4 S22)))))))))))
set_option maxRecDepth 100000 in
set_option maxHeartbeats 4000000 in
theorem c_X12_putVoice {l : Launch} {E : EE} {A : Nat → Prop} {a : Nat} {p1 : Int32} {S : PS} {Q : PS → Prop} (r_a : Rf S a 9) (h : wp_X12_putVoice a p1 S Q) : MtV l yX12_putVoice (.code yX12_putVoice cX12_putVoice 3 none) rm_X12_putVoice E A [.ref a, .int p1] S Q := by
  refine MtV.of (by decide) (Nat.le_of_ble_eq_true rfl) (fun X F hQ hN => ?_)
  show VV X (0, 0) S [(0, .ref a), (1, .int p1)] [] 0
  unfold wp_X12_putVoice at h
  refine v_aload_n F dX12_putVoice_0 0 rfl rfl ?_
  refine v_iconst (v := 0) F dX12_putVoice_1 (by decide) ?_
  refine p_X12_610 F r_a rfl rfl h dX12_putVoice_2 (fun S1 h hE => ?_)
  have r_a := r_a.tr hE
  refine v_aload_n F dX12_putVoice_5 0 rfl rfl ?_
  refine g_X12_546 F r_a h dX12_putVoice_6 (fun b2 r_b2 h => ?_)
  refine v_iload_n F dX12_putVoice_9 1 rfl rfl ?_
  refine v_lald F r_b2 o_114 h dX12_putVoice_10 (fun h => ?_)
  refine v_lconst (v := 0) F dX12_putVoice_11 (by decide) ?_
  have h := h (fun (S3 : PS) => Rf S3 a 9 → VV X (0, 0) S3 [(0, .ref a), (1, .int p1)] [] 42) (by
    intro S3 h r_a
    refine v_iconst (v := 0) F dX12_putVoice_42 (by decide) ?_
    refine v_istore_n (lv1 := [(2, .int 0), (0, .ref a), (1, .int p1)]) F dX12_putVoice_43 rfl (by rw [hN]; decide) rfl ?_
    refine v_sub [1, 2, 0] rfl ?_
    refine h (fun (x2_6 : Int32) (S7 : PS) => Rf S7 a 9 → VV X (0, 0) S7 [(0, .ref a), (1, .int p1), (2, .int x2_6)] [] 44) (fun x2_6 S7 h r_a => ?_) r_a
    refine v_iload_n F dX12_putVoice_44 2 rfl rfl ?_
    refine v_aload_n F dX12_putVoice_45 0 rfl rfl ?_
    refine g_X12_576 F r_a dX12_putVoice_46 ?_
    refine v_icmp_ge (tgt := 73) F dX12_putVoice_49 (by decide) h (fun h => ?_) (fun h => ?_)
    · refine v_iconst (v := 1) F dX12_putVoice_73 (by decide) ?_
      refine v_istore_n (lv1 := [(2, .int 1), (0, .ref a), (1, .int p1)]) F dX12_putVoice_74 rfl (by rw [hN]; decide) rfl ?_
      refine v_sub [1, 2, 0] rfl ?_
      refine h (fun (x2_9 : Int32) (S10 : PS) => Rf S10 a 9 → VV X (0, 0) S10 [(0, .ref a), (1, .int p1), (2, .int x2_9)] [] 75) (fun x2_9 S10 h r_a => ?_) r_a
      refine v_iload_n F dX12_putVoice_75 2 rfl rfl ?_
      refine v_iconst (v := 4) F dX12_putVoice_76 (by decide) ?_
      refine v_icmp_ge (tgt := 92) F dX12_putVoice_77 (by decide) h (fun h => ?_) (fun h => ?_)
      · exact v_vret F hQ h (by decide) dX12_putVoice_92
      · refine v_aload_n F dX12_putVoice_80 0 rfl rfl ?_
        refine v_iload_n F dX12_putVoice_81 1 rfl rfl ?_
        refine v_iload_n F dX12_putVoice_82 2 rfl rfl ?_
        refine v_cV0 (v_runV F k_X12_632 rfl (c_X12_putVerse r_a h) r_a rfl rfl (Nat.le_of_ble_eq_true rfl) (by decide) (by decide) dX12_putVoice_83) ⟨rfl, rfl⟩ (fun  S11 h hE => ?_)
        have r_a := r_a.tr hE
        obtain ⟨v12, e_v12⟩ : ∃ y : Int32, y = x2_9 + 1 := ⟨_, rfl⟩
        have h := h v12 e_v12
        refine v_iinc (v := v12) (lv1 := [(2, .int v12), (0, .ref a), (1, .int p1)]) F dX12_putVoice_86 (q := 2) rfl (by rw [e_v12]; rfl) (by rw [hN]; decide) rfl ?_
        refine v_goto (tgt := 75) F dX12_putVoice_89 (by decide) ?_
        exact v_sub [1, 2, 0] rfl (h r_a)
    · refine v_aload_n F dX12_putVoice_52 0 rfl rfl ?_
      refine g_X12_510 F r_a h dX12_putVoice_53 (fun b13 r_b13 h => ?_)
      refine v_iload_n F dX12_putVoice_56 2 rfl rfl ?_
      refine v_iald F r_b13 o_102 h dX12_putVoice_57 (fun h => ?_)
      refine v_iload_n F dX12_putVoice_58 1 rfl rfl ?_
      have h := h (fun (S14 : PS) => Rf S14 a 9 → VV X (0, 0) S14 [(0, .ref a), (1, .int p1), (2, .int x2_6)] [] 67) (by
        intro S14 h r_a
        obtain ⟨v16, e_v16⟩ : ∃ y : Int32, y = x2_6 + 1 := ⟨_, rfl⟩
        have h := h v16 e_v16
        refine v_iinc (v := v16) (lv1 := [(2, .int v16), (0, .ref a), (1, .int p1)]) F dX12_putVoice_67 (q := 2) rfl (by rw [e_v16]; rfl) (by rw [hN]; decide) rfl ?_
        refine v_goto (tgt := 44) F dX12_putVoice_70 (by decide) ?_
        exact v_sub [1, 2, 0] rfl (h r_a))
      refine v_icmp_ne (tgt := 67) F dX12_putVoice_59 (by decide) h (fun h => ?_) (fun h => ?_)
      · exact v_sub [0, 1, 2] rfl (h r_a)
      · refine v_aload_n F dX12_putVoice_62 0 rfl rfl ?_
        refine v_iload_n F dX12_putVoice_63 2 rfl rfl ?_
        refine v_cV0 (v_runV F k_X12_629 rfl (c_X12_putEvent r_a h) r_a rfl rfl (Nat.le_of_ble_eq_true rfl) (by decide) (by decide) dX12_putVoice_64) ⟨rfl, rfl⟩ (fun  S17 h hE => ?_)
        have r_a := r_a.tr hE
        exact v_sub [0, 1, 2] rfl (h r_a))
  refine v_lcmp_le (tgt := 42) F dX12_putVoice_12 dX12_putVoice_13 (by decide) h (fun h => ?_) (fun h => ?_)
  · exact v_sub [0, 1] rfl (h r_a)
  · refine v_aload_n F dX12_putVoice_16 0 rfl rfl ?_
    refine v_cV0 (v_runV F k_X12_619 rfl (c_X12_apart r_a h) r_a rfl rfl (Nat.le_of_ble_eq_true rfl) (by decide) (by decide) dX12_putVoice_17) ⟨rfl, rfl⟩ (fun  S18 h hE => ?_)
    have r_a := r_a.tr hE
    refine v_aload_n F dX12_putVoice_20 0 rfl rfl ?_
    refine v_bipush (v := 114) F dX12_putVoice_21 (by decide) ?_
    refine v_cV0 (v_runV F k_X12_613 rfl (c_X12_put r_a h) r_a rfl rfl (Nat.le_of_ble_eq_true rfl) (by decide) (by decide) dX12_putVoice_23) ⟨rfl, rfl⟩ (fun  S19 h hE => ?_)
    have r_a := r_a.tr hE
    refine v_aload_n F dX12_putVoice_26 0 rfl rfl ?_
    refine v_bipush (v := 58) F dX12_putVoice_27 (by decide) ?_
    refine v_cV0 (v_runV F k_X12_613 rfl (c_X12_put r_a h) r_a rfl rfl (Nat.le_of_ble_eq_true rfl) (by decide) (by decide) dX12_putVoice_29) ⟨rfl, rfl⟩ (fun  S20 h hE => ?_)
    have r_a := r_a.tr hE
    refine v_aload_n F dX12_putVoice_32 0 rfl rfl ?_
    refine v_aload_n F dX12_putVoice_33 0 rfl rfl ?_
    refine g_X12_546 F r_a h dX12_putVoice_34 (fun b21 r_b21 h => ?_)
    refine v_iload_n F dX12_putVoice_37 1 rfl rfl ?_
    refine v_lald F r_b21 o_114 h dX12_putVoice_38 (fun h => ?_)
    refine v_cV0 (v_runV F k_X12_625 rfl (c_X12_putNumber r_a h) r_a rfl rfl (Nat.le_of_ble_eq_true rfl) (by decide) (by decide) dX12_putVoice_39) ⟨rfl, rfl⟩ (fun  S22 h hE => ?_)
    have r_a := r_a.tr hE
    exact v_sub [0, 1] rfl (h r_a)
theorem dX12_write_0 : decode cX12_write 0 = .ok (.aload_n 0, 1) := by decide +kernel
theorem dX12_write_1 : decode cX12_write 1 = .ok (.iconst 0, 1) := by decide +kernel
theorem dX12_write_2 : decode cX12_write 2 = .ok (.putfield 1, 3) := by decide +kernel
theorem dX12_write_5 : decode cX12_write 5 = .ok (.aload_n 0, 1) := by decide +kernel
theorem dX12_write_6 : decode cX12_write 6 = .ok (.iconst 0, 1) := by decide +kernel
theorem dX12_write_7 : decode cX12_write 7 = .ok (.putfield 607, 3) := by decide +kernel
theorem dX12_write_10 : decode cX12_write 10 = .ok (.iconst 0, 1) := by decide +kernel
theorem dX12_write_11 : decode cX12_write 11 = .ok (.istore_n 1, 1) := by decide +kernel
theorem dX12_write_12 : decode cX12_write 12 = .ok (.iload_n 1, 1) := by decide +kernel
theorem dX12_write_13 : decode cX12_write 13 = .ok (.aload_n 0, 1) := by decide +kernel
theorem dX12_write_14 : decode cX12_write 14 = .ok (.getfield 558, 3) := by decide +kernel
theorem dX12_write_17 : decode cX12_write 17 = .ok (.if_icmp .ge 53, 3) := by decide +kernel
theorem dX12_write_20 : decode cX12_write 20 = .ok (.aload_n 0, 1) := by decide +kernel
theorem dX12_write_21 : decode cX12_write 21 = .ok (.getfield 558, 3) := by decide +kernel
theorem dX12_write_24 : decode cX12_write 24 = .ok (.iconst 1, 1) := by decide +kernel
theorem dX12_write_25 : decode cX12_write 25 = .ok (.if_icmp .le 34, 3) := by decide +kernel
theorem dX12_write_28 : decode cX12_write 28 = .ok (.aload_n 0, 1) := by decide +kernel
theorem dX12_write_29 : decode cX12_write 29 = .ok (.iload_n 1, 1) := by decide +kernel
theorem dX12_write_30 : decode cX12_write 30 = .ok (.ifCond .ne 8, 3) := by decide +kernel
theorem dX12_write_33 : decode cX12_write 33 = .ok (.bipush 91, 2) := by decide +kernel
theorem dX12_write_35 : decode cX12_write 35 = .ok (.goto 5, 3) := by decide +kernel
theorem dX12_write_38 : decode cX12_write 38 = .ok (.bipush 32, 2) := by decide +kernel
theorem dX12_write_40 : decode cX12_write 40 = .ok (.invokevirtual 613, 3) := by decide +kernel
theorem dX12_write_43 : decode cX12_write 43 = .ok (.iload_n 1, 1) := by decide +kernel
theorem dX12_write_44 : decode cX12_write 44 = .ok (.ifCond .le 9, 3) := by decide +kernel
theorem dX12_write_47 : decode cX12_write 47 = .ok (.aload_n 0, 1) := by decide +kernel
theorem dX12_write_48 : decode cX12_write 48 = .ok (.bipush 47, 2) := by decide +kernel
theorem dX12_write_50 : decode cX12_write 50 = .ok (.invokevirtual 613, 3) := by decide +kernel
theorem dX12_write_53 : decode cX12_write 53 = .ok (.aload_n 0, 1) := by decide +kernel
theorem dX12_write_54 : decode cX12_write 54 = .ok (.bipush 32, 2) := by decide +kernel
theorem dX12_write_56 : decode cX12_write 56 = .ok (.invokevirtual 613, 3) := by decide +kernel
theorem dX12_write_59 : decode cX12_write 59 = .ok (.aload_n 0, 1) := by decide +kernel
theorem dX12_write_60 : decode cX12_write 60 = .ok (.iload_n 1, 1) := by decide +kernel
theorem dX12_write_61 : decode cX12_write 61 = .ok (.invokevirtual 635, 3) := by decide +kernel
theorem dX12_write_64 : decode cX12_write 64 = .ok (.iinc 1 1, 3) := by decide +kernel
theorem dX12_write_67 : decode cX12_write 67 = .ok (.goto (-55), 3) := by decide +kernel
theorem dX12_write_70 : decode cX12_write 70 = .ok (.aload_n 0, 1) := by decide +kernel
theorem dX12_write_71 : decode cX12_write 71 = .ok (.getfield 558, 3) := by decide +kernel
theorem dX12_write_74 : decode cX12_write 74 = .ok (.iconst 1, 1) := by decide +kernel
theorem dX12_write_75 : decode cX12_write 75 = .ok (.if_icmp .le 15, 3) := by decide +kernel
theorem dX12_write_78 : decode cX12_write 78 = .ok (.aload_n 0, 1) := by decide +kernel
theorem dX12_write_79 : decode cX12_write 79 = .ok (.bipush 32, 2) := by decide +kernel
theorem dX12_write_81 : decode cX12_write 81 = .ok (.invokevirtual 613, 3) := by decide +kernel
theorem dX12_write_84 : decode cX12_write 84 = .ok (.aload_n 0, 1) := by decide +kernel
theorem dX12_write_85 : decode cX12_write 85 = .ok (.bipush 93, 2) := by decide +kernel
theorem dX12_write_87 : decode cX12_write 87 = .ok (.invokevirtual 613, 3) := by decide +kernel
theorem dX12_write_90 : decode cX12_write 90 = .ok (.aload_n 0, 1) := by decide +kernel
theorem dX12_write_91 : decode cX12_write 91 = .ok (.getfield 607, 3) := by decide +kernel
theorem dX12_write_94 : decode cX12_write 94 = .ok (.ireturn, 1) := by decide +kernel
abbrev rm_X12_write : Room := { frames := 5, cells := 0, slots := 0, locals := 109 }
def wp_X12_write (a : Nat) (S : PS) (Q : Int32 → PS → Prop) : Prop :=
  (∀ S1, S1 = sI S 96 a 0 → (∀ S2, S2 = sI S1 213 a 0 → (∀ P12_3 : Int32 → PS → Prop, (∀ (x1_4 : Int32) (S5 : PS),
 (if fI S5 207 a ≤ x1_4 then
 (∀ K90_7 : PS → Prop, (∀ (S6 : PS),
 Q (fI S6 213 a) S6
 → K90_7 S6) →
 (if fI S5 207 a ≤ 1 then
 K90_7 S5
 else
 wp_X12_put a 32 S5 (fun (S8 : PS) => 
 wp_X12_put a 93 S8 (fun (S9 : PS) => 
 K90_7 S9))))
 else
 (∀ K59_11 : PS → Prop, (∀ (S10 : PS),
 wp_X12_putVoice a x1_4 S10 (fun (S12 : PS) => 
 (∀ v13, v13 = x1_4 + 1 → P12_3 v13 S12))
 → K59_11 S10) →
 (if fI S5 207 a ≤ 1 then
 K59_11 S5
 else
 (∀ K40_17 : Nat → Int32 → PS → Prop, (∀ (t14 : Nat) (t15 : Int32) (S16 : PS),
 wp_X12_put t14 t15 S16 (fun (S18 : PS) => 
 (∀ K53_20 : PS → Prop, (∀ (S19 : PS),
 wp_X12_put a 32 S19 (fun (S21 : PS) => 
 K59_11 S21)
 → K53_20 S19) →
 (if x1_4 ≤ 0 then
 K53_20 S18
 else
 wp_X12_put a 47 S18 (fun (S22 : PS) => 
 K53_20 S22))))
 → K40_17 t14 t15 S16) →
 (if x1_4 = 0 then
 K40_17 a 91 S5
 else
 K40_17 a 32 S5)))))
 → P12_3 x1_4 S5) → P12_3 0 S2)))
set_option maxRecDepth 100000 in
set_option maxHeartbeats 4000000 in
theorem c_X12_write {l : Launch} {E : EE} {A : Nat → Prop} {a : Nat} {S : PS} {Q : Int32 → PS → Prop} (r_a : Rf S a 9) (h : wp_X12_write a S Q) : MtI l yX12_write (.code yX12_write cX12_write 2 (some .int)) rm_X12_write E A [.ref a] S Q := by
  refine MtI.of (by decide) (Nat.le_of_ble_eq_true rfl) (fun X F hQ hN => ?_)
  show VV X (0, 0) S [(0, .ref a)] [] 0
  unfold wp_X12_write at h
  refine v_aload_n F dX12_write_0 0 rfl rfl ?_
  refine v_iconst (v := 0) F dX12_write_1 (by decide) ?_
  refine p_X12_1 F r_a h dX12_write_2 (fun S1 h hE => ?_)
  have r_a := r_a.tr hE
  refine v_aload_n F dX12_write_5 0 rfl rfl ?_
  refine v_iconst (v := 0) F dX12_write_6 (by decide) ?_
  refine p_X12_607 F r_a h dX12_write_7 (fun S2 h hE => ?_)
  have r_a := r_a.tr hE
  refine v_iconst (v := 0) F dX12_write_10 (by decide) ?_
  refine v_istore_n (lv1 := [(1, .int 0), (0, .ref a)]) F dX12_write_11 rfl (by rw [hN]; decide) rfl ?_
  refine v_sub [1, 0] rfl ?_
  refine h (fun (x1_4 : Int32) (S5 : PS) => Rf S5 a 9 → VV X (0, 0) S5 [(0, .ref a), (1, .int x1_4)] [] 12) (fun x1_4 S5 h r_a => ?_) r_a
  refine v_iload_n F dX12_write_12 1 rfl rfl ?_
  refine v_aload_n F dX12_write_13 0 rfl rfl ?_
  refine g_X12_558 F r_a dX12_write_14 ?_
  refine v_icmp_ge (tgt := 70) F dX12_write_17 (by decide) h (fun h => ?_) (fun h => ?_)
  · refine v_aload_n F dX12_write_70 0 rfl rfl ?_
    refine g_X12_558 F r_a dX12_write_71 ?_
    refine v_iconst (v := 1) F dX12_write_74 (by decide) ?_
    have h := h (fun (S6 : PS) => Rf S6 a 9 → VV X (0, 0) S6 [(0, .ref a)] [] 90) (by
      intro S6 h r_a
      refine v_aload_n F dX12_write_90 0 rfl rfl ?_
      refine g_X12_607 F r_a dX12_write_91 ?_
      exact v_iret F hQ h (by decide) dX12_write_94)
    refine v_icmp_le (tgt := 90) F dX12_write_75 (by decide) h (fun h => ?_) (fun h => ?_)
    · exact v_sub [0] rfl (h r_a)
    · refine v_aload_n F dX12_write_78 0 rfl rfl ?_
      refine v_bipush (v := 32) F dX12_write_79 (by decide) ?_
      refine v_cV0 (v_runV F k_X12_613 rfl (c_X12_put r_a h) r_a rfl rfl (Nat.le_of_ble_eq_true rfl) (by decide) (by decide) dX12_write_81) ⟨rfl, rfl⟩ (fun  S8 h hE => ?_)
      have r_a := r_a.tr hE
      refine v_aload_n F dX12_write_84 0 rfl rfl ?_
      refine v_bipush (v := 93) F dX12_write_85 (by decide) ?_
      refine v_cV0 (v_runV F k_X12_613 rfl (c_X12_put r_a h) r_a rfl rfl (Nat.le_of_ble_eq_true rfl) (by decide) (by decide) dX12_write_87) ⟨rfl, rfl⟩ (fun  S9 h hE => ?_)
      have r_a := r_a.tr hE
      exact v_sub [0] rfl (h r_a)
  · refine v_aload_n F dX12_write_20 0 rfl rfl ?_
    refine g_X12_558 F r_a dX12_write_21 ?_
    refine v_iconst (v := 1) F dX12_write_24 (by decide) ?_
    have h := h (fun (S10 : PS) => Rf S10 a 9 → VV X (0, 0) S10 [(0, .ref a), (1, .int x1_4)] [] 59) (by
      intro S10 h r_a
      refine v_aload_n F dX12_write_59 0 rfl rfl ?_
      refine v_iload_n F dX12_write_60 1 rfl rfl ?_
      refine v_cV0 (v_runV F k_X12_635 rfl (c_X12_putVoice r_a h) r_a rfl rfl (Nat.le_of_ble_eq_true rfl) (by decide) (by decide) dX12_write_61) ⟨rfl, rfl⟩ (fun  S12 h hE => ?_)
      have r_a := r_a.tr hE
      obtain ⟨v13, e_v13⟩ : ∃ y : Int32, y = x1_4 + 1 := ⟨_, rfl⟩
      have h := h v13 e_v13
      refine v_iinc (v := v13) (lv1 := [(1, .int v13), (0, .ref a)]) F dX12_write_64 (q := 1) rfl (by rw [e_v13]; rfl) (by rw [hN]; decide) rfl ?_
      refine v_goto (tgt := 12) F dX12_write_67 (by decide) ?_
      exact v_sub [1, 0] rfl (h r_a))
    refine v_icmp_le (tgt := 59) F dX12_write_25 (by decide) h (fun h => ?_) (fun h => ?_)
    · exact v_sub [0, 1] rfl (h r_a)
    · refine v_aload_n F dX12_write_28 0 rfl rfl ?_
      refine v_iload_n F dX12_write_29 1 rfl rfl ?_
      have h := h (fun (t14 : Nat) (t15 : Int32) (S16 : PS) => Rf S16 a 9 → Rf S16 t14 9 → VV X (0, 0) S16 [(0, .ref a), (1, .int x1_4)] [.int t15, .ref t14] 40) (by
        intro t14 t15 S16 h r_a r_t14
        refine v_cV0 (v_runV F k_X12_613 rfl (c_X12_put r_t14 h) r_t14 rfl rfl (Nat.le_of_ble_eq_true rfl) (by decide) (by decide) dX12_write_40) ⟨rfl, rfl⟩ (fun  S18 h hE => ?_)
        have r_a := r_a.tr hE
        refine v_iload_n F dX12_write_43 1 rfl rfl ?_
        have h := h (fun (S19 : PS) => Rf S19 a 9 → VV X (0, 0) S19 [(0, .ref a), (1, .int x1_4)] [] 53) (by
          intro S19 h r_a
          refine v_aload_n F dX12_write_53 0 rfl rfl ?_
          refine v_bipush (v := 32) F dX12_write_54 (by decide) ?_
          refine v_cV0 (v_runV F k_X12_613 rfl (c_X12_put r_a h) r_a rfl rfl (Nat.le_of_ble_eq_true rfl) (by decide) (by decide) dX12_write_56) ⟨rfl, rfl⟩ (fun  S21 h hE => ?_)
          have r_a := r_a.tr hE
          exact v_sub [0, 1] rfl (h r_a))
        refine v_if_le (tgt := 53) F dX12_write_44 (by decide) h (fun h => ?_) (fun h => ?_)
        · exact v_sub [0, 1] rfl (h r_a)
        · refine v_aload_n F dX12_write_47 0 rfl rfl ?_
          refine v_bipush (v := 47) F dX12_write_48 (by decide) ?_
          refine v_cV0 (v_runV F k_X12_613 rfl (c_X12_put r_a h) r_a rfl rfl (Nat.le_of_ble_eq_true rfl) (by decide) (by decide) dX12_write_50) ⟨rfl, rfl⟩ (fun  S22 h hE => ?_)
          have r_a := r_a.tr hE
          exact v_sub [0, 1] rfl (h r_a))
      refine v_if_ne (tgt := 38) F dX12_write_30 (by decide) h (fun h => ?_) (fun h => ?_)
      · refine v_bipush (v := 32) F dX12_write_38 (by decide) ?_
        exact v_sub [0, 1] rfl (h r_a r_a)
      · refine v_bipush (v := 91) F dX12_write_33 (by decide) ?_
        refine v_goto (tgt := 40) F dX12_write_35 (by decide) ?_
        exact v_sub [0, 1] rfl (h r_a r_a)
