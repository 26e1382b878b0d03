theorem dX7_block_0 : decode cX7_block 0 = .ok (.aload_n 0, 1) := by decide +kernel
theorem dX7_block_1 : decode cX7_block 1 = .ok (.invokevirtual 67, 3) := by decide +kernel
theorem dX7_block_4 : decode cX7_block 4 = .ok (.aload_n 0, 1) := by decide +kernel
theorem dX7_block_5 : decode cX7_block 5 = .ok (.invokevirtual 41, 3) := by decide +kernel
theorem dX7_block_8 : decode cX7_block 8 = .ok (.bipush 123, 2) := by decide +kernel
theorem dX7_block_10 : decode cX7_block 10 = .ok (.if_icmp .eq 8, 3) := by decide +kernel
theorem dX7_block_13 : decode cX7_block 13 = .ok (.aload_n 0, 1) := by decide +kernel
theorem dX7_block_14 : decode cX7_block 14 = .ok (.invokevirtual 45, 3) := by decide +kernel
theorem dX7_block_17 : decode cX7_block 17 = .ok (.ireturn, 1) := by decide +kernel
theorem dX7_block_18 : decode cX7_block 18 = .ok (.aload_n 0, 1) := by decide +kernel
theorem dX7_block_19 : decode cX7_block 19 = .ok (.getfield 27, 3) := by decide +kernel
theorem dX7_block_22 : decode cX7_block 22 = .ok (.bipush 8, 2) := by decide +kernel
theorem dX7_block_24 : decode cX7_block 24 = .ok (.if_icmp .lt 16, 3) := by decide +kernel
theorem dX7_block_27 : decode cX7_block 27 = .ok (.aload_n 0, 1) := by decide +kernel
theorem dX7_block_28 : decode cX7_block 28 = .ok (.getfield 15, 3) := by decide +kernel
theorem dX7_block_31 : decode cX7_block 31 = .ok (.iconst 5, 1) := by decide +kernel
theorem dX7_block_32 : decode cX7_block 32 = .ok (.aload_n 0, 1) := by decide +kernel
theorem dX7_block_33 : decode cX7_block 33 = .ok (.getfield 23, 3) := by decide +kernel
theorem dX7_block_36 : decode cX7_block 36 = .ok (.invokevirtual 48, 3) := by decide +kernel
theorem dX7_block_39 : decode cX7_block 39 = .ok (.ireturn, 1) := by decide +kernel
theorem dX7_block_40 : decode cX7_block 40 = .ok (.aload_n 0, 1) := by decide +kernel
theorem dX7_block_41 : decode cX7_block 41 = .ok (.dup, 1) := by decide +kernel
theorem dX7_block_42 : decode cX7_block 42 = .ok (.getfield 27, 3) := by decide +kernel
theorem dX7_block_45 : decode cX7_block 45 = .ok (.iconst 1, 1) := by decide +kernel
theorem dX7_block_46 : decode cX7_block 46 = .ok (.iadd, 1) := by decide +kernel
theorem dX7_block_47 : decode cX7_block 47 = .ok (.putfield 27, 3) := by decide +kernel
theorem dX7_block_50 : decode cX7_block 50 = .ok (.aload_n 0, 1) := by decide +kernel
theorem dX7_block_51 : decode cX7_block 51 = .ok (.dup, 1) := by decide +kernel
theorem dX7_block_52 : decode cX7_block 52 = .ok (.getfield 23, 3) := by decide +kernel
theorem dX7_block_55 : decode cX7_block 55 = .ok (.iconst 1, 1) := by decide +kernel
theorem dX7_block_56 : decode cX7_block 56 = .ok (.iadd, 1) := by decide +kernel
theorem dX7_block_57 : decode cX7_block 57 = .ok (.putfield 23, 3) := by decide +kernel
theorem dX7_block_60 : decode cX7_block 60 = .ok (.aload_n 0, 1) := by decide +kernel
theorem dX7_block_61 : decode cX7_block 61 = .ok (.invokevirtual 37, 3) := by decide +kernel
theorem dX7_block_64 : decode cX7_block 64 = .ok (.ifCond .eq 12, 3) := by decide +kernel
theorem dX7_block_67 : decode cX7_block 67 = .ok (.aload_n 0, 1) := by decide +kernel
theorem dX7_block_68 : decode cX7_block 68 = .ok (.bipush 125, 2) := by decide +kernel
theorem dX7_block_70 : decode cX7_block 70 = .ok (.invokevirtual 70, 3) := by decide +kernel
theorem dX7_block_73 : decode cX7_block 73 = .ok (.ifCond .ne 5, 3) := by decide +kernel
theorem dX7_block_76 : decode cX7_block 76 = .ok (.iconst 0, 1) := by decide +kernel
theorem dX7_block_77 : decode cX7_block 77 = .ok (.ireturn, 1) := by decide +kernel
theorem dX7_block_78 : decode cX7_block 78 = .ok (.aload_n 0, 1) := by decide +kernel
theorem dX7_block_79 : decode cX7_block 79 = .ok (.dup, 1) := by decide +kernel
theorem dX7_block_80 : decode cX7_block 80 = .ok (.getfield 27, 3) := by decide +kernel
theorem dX7_block_83 : decode cX7_block 83 = .ok (.iconst 1, 1) := by decide +kernel
theorem dX7_block_84 : decode cX7_block 84 = .ok (.isub, 1) := by decide +kernel
theorem dX7_block_85 : decode cX7_block 85 = .ok (.putfield 27, 3) := by decide +kernel
theorem dX7_block_88 : decode cX7_block 88 = .ok (.iconst 1, 1) := by decide +kernel
theorem dX7_block_89 : decode cX7_block 89 = .ok (.ireturn, 1) := by decide +kernel
def wp_X7_block (M : Nat → PS → (Int32 → PS → Prop) → Prop) (a : Nat) (S : PS) (Q : Int32 → PS → Prop) : Prop :=
  wp_X7_skipBlanks a S (fun (S1 : PS) => 
 wp_X7_next a S1 (fun (r3 : Int32) (S2 : PS) => 
 (if r3 = 123 then
 (if fI S2 61 a < 8 then
 (∀ S4, S4 = sI S2 61 a ((fI S2 61 a) + 1) → (∀ S5, S5 = sI S4 60 a ((fI S4 60 a) + 1) → M a S5 (fun (r7 : Int32) (S6 : PS) => 
 (if r7 = 0 then
 Q 0 S6
 else
 wp_X7_must a 125 S6 (fun (r9 : Int32) (S8 : PS) => 
 (if r9 = 0 then
 Q 0 S8
 else
 (∀ S10, S10 = sI S8 61 a ((fI S8 61 a) - 1) → Q 1 S10)))))))
 else
 (∃ b11, fR S2 59 a = some b11 ∧ wp_X0_tell b11 5 (fI S2 60 a) S2 (fun (r13 : Int32) (S12 : PS) => 
 Q r13 S12)))
 else
 wp_X7_refuse a S2 (fun (r15 : Int32) (S14 : PS) => 
 Q r15 S14))))
set_option maxRecDepth 100000 in
set_option maxHeartbeats 4000000 in
theorem c_X7_block {adK adV : Nat → Nat} {M : Nat → PS → (Int32 → PS → Prop) → Prop} {d : Nat} (hM : ∀ {l : Launch} {E : EE} {A : Nat → Prop} {a : Nat} {S : PS} {Q : Int32 → PS → Prop}, hasStr E adK adV → Rf S a 6 → M a S Q → MtI l yX7_music (.code yX7_music cX7_music 5 (some .boolean)) (rm_X7_music d) E A [.ref a] S (fun r S1 => nz r ∧ Q r S1)) {l : Launch} {E : EE} {A : Nat → Prop} {a : Nat} {S : PS} {Q : Int32 → PS → Prop} (hS : hasStr E adK adV) (r_a : Rf S a 6) (h : wp_X7_block M a S Q) : MtI l yX7_block (.code yX7_block cX7_block 1 (some .boolean)) (rm_X7_block d) E A [.ref a] S (fun r S1 => nz r ∧ Q r S1) := by
  refine MtI.of2 (by decide) (Nat.le_of_ble_eq_true rfl) (fun X F hQ hX => ?_)
  show VV X (0, 0) S [(0, .ref a)] [] 0
  obtain ⟨hXl, hXE, hXA, hN, hnm⟩ := hX
  subst hXE
  subst hXA
  subst hXl
  unfold wp_X7_block at h
  refine v_aload_n F dX7_block_0 0 rfl rfl ?_
  refine v_cV0 (v_runV F k_X7_67 rfl (c_X7_skipBlanks r_a h) r_a rfl rfl (Nat.le_of_ble_eq_true rfl) ⟨(by show 1 + 1 ≤ 3 * d + 11; omega), (by show 8 + (3 + 11) + 21 ≤ 100 * d + 330; omega)⟩ ⟨Nat.le_refl 0, Nat.le_refl 0⟩ dX7_block_1) ⟨rfl, rfl⟩ (fun  S1 h hE => ?_)
  have r_a := r_a.tr hE
  refine v_aload_n F dX7_block_4 0 rfl rfl ?_
  refine v_cI0 (v_runV F k_X7_41 rfl (c_X7_next r_a h) r_a rfl rfl (Nat.le_of_ble_eq_true rfl) ⟨(by show 0 + 1 ≤ 3 * d + 11; omega), (by show 8 + (2 + 11) + 0 ≤ 100 * d + 330; omega)⟩ ⟨Nat.le_refl 0, Nat.le_refl 0⟩ dX7_block_5) ⟨rfl, rfl⟩ (fun r3 S2 h hE => ?_)
  have r_a := r_a.tr hE
  refine v_bipush (v := 123) F dX7_block_8 (by decide) ?_
  refine v_icmp_eq (tgt := 18) F dX7_block_10 (by decide) h (fun h => ?_) (fun h => ?_)
  · refine v_aload_n F dX7_block_18 0 rfl rfl ?_
    refine g_X7_27 F r_a dX7_block_19 ?_
    refine v_bipush (v := 8) F dX7_block_22 (by decide) ?_
    refine v_icmp_lt (tgt := 40) F dX7_block_24 (by decide) h (fun h => ?_) (fun h => ?_)
    · refine v_aload_n F dX7_block_40 0 rfl rfl ?_
      refine v_dup F dX7_block_41 rfl ?_
      refine g_X7_27 F r_a dX7_block_42 ?_
      refine v_iconst (v := 1) F dX7_block_45 (by decide) ?_
      refine v_iadd F dX7_block_46 ?_
      refine p_X7_27 F r_a h dX7_block_47 (fun S4 h hE => ?_)
      have r_a := r_a.tr hE
      refine v_aload_n F dX7_block_50 0 rfl rfl ?_
      refine v_dup F dX7_block_51 rfl ?_
      refine g_X7_23 F r_a dX7_block_52 ?_
      refine v_iconst (v := 1) F dX7_block_55 (by decide) ?_
      refine v_iadd F dX7_block_56 ?_
      refine p_X7_23 F r_a h dX7_block_57 (fun S5 h hE => ?_)
      have r_a := r_a.tr hE
      refine v_aload_n F dX7_block_60 0 rfl rfl ?_
      refine v_cI0 (v_runV F k_X7_37 rfl (hM hS r_a h) r_a rfl rfl (Nat.le_of_ble_eq_true rfl) ⟨(by show 3 * d + 10 + 1 ≤ 3 * d + 11; omega), (by show 8 + (5 + 11) + 100 * d + 300 ≤ 100 * d + 330; omega)⟩ ⟨Nat.le_refl 0, Nat.le_refl 0⟩ dX7_block_61) ⟨rfl, rfl⟩ (fun r7 S6 h hE => ?_)
      obtain ⟨nz_r7, h⟩ := h
      have r_a := r_a.tr hE
      refine v_if_eq (tgt := 76) F dX7_block_64 (by decide) h (fun h => ?_) (fun h => ?_)
      · refine v_iconst (v := 0) F dX7_block_76 (by decide) ?_
        exact v_zret F hQ (by decide) ⟨nz0, h⟩ ⟨Nat.le_refl 0, Nat.le_refl 0⟩ dX7_block_77
      · refine v_aload_n F dX7_block_67 0 rfl rfl ?_
        refine v_bipush (v := 125) F dX7_block_68 (by decide) ?_
        refine v_cI0 (v_runV F k_X7_70 rfl (c_X7_must r_a h) r_a rfl rfl (Nat.le_of_ble_eq_true rfl) ⟨(by show 2 + 1 ≤ 3 * d + 11; omega), (by show 8 + (2 + 11) + 42 ≤ 100 * d + 330; omega)⟩ ⟨Nat.le_refl 0, Nat.le_refl 0⟩ dX7_block_70) ⟨rfl, rfl⟩ (fun r9 S8 h hE => ?_)
        obtain ⟨nz_r9, h⟩ := h
        have r_a := r_a.tr hE
        refine v_if_ne (tgt := 78) F dX7_block_73 (by decide) h (fun h => ?_) (fun h => ?_)
        · refine v_aload_n F dX7_block_78 0 rfl rfl ?_
          refine v_dup F dX7_block_79 rfl ?_
          refine g_X7_27 F r_a dX7_block_80 ?_
          refine v_iconst (v := 1) F dX7_block_83 (by decide) ?_
          refine v_isub F dX7_block_84 ?_
          refine p_X7_27 F r_a h dX7_block_85 (fun S10 h hE => ?_)
          have r_a := r_a.tr hE
          refine v_iconst (v := 1) F dX7_block_88 (by decide) ?_
          exact v_zret F hQ (by decide) ⟨nz1, h⟩ ⟨Nat.le_refl 0, Nat.le_refl 0⟩ dX7_block_89
        · refine v_iconst (v := 0) F dX7_block_76 (by decide) ?_
          exact v_zret F hQ (by decide) ⟨nz0, h⟩ ⟨Nat.le_refl 0, Nat.le_refl 0⟩ dX7_block_77
    · refine v_aload_n F dX7_block_27 0 rfl rfl ?_
      refine g_X7_15 F r_a h dX7_block_28 (fun b11 r_b11 h => ?_)
      refine v_iconst (v := 5) F dX7_block_31 (by decide) ?_
      refine v_aload_n F dX7_block_32 0 rfl rfl ?_
      refine g_X7_23 F r_a dX7_block_33 ?_
      refine v_cI0 (v_runV F k_X7_48 rfl (c_X0_tell r_b11 h) r_b11 rfl rfl (Nat.le_of_ble_eq_true rfl) ⟨(by show 0 + 1 ≤ 3 * d + 11; omega), (by show 8 + (3 + 11) + 0 ≤ 100 * d + 330; omega)⟩ ⟨Nat.le_refl 0, Nat.le_refl 0⟩ dX7_block_36) ⟨rfl, rfl⟩ (fun r13 S12 h hE => ?_)
      obtain ⟨nz_r13, h⟩ := h
      have r_a := r_a.tr hE
      exact v_zret F hQ nz_r13 ⟨nz_r13, h⟩ ⟨Nat.le_refl 0, Nat.le_refl 0⟩ dX7_block_39
  · refine v_aload_n F dX7_block_13 0 rfl rfl ?_
    refine v_cI0 (v_runV F k_X7_45 rfl (c_X7_refuse r_a h) r_a rfl rfl (Nat.le_of_ble_eq_true rfl) ⟨(by show 1 + 1 ≤ 3 * d + 11; omega), (by show 8 + (1 + 11) + 22 ≤ 100 * d + 330; omega)⟩ ⟨Nat.le_refl 0, Nat.le_refl 0⟩ dX7_block_14) ⟨rfl, rfl⟩ (fun r15 S14 h hE => ?_)
    obtain ⟨nz_r15, h⟩ := h
    have r_a := r_a.tr hE
    exact v_zret F hQ nz_r15 ⟨nz_r15, h⟩ ⟨Nat.le_refl 0, Nat.le_refl 0⟩ dX7_block_17
theorem dX7_voices_0 : decode cX7_voices 0 = .ok (.aload_n 0, 1) := by decide +kernel
theorem dX7_voices_1 : decode cX7_voices 1 = .ok (.getfield 27, 3) := by decide +kernel
theorem dX7_voices_4 : decode cX7_voices 4 = .ok (.bipush 8, 2) := by decide +kernel
theorem dX7_voices_6 : decode cX7_voices 6 = .ok (.if_icmp .lt 16, 3) := by decide +kernel
theorem dX7_voices_9 : decode cX7_voices 9 = .ok (.aload_n 0, 1) := by decide +kernel
theorem dX7_voices_10 : decode cX7_voices 10 = .ok (.getfield 15, 3) := by decide +kernel
theorem dX7_voices_13 : decode cX7_voices 13 = .ok (.iconst 5, 1) := by decide +kernel
theorem dX7_voices_14 : decode cX7_voices 14 = .ok (.aload_n 0, 1) := by decide +kernel
theorem dX7_voices_15 : decode cX7_voices 15 = .ok (.getfield 23, 3) := by decide +kernel
theorem dX7_voices_18 : decode cX7_voices 18 = .ok (.invokevirtual 48, 3) := by decide +kernel
theorem dX7_voices_21 : decode cX7_voices 21 = .ok (.ireturn, 1) := by decide +kernel
theorem dX7_voices_22 : decode cX7_voices 22 = .ok (.aload_n 0, 1) := by decide +kernel
theorem dX7_voices_23 : decode cX7_voices 23 = .ok (.dup, 1) := by decide +kernel
theorem dX7_voices_24 : decode cX7_voices 24 = .ok (.getfield 27, 3) := by decide +kernel
theorem dX7_voices_27 : decode cX7_voices 27 = .ok (.iconst 1, 1) := by decide +kernel
theorem dX7_voices_28 : decode cX7_voices 28 = .ok (.iadd, 1) := by decide +kernel
theorem dX7_voices_29 : decode cX7_voices 29 = .ok (.putfield 27, 3) := by decide +kernel
theorem dX7_voices_32 : decode cX7_voices 32 = .ok (.iconst 0, 1) := by decide +kernel
theorem dX7_voices_33 : decode cX7_voices 33 = .ok (.istore_n 1, 1) := by decide +kernel
theorem dX7_voices_34 : decode cX7_voices 34 = .ok (.iload_n 1, 1) := by decide +kernel
theorem dX7_voices_35 : decode cX7_voices 35 = .ok (.sipush 1500, 3) := by decide +kernel
theorem dX7_voices_38 : decode cX7_voices 38 = .ok (.if_icmp .gt 83, 3) := by decide +kernel
theorem dX7_voices_41 : decode cX7_voices 41 = .ok (.aload_n 0, 1) := by decide +kernel
theorem dX7_voices_42 : decode cX7_voices 42 = .ok (.getfield 9, 3) := by decide +kernel
theorem dX7_voices_45 : decode cX7_voices 45 = .ok (.aload_n 0, 1) := by decide +kernel
theorem dX7_voices_46 : decode cX7_voices 46 = .ok (.getfield 23, 3) := by decide +kernel
theorem dX7_voices_49 : decode cX7_voices 49 = .ok (.invokevirtual 81, 3) := by decide +kernel
theorem dX7_voices_52 : decode cX7_voices 52 = .ok (.istore_n 2, 1) := by decide +kernel
theorem dX7_voices_53 : decode cX7_voices 53 = .ok (.aload_n 0, 1) := by decide +kernel
theorem dX7_voices_54 : decode cX7_voices 54 = .ok (.dup, 1) := by decide +kernel
theorem dX7_voices_55 : decode cX7_voices 55 = .ok (.getfield 23, 3) := by decide +kernel
theorem dX7_voices_58 : decode cX7_voices 58 = .ok (.iconst 1, 1) := by decide +kernel
theorem dX7_voices_59 : decode cX7_voices 59 = .ok (.iadd, 1) := by decide +kernel
theorem dX7_voices_60 : decode cX7_voices 60 = .ok (.putfield 23, 3) := by decide +kernel
theorem dX7_voices_63 : decode cX7_voices 63 = .ok (.aload_n 0, 1) := by decide +kernel
theorem dX7_voices_64 : decode cX7_voices 64 = .ok (.invokevirtual 37, 3) := by decide +kernel
theorem dX7_voices_67 : decode cX7_voices 67 = .ok (.ifCond .ne 5, 3) := by decide +kernel
theorem dX7_voices_70 : decode cX7_voices 70 = .ok (.iconst 0, 1) := by decide +kernel
theorem dX7_voices_71 : decode cX7_voices 71 = .ok (.ireturn, 1) := by decide +kernel
theorem dX7_voices_72 : decode cX7_voices 72 = .ok (.aload_n 0, 1) := by decide +kernel
theorem dX7_voices_73 : decode cX7_voices 73 = .ok (.getfield 9, 3) := by decide +kernel
theorem dX7_voices_76 : decode cX7_voices 76 = .ok (.iload_n 2, 1) := by decide +kernel
theorem dX7_voices_77 : decode cX7_voices 77 = .ok (.invokevirtual 113, 3) := by decide +kernel
theorem dX7_voices_80 : decode cX7_voices 80 = .ok (.aload_n 0, 1) := by decide +kernel
theorem dX7_voices_81 : decode cX7_voices 81 = .ok (.bipush 93, 2) := by decide +kernel
theorem dX7_voices_83 : decode cX7_voices 83 = .ok (.invokevirtual 63, 3) := by decide +kernel
theorem dX7_voices_86 : decode cX7_voices 86 = .ok (.ifCond .eq 15, 3) := by decide +kernel
theorem dX7_voices_89 : decode cX7_voices 89 = .ok (.aload_n 0, 1) := by decide +kernel
theorem dX7_voices_90 : decode cX7_voices 90 = .ok (.dup, 1) := by decide +kernel
theorem dX7_voices_91 : decode cX7_voices 91 = .ok (.getfield 27, 3) := by decide +kernel
theorem dX7_voices_94 : decode cX7_voices 94 = .ok (.iconst 1, 1) := by decide +kernel
theorem dX7_voices_95 : decode cX7_voices 95 = .ok (.isub, 1) := by decide +kernel
theorem dX7_voices_96 : decode cX7_voices 96 = .ok (.putfield 27, 3) := by decide +kernel
theorem dX7_voices_99 : decode cX7_voices 99 = .ok (.iconst 1, 1) := by decide +kernel
theorem dX7_voices_100 : decode cX7_voices 100 = .ok (.ireturn, 1) := by decide +kernel
theorem dX7_voices_101 : decode cX7_voices 101 = .ok (.aload_n 0, 1) := by decide +kernel
theorem dX7_voices_102 : decode cX7_voices 102 = .ok (.invokevirtual 41, 3) := by decide +kernel
theorem dX7_voices_105 : decode cX7_voices 105 = .ok (.bipush 47, 2) := by decide +kernel
theorem dX7_voices_107 : decode cX7_voices 107 = .ok (.if_icmp .eq 8, 3) := by decide +kernel
theorem dX7_voices_110 : decode cX7_voices 110 = .ok (.aload_n 0, 1) := by decide +kernel
theorem dX7_voices_111 : decode cX7_voices 111 = .ok (.invokevirtual 45, 3) := by decide +kernel
theorem dX7_voices_114 : decode cX7_voices 114 = .ok (.ireturn, 1) := by decide +kernel
theorem dX7_voices_115 : decode cX7_voices 115 = .ok (.iinc 1 1, 3) := by decide +kernel
theorem dX7_voices_118 : decode cX7_voices 118 = .ok (.goto (-84), 3) := by decide +kernel
theorem dX7_voices_121 : decode cX7_voices 121 = .ok (.aload_n 0, 1) := by decide +kernel
theorem dX7_voices_122 : decode cX7_voices 122 = .ok (.invokevirtual 45, 3) := by decide +kernel
theorem dX7_voices_125 : decode cX7_voices 125 = .ok (.ireturn, 1) := by decide +kernel
def wp_X7_voices (M : Nat → PS → (Int32 → PS → Prop) → Prop) (a : Nat) (S : PS) (Q : Int32 → PS → Prop) : Prop :=
  (if fI S 61 a < 8 then
 (∀ S1, S1 = sI S 61 a ((fI S 61 a) + 1) → (∀ P34_2 : Int32 → PS → Prop, (∀ (x1_3 : Int32) (S4 : PS),
 (if 1500 < x1_3 then
 wp_X7_refuse a S4 (fun (r6 : Int32) (S5 : PS) => 
 Q r6 S5)
 else
 (∃ b7, fR S4 58 a = some b7 ∧ wp_X6_open b7 (fI S4 60 a) S4 (fun (r9 : Int32) (S8 : PS) => 
 (∀ S10, S10 = sI S8 60 a ((fI S8 60 a) + 1) → M a S10 (fun (r12 : Int32) (S11 : PS) => 
 (if r12 = 0 then
 Q 0 S11
 else
 (∃ b13, fR S11 58 a = some b13 ∧ wp_X6_close b13 r9 S11 (fun (S14 : PS) => 
 wp_X7_take a 93 S14 (fun (r16 : Int32) (S15 : PS) => 
 (if r16 = 0 then
 wp_X7_next a S15 (fun (r18 : Int32) (S17 : PS) => 
 (if r18 = 47 then
 (∀ v19, v19 = x1_3 + 1 → P34_2 v19 S17)
 else
 wp_X7_refuse a S17 (fun (r21 : Int32) (S20 : PS) => 
 Q r21 S20)))
 else
 (∀ S22, S22 = sI S15 61 a ((fI S15 61 a) - 1) → Q 1 S22)))))))))))
 → P34_2 x1_3 S4) → P34_2 0 S1))
 else
 (∃ b23, fR S 59 a = some b23 ∧ wp_X0_tell b23 5 (fI S 60 a) S (fun (r25 : Int32) (S24 : PS) => 
 Q r25 S24)))
set_option maxRecDepth 100000 in
set_option maxHeartbeats 4000000 in
theorem c_X7_voices {adK adV : Nat → Nat} {M : Nat → PS → (Int32 → PS → Prop) → Prop} {d : Nat} (hM : ∀ {l : Launch} {E : EE} {A : Nat → Prop} {a : Nat} {S : PS} {Q : Int32 → PS → Prop}, hasStr E adK adV → Rf S a 6 → M a S Q → MtI l yX7_music (.code yX7_music cX7_music 5 (some .boolean)) (rm_X7_music d) E A [.ref a] S (fun r S1 => nz r ∧ Q r S1)) {l : Launch} {E : EE} {A : Nat → Prop} {a : Nat} {S : PS} {Q : Int32 → PS → Prop} (hS : hasStr E adK adV) (r_a : Rf S a 6) (h : wp_X7_voices M a S Q) : MtI l yX7_voices (.code yX7_voices cX7_voices 3 (some .boolean)) (rm_X7_voices d) E A [.ref a] S (fun r S1 => nz r ∧ Q r S1) := by
  refine MtI.of2 (by decide) (Nat.le_of_ble_eq_true rfl) (fun X F hQ hX => ?_)
  show VV X (0, 0) S [(0, .ref a)] [] 0
  obtain ⟨hXl, hXE, hXA, hN, hnm⟩ := hX
  subst hXE
  subst hXA
  subst hXl
  unfold wp_X7_voices at h
  refine v_aload_n F dX7_voices_0 0 rfl rfl ?_
  refine g_X7_27 F r_a dX7_voices_1 ?_
  refine v_bipush (v := 8) F dX7_voices_4 (by decide) ?_
  refine v_icmp_lt (tgt := 22) F dX7_voices_6 (by decide) h (fun h => ?_) (fun h => ?_)
  · refine v_aload_n F dX7_voices_22 0 rfl rfl ?_
    refine v_dup F dX7_voices_23 rfl ?_
    refine g_X7_27 F r_a dX7_voices_24 ?_
    refine v_iconst (v := 1) F dX7_voices_27 (by decide) ?_
    refine v_iadd F dX7_voices_28 ?_
    refine p_X7_27 F r_a h dX7_voices_29 (fun S1 h hE => ?_)
    have r_a := r_a.tr hE
    refine v_iconst (v := 0) F dX7_voices_32 (by decide) ?_
    refine v_istore_n (lv1 := [(1, .int 0), (0, .ref a)]) F dX7_voices_33 rfl (by rw [hN]; decide) rfl ?_
    refine v_sub [1, 0] rfl ?_
    refine h (fun (x1_3 : Int32) (S4 : PS) => Rf S4 a 6 → VV X (0, 0) S4 [(0, .ref a), (1, .int x1_3)] [] 34) (fun x1_3 S4 h r_a => ?_) r_a
    refine v_iload_n F dX7_voices_34 1 rfl rfl ?_
    refine v_sipush (v := 1500) F dX7_voices_35 (by decide) ?_
    refine v_icmp_gt (tgt := 121) F dX7_voices_38 (by decide) h (fun h => ?_) (fun h => ?_)
    · refine v_aload_n F dX7_voices_121 0 rfl rfl ?_
      refine v_cI0 (v_runV F k_X7_45 rfl (c_X7_refuse r_a h) r_a rfl rfl (Nat.le_of_ble_eq_true rfl) ⟨(by show 1 + 1 ≤ 3 * d + 12; omega), (by show 8 + (1 + 11) + 22 ≤ 100 * d + 360; omega)⟩ ⟨Nat.le_refl 0, Nat.le_refl 0⟩ dX7_voices_122) ⟨rfl, rfl⟩ (fun r6 S5 h hE => ?_)
      obtain ⟨nz_r6, h⟩ := h
      have r_a := r_a.tr hE
      exact v_zret F hQ nz_r6 ⟨nz_r6, h⟩ ⟨Nat.le_refl 0, Nat.le_refl 0⟩ dX7_voices_125
    · refine v_aload_n F dX7_voices_41 0 rfl rfl ?_
      refine g_X7_9 F r_a h dX7_voices_42 (fun b7 r_b7 h => ?_)
      refine v_aload_n F dX7_voices_45 0 rfl rfl ?_
      refine g_X7_23 F r_a dX7_voices_46 ?_
      refine v_cI0 (v_runV F k_X7_81 rfl (c_X6_open r_b7 h) r_b7 rfl rfl (Nat.le_of_ble_eq_true rfl) ⟨(by show 0 + 1 ≤ 3 * d + 12; omega), (by show 8 + (3 + 11) + 0 ≤ 100 * d + 360; omega)⟩ ⟨Nat.le_refl 0, Nat.le_refl 0⟩ dX7_voices_49) ⟨rfl, rfl⟩ (fun r9 S8 h hE => ?_)
      have r_a := r_a.tr hE
      refine v_istore_n (lv1 := [(2, .int r9), (0, .ref a), (1, .int x1_3)]) F dX7_voices_52 rfl (by rw [hN]; decide) rfl ?_
      refine v_aload_n F dX7_voices_53 1 rfl rfl ?_
      refine v_dup F dX7_voices_54 rfl ?_
      refine g_X7_23 F r_a dX7_voices_55 ?_
      refine v_iconst (v := 1) F dX7_voices_58 (by decide) ?_
      refine v_iadd F dX7_voices_59 ?_
      refine p_X7_23 F r_a h dX7_voices_60 (fun S10 h hE => ?_)
      have r_a := r_a.tr hE
      refine v_aload_n F dX7_voices_63 1 rfl rfl ?_
      refine v_cI0 (v_runV F k_X7_37 rfl (hM hS r_a h) r_a rfl rfl (Nat.le_of_ble_eq_true rfl) ⟨(by show 3 * d + 10 + 1 ≤ 3 * d + 12; omega), (by show 8 + (5 + 11) + 100 * d + 300 ≤ 100 * d + 360; omega)⟩ ⟨Nat.le_refl 0, Nat.le_refl 0⟩ dX7_voices_64) ⟨rfl, rfl⟩ (fun r12 S11 h hE => ?_)
      obtain ⟨nz_r12, h⟩ := h
      have r_a := r_a.tr hE
      refine v_if_ne (tgt := 72) F dX7_voices_67 (by decide) h (fun h => ?_) (fun h => ?_)
      · refine v_aload_n F dX7_voices_72 1 rfl rfl ?_
        refine g_X7_9 F r_a h dX7_voices_73 (fun b13 r_b13 h => ?_)
        refine v_iload_n F dX7_voices_76 0 rfl rfl ?_
        refine v_cV0 (v_runV F k_X7_113 rfl (c_X6_close r_b13 h) r_b13 rfl rfl (Nat.le_of_ble_eq_true rfl) ⟨(by show 1 + 1 ≤ 3 * d + 12; omega), (by show 8 + (2 + 11) + 21 ≤ 100 * d + 360; omega)⟩ ⟨Nat.le_refl 0, Nat.le_refl 0⟩ dX7_voices_77) ⟨rfl, rfl⟩ (fun  S14 h hE => ?_)
        have r_a := r_a.tr hE
        refine v_aload_n F dX7_voices_80 1 rfl rfl ?_
        refine v_bipush (v := 93) F dX7_voices_81 (by decide) ?_
        refine v_cI0 (v_runV F k_X7_63 rfl (c_X7_take r_a h) r_a rfl rfl (Nat.le_of_ble_eq_true rfl) ⟨(by show 1 + 1 ≤ 3 * d + 12; omega), (by show 8 + (2 + 11) + 21 ≤ 100 * d + 360; omega)⟩ ⟨Nat.le_refl 0, Nat.le_refl 0⟩ dX7_voices_83) ⟨rfl, rfl⟩ (fun r16 S15 h hE => ?_)
        obtain ⟨nz_r16, h⟩ := h
        have r_a := r_a.tr hE
        refine v_if_eq (tgt := 101) F dX7_voices_86 (by decide) h (fun h => ?_) (fun h => ?_)
        · refine v_aload_n F dX7_voices_101 1 rfl rfl ?_
          refine v_cI0 (v_runV F k_X7_41 rfl (c_X7_next r_a h) r_a rfl rfl (Nat.le_of_ble_eq_true rfl) ⟨(by show 0 + 1 ≤ 3 * d + 12; omega), (by show 8 + (2 + 11) + 0 ≤ 100 * d + 360; omega)⟩ ⟨Nat.le_refl 0, Nat.le_refl 0⟩ dX7_voices_102) ⟨rfl, rfl⟩ (fun r18 S17 h hE => ?_)
          have r_a := r_a.tr hE
          refine v_bipush (v := 47) F dX7_voices_105 (by decide) ?_
          refine v_icmp_eq (tgt := 115) F dX7_voices_107 (by decide) h (fun h => ?_) (fun h => ?_)
          · obtain ⟨v19, e_v19⟩ : ∃ y : Int32, y = x1_3 + 1 := ⟨_, rfl⟩
            have h := h v19 e_v19
            refine v_iinc (v := v19) (lv1 := [(1, .int v19), (2, .int r9), (0, .ref a)]) F dX7_voices_115 (q := 2) rfl (by rw [e_v19]; rfl) (by rw [hN]; decide) rfl ?_
            refine v_goto (tgt := 34) F dX7_voices_118 (by decide) ?_
            exact v_sub [2, 0] rfl (h r_a)
          · refine v_aload_n F dX7_voices_110 1 rfl rfl ?_
            refine v_cI0 (v_runV F k_X7_45 rfl (c_X7_refuse r_a h) r_a rfl rfl (Nat.le_of_ble_eq_true rfl) ⟨(by show 1 + 1 ≤ 3 * d + 12; omega), (by show 8 + (1 + 11) + 22 ≤ 100 * d + 360; omega)⟩ ⟨Nat.le_refl 0, Nat.le_refl 0⟩ dX7_voices_111) ⟨rfl, rfl⟩ (fun r21 S20 h hE => ?_)
            obtain ⟨nz_r21, h⟩ := h
            have r_a := r_a.tr hE
            exact v_zret F hQ nz_r21 ⟨nz_r21, h⟩ ⟨Nat.le_refl 0, Nat.le_refl 0⟩ dX7_voices_114
        · refine v_aload_n F dX7_voices_89 1 rfl rfl ?_
          refine v_dup F dX7_voices_90 rfl ?_
          refine g_X7_27 F r_a dX7_voices_91 ?_
          refine v_iconst (v := 1) F dX7_voices_94 (by decide) ?_
          refine v_isub F dX7_voices_95 ?_
          refine p_X7_27 F r_a h dX7_voices_96 (fun S22 h hE => ?_)
          have r_a := r_a.tr hE
          refine v_iconst (v := 1) F dX7_voices_99 (by decide) ?_
          exact v_zret F hQ (by decide) ⟨nz1, h⟩ ⟨Nat.le_refl 0, Nat.le_refl 0⟩ dX7_voices_100
      · refine v_iconst (v := 0) F dX7_voices_70 (by decide) ?_
        exact v_zret F hQ (by decide) ⟨nz0, h⟩ ⟨Nat.le_refl 0, Nat.le_refl 0⟩ dX7_voices_71
  · refine v_aload_n F dX7_voices_9 0 rfl rfl ?_
    refine g_X7_15 F r_a h dX7_voices_10 (fun b23 r_b23 h => ?_)
    refine v_iconst (v := 5) F dX7_voices_13 (by decide) ?_
    refine v_aload_n F dX7_voices_14 0 rfl rfl ?_
    refine g_X7_23 F r_a dX7_voices_15 ?_
    refine v_cI0 (v_runV F k_X7_48 rfl (c_X0_tell r_b23 h) r_b23 rfl rfl (Nat.le_of_ble_eq_true rfl) ⟨(by show 0 + 1 ≤ 3 * d + 12; omega), (by show 8 + (3 + 11) + 0 ≤ 100 * d + 360; omega)⟩ ⟨Nat.le_refl 0, Nat.le_refl 0⟩ dX7_voices_18) ⟨rfl, rfl⟩ (fun r25 S24 h hE => ?_)
    obtain ⟨nz_r25, h⟩ := h
    have r_a := r_a.tr hE
    exact v_zret F hQ nz_r25 ⟨nz_r25, h⟩ ⟨Nat.le_refl 0, Nat.le_refl 0⟩ dX7_voices_21
theorem dX7_relative_0 : decode cX7_relative 0 = .ok (.aload_n 0, 1) := by decide +kernel
theorem dX7_relative_1 : decode cX7_relative 1 = .ok (.dup, 1) := by decide +kernel
theorem dX7_relative_2 : decode cX7_relative 2 = .ok (.getfield 23, 3) := by decide +kernel
theorem dX7_relative_5 : decode cX7_relative 5 = .ok (.iconst 1, 1) := by decide +kernel
theorem dX7_relative_6 : decode cX7_relative 6 = .ok (.iadd, 1) := by decide +kernel
theorem dX7_relative_7 : decode cX7_relative 7 = .ok (.putfield 23, 3) := by decide +kernel
theorem dX7_relative_10 : decode cX7_relative 10 = .ok (.aload_n 0, 1) := by decide +kernel
theorem dX7_relative_11 : decode cX7_relative 11 = .ok (.invokevirtual 117, 3) := by decide +kernel
theorem dX7_relative_14 : decode cX7_relative 14 = .ok (.ireturn, 1) := by decide +kernel
def wp_X7_relative (M : Nat → PS → (Int32 → PS → Prop) → Prop) (a : Nat) (S : PS) (Q : Int32 → PS → Prop) : Prop :=
  (∀ S1, S1 = sI S 60 a ((fI S 60 a) + 1) → wp_X7_block M a S1 (fun (r3 : Int32) (S2 : PS) => 
 Q r3 S2))
set_option maxRecDepth 100000 in
set_option maxHeartbeats 4000000 in
theorem c_X7_relative {adK adV : Nat → Nat} {M : Nat → PS → (Int32 → PS → Prop) → Prop} {d : Nat} (hM : ∀ {l : Launch} {E : EE} {A : Nat → Prop} {a : Nat} {S : PS} {Q : Int32 → PS → Prop}, hasStr E adK adV → Rf S a 6 → M a S Q → MtI l yX7_music (.code yX7_music cX7_music 5 (some .boolean)) (rm_X7_music d) E A [.ref a] S (fun r S1 => nz r ∧ Q r S1)) {l : Launch} {E : EE} {A : Nat → Prop} {a : Nat} {S : PS} {Q : Int32 → PS → Prop} (hS : hasStr E adK adV) (r_a : Rf S a 6) (h : wp_X7_relative M a S Q) : MtI l yX7_relative (.code yX7_relative cX7_relative 1 (some .boolean)) (rm_X7_relative d) E A [.ref a] S (fun r S1 => nz r ∧ Q r S1) := by
  refine MtI.of2 (by decide) (Nat.le_of_ble_eq_true rfl) (fun X F hQ hX => ?_)
  show VV X (0, 0) S [(0, .ref a)] [] 0
  obtain ⟨hXl, hXE, hXA, hN, hnm⟩ := hX
  subst hXE
  subst hXA
  subst hXl
  unfold wp_X7_relative at h
  refine v_aload_n F dX7_relative_0 0 rfl rfl ?_
  refine v_dup F dX7_relative_1 rfl ?_
  refine g_X7_23 F r_a dX7_relative_2 ?_
  refine v_iconst (v := 1) F dX7_relative_5 (by decide) ?_
  refine v_iadd F dX7_relative_6 ?_
  refine p_X7_23 F r_a h dX7_relative_7 (fun S1 h hE => ?_)
  have r_a := r_a.tr hE
  refine v_aload_n F dX7_relative_10 0 rfl rfl ?_
  refine v_cI0 (v_runV F k_X7_117 rfl (c_X7_block hM hS r_a h) r_a rfl rfl (Nat.le_of_ble_eq_true rfl) ⟨(by show 3 * d + 11 + 1 ≤ 3 * d + 12; omega), (by show 8 + (1 + 11) + 100 * d + 330 ≤ 100 * d + 360; omega)⟩ ⟨Nat.le_refl 0, Nat.le_refl 0⟩ dX7_relative_11) ⟨rfl, rfl⟩ (fun r3 S2 h hE => ?_)
  obtain ⟨nz_r3, h⟩ := h
  have r_a := r_a.tr hE
  exact v_zret F hQ nz_r3 ⟨nz_r3, h⟩ ⟨Nat.le_refl 0, Nat.le_refl 0⟩ dX7_relative_14
theorem dX7_rounds_0 : decode cX7_rounds 0 = .ok (.aload_n 0, 1) := by decide +kernel
theorem dX7_rounds_1 : decode cX7_rounds 1 = .ok (.dup, 1) := by decide +kernel
theorem dX7_rounds_2 : decode cX7_rounds 2 = .ok (.getfield 23, 3) := by decide +kernel
theorem dX7_rounds_5 : decode cX7_rounds 5 = .ok (.iconst 1, 1) := by decide +kernel
theorem dX7_rounds_6 : decode cX7_rounds 6 = .ok (.iadd, 1) := by decide +kernel
theorem dX7_rounds_7 : decode cX7_rounds 7 = .ok (.putfield 23, 3) := by decide +kernel
theorem dX7_rounds_10 : decode cX7_rounds 10 = .ok (.aload_n 0, 1) := by decide +kernel
theorem dX7_rounds_11 : decode cX7_rounds 11 = .ok (.iconst 0, 1) := by decide +kernel
theorem dX7_rounds_12 : decode cX7_rounds 12 = .ok (.bipush 50, 2) := by decide +kernel
theorem dX7_rounds_14 : decode cX7_rounds 14 = .ok (.invokevirtual 120, 3) := by decide +kernel
theorem dX7_rounds_17 : decode cX7_rounds 17 = .ok (.ifCond .ne 5, 3) := by decide +kernel
theorem dX7_rounds_20 : decode cX7_rounds 20 = .ok (.iconst 0, 1) := by decide +kernel
theorem dX7_rounds_21 : decode cX7_rounds 21 = .ok (.ireturn, 1) := by decide +kernel
theorem dX7_rounds_22 : decode cX7_rounds 22 = .ok (.aload_n 0, 1) := by decide +kernel
theorem dX7_rounds_23 : decode cX7_rounds 23 = .ok (.getfield 9, 3) := by decide +kernel
theorem dX7_rounds_26 : decode cX7_rounds 26 = .ok (.iload_n 1, 1) := by decide +kernel
theorem dX7_rounds_27 : decode cX7_rounds 27 = .ok (.aload_n 0, 1) := by decide +kernel
theorem dX7_rounds_28 : decode cX7_rounds 28 = .ok (.getfield 123, 3) := by decide +kernel
theorem dX7_rounds_31 : decode cX7_rounds 31 = .ok (.l2i, 1) := by decide +kernel
theorem dX7_rounds_32 : decode cX7_rounds 32 = .ok (.iconst 0, 1) := by decide +kernel
theorem dX7_rounds_33 : decode cX7_rounds 33 = .ok (.invokevirtual 127, 3) := by decide +kernel
theorem dX7_rounds_36 : decode cX7_rounds 36 = .ok (.aload_n 0, 1) := by decide +kernel
theorem dX7_rounds_37 : decode cX7_rounds 37 = .ok (.invokevirtual 117, 3) := by decide +kernel
theorem dX7_rounds_40 : decode cX7_rounds 40 = .ok (.ireturn, 1) := by decide +kernel
def wp_X7_rounds (M : Nat → PS → (Int32 → PS → Prop) → Prop) (a : Nat) (p1 : Int32) (S : PS) (Q : Int32 → PS → Prop) : Prop :=
  (∀ S1, S1 = sI S 60 a ((fI S 60 a) + 1) → wp_X7_number a 0 50 S1 (fun (r3 : Int32) (S2 : PS) => 
 (if r3 = 0 then
 Q 0 S2
 else
 (∃ b4, fR S2 58 a = some b4 ∧ wp_X6_setNumbers b4 p1 ((fL S2 65 a).toInt32) 0 S2 (fun (S5 : PS) => 
 wp_X7_block M a S5 (fun (r7 : Int32) (S6 : PS) => 
 Q r7 S6))))))
set_option maxRecDepth 100000 in
set_option maxHeartbeats 4000000 in
theorem c_X7_rounds {adK adV : Nat → Nat} {M : Nat → PS → (Int32 → PS → Prop) → Prop} {d : Nat} (hM : ∀ {l : Launch} {E : EE} {A : Nat → Prop} {a : Nat} {S : PS} {Q : Int32 → PS → Prop}, hasStr E adK adV → Rf S a 6 → M a S Q → MtI l yX7_music (.code yX7_music cX7_music 5 (some .boolean)) (rm_X7_music d) E A [.ref a] S (fun r S1 => nz r ∧ Q r S1)) {l : Launch} {E : EE} {A : Nat → Prop} {a : Nat} {p1 : Int32} {S : PS} {Q : Int32 → PS → Prop} (hS : hasStr E adK adV) (r_a : Rf S a 6) (h : wp_X7_rounds M a p1 S Q) : MtI l yX7_rounds (.code yX7_rounds cX7_rounds 2 (some .boolean)) (rm_X7_rounds d) E A [.ref a, .int p1] S (fun r S1 => nz r ∧ Q r S1) := by
  refine MtI.of2 (by decide) (Nat.le_of_ble_eq_true rfl) (fun X F hQ hX => ?_)
  show VV X (0, 0) S [(0, .ref a), (1, .int p1)] [] 0
  obtain ⟨hXl, hXE, hXA, hN, hnm⟩ := hX
  subst hXE
  subst hXA
  subst hXl
  unfold wp_X7_rounds at h
  refine v_aload_n F dX7_rounds_0 0 rfl rfl ?_
  refine v_dup F dX7_rounds_1 rfl ?_
  refine g_X7_23 F r_a dX7_rounds_2 ?_
  refine v_iconst (v := 1) F dX7_rounds_5 (by decide) ?_
  refine v_iadd F dX7_rounds_6 ?_
  refine p_X7_23 F r_a h dX7_rounds_7 (fun S1 h hE => ?_)
  have r_a := r_a.tr hE
  refine v_aload_n F dX7_rounds_10 0 rfl rfl ?_
  refine v_iconst (v := 0) F dX7_rounds_11 (by decide) ?_
  refine v_bipush (v := 50) F dX7_rounds_12 (by decide) ?_
  refine v_cI0 (v_runV F k_X7_120 rfl (c_X7_number r_a h) r_a rfl rfl (Nat.le_of_ble_eq_true rfl) ⟨(by show 3 + 1 ≤ 3 * d + 12; omega), (by show 8 + (3 + 11) + 66 ≤ 100 * d + 360; omega)⟩ ⟨Nat.le_refl 0, Nat.le_refl 0⟩ dX7_rounds_14) ⟨rfl, rfl⟩ (fun r3 S2 h hE => ?_)
  obtain ⟨nz_r3, h⟩ := h
  have r_a := r_a.tr hE
  refine v_if_ne (tgt := 22) F dX7_rounds_17 (by decide) h (fun h => ?_) (fun h => ?_)
  · refine v_aload_n F dX7_rounds_22 0 rfl rfl ?_
    refine g_X7_9 F r_a h dX7_rounds_23 (fun b4 r_b4 h => ?_)
    refine v_iload_n F dX7_rounds_26 1 rfl rfl ?_
    refine v_aload_n F dX7_rounds_27 0 rfl rfl ?_
    refine g_X7_123 F r_a dX7_rounds_28 ?_
    refine v_l2i F dX7_rounds_31 ?_
    refine v_iconst (v := 0) F dX7_rounds_32 (by decide) ?_
    refine v_cV0 (v_runV F k_X7_127 rfl (c_X6_setNumbers r_b4 h) r_b4 rfl rfl (Nat.le_of_ble_eq_true rfl) ⟨(by show 1 + 1 ≤ 3 * d + 12; omega), (by show 8 + (4 + 11) + 21 ≤ 100 * d + 360; omega)⟩ ⟨Nat.le_refl 0, Nat.le_refl 0⟩ dX7_rounds_33) ⟨rfl, rfl⟩ (fun  S5 h hE => ?_)
    have r_a := r_a.tr hE
    refine v_aload_n F dX7_rounds_36 0 rfl rfl ?_
    refine v_cI0 (v_runV F k_X7_117 rfl (c_X7_block hM hS r_a h) r_a rfl rfl (Nat.le_of_ble_eq_true rfl) ⟨(by show 3 * d + 11 + 1 ≤ 3 * d + 12; omega), (by show 8 + (1 + 11) + 100 * d + 330 ≤ 100 * d + 360; omega)⟩ ⟨Nat.le_refl 0, Nat.le_refl 0⟩ dX7_rounds_37) ⟨rfl, rfl⟩ (fun r7 S6 h hE => ?_)
    obtain ⟨nz_r7, h⟩ := h
    have r_a := r_a.tr hE
    exact v_zret F hQ nz_r7 ⟨nz_r7, h⟩ ⟨Nat.le_refl 0, Nat.le_refl 0⟩ dX7_rounds_40
  · refine v_iconst (v := 0) F dX7_rounds_20 (by decide) ?_
    exact v_zret F hQ (by decide) ⟨nz0, h⟩ ⟨Nat.le_refl 0, Nat.le_refl 0⟩ dX7_rounds_21
theorem dX7_tuplet_0 : decode cX7_tuplet 0 = .ok (.aload_n 0, 1) := by decide +kernel
theorem dX7_tuplet_1 : decode cX7_tuplet 1 = .ok (.dup, 1) := by decide +kernel
theorem dX7_tuplet_2 : decode cX7_tuplet 2 = .ok (.getfield 23, 3) := by decide +kernel
theorem dX7_tuplet_5 : decode cX7_tuplet 5 = .ok (.iconst 1, 1) := by decide +kernel
theorem dX7_tuplet_6 : decode cX7_tuplet 6 = .ok (.iadd, 1) := by decide +kernel
theorem dX7_tuplet_7 : decode cX7_tuplet 7 = .ok (.putfield 23, 3) := by decide +kernel
theorem dX7_tuplet_10 : decode cX7_tuplet 10 = .ok (.aload_n 0, 1) := by decide +kernel
theorem dX7_tuplet_11 : decode cX7_tuplet 11 = .ok (.iconst 1, 1) := by decide +kernel
theorem dX7_tuplet_12 : decode cX7_tuplet 12 = .ok (.bipush 9, 2) := by decide +kernel
theorem dX7_tuplet_14 : decode cX7_tuplet 14 = .ok (.invokevirtual 120, 3) := by decide +kernel
theorem dX7_tuplet_17 : decode cX7_tuplet 17 = .ok (.ifCond .ne 5, 3) := by decide +kernel
theorem dX7_tuplet_20 : decode cX7_tuplet 20 = .ok (.iconst 0, 1) := by decide +kernel
theorem dX7_tuplet_21 : decode cX7_tuplet 21 = .ok (.ireturn, 1) := by decide +kernel
theorem dX7_tuplet_22 : decode cX7_tuplet 22 = .ok (.aload_n 0, 1) := by decide +kernel
theorem dX7_tuplet_23 : decode cX7_tuplet 23 = .ok (.getfield 123, 3) := by decide +kernel
theorem dX7_tuplet_26 : decode cX7_tuplet 26 = .ok (.l2i, 1) := by decide +kernel
theorem dX7_tuplet_27 : decode cX7_tuplet 27 = .ok (.istore_n 2, 1) := by decide +kernel
theorem dX7_tuplet_28 : decode cX7_tuplet 28 = .ok (.aload_n 0, 1) := by decide +kernel
theorem dX7_tuplet_29 : decode cX7_tuplet 29 = .ok (.bipush 47, 2) := by decide +kernel
theorem dX7_tuplet_31 : decode cX7_tuplet 31 = .ok (.invokevirtual 131, 3) := by decide +kernel
theorem dX7_tuplet_34 : decode cX7_tuplet 34 = .ok (.ifCond .eq 13, 3) := by decide +kernel
theorem dX7_tuplet_37 : decode cX7_tuplet 37 = .ok (.aload_n 0, 1) := by decide +kernel
theorem dX7_tuplet_38 : decode cX7_tuplet 38 = .ok (.iconst 1, 1) := by decide +kernel
theorem dX7_tuplet_39 : decode cX7_tuplet 39 = .ok (.bipush 9, 2) := by decide +kernel
theorem dX7_tuplet_41 : decode cX7_tuplet 41 = .ok (.invokevirtual 120, 3) := by decide +kernel
theorem dX7_tuplet_44 : decode cX7_tuplet 44 = .ok (.ifCond .ne 5, 3) := by decide +kernel
theorem dX7_tuplet_47 : decode cX7_tuplet 47 = .ok (.iconst 0, 1) := by decide +kernel
theorem dX7_tuplet_48 : decode cX7_tuplet 48 = .ok (.ireturn, 1) := by decide +kernel
theorem dX7_tuplet_49 : decode cX7_tuplet 49 = .ok (.aload_n 0, 1) := by decide +kernel
theorem dX7_tuplet_50 : decode cX7_tuplet 50 = .ok (.getfield 9, 3) := by decide +kernel
theorem dX7_tuplet_53 : decode cX7_tuplet 53 = .ok (.iload_n 1, 1) := by decide +kernel
theorem dX7_tuplet_54 : decode cX7_tuplet 54 = .ok (.iload_n 2, 1) := by decide +kernel
theorem dX7_tuplet_55 : decode cX7_tuplet 55 = .ok (.aload_n 0, 1) := by decide +kernel
theorem dX7_tuplet_56 : decode cX7_tuplet 56 = .ok (.getfield 123, 3) := by decide +kernel
theorem dX7_tuplet_59 : decode cX7_tuplet 59 = .ok (.l2i, 1) := by decide +kernel
theorem dX7_tuplet_60 : decode cX7_tuplet 60 = .ok (.invokevirtual 127, 3) := by decide +kernel
theorem dX7_tuplet_63 : decode cX7_tuplet 63 = .ok (.aload_n 0, 1) := by decide +kernel
theorem dX7_tuplet_64 : decode cX7_tuplet 64 = .ok (.invokevirtual 117, 3) := by decide +kernel
theorem dX7_tuplet_67 : decode cX7_tuplet 67 = .ok (.ireturn, 1) := by decide +kernel
def wp_X7_tuplet (M : Nat → PS → (Int32 → PS → Prop) → Prop) (a : Nat) (p1 : Int32) (S : PS) (Q : Int32 → PS → Prop) : Prop :=
  (∀ S1, S1 = sI S 60 a ((fI S 60 a) + 1) → wp_X7_number a 1 9 S1 (fun (r3 : Int32) (S2 : PS) => 
 (if r3 = 0 then
 Q 0 S2
 else
 (∀ v4, v4 = (fL S2 65 a).toInt32 → wp_X7_mustBehindBlanks a 47 S2 (fun (r6 : Int32) (S5 : PS) => 
 (if r6 = 0 then
 Q 0 S5
 else
 wp_X7_number a 1 9 S5 (fun (r8 : Int32) (S7 : PS) => 
 (if r8 = 0 then
 Q 0 S7
 else
 (∃ b9, fR S7 58 a = some b9 ∧ wp_X6_setNumbers b9 p1 v4 ((fL S7 65 a).toInt32) S7 (fun (S10 : PS) => 
 wp_X7_block M a S10 (fun (r12 : Int32) (S11 : PS) => 
 Q r12 S11)))))))))))
set_option maxRecDepth 100000 in
set_option maxHeartbeats 4000000 in
theorem c_X7_tuplet {adK adV : Nat → Nat} {M : Nat → PS → (Int32 → PS → Prop) → Prop} {d : Nat} (hM : ∀ {l : Launch} {E : EE} {A : Nat → Prop} {a : Nat} {S : PS} {Q : Int32 → PS → Prop}, hasStr E adK adV → Rf S a 6 → M a S Q → MtI l yX7_music (.code yX7_music cX7_music 5 (some .boolean)) (rm_X7_music d) E A [.ref a] S (fun r S1 => nz r ∧ Q r S1)) {l : Launch} {E : EE} {A : Nat → Prop} {a : Nat} {p1 : Int32} {S : PS} {Q : Int32 → PS → Prop} (hS : hasStr E adK adV) (r_a : Rf S a 6) (h : wp_X7_tuplet M a p1 S Q) : MtI l yX7_tuplet (.code yX7_tuplet cX7_tuplet 3 (some .boolean)) (rm_X7_tuplet d) E A [.ref a, .int p1] S (fun r S1 => nz r ∧ Q r S1) := by
  refine MtI.of2 (by decide) (Nat.le_of_ble_eq_true rfl) (fun X F hQ hX => ?_)
  show VV X (0, 0) S [(0, .ref a), (1, .int p1)] [] 0
  obtain ⟨hXl, hXE, hXA, hN, hnm⟩ := hX
  subst hXE
  subst hXA
  subst hXl
  unfold wp_X7_tuplet at h
  refine v_aload_n F dX7_tuplet_0 0 rfl rfl ?_
  refine v_dup F dX7_tuplet_1 rfl ?_
  refine g_X7_23 F r_a dX7_tuplet_2 ?_
  refine v_iconst (v := 1) F dX7_tuplet_5 (by decide) ?_
  refine v_iadd F dX7_tuplet_6 ?_
  refine p_X7_23 F r_a h dX7_tuplet_7 (fun S1 h hE => ?_)
  have r_a := r_a.tr hE
  refine v_aload_n F dX7_tuplet_10 0 rfl rfl ?_
  refine v_iconst (v := 1) F dX7_tuplet_11 (by decide) ?_
  refine v_bipush (v := 9) F dX7_tuplet_12 (by decide) ?_
  refine v_cI0 (v_runV F k_X7_120 rfl (c_X7_number r_a h) r_a rfl rfl (Nat.le_of_ble_eq_true rfl) ⟨(by show 3 + 1 ≤ 3 * d + 12; omega), (by show 8 + (3 + 11) + 66 ≤ 100 * d + 360; omega)⟩ ⟨Nat.le_refl 0, Nat.le_refl 0⟩ dX7_tuplet_14) ⟨rfl, rfl⟩ (fun r3 S2 h hE => ?_)
  obtain ⟨nz_r3, h⟩ := h
  have r_a := r_a.tr hE
  refine v_if_ne (tgt := 22) F dX7_tuplet_17 (by decide) h (fun h => ?_) (fun h => ?_)
  · refine v_aload_n F dX7_tuplet_22 0 rfl rfl ?_
    refine g_X7_123 F r_a dX7_tuplet_23 ?_
    refine v_l2i F dX7_tuplet_26 ?_
    refine v_topi (fun v4 e_v4 => ?_)
    have h := h v4 e_v4
    refine v_istore_n (lv1 := [(2, .int v4), (0, .ref a), (1, .int p1)]) F dX7_tuplet_27 rfl (by rw [hN]; decide) rfl ?_
    refine v_aload_n F dX7_tuplet_28 1 rfl rfl ?_
    refine v_bipush (v := 47) F dX7_tuplet_29 (by decide) ?_
    refine v_cI0 (v_runV F k_X7_131 rfl (c_X7_mustBehindBlanks r_a h) r_a rfl rfl (Nat.le_of_ble_eq_true rfl) ⟨(by show 3 + 1 ≤ 3 * d + 12; omega), (by show 8 + (2 + 11) + 63 ≤ 100 * d + 360; omega)⟩ ⟨Nat.le_refl 0, Nat.le_refl 0⟩ dX7_tuplet_31) ⟨rfl, rfl⟩ (fun r6 S5 h hE => ?_)
    obtain ⟨nz_r6, h⟩ := h
    have r_a := r_a.tr hE
    refine v_if_eq (tgt := 47) F dX7_tuplet_34 (by decide) h (fun h => ?_) (fun h => ?_)
    · refine v_iconst (v := 0) F dX7_tuplet_47 (by decide) ?_
      exact v_zret F hQ (by decide) ⟨nz0, h⟩ ⟨Nat.le_refl 0, Nat.le_refl 0⟩ dX7_tuplet_48
    · refine v_aload_n F dX7_tuplet_37 1 rfl rfl ?_
      refine v_iconst (v := 1) F dX7_tuplet_38 (by decide) ?_
      refine v_bipush (v := 9) F dX7_tuplet_39 (by decide) ?_
      refine v_cI0 (v_runV F k_X7_120 rfl (c_X7_number r_a h) r_a rfl rfl (Nat.le_of_ble_eq_true rfl) ⟨(by show 3 + 1 ≤ 3 * d + 12; omega), (by show 8 + (3 + 11) + 66 ≤ 100 * d + 360; omega)⟩ ⟨Nat.le_refl 0, Nat.le_refl 0⟩ dX7_tuplet_41) ⟨rfl, rfl⟩ (fun r8 S7 h hE => ?_)
      obtain ⟨nz_r8, h⟩ := h
      have r_a := r_a.tr hE
      refine v_if_ne (tgt := 49) F dX7_tuplet_44 (by decide) h (fun h => ?_) (fun h => ?_)
      · refine v_aload_n F dX7_tuplet_49 1 rfl rfl ?_
        refine g_X7_9 F r_a h dX7_tuplet_50 (fun b9 r_b9 h => ?_)
        refine v_iload_n F dX7_tuplet_53 2 rfl rfl ?_
        refine v_iload_n F dX7_tuplet_54 0 rfl rfl ?_
        refine v_aload_n F dX7_tuplet_55 1 rfl rfl ?_
        refine g_X7_123 F r_a dX7_tuplet_56 ?_
        refine v_l2i F dX7_tuplet_59 ?_
        refine v_cV0 (v_runV F k_X7_127 rfl (c_X6_setNumbers r_b9 h) r_b9 rfl rfl (Nat.le_of_ble_eq_true rfl) ⟨(by show 1 + 1 ≤ 3 * d + 12; omega), (by show 8 + (4 + 11) + 21 ≤ 100 * d + 360; omega)⟩ ⟨Nat.le_refl 0, Nat.le_refl 0⟩ dX7_tuplet_60) ⟨rfl, rfl⟩ (fun  S10 h hE => ?_)
        have r_a := r_a.tr hE
        refine v_aload_n F dX7_tuplet_63 1 rfl rfl ?_
        refine v_cI0 (v_runV F k_X7_117 rfl (c_X7_block hM hS r_a h) r_a rfl rfl (Nat.le_of_ble_eq_true rfl) ⟨(by show 3 * d + 11 + 1 ≤ 3 * d + 12; omega), (by show 8 + (1 + 11) + 100 * d + 330 ≤ 100 * d + 360; omega)⟩ ⟨Nat.le_refl 0, Nat.le_refl 0⟩ dX7_tuplet_64) ⟨rfl, rfl⟩ (fun r12 S11 h hE => ?_)
        obtain ⟨nz_r12, h⟩ := h
        have r_a := r_a.tr hE
        exact v_zret F hQ nz_r12 ⟨nz_r12, h⟩ ⟨Nat.le_refl 0, Nat.le_refl 0⟩ dX7_tuplet_67
      · refine v_iconst (v := 0) F dX7_tuplet_47 (by decide) ?_
        exact v_zret F hQ (by decide) ⟨nz0, h⟩ ⟨Nat.le_refl 0, Nat.le_refl 0⟩ dX7_tuplet_48
  · refine v_iconst (v := 0) F dX7_tuplet_20 (by decide) ?_
    exact v_zret F hQ (by decide) ⟨nz0, h⟩ ⟨Nat.le_refl 0, Nat.le_refl 0⟩ dX7_tuplet_21
theorem dX7_moving_0 : decode cX7_moving 0 = .ok (.aload_n 0, 1) := by decide +kernel
theorem dX7_moving_1 : decode cX7_moving 1 = .ok (.dup, 1) := by decide +kernel
theorem dX7_moving_2 : decode cX7_moving 2 = .ok (.getfield 23, 3) := by decide +kernel
theorem dX7_moving_5 : decode cX7_moving 5 = .ok (.iconst 1, 1) := by decide +kernel
theorem dX7_moving_6 : decode cX7_moving 6 = .ok (.iadd, 1) := by decide +kernel
theorem dX7_moving_7 : decode cX7_moving 7 = .ok (.putfield 23, 3) := by decide +kernel
theorem dX7_moving_10 : decode cX7_moving 10 = .ok (.aload_n 0, 1) := by decide +kernel
theorem dX7_moving_11 : decode cX7_moving 11 = .ok (.invokevirtual 134, 3) := by decide +kernel
theorem dX7_moving_14 : decode cX7_moving 14 = .ok (.ifCond .ne 5, 3) := by decide +kernel
theorem dX7_moving_17 : decode cX7_moving 17 = .ok (.iconst 0, 1) := by decide +kernel
theorem dX7_moving_18 : decode cX7_moving 18 = .ok (.ireturn, 1) := by decide +kernel
theorem dX7_moving_19 : decode cX7_moving 19 = .ok (.aload_n 0, 1) := by decide +kernel
theorem dX7_moving_20 : decode cX7_moving 20 = .ok (.getfield 123, 3) := by decide +kernel
theorem dX7_moving_23 : decode cX7_moving 23 = .ok (.l2i, 1) := by decide +kernel
theorem dX7_moving_24 : decode cX7_moving 24 = .ok (.istore_n 2, 1) := by decide +kernel
theorem dX7_moving_25 : decode cX7_moving 25 = .ok (.aload_n 0, 1) := by decide +kernel
theorem dX7_moving_26 : decode cX7_moving 26 = .ok (.invokevirtual 134, 3) := by decide +kernel
theorem dX7_moving_29 : decode cX7_moving 29 = .ok (.ifCond .ne 5, 3) := by decide +kernel
theorem dX7_moving_32 : decode cX7_moving 32 = .ok (.iconst 0, 1) := by decide +kernel
theorem dX7_moving_33 : decode cX7_moving 33 = .ok (.ireturn, 1) := by decide +kernel
theorem dX7_moving_34 : decode cX7_moving 34 = .ok (.aload_n 0, 1) := by decide +kernel
theorem dX7_moving_35 : decode cX7_moving 35 = .ok (.getfield 9, 3) := by decide +kernel
theorem dX7_moving_38 : decode cX7_moving 38 = .ok (.iload_n 1, 1) := by decide +kernel
theorem dX7_moving_39 : decode cX7_moving 39 = .ok (.iload_n 2, 1) := by decide +kernel
theorem dX7_moving_40 : decode cX7_moving 40 = .ok (.aload_n 0, 1) := by decide +kernel
theorem dX7_moving_41 : decode cX7_moving 41 = .ok (.getfield 123, 3) := by decide +kernel
theorem dX7_moving_44 : decode cX7_moving 44 = .ok (.l2i, 1) := by decide +kernel
theorem dX7_moving_45 : decode cX7_moving 45 = .ok (.invokevirtual 127, 3) := by decide +kernel
theorem dX7_moving_48 : decode cX7_moving 48 = .ok (.aload_n 0, 1) := by decide +kernel
theorem dX7_moving_49 : decode cX7_moving 49 = .ok (.invokevirtual 117, 3) := by decide +kernel
theorem dX7_moving_52 : decode cX7_moving 52 = .ok (.ireturn, 1) := by decide +kernel
def wp_X7_moving (M : Nat → PS → (Int32 → PS → Prop) → Prop) (a : Nat) (p1 : Int32) (S : PS) (Q : Int32 → PS → Prop) : Prop :=
  (∀ S1, S1 = sI S 60 a ((fI S 60 a) + 1) → wp_X7_signed a S1 (fun (r3 : Int32) (S2 : PS) => 
 (if r3 = 0 then
 Q 0 S2
 else
 (∀ v4, v4 = (fL S2 65 a).toInt32 → wp_X7_signed a S2 (fun (r6 : Int32) (S5 : PS) => 
 (if r6 = 0 then
 Q 0 S5
 else
 (∃ b7, fR S5 58 a = some b7 ∧ wp_X6_setNumbers b7 p1 v4 ((fL S5 65 a).toInt32) S5 (fun (S8 : PS) => 
 wp_X7_block M a S8 (fun (r10 : Int32) (S9 : PS) => 
 Q r10 S9)))))))))
set_option maxRecDepth 100000 in
set_option maxHeartbeats 4000000 in
theorem c_X7_moving {adK adV : Nat → Nat} {M : Nat → PS → (Int32 → PS → Prop) → Prop} {d : Nat} (hM : ∀ {l : Launch} {E : EE} {A : Nat → Prop} {a : Nat} {S : PS} {Q : Int32 → PS → Prop}, hasStr E adK adV → Rf S a 6 → M a S Q → MtI l yX7_music (.code yX7_music cX7_music 5 (some .boolean)) (rm_X7_music d) E A [.ref a] S (fun r S1 => nz r ∧ Q r S1)) {l : Launch} {E : EE} {A : Nat → Prop} {a : Nat} {p1 : Int32} {S : PS} {Q : Int32 → PS → Prop} (hS : hasStr E adK adV) (r_a : Rf S a 6) (h : wp_X7_moving M a p1 S Q) : MtI l yX7_moving (.code yX7_moving cX7_moving 3 (some .boolean)) (rm_X7_moving d) E A [.ref a, .int p1] S (fun r S1 => nz r ∧ Q r S1) := by
  refine MtI.of2 (by decide) (Nat.le_of_ble_eq_true rfl) (fun X F hQ hX => ?_)
  show VV X (0, 0) S [(0, .ref a), (1, .int p1)] [] 0
  obtain ⟨hXl, hXE, hXA, hN, hnm⟩ := hX
  subst hXE
  subst hXA
  subst hXl
  unfold wp_X7_moving at h
  refine v_aload_n F dX7_moving_0 0 rfl rfl ?_
  refine v_dup F dX7_moving_1 rfl ?_
  refine g_X7_23 F r_a dX7_moving_2 ?_
  refine v_iconst (v := 1) F dX7_moving_5 (by decide) ?_
  refine v_iadd F dX7_moving_6 ?_
  refine p_X7_23 F r_a h dX7_moving_7 (fun S1 h hE => ?_)
  have r_a := r_a.tr hE
  refine v_aload_n F dX7_moving_10 0 rfl rfl ?_
  refine v_cI0 (v_runV F k_X7_134 rfl (c_X7_signed r_a h) r_a rfl rfl (Nat.le_of_ble_eq_true rfl) ⟨(by show 3 + 1 ≤ 3 * d + 12; omega), (by show 8 + (2 + 11) + 63 ≤ 100 * d + 360; omega)⟩ ⟨Nat.le_refl 0, Nat.le_refl 0⟩ dX7_moving_11) ⟨rfl, rfl⟩ (fun r3 S2 h hE => ?_)
  obtain ⟨nz_r3, h⟩ := h
  have r_a := r_a.tr hE
  refine v_if_ne (tgt := 19) F dX7_moving_14 (by decide) h (fun h => ?_) (fun h => ?_)
  · refine v_aload_n F dX7_moving_19 0 rfl rfl ?_
    refine g_X7_123 F r_a dX7_moving_20 ?_
    refine v_l2i F dX7_moving_23 ?_
    refine v_topi (fun v4 e_v4 => ?_)
    have h := h v4 e_v4
    refine v_istore_n (lv1 := [(2, .int v4), (0, .ref a), (1, .int p1)]) F dX7_moving_24 rfl (by rw [hN]; decide) rfl ?_
    refine v_aload_n F dX7_moving_25 1 rfl rfl ?_
    refine v_cI0 (v_runV F k_X7_134 rfl (c_X7_signed r_a h) r_a rfl rfl (Nat.le_of_ble_eq_true rfl) ⟨(by show 3 + 1 ≤ 3 * d + 12; omega), (by show 8 + (2 + 11) + 63 ≤ 100 * d + 360; omega)⟩ ⟨Nat.le_refl 0, Nat.le_refl 0⟩ dX7_moving_26) ⟨rfl, rfl⟩ (fun r6 S5 h hE => ?_)
    obtain ⟨nz_r6, h⟩ := h
    have r_a := r_a.tr hE
    refine v_if_ne (tgt := 34) F dX7_moving_29 (by decide) h (fun h => ?_) (fun h => ?_)
    · refine v_aload_n F dX7_moving_34 1 rfl rfl ?_
      refine g_X7_9 F r_a h dX7_moving_35 (fun b7 r_b7 h => ?_)
      refine v_iload_n F dX7_moving_38 2 rfl rfl ?_
      refine v_iload_n F dX7_moving_39 0 rfl rfl ?_
      refine v_aload_n F dX7_moving_40 1 rfl rfl ?_
      refine g_X7_123 F r_a dX7_moving_41 ?_
      refine v_l2i F dX7_moving_44 ?_
      refine v_cV0 (v_runV F k_X7_127 rfl (c_X6_setNumbers r_b7 h) r_b7 rfl rfl (Nat.le_of_ble_eq_true rfl) ⟨(by show 1 + 1 ≤ 3 * d + 12; omega), (by show 8 + (4 + 11) + 21 ≤ 100 * d + 360; omega)⟩ ⟨Nat.le_refl 0, Nat.le_refl 0⟩ dX7_moving_45) ⟨rfl, rfl⟩ (fun  S8 h hE => ?_)
      have r_a := r_a.tr hE
      refine v_aload_n F dX7_moving_48 1 rfl rfl ?_
      refine v_cI0 (v_runV F k_X7_117 rfl (c_X7_block hM hS r_a h) r_a rfl rfl (Nat.le_of_ble_eq_true rfl) ⟨(by show 3 * d + 11 + 1 ≤ 3 * d + 12; omega), (by show 8 + (1 + 11) + 100 * d + 330 ≤ 100 * d + 360; omega)⟩ ⟨Nat.le_refl 0, Nat.le_refl 0⟩ dX7_moving_49) ⟨rfl, rfl⟩ (fun r10 S9 h hE => ?_)
      obtain ⟨nz_r10, h⟩ := h
      have r_a := r_a.tr hE
      exact v_zret F hQ nz_r10 ⟨nz_r10, h⟩ ⟨Nat.le_refl 0, Nat.le_refl 0⟩ dX7_moving_52
    · refine v_iconst (v := 0) F dX7_moving_32 (by decide) ?_
      exact v_zret F hQ (by decide) ⟨nz0, h⟩ ⟨Nat.le_refl 0, Nat.le_refl 0⟩ dX7_moving_33
  · refine v_iconst (v := 0) F dX7_moving_17 (by decide) ?_
    exact v_zret F hQ (by decide) ⟨nz0, h⟩ ⟨Nat.le_refl 0, Nat.le_refl 0⟩ dX7_moving_18
theorem dX7_naming_0 : decode cX7_naming 0 = .ok (.aload_n 0, 1) := by decide +kernel
theorem dX7_naming_1 : decode cX7_naming 1 = .ok (.getfield 30, 3) := by decide +kernel
theorem dX7_naming_4 : decode cX7_naming 4 = .ok (.ifCond .eq 8, 3) := by decide +kernel
theorem dX7_naming_7 : decode cX7_naming 7 = .ok (.aload_n 0, 1) := by decide +kernel
theorem dX7_naming_8 : decode cX7_naming 8 = .ok (.invokevirtual 45, 3) := by decide +kernel
theorem dX7_naming_11 : decode cX7_naming 11 = .ok (.ireturn, 1) := by decide +kernel
theorem dX7_naming_12 : decode cX7_naming 12 = .ok (.aload_n 0, 1) := by decide +kernel
theorem dX7_naming_13 : decode cX7_naming 13 = .ok (.getfield 9, 3) := by decide +kernel
theorem dX7_naming_16 : decode cX7_naming 16 = .ok (.getfield 222, 3) := by decide +kernel
theorem dX7_naming_19 : decode cX7_naming 19 = .ok (.bipush 20, 2) := by decide +kernel
theorem dX7_naming_21 : decode cX7_naming 21 = .ok (.if_icmp .lt 16, 3) := by decide +kernel
theorem dX7_naming_24 : decode cX7_naming 24 = .ok (.aload_n 0, 1) := by decide +kernel
theorem dX7_naming_25 : decode cX7_naming 25 = .ok (.getfield 15, 3) := by decide +kernel
theorem dX7_naming_28 : decode cX7_naming 28 = .ok (.iconst 5, 1) := by decide +kernel
theorem dX7_naming_29 : decode cX7_naming 29 = .ok (.aload_n 0, 1) := by decide +kernel
theorem dX7_naming_30 : decode cX7_naming 30 = .ok (.getfield 23, 3) := by decide +kernel
theorem dX7_naming_33 : decode cX7_naming 33 = .ok (.invokevirtual 48, 3) := by decide +kernel
theorem dX7_naming_36 : decode cX7_naming 36 = .ok (.ireturn, 1) := by decide +kernel
theorem dX7_naming_37 : decode cX7_naming 37 = .ok (.aload_n 0, 1) := by decide +kernel
theorem dX7_naming_38 : decode cX7_naming 38 = .ok (.dup, 1) := by decide +kernel
theorem dX7_naming_39 : decode cX7_naming 39 = .ok (.getfield 23, 3) := by decide +kernel
theorem dX7_naming_42 : decode cX7_naming 42 = .ok (.iconst 1, 1) := by decide +kernel
theorem dX7_naming_43 : decode cX7_naming 43 = .ok (.iadd, 1) := by decide +kernel
theorem dX7_naming_44 : decode cX7_naming 44 = .ok (.putfield 23, 3) := by decide +kernel
theorem dX7_naming_47 : decode cX7_naming 47 = .ok (.aload_n 0, 1) := by decide +kernel
theorem dX7_naming_48 : decode cX7_naming 48 = .ok (.iconst 0, 1) := by decide +kernel
theorem dX7_naming_49 : decode cX7_naming 49 = .ok (.putfield 34, 3) := by decide +kernel
theorem dX7_naming_52 : decode cX7_naming 52 = .ok (.aload_n 0, 1) := by decide +kernel
theorem dX7_naming_53 : decode cX7_naming 53 = .ok (.invokevirtual 225, 3) := by decide +kernel
theorem dX7_naming_56 : decode cX7_naming 56 = .ok (.ifCond .eq 12, 3) := by decide +kernel
theorem dX7_naming_59 : decode cX7_naming 59 = .ok (.aload_n 0, 1) := by decide +kernel
theorem dX7_naming_60 : decode cX7_naming 60 = .ok (.iconst (-1), 1) := by decide +kernel
theorem dX7_naming_61 : decode cX7_naming 61 = .ok (.iconst 0, 1) := by decide +kernel
theorem dX7_naming_62 : decode cX7_naming 62 = .ok (.invokevirtual 228, 3) := by decide +kernel
theorem dX7_naming_65 : decode cX7_naming 65 = .ok (.ifCond .ne 5, 3) := by decide +kernel
theorem dX7_naming_68 : decode cX7_naming 68 = .ok (.iconst 0, 1) := by decide +kernel
theorem dX7_naming_69 : decode cX7_naming 69 = .ok (.ireturn, 1) := by decide +kernel
theorem dX7_naming_70 : decode cX7_naming 70 = .ok (.aload_n 0, 1) := by decide +kernel
theorem dX7_naming_71 : decode cX7_naming 71 = .ok (.getfield 216, 3) := by decide +kernel
theorem dX7_naming_74 : decode cX7_naming 74 = .ok (.istore_n 2, 1) := by decide +kernel
theorem dX7_naming_75 : decode cX7_naming 75 = .ok (.aload_n 0, 1) := by decide +kernel
theorem dX7_naming_76 : decode cX7_naming 76 = .ok (.iload_n 2, 1) := by decide +kernel
theorem dX7_naming_77 : decode cX7_naming 77 = .ok (.invokevirtual 232, 3) := by decide +kernel
theorem dX7_naming_80 : decode cX7_naming 80 = .ok (.ifCond .ne 5, 3) := by decide +kernel
theorem dX7_naming_83 : decode cX7_naming 83 = .ok (.iconst 0, 1) := by decide +kernel
theorem dX7_naming_84 : decode cX7_naming 84 = .ok (.ireturn, 1) := by decide +kernel
theorem dX7_naming_85 : decode cX7_naming 85 = .ok (.aload_n 0, 1) := by decide +kernel
theorem dX7_naming_86 : decode cX7_naming 86 = .ok (.iconst 1, 1) := by decide +kernel
theorem dX7_naming_87 : decode cX7_naming 87 = .ok (.putfield 30, 3) := by decide +kernel
theorem dX7_naming_90 : decode cX7_naming 90 = .ok (.aload_n 0, 1) := by decide +kernel
theorem dX7_naming_91 : decode cX7_naming 91 = .ok (.invokevirtual 117, 3) := by decide +kernel
theorem dX7_naming_94 : decode cX7_naming 94 = .ok (.ifCond .ne 5, 3) := by decide +kernel
theorem dX7_naming_97 : decode cX7_naming 97 = .ok (.iconst 0, 1) := by decide +kernel
theorem dX7_naming_98 : decode cX7_naming 98 = .ok (.ireturn, 1) := by decide +kernel
theorem dX7_naming_99 : decode cX7_naming 99 = .ok (.aload_n 0, 1) := by decide +kernel
theorem dX7_naming_100 : decode cX7_naming 100 = .ok (.iconst 0, 1) := by decide +kernel
theorem dX7_naming_101 : decode cX7_naming 101 = .ok (.putfield 30, 3) := by decide +kernel
theorem dX7_naming_104 : decode cX7_naming 104 = .ok (.aload_n 0, 1) := by decide +kernel
theorem dX7_naming_105 : decode cX7_naming 105 = .ok (.getfield 9, 3) := by decide +kernel
theorem dX7_naming_108 : decode cX7_naming 108 = .ok (.iload_n 2, 1) := by decide +kernel
theorem dX7_naming_109 : decode cX7_naming 109 = .ok (.iload_n 1, 1) := by decide +kernel
theorem dX7_naming_110 : decode cX7_naming 110 = .ok (.aload_n 0, 1) := by decide +kernel
theorem dX7_naming_111 : decode cX7_naming 111 = .ok (.getfield 34, 3) := by decide +kernel
theorem dX7_naming_114 : decode cX7_naming 114 = .ok (.invokevirtual 235, 3) := by decide +kernel
theorem dX7_naming_117 : decode cX7_naming 117 = .ok (.aload_n 0, 1) := by decide +kernel
theorem dX7_naming_118 : decode cX7_naming 118 = .ok (.iconst 0, 1) := by decide +kernel
theorem dX7_naming_119 : decode cX7_naming 119 = .ok (.putfield 34, 3) := by decide +kernel
theorem dX7_naming_122 : decode cX7_naming 122 = .ok (.iconst 1, 1) := by decide +kernel
theorem dX7_naming_123 : decode cX7_naming 123 = .ok (.ireturn, 1) := by decide +kernel
def wp_X7_naming (M : Nat → PS → (Int32 → PS → Prop) → Prop) (a : Nat) (p1 : Int32) (S : PS) (Q : Int32 → PS → Prop) : Prop :=
  (if fI S 62 a = 0 then
 (∃ b1, fR S 58 a = some b1 ∧ (if fI S 54 b1 < 20 then
 (∀ S2, S2 = sI S 60 a ((fI S 60 a) + 1) → (∀ S3, S3 = sI S2 64 a 0 → wp_X7_findName a S3 (fun (r5 : Int32) (S4 : PS) => 
 (if r5 = 0 then
 Q 0 S4
 else
 wp_X7_newName a (-1) 0 S4 (fun (r7 : Int32) (S6 : PS) => 
 (if r7 = 0 then
 Q 0 S6
 else
 (∀ v8, v8 = fI S6 67 a → wp_X7_findParameters a v8 S6 (fun (r10 : Int32) (S9 : PS) => 
 (if r10 = 0 then
 Q 0 S9
 else
 (∀ S11, S11 = sI S9 62 a 1 → wp_X7_block M a S11 (fun (r13 : Int32) (S12 : PS) => 
 (if r13 = 0 then
 Q 0 S12
 else
 (∀ S14, S14 = sI S12 62 a 0 → (∃ b15, fR S14 58 a = some b15 ∧ wp_X6_addName b15 v8 p1 (fI S14 64 a) S14 (fun (S16 : PS) => 
 (∀ S17, S17 = sI S16 64 a 0 → Q 1 S17))))))))))))))))
 else
 (∃ b18, fR S 59 a = some b18 ∧ wp_X0_tell b18 5 (fI S 60 a) S (fun (r20 : Int32) (S19 : PS) => 
 Q r20 S19))))
 else
 wp_X7_refuse a S (fun (r22 : Int32) (S21 : PS) => 
 Q r22 S21))
set_option maxRecDepth 100000 in
set_option maxHeartbeats 4000000 in
theorem c_X7_naming {adK adV : Nat → Nat} {M : Nat → PS → (Int32 → PS → Prop) → Prop} {d : Nat} (hM : ∀ {l : Launch} {E : EE} {A : Nat → Prop} {a : Nat} {S : PS} {Q : Int32 → PS → Prop}, hasStr E adK adV → Rf S a 6 → M a S Q → MtI l yX7_music (.code yX7_music cX7_music 5 (some .boolean)) (rm_X7_music d) E A [.ref a] S (fun r S1 => nz r ∧ Q r S1)) {l : Launch} {E : EE} {A : Nat → Prop} {a : Nat} {p1 : Int32} {S : PS} {Q : Int32 → PS → Prop} (hS : hasStr E adK adV) (r_a : Rf S a 6) (h : wp_X7_naming M a p1 S Q) : MtI l yX7_naming (.code yX7_naming cX7_naming 3 (some .boolean)) (rm_X7_naming d) E A [.ref a, .int p1] S (fun r S1 => nz r ∧ Q r S1) := by
  refine MtI.of2 (by decide) (Nat.le_of_ble_eq_true rfl) (fun X F hQ hX => ?_)
  show VV X (0, 0) S [(0, .ref a), (1, .int p1)] [] 0
  obtain ⟨hXl, hXE, hXA, hN, hnm⟩ := hX
  subst hXE
  subst hXA
  subst hXl
  unfold wp_X7_naming at h
  refine v_aload_n F dX7_naming_0 0 rfl rfl ?_
  refine g_X7_30 F r_a dX7_naming_1 ?_
  refine v_if_eq (tgt := 12) F dX7_naming_4 (by decide) h (fun h => ?_) (fun h => ?_)
  · refine v_aload_n F dX7_naming_12 0 rfl rfl ?_
    refine g_X7_9 F r_a h dX7_naming_13 (fun b1 r_b1 h => ?_)
    refine g_X7_222 F r_b1 dX7_naming_16 ?_
    refine v_bipush (v := 20) F dX7_naming_19 (by decide) ?_
    refine v_icmp_lt (tgt := 37) F dX7_naming_21 (by decide) h (fun h => ?_) (fun h => ?_)
    · refine v_aload_n F dX7_naming_37 0 rfl rfl ?_
      refine v_dup F dX7_naming_38 rfl ?_
      refine g_X7_23 F r_a dX7_naming_39 ?_
      refine v_iconst (v := 1) F dX7_naming_42 (by decide) ?_
      refine v_iadd F dX7_naming_43 ?_
      refine p_X7_23 F r_a h dX7_naming_44 (fun S2 h hE => ?_)
      have r_a := r_a.tr hE
      refine v_aload_n F dX7_naming_47 0 rfl rfl ?_
      refine v_iconst (v := 0) F dX7_naming_48 (by decide) ?_
      refine p_X7_34 F r_a h dX7_naming_49 (fun S3 h hE => ?_)
      have r_a := r_a.tr hE
      refine v_aload_n F dX7_naming_52 0 rfl rfl ?_
      refine v_cI0 (v_runV F k_X7_225 rfl (c_X7_findName r_a h) r_a rfl rfl (Nat.le_of_ble_eq_true rfl) ⟨(by show 2 + 1 ≤ 3 * d + 12; omega), (by show 8 + (2 + 11) + 43 ≤ 100 * d + 360; omega)⟩ ⟨Nat.le_refl 0, Nat.le_refl 0⟩ dX7_naming_53) ⟨rfl, rfl⟩ (fun r5 S4 h hE => ?_)
      obtain ⟨nz_r5, h⟩ := h
      have r_a := r_a.tr hE
      refine v_if_eq (tgt := 68) F dX7_naming_56 (by decide) h (fun h => ?_) (fun h => ?_)
      · refine v_iconst (v := 0) F dX7_naming_68 (by decide) ?_
        exact v_zret F hQ (by decide) ⟨nz0, h⟩ ⟨Nat.le_refl 0, Nat.le_refl 0⟩ dX7_naming_69
      · refine v_aload_n F dX7_naming_59 0 rfl rfl ?_
        refine v_iconst (v := (-1)) F dX7_naming_60 (by decide) ?_
        refine v_iconst (v := 0) F dX7_naming_61 (by decide) ?_
        refine v_cI0 (v_runV F k_X7_228 rfl (c_X7_newName r_a h) r_a rfl rfl (Nat.le_of_ble_eq_true rfl) ⟨(by show 1 + 1 ≤ 3 * d + 12; omega), (by show 8 + (5 + 11) + 22 ≤ 100 * d + 360; omega)⟩ ⟨Nat.le_refl 0, Nat.le_refl 0⟩ dX7_naming_62) ⟨rfl, rfl⟩ (fun r7 S6 h hE => ?_)
        obtain ⟨nz_r7, h⟩ := h
        have r_a := r_a.tr hE
        refine v_if_ne (tgt := 70) F dX7_naming_65 (by decide) h (fun h => ?_) (fun h => ?_)
        · refine v_aload_n F dX7_naming_70 0 rfl rfl ?_
          refine g_X7_216 F r_a dX7_naming_71 ?_
          refine v_topi (fun v8 e_v8 => ?_)
          have h := h v8 e_v8
          refine v_istore_n (lv1 := [(2, .int v8), (0, .ref a), (1, .int p1)]) F dX7_naming_74 rfl (by rw [hN]; decide) rfl ?_
          refine v_aload_n F dX7_naming_75 1 rfl rfl ?_
          refine v_iload_n F dX7_naming_76 0 rfl rfl ?_
          refine v_cI0 (v_runV F k_X7_232 rfl (c_X7_findParameters r_a h) r_a rfl rfl (Nat.le_of_ble_eq_true rfl) ⟨(by show 3 + 1 ≤ 3 * d + 12; omega), (by show 8 + (3 + 11) + 64 ≤ 100 * d + 360; omega)⟩ ⟨Nat.le_refl 0, Nat.le_refl 0⟩ dX7_naming_77) ⟨rfl, rfl⟩ (fun r10 S9 h hE => ?_)
          obtain ⟨nz_r10, h⟩ := h
          have r_a := r_a.tr hE
          refine v_if_ne (tgt := 85) F dX7_naming_80 (by decide) h (fun h => ?_) (fun h => ?_)
          · refine v_aload_n F dX7_naming_85 1 rfl rfl ?_
            refine v_iconst (v := 1) F dX7_naming_86 (by decide) ?_
            refine p_X7_30 F r_a rfl rfl h dX7_naming_87 (fun S11 h hE => ?_)
            have r_a := r_a.tr hE
            refine v_aload_n F dX7_naming_90 1 rfl rfl ?_
            refine v_cI0 (v_runV F k_X7_117 rfl (c_X7_block hM hS r_a h) r_a rfl rfl (Nat.le_of_ble_eq_true rfl) ⟨(by show 3 * d + 11 + 1 ≤ 3 * d + 12; omega), (by show 8 + (1 + 11) + 100 * d + 330 ≤ 100 * d + 360; omega)⟩ ⟨Nat.le_refl 0, Nat.le_refl 0⟩ dX7_naming_91) ⟨rfl, rfl⟩ (fun r13 S12 h hE => ?_)
            obtain ⟨nz_r13, h⟩ := h
            have r_a := r_a.tr hE
            refine v_if_ne (tgt := 99) F dX7_naming_94 (by decide) h (fun h => ?_) (fun h => ?_)
            · refine v_aload_n F dX7_naming_99 1 rfl rfl ?_
              refine v_iconst (v := 0) F dX7_naming_100 (by decide) ?_
              refine p_X7_30 F r_a rfl rfl h dX7_naming_101 (fun S14 h hE => ?_)
              have r_a := r_a.tr hE
              refine v_aload_n F dX7_naming_104 1 rfl rfl ?_
              refine g_X7_9 F r_a h dX7_naming_105 (fun b15 r_b15 h => ?_)
              refine v_iload_n F dX7_naming_108 0 rfl rfl ?_
              refine v_iload_n F dX7_naming_109 2 rfl rfl ?_
              refine v_aload_n F dX7_naming_110 1 rfl rfl ?_
              refine g_X7_34 F r_a dX7_naming_111 ?_
              refine v_cV0 (v_runV F k_X7_235 rfl (c_X6_addName r_b15 h) r_b15 rfl rfl (Nat.le_of_ble_eq_true rfl) ⟨(by show 0 + 1 ≤ 3 * d + 12; omega), (by show 8 + (4 + 11) + 0 ≤ 100 * d + 360; omega)⟩ ⟨Nat.le_refl 0, Nat.le_refl 0⟩ dX7_naming_114) ⟨rfl, rfl⟩ (fun  S16 h hE => ?_)
              have r_a := r_a.tr hE
              refine v_aload_n F dX7_naming_117 1 rfl rfl ?_
              refine v_iconst (v := 0) F dX7_naming_118 (by decide) ?_
              refine p_X7_34 F r_a h dX7_naming_119 (fun S17 h hE => ?_)
              have r_a := r_a.tr hE
              refine v_iconst (v := 1) F dX7_naming_122 (by decide) ?_
              exact v_zret F hQ (by decide) ⟨nz1, h⟩ ⟨Nat.le_refl 0, Nat.le_refl 0⟩ dX7_naming_123
            · refine v_iconst (v := 0) F dX7_naming_97 (by decide) ?_
              exact v_zret F hQ (by decide) ⟨nz0, h⟩ ⟨Nat.le_refl 0, Nat.le_refl 0⟩ dX7_naming_98
          · refine v_iconst (v := 0) F dX7_naming_83 (by decide) ?_
            exact v_zret F hQ (by decide) ⟨nz0, h⟩ ⟨Nat.le_refl 0, Nat.le_refl 0⟩ dX7_naming_84
        · refine v_iconst (v := 0) F dX7_naming_68 (by decide) ?_
          exact v_zret F hQ (by decide) ⟨nz0, h⟩ ⟨Nat.le_refl 0, Nat.le_refl 0⟩ dX7_naming_69
    · refine v_aload_n F dX7_naming_24 0 rfl rfl ?_
      refine g_X7_15 F r_a h dX7_naming_25 (fun b18 r_b18 h => ?_)
      refine v_iconst (v := 5) F dX7_naming_28 (by decide) ?_
      refine v_aload_n F dX7_naming_29 0 rfl rfl ?_
      refine g_X7_23 F r_a dX7_naming_30 ?_
      refine v_cI0 (v_runV F k_X7_48 rfl (c_X0_tell r_b18 h) r_b18 rfl rfl (Nat.le_of_ble_eq_true rfl) ⟨(by show 0 + 1 ≤ 3 * d + 12; omega), (by show 8 + (3 + 11) + 0 ≤ 100 * d + 360; omega)⟩ ⟨Nat.le_refl 0, Nat.le_refl 0⟩ dX7_naming_33) ⟨rfl, rfl⟩ (fun r20 S19 h hE => ?_)
      obtain ⟨nz_r20, h⟩ := h
      have r_a := r_a.tr hE
      exact v_zret F hQ nz_r20 ⟨nz_r20, h⟩ ⟨Nat.le_refl 0, Nat.le_refl 0⟩ dX7_naming_36
  · refine v_aload_n F dX7_naming_7 0 rfl rfl ?_
    refine v_cI0 (v_runV F k_X7_45 rfl (c_X7_refuse r_a h) r_a rfl rfl (Nat.le_of_ble_eq_true rfl) ⟨(by show 1 + 1 ≤ 3 * d + 12; omega), (by show 8 + (1 + 11) + 22 ≤ 100 * d + 360; omega)⟩ ⟨Nat.le_refl 0, Nat.le_refl 0⟩ dX7_naming_8) ⟨rfl, rfl⟩ (fun r22 S21 h hE => ?_)
    obtain ⟨nz_r22, h⟩ := h
    have r_a := r_a.tr hE
    exact v_zret F hQ nz_r22 ⟨nz_r22, h⟩ ⟨Nat.le_refl 0, Nat.le_refl 0⟩ dX7_naming_11
theorem dX7_use_0 : decode cX7_use 0 = .ok (.aload_n 0, 1) := by decide +kernel
theorem dX7_use_1 : decode cX7_use 1 = .ok (.dup, 1) := by decide +kernel
theorem dX7_use_2 : decode cX7_use 2 = .ok (.getfield 23, 3) := by decide +kernel
theorem dX7_use_5 : decode cX7_use 5 = .ok (.iconst 1, 1) := by decide +kernel
theorem dX7_use_6 : decode cX7_use 6 = .ok (.iadd, 1) := by decide +kernel
theorem dX7_use_7 : decode cX7_use 7 = .ok (.putfield 23, 3) := by decide +kernel
theorem dX7_use_10 : decode cX7_use 10 = .ok (.aload_n 0, 1) := by decide +kernel
theorem dX7_use_11 : decode cX7_use 11 = .ok (.invokevirtual 225, 3) := by decide +kernel
theorem dX7_use_14 : decode cX7_use 14 = .ok (.ifCond .ne 5, 3) := by decide +kernel
theorem dX7_use_17 : decode cX7_use 17 = .ok (.iconst 0, 1) := by decide +kernel
theorem dX7_use_18 : decode cX7_use 18 = .ok (.ireturn, 1) := by decide +kernel
theorem dX7_use_19 : decode cX7_use 19 = .ok (.aload_n 0, 1) := by decide +kernel
theorem dX7_use_20 : decode cX7_use 20 = .ok (.invokevirtual 241, 3) := by decide +kernel
theorem dX7_use_23 : decode cX7_use 23 = .ok (.istore_n 2, 1) := by decide +kernel
theorem dX7_use_24 : decode cX7_use 24 = .ok (.iload_n 2, 1) := by decide +kernel
theorem dX7_use_25 : decode cX7_use 25 = .ok (.iconst (-1), 1) := by decide +kernel
theorem dX7_use_26 : decode cX7_use 26 = .ok (.if_icmp .eq 15, 3) := by decide +kernel
theorem dX7_use_29 : decode cX7_use 29 = .ok (.aload_n 0, 1) := by decide +kernel
theorem dX7_use_30 : decode cX7_use 30 = .ok (.getfield 9, 3) := by decide +kernel
theorem dX7_use_33 : decode cX7_use 33 = .ok (.iload_n 1, 1) := by decide +kernel
theorem dX7_use_34 : decode cX7_use 34 = .ok (.iload_n 2, 1) := by decide +kernel
theorem dX7_use_35 : decode cX7_use 35 = .ok (.iconst 1, 1) := by decide +kernel
theorem dX7_use_36 : decode cX7_use 36 = .ok (.invokevirtual 127, 3) := by decide +kernel
theorem dX7_use_39 : decode cX7_use 39 = .ok (.iconst 1, 1) := by decide +kernel
theorem dX7_use_40 : decode cX7_use 40 = .ok (.ireturn, 1) := by decide +kernel
theorem dX7_use_41 : decode cX7_use 41 = .ok (.aload_n 0, 1) := by decide +kernel
theorem dX7_use_42 : decode cX7_use 42 = .ok (.getfield 9, 3) := by decide +kernel
theorem dX7_use_45 : decode cX7_use 45 = .ok (.aload_n 0, 1) := by decide +kernel
theorem dX7_use_46 : decode cX7_use 46 = .ok (.getfield 216, 3) := by decide +kernel
theorem dX7_use_49 : decode cX7_use 49 = .ok (.invokevirtual 238, 3) := by decide +kernel
theorem dX7_use_52 : decode cX7_use 52 = .ok (.istore_n 3, 1) := by decide +kernel
theorem dX7_use_53 : decode cX7_use 53 = .ok (.iload_n 3, 1) := by decide +kernel
theorem dX7_use_54 : decode cX7_use 54 = .ok (.iconst (-1), 1) := by decide +kernel
theorem dX7_use_55 : decode cX7_use 55 = .ok (.if_icmp .ne 16, 3) := by decide +kernel
theorem dX7_use_58 : decode cX7_use 58 = .ok (.aload_n 0, 1) := by decide +kernel
theorem dX7_use_59 : decode cX7_use 59 = .ok (.getfield 15, 3) := by decide +kernel
theorem dX7_use_62 : decode cX7_use 62 = .ok (.iconst 4, 1) := by decide +kernel
theorem dX7_use_63 : decode cX7_use 63 = .ok (.aload_n 0, 1) := by decide +kernel
theorem dX7_use_64 : decode cX7_use 64 = .ok (.getfield 213, 3) := by decide +kernel
theorem dX7_use_67 : decode cX7_use 67 = .ok (.invokevirtual 48, 3) := by decide +kernel
theorem dX7_use_70 : decode cX7_use 70 = .ok (.ireturn, 1) := by decide +kernel
theorem dX7_use_71 : decode cX7_use 71 = .ok (.aload_n 0, 1) := by decide +kernel
theorem dX7_use_72 : decode cX7_use 72 = .ok (.getfield 9, 3) := by decide +kernel
theorem dX7_use_75 : decode cX7_use 75 = .ok (.iload_n 1, 1) := by decide +kernel
theorem dX7_use_76 : decode cX7_use 76 = .ok (.iload_n 3, 1) := by decide +kernel
theorem dX7_use_77 : decode cX7_use 77 = .ok (.iconst 0, 1) := by decide +kernel
theorem dX7_use_78 : decode cX7_use 78 = .ok (.invokevirtual 127, 3) := by decide +kernel
theorem dX7_use_81 : decode cX7_use 81 = .ok (.aload_n 0, 1) := by decide +kernel
theorem dX7_use_82 : decode cX7_use 82 = .ok (.getfield 9, 3) := by decide +kernel
theorem dX7_use_85 : decode cX7_use 85 = .ok (.iload_n 3, 1) := by decide +kernel
theorem dX7_use_86 : decode cX7_use 86 = .ok (.invokevirtual 244, 3) := by decide +kernel
theorem dX7_use_89 : decode cX7_use 89 = .ok (.iconst 4, 1) := by decide +kernel
theorem dX7_use_90 : decode cX7_use 90 = .ok (.invokestatic 247, 3) := by decide +kernel
theorem dX7_use_93 : decode cX7_use 93 = .ok (.istore 4, 2) := by decide +kernel
theorem dX7_use_95 : decode cX7_use 95 = .ok (.iconst 0, 1) := by decide +kernel
theorem dX7_use_96 : decode cX7_use 96 = .ok (.istore 5, 2) := by decide +kernel
theorem dX7_use_98 : decode cX7_use 98 = .ok (.iload 5, 2) := by decide +kernel
theorem dX7_use_100 : decode cX7_use 100 = .ok (.iload 4, 2) := by decide +kernel
theorem dX7_use_102 : decode cX7_use 102 = .ok (.if_icmp .ge 40, 3) := by decide +kernel
theorem dX7_use_105 : decode cX7_use 105 = .ok (.aload_n 0, 1) := by decide +kernel
theorem dX7_use_106 : decode cX7_use 106 = .ok (.getfield 9, 3) := by decide +kernel
theorem dX7_use_109 : decode cX7_use 109 = .ok (.aload_n 0, 1) := by decide +kernel
theorem dX7_use_110 : decode cX7_use 110 = .ok (.getfield 23, 3) := by decide +kernel
theorem dX7_use_113 : decode cX7_use 113 = .ok (.invokevirtual 81, 3) := by decide +kernel
theorem dX7_use_116 : decode cX7_use 116 = .ok (.istore 6, 2) := by decide +kernel
theorem dX7_use_118 : decode cX7_use 118 = .ok (.aload_n 0, 1) := by decide +kernel
theorem dX7_use_119 : decode cX7_use 119 = .ok (.invokevirtual 117, 3) := by decide +kernel
theorem dX7_use_122 : decode cX7_use 122 = .ok (.ifCond .ne 5, 3) := by decide +kernel
theorem dX7_use_125 : decode cX7_use 125 = .ok (.iconst 0, 1) := by decide +kernel
theorem dX7_use_126 : decode cX7_use 126 = .ok (.ireturn, 1) := by decide +kernel
theorem dX7_use_127 : decode cX7_use 127 = .ok (.aload_n 0, 1) := by decide +kernel
theorem dX7_use_128 : decode cX7_use 128 = .ok (.getfield 9, 3) := by decide +kernel
theorem dX7_use_131 : decode cX7_use 131 = .ok (.iload 6, 2) := by decide +kernel
theorem dX7_use_133 : decode cX7_use 133 = .ok (.invokevirtual 113, 3) := by decide +kernel
theorem dX7_use_136 : decode cX7_use 136 = .ok (.iinc 5 1, 3) := by decide +kernel
theorem dX7_use_139 : decode cX7_use 139 = .ok (.goto (-41), 3) := by decide +kernel
theorem dX7_use_142 : decode cX7_use 142 = .ok (.iconst 1, 1) := by decide +kernel
theorem dX7_use_143 : decode cX7_use 143 = .ok (.ireturn, 1) := by decide +kernel
def wp_X7_use (M : Nat → PS → (Int32 → PS → Prop) → Prop) (a : Nat) (p1 : Int32) (S : PS) (Q : Int32 → PS → Prop) : Prop :=
  (∀ S1, S1 = sI S 60 a ((fI S 60 a) + 1) → wp_X7_findName a S1 (fun (r3 : Int32) (S2 : PS) => 
 (if r3 = 0 then
 Q 0 S2
 else
 wp_X7_indexOfParameter a S2 (fun (r5 : Int32) (S4 : PS) => 
 (if r5 = (-1) then
 (∃ b6, fR S4 58 a = some b6 ∧ wp_X6_indexOfName b6 (fI S4 67 a) S4 (fun (r8 : Int32) (S7 : PS) => 
 (if r8 = (-1) then
 (∃ b26, fR S7 59 a = some b26 ∧ wp_X0_tell b26 4 (fI S7 68 a) S7 (fun (r28 : Int32) (S27 : PS) => 
 Q r28 S27))
 else
 (∃ b9, fR S7 58 a = some b9 ∧ wp_X6_setNumbers b9 p1 r8 0 S7 (fun (S10 : PS) => 
 (∃ b11, fR S10 58 a = some b11 ∧ wp_X6_parametersOf b11 r8 S10 (fun (r13 : Int32) (S12 : PS) => 
 (∀ v14, v14 = (if 4 < r13 then 4 else r13) → (∀ P98_15 : Int32 → PS → Prop, (∀ (x5_16 : Int32) (S17 : PS),
 (if v14 ≤ x5_16 then
 Q 1 S17
 else
 (∃ b18, fR S17 58 a = some b18 ∧ wp_X6_open b18 (fI S17 60 a) S17 (fun (r20 : Int32) (S19 : PS) => 
 wp_X7_block M a S19 (fun (r22 : Int32) (S21 : PS) => 
 (if r22 = 0 then
 Q 0 S21
 else
 (∃ b23, fR S21 58 a = some b23 ∧ wp_X6_close b23 r20 S21 (fun (S24 : PS) => 
 (∀ v25, v25 = x5_16 + 1 → P98_15 v25 S24))))))))
 → P98_15 x5_16 S17) → P98_15 0 S12)))))))))
 else
 (∃ b29, fR S4 58 a = some b29 ∧ wp_X6_setNumbers b29 p1 r5 1 S4 (fun (S30 : PS) => 
 Q 1 S30)))))))
set_option maxRecDepth 100000 in
set_option maxHeartbeats 4000000 in
theorem c_X7_use {adK adV : Nat → Nat} {M : Nat → PS → (Int32 → PS → Prop) → Prop} {d : Nat} (hM : ∀ {l : Launch} {E : EE} {A : Nat → Prop} {a : Nat} {S : PS} {Q : Int32 → PS → Prop}, hasStr E adK adV → Rf S a 6 → M a S Q → MtI l yX7_music (.code yX7_music cX7_music 5 (some .boolean)) (rm_X7_music d) E A [.ref a] S (fun r S1 => nz r ∧ Q r S1)) {l : Launch} {E : EE} {A : Nat → Prop} {a : Nat} {p1 : Int32} {S : PS} {Q : Int32 → PS → Prop} (hS : hasStr E adK adV) (r_a : Rf S a 6) (h : wp_X7_use M a p1 S Q) : MtI l yX7_use (.code yX7_use cX7_use 7 (some .boolean)) (rm_X7_use d) E A [.ref a, .int p1] S (fun r S1 => nz r ∧ Q r S1) := by
  refine MtI.of2 (by decide) (Nat.le_of_ble_eq_true rfl) (fun X F hQ hX => ?_)
  show VV X (0, 0) S [(0, .ref a), (1, .int p1)] [] 0
  obtain ⟨hXl, hXE, hXA, hN, hnm⟩ := hX
  subst hXE
  subst hXA
  subst hXl
  unfold wp_X7_use at h
  refine v_aload_n F dX7_use_0 0 rfl rfl ?_
  refine v_dup F dX7_use_1 rfl ?_
  refine g_X7_23 F r_a dX7_use_2 ?_
  refine v_iconst (v := 1) F dX7_use_5 (by decide) ?_
  refine v_iadd F dX7_use_6 ?_
  refine p_X7_23 F r_a h dX7_use_7 (fun S1 h hE => ?_)
  have r_a := r_a.tr hE
  refine v_aload_n F dX7_use_10 0 rfl rfl ?_
  refine v_cI0 (v_runV F k_X7_225 rfl (c_X7_findName r_a h) r_a rfl rfl (Nat.le_of_ble_eq_true rfl) ⟨(by show 2 + 1 ≤ 3 * d + 12; omega), (by show 8 + (2 + 11) + 43 ≤ 100 * d + 360; omega)⟩ ⟨Nat.le_refl 0, Nat.le_refl 0⟩ dX7_use_11) ⟨rfl, rfl⟩ (fun r3 S2 h hE => ?_)
  obtain ⟨nz_r3, h⟩ := h
  have r_a := r_a.tr hE
  refine v_if_ne (tgt := 19) F dX7_use_14 (by decide) h (fun h => ?_) (fun h => ?_)
  · refine v_aload_n F dX7_use_19 0 rfl rfl ?_
    refine v_cI0 (v_runV F k_X7_241 rfl (c_X7_indexOfParameter r_a h) r_a rfl rfl (Nat.le_of_ble_eq_true rfl) ⟨(by show 0 + 1 ≤ 3 * d + 12; omega), (by show 8 + (2 + 11) + 0 ≤ 100 * d + 360; omega)⟩ ⟨Nat.le_refl 0, Nat.le_refl 0⟩ dX7_use_20) ⟨rfl, rfl⟩ (fun r5 S4 h hE => ?_)
    have r_a := r_a.tr hE
    refine v_istore_n (lv1 := [(2, .int r5), (0, .ref a), (1, .int p1)]) F dX7_use_23 rfl (by rw [hN]; decide) rfl ?_
    refine v_iload_n F dX7_use_24 0 rfl rfl ?_
    refine v_iconst (v := (-1)) F dX7_use_25 (by decide) ?_
    refine v_icmp_eq (tgt := 41) F dX7_use_26 (by decide) h (fun h => ?_) (fun h => ?_)
    · refine v_aload_n F dX7_use_41 1 rfl rfl ?_
      refine g_X7_9 F r_a h dX7_use_42 (fun b6 r_b6 h => ?_)
      refine v_aload_n F dX7_use_45 1 rfl rfl ?_
      refine g_X7_216 F r_a dX7_use_46 ?_
      refine v_cI0 (v_runV F k_X7_238 rfl (c_X6_indexOfName r_b6 h) r_b6 rfl rfl (Nat.le_of_ble_eq_true rfl) ⟨(by show 0 + 1 ≤ 3 * d + 12; omega), (by show 8 + (3 + 11) + 0 ≤ 100 * d + 360; omega)⟩ ⟨Nat.le_refl 0, Nat.le_refl 0⟩ dX7_use_49) ⟨rfl, rfl⟩ (fun r8 S7 h hE => ?_)
      have r_a := r_a.tr hE
      refine v_istore_n (lv1 := [(3, .int r8), (2, .int r5), (0, .ref a), (1, .int p1)]) F dX7_use_52 rfl (by rw [hN]; decide) rfl ?_
      refine v_iload_n F dX7_use_53 0 rfl rfl ?_
      refine v_iconst (v := (-1)) F dX7_use_54 (by decide) ?_
      refine v_icmp_ne (tgt := 71) F dX7_use_55 (by decide) h (fun h => ?_) (fun h => ?_)
      · refine v_aload_n F dX7_use_71 2 rfl rfl ?_
        refine g_X7_9 F r_a h dX7_use_72 (fun b9 r_b9 h => ?_)
        refine v_iload_n F dX7_use_75 3 rfl rfl ?_
        refine v_iload_n F dX7_use_76 0 rfl rfl ?_
        refine v_iconst (v := 0) F dX7_use_77 (by decide) ?_
        refine v_cV0 (v_runV F k_X7_127 rfl (c_X6_setNumbers r_b9 h) r_b9 rfl rfl (Nat.le_of_ble_eq_true rfl) ⟨(by show 1 + 1 ≤ 3 * d + 12; omega), (by show 8 + (4 + 11) + 21 ≤ 100 * d + 360; omega)⟩ ⟨Nat.le_refl 0, Nat.le_refl 0⟩ dX7_use_78) ⟨rfl, rfl⟩ (fun  S10 h hE => ?_)
        have r_a := r_a.tr hE
        refine v_aload_n F dX7_use_81 2 rfl rfl ?_
        refine g_X7_9 F r_a h dX7_use_82 (fun b11 r_b11 h => ?_)
        refine v_iload_n F dX7_use_85 0 rfl rfl ?_
        refine v_cI0 (v_runV F k_X7_244 rfl (c_X6_parametersOf r_b11 h) r_b11 rfl rfl (Nat.le_of_ble_eq_true rfl) ⟨(by show 0 + 1 ≤ 3 * d + 12; omega), (by show 8 + (2 + 11) + 0 ≤ 100 * d + 360; omega)⟩ ⟨Nat.le_refl 0, Nat.le_refl 0⟩ dX7_use_86) ⟨rfl, rfl⟩ (fun r13 S12 h hE => ?_)
        have r_a := r_a.tr hE
        refine v_iconst (v := 4) F dX7_use_89 (by decide) ?_
        refine v_mmin F k_X7_247 ⟨(by show 1 ≤ 3 * d + 12; omega), Nat.le_refl 0, Nat.le_refl 0⟩ (by show (13 : Nat) ≤ 100 * d + 360; omega) dX7_use_90 ?_
        refine v_topi (fun v14 e_v14 => ?_)
        have h := h v14 e_v14
        refine v_istore (lv1 := [(4, .int v14), (3, .int r8), (2, .int r5), (0, .ref a), (1, .int p1)]) F dX7_use_93 (by rw [hN]; decide) rfl ?_
        refine v_iconst (v := 0) F dX7_use_95 (by decide) ?_
        refine v_istore (lv1 := [(5, .int 0), (4, .int v14), (3, .int r8), (2, .int r5), (0, .ref a), (1, .int p1)]) F dX7_use_96 (by rw [hN]; decide) rfl ?_
        refine v_sub [4, 1, 0] rfl ?_
        refine h (fun (x5_16 : Int32) (S17 : PS) => Rf S17 a 6 → VV X (0, 0) S17 [(0, .ref a), (4, .int v14), (5, .int x5_16)] [] 98) (fun x5_16 S17 h r_a => ?_) r_a
        refine v_iload F dX7_use_98 2 rfl ?_
        refine v_iload F dX7_use_100 1 rfl ?_
        refine v_icmp_ge (tgt := 142) F dX7_use_102 (by decide) h (fun h => ?_) (fun h => ?_)
        · refine v_iconst (v := 1) F dX7_use_142 (by decide) ?_
          exact v_zret F hQ (by decide) ⟨nz1, h⟩ ⟨Nat.le_refl 0, Nat.le_refl 0⟩ dX7_use_143
        · refine v_aload_n F dX7_use_105 0 rfl rfl ?_
          refine g_X7_9 F r_a h dX7_use_106 (fun b18 r_b18 h => ?_)
          refine v_aload_n F dX7_use_109 0 rfl rfl ?_
          refine g_X7_23 F r_a dX7_use_110 ?_
          refine v_cI0 (v_runV F k_X7_81 rfl (c_X6_open r_b18 h) r_b18 rfl rfl (Nat.le_of_ble_eq_true rfl) ⟨(by show 0 + 1 ≤ 3 * d + 12; omega), (by show 8 + (3 + 11) + 0 ≤ 100 * d + 360; omega)⟩ ⟨Nat.le_refl 0, Nat.le_refl 0⟩ dX7_use_113) ⟨rfl, rfl⟩ (fun r20 S19 h hE => ?_)
          have r_a := r_a.tr hE
          refine v_istore (lv1 := [(6, .int r20), (0, .ref a), (4, .int v14), (5, .int x5_16)]) F dX7_use_116 (by rw [hN]; decide) rfl ?_
          refine v_aload_n F dX7_use_118 1 rfl rfl ?_
          refine v_cI0 (v_runV F k_X7_117 rfl (c_X7_block hM hS r_a h) r_a rfl rfl (Nat.le_of_ble_eq_true rfl) ⟨(by show 3 * d + 11 + 1 ≤ 3 * d + 12; omega), (by show 8 + (1 + 11) + 100 * d + 330 ≤ 100 * d + 360; omega)⟩ ⟨Nat.le_refl 0, Nat.le_refl 0⟩ dX7_use_119) ⟨rfl, rfl⟩ (fun r22 S21 h hE => ?_)
          obtain ⟨nz_r22, h⟩ := h
          have r_a := r_a.tr hE
          refine v_if_ne (tgt := 127) F dX7_use_122 (by decide) h (fun h => ?_) (fun h => ?_)
          · refine v_aload_n F dX7_use_127 1 rfl rfl ?_
            refine g_X7_9 F r_a h dX7_use_128 (fun b23 r_b23 h => ?_)
            refine v_iload F dX7_use_131 0 rfl ?_
            refine v_cV0 (v_runV F k_X7_113 rfl (c_X6_close r_b23 h) r_b23 rfl rfl (Nat.le_of_ble_eq_true rfl) ⟨(by show 1 + 1 ≤ 3 * d + 12; omega), (by show 8 + (2 + 11) + 21 ≤ 100 * d + 360; omega)⟩ ⟨Nat.le_refl 0, Nat.le_refl 0⟩ dX7_use_133) ⟨rfl, rfl⟩ (fun  S24 h hE => ?_)
            have r_a := r_a.tr hE
            obtain ⟨v25, e_v25⟩ : ∃ y : Int32, y = x5_16 + 1 := ⟨_, rfl⟩
            have h := h v25 e_v25
            refine v_iinc (v := v25) (lv1 := [(5, .int v25), (6, .int r20), (0, .ref a), (4, .int v14)]) F dX7_use_136 (q := 3) rfl (by rw [e_v25]; rfl) (by rw [hN]; decide) rfl ?_
            refine v_goto (tgt := 98) F dX7_use_139 (by decide) ?_
            exact v_sub [2, 3, 0] rfl (h r_a)
          · refine v_iconst (v := 0) F dX7_use_125 (by decide) ?_
            exact v_zret F hQ (by decide) ⟨nz0, h⟩ ⟨Nat.le_refl 0, Nat.le_refl 0⟩ dX7_use_126
      · refine v_aload_n F dX7_use_58 2 rfl rfl ?_
        refine g_X7_15 F r_a h dX7_use_59 (fun b26 r_b26 h => ?_)
        refine v_iconst (v := 4) F dX7_use_62 (by decide) ?_
        refine v_aload_n F dX7_use_63 2 rfl rfl ?_
        refine g_X7_213 F r_a dX7_use_64 ?_
        refine v_cI0 (v_runV F k_X7_48 rfl (c_X0_tell r_b26 h) r_b26 rfl rfl (Nat.le_of_ble_eq_true rfl) ⟨(by show 0 + 1 ≤ 3 * d + 12; omega), (by show 8 + (3 + 11) + 0 ≤ 100 * d + 360; omega)⟩ ⟨Nat.le_refl 0, Nat.le_refl 0⟩ dX7_use_67) ⟨rfl, rfl⟩ (fun r28 S27 h hE => ?_)
        obtain ⟨nz_r28, h⟩ := h
        have r_a := r_a.tr hE
        exact v_zret F hQ nz_r28 ⟨nz_r28, h⟩ ⟨Nat.le_refl 0, Nat.le_refl 0⟩ dX7_use_70
    · refine v_aload_n F dX7_use_29 1 rfl rfl ?_
      refine g_X7_9 F r_a h dX7_use_30 (fun b29 r_b29 h => ?_)
      refine v_iload_n F dX7_use_33 2 rfl rfl ?_
      refine v_iload_n F dX7_use_34 0 rfl rfl ?_
      refine v_iconst (v := 1) F dX7_use_35 (by decide) ?_
      refine v_cV0 (v_runV F k_X7_127 rfl (c_X6_setNumbers r_b29 h) r_b29 rfl rfl (Nat.le_of_ble_eq_true rfl) ⟨(by show 1 + 1 ≤ 3 * d + 12; omega), (by show 8 + (4 + 11) + 21 ≤ 100 * d + 360; omega)⟩ ⟨Nat.le_refl 0, Nat.le_refl 0⟩ dX7_use_36) ⟨rfl, rfl⟩ (fun  S30 h hE => ?_)
      have r_a := r_a.tr hE
      refine v_iconst (v := 1) F dX7_use_39 (by decide) ?_
      exact v_zret F hQ (by decide) ⟨nz1, h⟩ ⟨Nat.le_refl 0, Nat.le_refl 0⟩ dX7_use_40
  · refine v_iconst (v := 0) F dX7_use_17 (by decide) ?_
    exact v_zret F hQ (by decide) ⟨nz0, h⟩ ⟨Nat.le_refl 0, Nat.le_refl 0⟩ dX7_use_18
