theorem dX12_namedAt_0 : decode cX12_namedAt 0 = .ok (.aload_n 0, 1) := by decide +kernel
theorem dX12_namedAt_1 : decode cX12_namedAt 1 = .ok (.getfield 86, 3) := by decide +kernel
theorem dX12_namedAt_4 : decode cX12_namedAt 4 = .ok (.iload_n 1, 1) := by decide +kernel
theorem dX12_namedAt_5 : decode cX12_namedAt 5 = .ok (.bipush 9, 2) := by decide +kernel
theorem dX12_namedAt_7 : decode cX12_namedAt 7 = .ok (.iastore, 1) := by decide +kernel
theorem dX12_namedAt_8 : decode cX12_namedAt 8 = .ok (.aload_n 0, 1) := by decide +kernel
theorem dX12_namedAt_9 : decode cX12_namedAt 9 = .ok (.getfield 246, 3) := by decide +kernel
theorem dX12_namedAt_12 : decode cX12_namedAt 12 = .ok (.ifCond .eq 17, 3) := by decide +kernel
theorem dX12_namedAt_15 : decode cX12_namedAt 15 = .ok (.aload_n 0, 1) := by decide +kernel
theorem dX12_namedAt_16 : decode cX12_namedAt 16 = .ok (.iconst 1, 1) := by decide +kernel
theorem dX12_namedAt_17 : decode cX12_namedAt 17 = .ok (.aload_n 0, 1) := by decide +kernel
theorem dX12_namedAt_18 : decode cX12_namedAt 18 = .ok (.getfield 90, 3) := by decide +kernel
theorem dX12_namedAt_21 : decode cX12_namedAt 21 = .ok (.iload_n 1, 1) := by decide +kernel
theorem dX12_namedAt_22 : decode cX12_namedAt 22 = .ok (.iaload, 1) := by decide +kernel
theorem dX12_namedAt_23 : decode cX12_namedAt 23 = .ok (.invokevirtual 50, 3) := by decide +kernel
theorem dX12_namedAt_26 : decode cX12_namedAt 26 = .ok (.goto 23, 3) := by decide +kernel
theorem dX12_namedAt_29 : decode cX12_namedAt 29 = .ok (.aload_n 0, 1) := by decide +kernel
theorem dX12_namedAt_30 : decode cX12_namedAt 30 = .ok (.getfield 230, 3) := by decide +kernel
theorem dX12_namedAt_33 : decode cX12_namedAt 33 = .ok (.bipush 20, 2) := by decide +kernel
theorem dX12_namedAt_35 : decode cX12_namedAt 35 = .ok (.if_icmp .ne 14, 3) := by decide +kernel
theorem dX12_namedAt_38 : decode cX12_namedAt 38 = .ok (.aload_n 0, 1) := by decide +kernel
theorem dX12_namedAt_39 : decode cX12_namedAt 39 = .ok (.iconst 5, 1) := by decide +kernel
theorem dX12_namedAt_40 : decode cX12_namedAt 40 = .ok (.aload_n 0, 1) := by decide +kernel
theorem dX12_namedAt_41 : decode cX12_namedAt 41 = .ok (.getfield 90, 3) := by decide +kernel
theorem dX12_namedAt_44 : decode cX12_namedAt 44 = .ok (.iload_n 1, 1) := by decide +kernel
theorem dX12_namedAt_45 : decode cX12_namedAt 45 = .ok (.iaload, 1) := by decide +kernel
theorem dX12_namedAt_46 : decode cX12_namedAt 46 = .ok (.invokevirtual 50, 3) := by decide +kernel
theorem dX12_namedAt_49 : decode cX12_namedAt 49 = .ok (.aload_n 0, 1) := by decide +kernel
theorem dX12_namedAt_50 : decode cX12_namedAt 50 = .ok (.getfield 23, 3) := by decide +kernel
theorem dX12_namedAt_53 : decode cX12_namedAt 53 = .ok (.ifCond .le 4, 3) := by decide +kernel
theorem dX12_namedAt_56 : decode cX12_namedAt 56 = .ok (.return_, 1) := by decide +kernel
theorem dX12_namedAt_57 : decode cX12_namedAt 57 = .ok (.aload_n 0, 1) := by decide +kernel
theorem dX12_namedAt_58 : decode cX12_namedAt 58 = .ok (.invokevirtual 46, 3) := by decide +kernel
theorem dX12_namedAt_61 : decode cX12_namedAt 61 = .ok (.aload_n 0, 1) := by decide +kernel
theorem dX12_namedAt_62 : decode cX12_namedAt 62 = .ok (.invokevirtual 38, 3) := by decide +kernel
theorem dX12_namedAt_65 : decode cX12_namedAt 65 = .ok (.invokestatic 227, 3) := by decide +kernel
theorem dX12_namedAt_68 : decode cX12_namedAt 68 = .ok (.ifCond .ne 13, 3) := by decide +kernel
theorem dX12_namedAt_71 : decode cX12_namedAt 71 = .ok (.aload_n 0, 1) := by decide +kernel
theorem dX12_namedAt_72 : decode cX12_namedAt 72 = .ok (.iconst 1, 1) := by decide +kernel
theorem dX12_namedAt_73 : decode cX12_namedAt 73 = .ok (.aload_n 0, 1) := by decide +kernel
theorem dX12_namedAt_74 : decode cX12_namedAt 74 = .ok (.getfield 29, 3) := by decide +kernel
theorem dX12_namedAt_77 : decode cX12_namedAt 77 = .ok (.invokevirtual 50, 3) := by decide +kernel
theorem dX12_namedAt_80 : decode cX12_namedAt 80 = .ok (.return_, 1) := by decide +kernel
theorem dX12_namedAt_81 : decode cX12_namedAt 81 = .ok (.iconst 0, 1) := by decide +kernel
theorem dX12_namedAt_82 : decode cX12_namedAt 82 = .ok (.istore_n 2, 1) := by decide +kernel
theorem dX12_namedAt_83 : decode cX12_namedAt 83 = .ok (.iconst 1, 1) := by decide +kernel
theorem dX12_namedAt_84 : decode cX12_namedAt 84 = .ok (.istore_n 3, 1) := by decide +kernel
theorem dX12_namedAt_85 : decode cX12_namedAt 85 = .ok (.iload_n 3, 1) := by decide +kernel
theorem dX12_namedAt_86 : decode cX12_namedAt 86 = .ok (.ifCond .eq 48, 3) := by decide +kernel
theorem dX12_namedAt_89 : decode cX12_namedAt 89 = .ok (.aload_n 0, 1) := by decide +kernel
theorem dX12_namedAt_90 : decode cX12_namedAt 90 = .ok (.iload_n 2, 1) := by decide +kernel
theorem dX12_namedAt_91 : decode cX12_namedAt 91 = .ok (.invokevirtual 262, 3) := by decide +kernel
theorem dX12_namedAt_94 : decode cX12_namedAt 94 = .ok (.iinc 2 1, 3) := by decide +kernel
theorem dX12_namedAt_97 : decode cX12_namedAt 97 = .ok (.aload_n 0, 1) := by decide +kernel
theorem dX12_namedAt_98 : decode cX12_namedAt 98 = .ok (.getfield 23, 3) := by decide +kernel
theorem dX12_namedAt_101 : decode cX12_namedAt 101 = .ok (.ifCond .ne 7, 3) := by decide +kernel
theorem dX12_namedAt_104 : decode cX12_namedAt 104 = .ok (.aload_n 0, 1) := by decide +kernel
theorem dX12_namedAt_105 : decode cX12_namedAt 105 = .ok (.invokevirtual 46, 3) := by decide +kernel
theorem dX12_namedAt_108 : decode cX12_namedAt 108 = .ok (.aload_n 0, 1) := by decide +kernel
theorem dX12_namedAt_109 : decode cX12_namedAt 109 = .ok (.getfield 23, 3) := by decide +kernel
theorem dX12_namedAt_112 : decode cX12_namedAt 112 = .ok (.ifCond .ne 17, 3) := by decide +kernel
theorem dX12_namedAt_115 : decode cX12_namedAt 115 = .ok (.aload_n 0, 1) := by decide +kernel
theorem dX12_namedAt_116 : decode cX12_namedAt 116 = .ok (.invokevirtual 38, 3) := by decide +kernel
theorem dX12_namedAt_119 : decode cX12_namedAt 119 = .ok (.invokestatic 227, 3) := by decide +kernel
theorem dX12_namedAt_122 : decode cX12_namedAt 122 = .ok (.ifCond .eq 7, 3) := by decide +kernel
theorem dX12_namedAt_125 : decode cX12_namedAt 125 = .ok (.iconst 1, 1) := by decide +kernel
theorem dX12_namedAt_126 : decode cX12_namedAt 126 = .ok (.goto 4, 3) := by decide +kernel
theorem dX12_namedAt_129 : decode cX12_namedAt 129 = .ok (.iconst 0, 1) := by decide +kernel
theorem dX12_namedAt_130 : decode cX12_namedAt 130 = .ok (.istore_n 3, 1) := by decide +kernel
theorem dX12_namedAt_131 : decode cX12_namedAt 131 = .ok (.goto (-46), 3) := by decide +kernel
theorem dX12_namedAt_134 : decode cX12_namedAt 134 = .ok (.aload_n 0, 1) := by decide +kernel
theorem dX12_namedAt_135 : decode cX12_namedAt 135 = .ok (.getfield 23, 3) := by decide +kernel
theorem dX12_namedAt_138 : decode cX12_namedAt 138 = .ok (.ifCond .le 4, 3) := by decide +kernel
theorem dX12_namedAt_141 : decode cX12_namedAt 141 = .ok (.return_, 1) := by decide +kernel
theorem dX12_namedAt_142 : decode cX12_namedAt 142 = .ok (.aload_n 0, 1) := by decide +kernel
theorem dX12_namedAt_143 : decode cX12_namedAt 143 = .ok (.iload_n 2, 1) := by decide +kernel
theorem dX12_namedAt_144 : decode cX12_namedAt 144 = .ok (.iconst 1, 1) := by decide +kernel
theorem dX12_namedAt_145 : decode cX12_namedAt 145 = .ok (.isub, 1) := by decide +kernel
theorem dX12_namedAt_146 : decode cX12_namedAt 146 = .ok (.putfield 243, 3) := by decide +kernel
theorem dX12_namedAt_149 : decode cX12_namedAt 149 = .ok (.aload_n 0, 1) := by decide +kernel
theorem dX12_namedAt_150 : decode cX12_namedAt 150 = .ok (.iconst 1, 1) := by decide +kernel
theorem dX12_namedAt_151 : decode cX12_namedAt 151 = .ok (.putfield 246, 3) := by decide +kernel
theorem dX12_namedAt_154 : decode cX12_namedAt 154 = .ok (.aload_n 0, 1) := by decide +kernel
theorem dX12_namedAt_155 : decode cX12_namedAt 155 = .ok (.iconst 3, 1) := by decide +kernel
theorem dX12_namedAt_156 : decode cX12_namedAt 156 = .ok (.iload_n 1, 1) := by decide +kernel
theorem dX12_namedAt_157 : decode cX12_namedAt 157 = .ok (.invokevirtual 186, 3) := by decide +kernel
theorem dX12_namedAt_160 : decode cX12_namedAt 160 = .ok (.return_, 1) := by decide +kernel
abbrev rm_X12_namedAt : Room := { frames := 4, cells := 0, slots := 0, locals := 84 }
def wp_X12_namedAt (a : Nat) (p1 : Int32) (S : PS) (Q : PS → Prop) : Prop :=
  (∃ b1, fR S 105 a = some b1 ∧ (vp_in p1 (aN S b1) ∧ ∀ S2, S2 = wI S 42 b1 (p1).toNatClampNeg 9 → (∀ K49_4 : PS → Prop, (∀ (S3 : PS),
 (if fI S3 102 a ≤ 0 then
 wp_X12_blanks a S3 (fun (S5 : PS) => 
 wp_X12_here a S5 (fun (r7 : Int32) (S6 : PS) => 
 wp_X12_isLetter r7 S6 (fun (r9 : Int32) (S8 : PS) => 
 (if r9 = 0 then
 wp_X12_bad a 1 (fI S8 101 a) S8 (fun (S29 : PS) => 
 Q S29)
 else
 (∀ P85_10 : Int32 → Int32 → PS → Prop, (∀ (x2_11 : Int32) (x3_12 : Int32) (S13 : PS),
 (if x3_12 = 0 then
 (if fI S13 102 a ≤ 0 then
 (∀ S14, S14 = sI S13 129 a (x2_11 - 1) → (∀ S15, S15 = sI S14 126 a 1 → wp_X12_openBlock a 3 p1 S15 (fun (S16 : PS) => 
 Q S16)))
 else
 Q S13)
 else
 wp_X12_newName a x2_11 S13 (fun (S17 : PS) => 
 (∀ v18, v18 = x2_11 + 1 → (∀ K108_20 : PS → Prop, (∀ (S19 : PS),
 (∀ K130_23 : Int32 → PS → Prop, (∀ (t21 : Int32) (S22 : PS),
 P85_10 v18 t21 S22
 → K130_23 t21 S22) →
 (if fI S19 102 a = 0 then
 wp_X12_here a S19 (fun (r25 : Int32) (S24 : PS) => 
 wp_X12_isLetter r25 S24 (fun (r27 : Int32) (S26 : PS) => 
 (if r27 = 0 then
 K130_23 0 S26
 else
 K130_23 1 S26)))
 else
 K130_23 0 S19))
 → K108_20 S19) →
 (if fI S17 102 a = 0 then
 wp_X12_blanks a S17 (fun (S28 : PS) => 
 K108_20 S28)
 else
 K108_20 S17)))))
 → P85_10 x2_11 x3_12 S13) → P85_10 0 1 S8)))))
 else
 Q S3)
 → K49_4 S3) →
 (if fI S2 126 a = 0 then
 (if fI S2 125 a = 20 then
 (∃ b30, fR S2 106 a = some b30 ∧ (vp_in p1 (aN S2 b30) ∧ wp_X12_bad a 5 (aI S2 43 b30 (p1).toNatClampNeg) S2 (fun (S31 : PS) => 
 K49_4 S31)))
 else
 K49_4 S2)
 else
 (∃ b32, fR S2 106 a = some b32 ∧ (vp_in p1 (aN S2 b32) ∧ wp_X12_bad a 1 (aI S2 43 b32 (p1).toNatClampNeg) S2 (fun (S33 : PS) => 
 K49_4 S33)))))))
set_option maxRecDepth 100000 in
set_option maxHeartbeats 4000000 in
theorem c_X12_namedAt {l : Launch} {E : EE} {A : Nat → Prop} {a : Nat} {p1 : Int32} {S : PS} {Q : PS → Prop} (r_a : Rf S a 9) (h : wp_X12_namedAt a p1 S Q) : MtV l yX12_namedAt (.code yX12_namedAt cX12_namedAt 4 none) rm_X12_namedAt E A [.ref a, .int p1] S Q := by
  refine MtV.of (by decide) (Nat.le_of_ble_eq_true rfl) (fun X F hQ hN => ?_)
  show VV X (0, 0) S [(0, .ref a), (1, .int p1)] [] 0
  unfold wp_X12_namedAt at h
  refine v_aload_n F dX12_namedAt_0 0 rfl rfl ?_
  refine g_X12_86 F r_a h dX12_namedAt_1 (fun b1 r_b1 h => ?_)
  refine v_iload_n F dX12_namedAt_4 1 rfl rfl ?_
  refine v_bipush (v := 9) F dX12_namedAt_5 (by decide) ?_
  refine v_iast F r_b1 o_42 h dX12_namedAt_7 (fun S2 h hE => ?_)
  have r_a := r_a.tr hE
  refine v_aload_n F dX12_namedAt_8 0 rfl rfl ?_
  refine g_X12_246 F r_a dX12_namedAt_9 ?_
  have h := h (fun (S3 : PS) => Rf S3 a 9 → VV X (0, 0) S3 [(0, .ref a), (1, .int p1)] [] 49) (by
    intro S3 h r_a
    refine v_aload_n F dX12_namedAt_49 0 rfl rfl ?_
    refine g_X12_23 F r_a dX12_namedAt_50 ?_
    refine v_if_le (tgt := 57) F dX12_namedAt_53 (by decide) h (fun h => ?_) (fun h => ?_)
    · refine v_aload_n F dX12_namedAt_57 0 rfl rfl ?_
      refine v_cV0 (v_runV F k_X12_46 rfl (c_X12_blanks r_a h) r_a rfl rfl (Nat.le_of_ble_eq_true rfl) (by decide) (by decide) dX12_namedAt_58) ⟨rfl, rfl⟩ (fun  S5 h hE => ?_)
      have r_a := r_a.tr hE
      refine v_aload_n F dX12_namedAt_61 0 rfl rfl ?_
      refine v_cI0 (v_runV F k_X12_38 rfl (c_X12_here r_a h) r_a rfl rfl (Nat.le_of_ble_eq_true rfl) (by decide) (by decide) dX12_namedAt_62) ⟨rfl, rfl⟩ (fun r7 S6 h hE => ?_)
      have r_a := r_a.tr hE
      refine v_cI0 (v_runS F k_X12_227 (c_X12_isLetter h) rfl rfl (Nat.le_of_ble_eq_true rfl) (by decide) (by decide) dX12_namedAt_65) ⟨rfl, rfl⟩ (fun r9 S8 h hE => ?_)
      obtain ⟨nz_r9, h⟩ := h
      have r_a := r_a.tr hE
      refine v_if_ne (tgt := 81) F dX12_namedAt_68 (by decide) h (fun h => ?_) (fun h => ?_)
      · refine v_iconst (v := 0) F dX12_namedAt_81 (by decide) ?_
        refine v_istore_n (lv1 := [(2, .int 0), (0, .ref a), (1, .int p1)]) F dX12_namedAt_82 rfl (by rw [hN]; decide) rfl ?_
        refine v_iconst (v := 1) F dX12_namedAt_83 (by decide) ?_
        refine v_istore_n (lv1 := [(3, .int 1), (2, .int 0), (0, .ref a), (1, .int p1)]) F dX12_namedAt_84 rfl (by rw [hN]; decide) rfl ?_
        refine v_sub [2, 3, 1, 0] rfl ?_
        refine h (fun (x2_11 : Int32) (x3_12 : Int32) (S13 : PS) => Rf S13 a 9 → VV X (0, 0) S13 [(0, .ref a), (1, .int p1), (2, .int x2_11), (3, .int x3_12)] [] 85) (fun x2_11 x3_12 S13 h r_a => ?_) r_a
        refine v_iload_n F dX12_namedAt_85 3 rfl rfl ?_
        refine v_if_eq (tgt := 134) F dX12_namedAt_86 (by decide) h (fun h => ?_) (fun h => ?_)
        · refine v_aload_n F dX12_namedAt_134 0 rfl rfl ?_
          refine g_X12_23 F r_a dX12_namedAt_135 ?_
          refine v_if_le (tgt := 142) F dX12_namedAt_138 (by decide) h (fun h => ?_) (fun h => ?_)
          · refine v_aload_n F dX12_namedAt_142 0 rfl rfl ?_
            refine v_iload_n F dX12_namedAt_143 2 rfl rfl ?_
            refine v_iconst (v := 1) F dX12_namedAt_144 (by decide) ?_
            refine v_isub F dX12_namedAt_145 ?_
            refine p_X12_243 F r_a h dX12_namedAt_146 (fun S14 h hE => ?_)
            have r_a := r_a.tr hE
            refine v_aload_n F dX12_namedAt_149 0 rfl rfl ?_
            refine v_iconst (v := 1) F dX12_namedAt_150 (by decide) ?_
            refine p_X12_246 F r_a rfl rfl h dX12_namedAt_151 (fun S15 h hE => ?_)
            have r_a := r_a.tr hE
            refine v_aload_n F dX12_namedAt_154 0 rfl rfl ?_
            refine v_iconst (v := 3) F dX12_namedAt_155 (by decide) ?_
            refine v_iload_n F dX12_namedAt_156 1 rfl rfl ?_
            refine v_cV0 (v_runV F k_X12_186 rfl (c_X12_openBlock r_a h) r_a rfl rfl (Nat.le_of_ble_eq_true rfl) (by decide) (by decide) dX12_namedAt_157) ⟨rfl, rfl⟩ (fun  S16 h hE => ?_)
            have r_a := r_a.tr hE
            exact v_vret F hQ h (by decide) dX12_namedAt_160
          · exact v_vret F hQ h (by decide) dX12_namedAt_141
        · refine v_aload_n F dX12_namedAt_89 0 rfl rfl ?_
          refine v_iload_n F dX12_namedAt_90 2 rfl rfl ?_
          refine v_cV0 (v_runV F k_X12_262 rfl (c_X12_newName r_a h) r_a rfl rfl (Nat.le_of_ble_eq_true rfl) (by decide) (by decide) dX12_namedAt_91) ⟨rfl, rfl⟩ (fun  S17 h hE => ?_)
          have r_a := r_a.tr hE
          obtain ⟨v18, e_v18⟩ : ∃ y : Int32, y = x2_11 + 1 := ⟨_, rfl⟩
          have h := h v18 e_v18
          refine v_iinc (v := v18) (lv1 := [(2, .int v18), (0, .ref a), (1, .int p1), (3, .int x3_12)]) F dX12_namedAt_94 (q := 2) rfl (by rw [e_v18]; rfl) (by rw [hN]; decide) rfl ?_
          refine v_aload_n F dX12_namedAt_97 1 rfl rfl ?_
          refine g_X12_23 F r_a dX12_namedAt_98 ?_
          have h := h (fun (S19 : PS) => Rf S19 a 9 → VV X (0, 0) S19 [(0, .ref a), (1, .int p1), (2, .int v18)] [] 108) (by
            intro S19 h r_a
            refine v_aload_n F dX12_namedAt_108 0 rfl rfl ?_
            refine g_X12_23 F r_a dX12_namedAt_109 ?_
            have h := h (fun (t21 : Int32) (S22 : PS) => Rf S22 a 9 → VV X (0, 0) S22 [(0, .ref a), (1, .int p1), (2, .int v18)] [.int t21] 130) (by
              intro t21 S22 h r_a
              refine v_istore_n (lv1 := [(3, .int t21), (0, .ref a), (1, .int p1), (2, .int v18)]) F dX12_namedAt_130 rfl (by rw [hN]; decide) rfl ?_
              refine v_goto (tgt := 85) F dX12_namedAt_131 (by decide) ?_
              exact v_sub [1, 2, 3, 0] rfl (h r_a))
            refine v_if_ne (tgt := 129) F dX12_namedAt_112 (by decide) h (fun h => ?_) (fun h => ?_)
            · refine v_iconst (v := 0) F dX12_namedAt_129 (by decide) ?_
              exact v_sub [0, 1, 2] rfl (h r_a)
            · refine v_aload_n F dX12_namedAt_115 0 rfl rfl ?_
              refine v_cI0 (v_runV F k_X12_38 rfl (c_X12_here r_a h) r_a rfl rfl (Nat.le_of_ble_eq_true rfl) (by decide) (by decide) dX12_namedAt_116) ⟨rfl, rfl⟩ (fun r25 S24 h hE => ?_)
              have r_a := r_a.tr hE
              refine v_cI0 (v_runS F k_X12_227 (c_X12_isLetter h) rfl rfl (Nat.le_of_ble_eq_true rfl) (by decide) (by decide) dX12_namedAt_119) ⟨rfl, rfl⟩ (fun r27 S26 h hE => ?_)
              obtain ⟨nz_r27, h⟩ := h
              have r_a := r_a.tr hE
              refine v_if_eq (tgt := 129) F dX12_namedAt_122 (by decide) h (fun h => ?_) (fun h => ?_)
              · refine v_iconst (v := 0) F dX12_namedAt_129 (by decide) ?_
                exact v_sub [0, 1, 2] rfl (h r_a)
              · refine v_iconst (v := 1) F dX12_namedAt_125 (by decide) ?_
                refine v_goto (tgt := 130) F dX12_namedAt_126 (by decide) ?_
                exact v_sub [0, 1, 2] rfl (h r_a))
          refine v_if_ne (tgt := 108) F dX12_namedAt_101 (by decide) h (fun h => ?_) (fun h => ?_)
          · exact v_sub [1, 2, 0] rfl (h r_a)
          · refine v_aload_n F dX12_namedAt_104 1 rfl rfl ?_
            refine v_cV0 (v_runV F k_X12_46 rfl (c_X12_blanks r_a h) r_a rfl rfl (Nat.le_of_ble_eq_true rfl) (by decide) (by decide) dX12_namedAt_105) ⟨rfl, rfl⟩ (fun  S28 h hE => ?_)
            have r_a := r_a.tr hE
            exact v_sub [1, 2, 0] rfl (h r_a)
      · refine v_aload_n F dX12_namedAt_71 0 rfl rfl ?_
        refine v_iconst (v := 1) F dX12_namedAt_72 (by decide) ?_
        refine v_aload_n F dX12_namedAt_73 0 rfl rfl ?_
        refine g_X12_29 F r_a dX12_namedAt_74 ?_
        refine v_cV0 (v_runV F k_X12_50 rfl (c_X12_bad r_a h) r_a rfl rfl (Nat.le_of_ble_eq_true rfl) (by decide) (by decide) dX12_namedAt_77) ⟨rfl, rfl⟩ (fun  S29 h hE => ?_)
        have r_a := r_a.tr hE
        exact v_vret F hQ h (by decide) dX12_namedAt_80
    · exact v_vret F hQ h (by decide) dX12_namedAt_56)
  refine v_if_eq (tgt := 29) F dX12_namedAt_12 (by decide) h (fun h => ?_) (fun h => ?_)
  · refine v_aload_n F dX12_namedAt_29 0 rfl rfl ?_
    refine g_X12_230 F r_a dX12_namedAt_30 ?_
    refine v_bipush (v := 20) F dX12_namedAt_33 (by decide) ?_
    refine v_icmp_ne (tgt := 49) F dX12_namedAt_35 (by decide) h (fun h => ?_) (fun h => ?_)
    · exact v_sub [0, 1] rfl (h r_a)
    · refine v_aload_n F dX12_namedAt_38 0 rfl rfl ?_
      refine v_iconst (v := 5) F dX12_namedAt_39 (by decide) ?_
      refine v_aload_n F dX12_namedAt_40 0 rfl rfl ?_
      refine g_X12_90 F r_a h dX12_namedAt_41 (fun b30 r_b30 h => ?_)
      refine v_iload_n F dX12_namedAt_44 1 rfl rfl ?_
      refine v_iald F r_b30 o_43 h dX12_namedAt_45 (fun h => ?_)
      refine v_cV0 (v_runV F k_X12_50 rfl (c_X12_bad r_a h) r_a rfl rfl (Nat.le_of_ble_eq_true rfl) (by decide) (by decide) dX12_namedAt_46) ⟨rfl, rfl⟩ (fun  S31 h hE => ?_)
      have r_a := r_a.tr hE
      exact v_sub [0, 1] rfl (h r_a)
  · refine v_aload_n F dX12_namedAt_15 0 rfl rfl ?_
    refine v_iconst (v := 1) F dX12_namedAt_16 (by decide) ?_
    refine v_aload_n F dX12_namedAt_17 0 rfl rfl ?_
    refine g_X12_90 F r_a h dX12_namedAt_18 (fun b32 r_b32 h => ?_)
    refine v_iload_n F dX12_namedAt_21 1 rfl rfl ?_
    refine v_iald F r_b32 o_43 h dX12_namedAt_22 (fun h => ?_)
    refine v_cV0 (v_runV F k_X12_50 rfl (c_X12_bad r_a h) r_a rfl rfl (Nat.le_of_ble_eq_true rfl) (by decide) (by decide) dX12_namedAt_23) ⟨rfl, rfl⟩ (fun  S33 h hE => ?_)
    have r_a := r_a.tr hE
    refine v_goto (tgt := 49) F dX12_namedAt_26 (by decide) ?_
    exact v_sub [0, 1] rfl (h r_a)
theorem dX12_parameterOf_0 : decode cX12_parameterOf 0 = .ok (.iconst 1, 1) := by decide +kernel
theorem dX12_parameterOf_1 : decode cX12_parameterOf 1 = .ok (.istore_n 3, 1) := by decide +kernel
theorem dX12_parameterOf_2 : decode cX12_parameterOf 2 = .ok (.iload_n 3, 1) := by decide +kernel
theorem dX12_parameterOf_3 : decode cX12_parameterOf 3 = .ok (.aload_n 0, 1) := by decide +kernel
theorem dX12_parameterOf_4 : decode cX12_parameterOf 4 = .ok (.getfield 243, 3) := by decide +kernel
theorem dX12_parameterOf_7 : decode cX12_parameterOf 7 = .ok (.if_icmp .gt 41, 3) := by decide +kernel
theorem dX12_parameterOf_10 : decode cX12_parameterOf 10 = .ok (.aload_n 0, 1) := by decide +kernel
theorem dX12_parameterOf_11 : decode cX12_parameterOf 11 = .ok (.getfield 246, 3) := by decide +kernel
theorem dX12_parameterOf_14 : decode cX12_parameterOf 14 = .ok (.ifCond .eq 34, 3) := by decide +kernel
theorem dX12_parameterOf_17 : decode cX12_parameterOf 17 = .ok (.aload_n 0, 1) := by decide +kernel
theorem dX12_parameterOf_18 : decode cX12_parameterOf 18 = .ok (.aload_n 0, 1) := by decide +kernel
theorem dX12_parameterOf_19 : decode cX12_parameterOf 19 = .ok (.getfield 250, 3) := by decide +kernel
theorem dX12_parameterOf_22 : decode cX12_parameterOf 22 = .ok (.iload_n 3, 1) := by decide +kernel
theorem dX12_parameterOf_23 : decode cX12_parameterOf 23 = .ok (.iaload, 1) := by decide +kernel
theorem dX12_parameterOf_24 : decode cX12_parameterOf 24 = .ok (.aload_n 0, 1) := by decide +kernel
theorem dX12_parameterOf_25 : decode cX12_parameterOf 25 = .ok (.getfield 253, 3) := by decide +kernel
theorem dX12_parameterOf_28 : decode cX12_parameterOf 28 = .ok (.iload_n 3, 1) := by decide +kernel
theorem dX12_parameterOf_29 : decode cX12_parameterOf 29 = .ok (.iaload, 1) := by decide +kernel
theorem dX12_parameterOf_30 : decode cX12_parameterOf 30 = .ok (.iload_n 1, 1) := by decide +kernel
theorem dX12_parameterOf_31 : decode cX12_parameterOf 31 = .ok (.iload_n 2, 1) := by decide +kernel
theorem dX12_parameterOf_32 : decode cX12_parameterOf 32 = .ok (.invokevirtual 239, 3) := by decide +kernel
theorem dX12_parameterOf_35 : decode cX12_parameterOf 35 = .ok (.ifCond .eq 7, 3) := by decide +kernel
theorem dX12_parameterOf_38 : decode cX12_parameterOf 38 = .ok (.iload_n 3, 1) := by decide +kernel
theorem dX12_parameterOf_39 : decode cX12_parameterOf 39 = .ok (.iconst 1, 1) := by decide +kernel
theorem dX12_parameterOf_40 : decode cX12_parameterOf 40 = .ok (.isub, 1) := by decide +kernel
theorem dX12_parameterOf_41 : decode cX12_parameterOf 41 = .ok (.ireturn, 1) := by decide +kernel
theorem dX12_parameterOf_42 : decode cX12_parameterOf 42 = .ok (.iinc 3 1, 3) := by decide +kernel
theorem dX12_parameterOf_45 : decode cX12_parameterOf 45 = .ok (.goto (-43), 3) := by decide +kernel
theorem dX12_parameterOf_48 : decode cX12_parameterOf 48 = .ok (.iconst (-1), 1) := by decide +kernel
theorem dX12_parameterOf_49 : decode cX12_parameterOf 49 = .ok (.ireturn, 1) := by decide +kernel
abbrev rm_X12_parameterOf : Room := { frames := 1, cells := 0, slots := 0, locals := 26 }
def wp_X12_parameterOf (a : Nat) (p1 : Int32) (p2 : Int32) (S : PS) (Q : Int32 → PS → Prop) : Prop :=
  (∀ P2_1 : Int32 → PS → Prop, (∀ (x3_2 : Int32) (S3 : PS),
 (if fI S3 129 a < x3_2 then
 Q (-1) S3
 else
 (if fI S3 126 a = 0 then
 Q (-1) S3
 else
 (∃ b4, fR S3 127 a = some b4 ∧ (vp_in x3_2 (aN S3 b4) ∧ (∃ b5, fR S3 128 a = some b5 ∧ (vp_in x3_2 (aN S3 b5) ∧ wp_X12_alike a (aI S3 59 b4 (x3_2).toNatClampNeg) (aI S3 60 b5 (x3_2).toNatClampNeg) p1 p2 S3 (fun (r7 : Int32) (S6 : PS) => 
 (if r7 = 0 then
 (∀ v8, v8 = x3_2 + 1 → P2_1 v8 S6)
 else
 Q (x3_2 - 1) S6))))))))
 → P2_1 x3_2 S3) → P2_1 1 S)
set_option maxRecDepth 100000 in
set_option maxHeartbeats 4000000 in
theorem c_X12_parameterOf {l : Launch} {E : EE} {A : Nat → Prop} {a : Nat} {p1 : Int32} {p2 : Int32} {S : PS} {Q : Int32 → PS → Prop} (r_a : Rf S a 9) (h : wp_X12_parameterOf a p1 p2 S Q) : MtI l yX12_parameterOf (.code yX12_parameterOf cX12_parameterOf 4 (some .int)) rm_X12_parameterOf E A [.ref a, .int p1, .int p2] S Q := by
  refine MtI.of (by decide) (Nat.le_of_ble_eq_true rfl) (fun X F hQ hN => ?_)
  show VV X (0, 0) S [(0, .ref a), (1, .int p1), (2, .int p2)] [] 0
  unfold wp_X12_parameterOf at h
  refine v_iconst (v := 1) F dX12_parameterOf_0 (by decide) ?_
  refine v_istore_n (lv1 := [(3, .int 1), (0, .ref a), (1, .int p1), (2, .int p2)]) F dX12_parameterOf_1 rfl (by rw [hN]; decide) rfl ?_
  refine v_sub [1, 2, 3, 0] rfl ?_
  refine h (fun (x3_2 : Int32) (S3 : PS) => Rf S3 a 9 → VV X (0, 0) S3 [(0, .ref a), (1, .int p1), (2, .int p2), (3, .int x3_2)] [] 2) (fun x3_2 S3 h r_a => ?_) r_a
  refine v_iload_n F dX12_parameterOf_2 3 rfl rfl ?_
  refine v_aload_n F dX12_parameterOf_3 0 rfl rfl ?_
  refine g_X12_243 F r_a dX12_parameterOf_4 ?_
  refine v_icmp_gt (tgt := 48) F dX12_parameterOf_7 (by decide) h (fun h => ?_) (fun h => ?_)
  · refine v_iconst (v := (-1)) F dX12_parameterOf_48 (by decide) ?_
    exact v_iret F hQ h (by decide) dX12_parameterOf_49
  · refine v_aload_n F dX12_parameterOf_10 0 rfl rfl ?_
    refine g_X12_246 F r_a dX12_parameterOf_11 ?_
    refine v_if_eq (tgt := 48) F dX12_parameterOf_14 (by decide) h (fun h => ?_) (fun h => ?_)
    · refine v_iconst (v := (-1)) F dX12_parameterOf_48 (by decide) ?_
      exact v_iret F hQ h (by decide) dX12_parameterOf_49
    · refine v_aload_n F dX12_parameterOf_17 0 rfl rfl ?_
      refine v_aload_n F dX12_parameterOf_18 0 rfl rfl ?_
      refine g_X12_250 F r_a h dX12_parameterOf_19 (fun b4 r_b4 h => ?_)
      refine v_iload_n F dX12_parameterOf_22 3 rfl rfl ?_
      refine v_iald F r_b4 o_59 h dX12_parameterOf_23 (fun h => ?_)
      refine v_aload_n F dX12_parameterOf_24 0 rfl rfl ?_
      refine g_X12_253 F r_a h dX12_parameterOf_25 (fun b5 r_b5 h => ?_)
      refine v_iload_n F dX12_parameterOf_28 3 rfl rfl ?_
      refine v_iald F r_b5 o_60 h dX12_parameterOf_29 (fun h => ?_)
      refine v_iload_n F dX12_parameterOf_30 1 rfl rfl ?_
      refine v_iload_n F dX12_parameterOf_31 2 rfl rfl ?_
      refine v_cI0 (v_runV F k_X12_239 rfl (c_X12_alike r_a h) r_a rfl rfl (Nat.le_of_ble_eq_true rfl) (by decide) (by decide) dX12_parameterOf_32) ⟨rfl, rfl⟩ (fun r7 S6 h hE => ?_)
      obtain ⟨nz_r7, h⟩ := h
      have r_a := r_a.tr hE
      refine v_if_eq (tgt := 42) F dX12_parameterOf_35 (by decide) h (fun h => ?_) (fun h => ?_)
      · obtain ⟨v8, e_v8⟩ : ∃ y : Int32, y = x3_2 + 1 := ⟨_, rfl⟩
        have h := h v8 e_v8
        refine v_iinc (v := v8) (lv1 := [(3, .int v8), (0, .ref a), (1, .int p1), (2, .int p2)]) F dX12_parameterOf_42 (q := 3) rfl (by rw [e_v8]; rfl) (by rw [hN]; decide) rfl ?_
        refine v_goto (tgt := 2) F dX12_parameterOf_45 (by decide) ?_
        exact v_sub [1, 2, 3, 0] rfl (h r_a)
      · refine v_iload_n F dX12_parameterOf_38 3 rfl rfl ?_
        refine v_iconst (v := 1) F dX12_parameterOf_39 (by decide) ?_
        refine v_isub F dX12_parameterOf_40 ?_
        exact v_iret F hQ h (by decide) dX12_parameterOf_41
theorem dX12_useAt_0 : decode cX12_useAt 0 = .ok (.aload_n 0, 1) := by decide +kernel
theorem dX12_useAt_1 : decode cX12_useAt 1 = .ok (.getfield 86, 3) := by decide +kernel
theorem dX12_useAt_4 : decode cX12_useAt 4 = .ok (.iload_n 1, 1) := by decide +kernel
theorem dX12_useAt_5 : decode cX12_useAt 5 = .ok (.bipush 10, 2) := by decide +kernel
theorem dX12_useAt_7 : decode cX12_useAt 7 = .ok (.iastore, 1) := by decide +kernel
theorem dX12_useAt_8 : decode cX12_useAt 8 = .ok (.aload_n 0, 1) := by decide +kernel
theorem dX12_useAt_9 : decode cX12_useAt 9 = .ok (.invokevirtual 46, 3) := by decide +kernel
theorem dX12_useAt_12 : decode cX12_useAt 12 = .ok (.aload_n 0, 1) := by decide +kernel
theorem dX12_useAt_13 : decode cX12_useAt 13 = .ok (.getfield 29, 3) := by decide +kernel
theorem dX12_useAt_16 : decode cX12_useAt 16 = .ok (.istore_n 2, 1) := by decide +kernel
theorem dX12_useAt_17 : decode cX12_useAt 17 = .ok (.aload_n 0, 1) := by decide +kernel
theorem dX12_useAt_18 : decode cX12_useAt 18 = .ok (.invokevirtual 256, 3) := by decide +kernel
theorem dX12_useAt_21 : decode cX12_useAt 21 = .ok (.istore_n 3, 1) := by decide +kernel
theorem dX12_useAt_22 : decode cX12_useAt 22 = .ok (.iload_n 3, 1) := by decide +kernel
theorem dX12_useAt_23 : decode cX12_useAt 23 = .ok (.ifCond .ne 13, 3) := by decide +kernel
theorem dX12_useAt_26 : decode cX12_useAt 26 = .ok (.aload_n 0, 1) := by decide +kernel
theorem dX12_useAt_27 : decode cX12_useAt 27 = .ok (.iconst 1, 1) := by decide +kernel
theorem dX12_useAt_28 : decode cX12_useAt 28 = .ok (.aload_n 0, 1) := by decide +kernel
theorem dX12_useAt_29 : decode cX12_useAt 29 = .ok (.getfield 29, 3) := by decide +kernel
theorem dX12_useAt_32 : decode cX12_useAt 32 = .ok (.invokevirtual 50, 3) := by decide +kernel
theorem dX12_useAt_35 : decode cX12_useAt 35 = .ok (.return_, 1) := by decide +kernel
theorem dX12_useAt_36 : decode cX12_useAt 36 = .ok (.aload_n 0, 1) := by decide +kernel
theorem dX12_useAt_37 : decode cX12_useAt 37 = .ok (.iload_n 2, 1) := by decide +kernel
theorem dX12_useAt_38 : decode cX12_useAt 38 = .ok (.iload_n 3, 1) := by decide +kernel
theorem dX12_useAt_39 : decode cX12_useAt 39 = .ok (.invokevirtual 271, 3) := by decide +kernel
theorem dX12_useAt_42 : decode cX12_useAt 42 = .ok (.istore 4, 2) := by decide +kernel
theorem dX12_useAt_44 : decode cX12_useAt 44 = .ok (.iload 4, 2) := by decide +kernel
theorem dX12_useAt_46 : decode cX12_useAt 46 = .ok (.iconst (-1), 1) := by decide +kernel
theorem dX12_useAt_47 : decode cX12_useAt 47 = .ok (.if_icmp .ne 12, 3) := by decide +kernel
theorem dX12_useAt_50 : decode cX12_useAt 50 = .ok (.aload_n 0, 1) := by decide +kernel
theorem dX12_useAt_51 : decode cX12_useAt 51 = .ok (.iload_n 2, 1) := by decide +kernel
theorem dX12_useAt_52 : decode cX12_useAt 52 = .ok (.iload_n 3, 1) := by decide +kernel
theorem dX12_useAt_53 : decode cX12_useAt 53 = .ok (.invokevirtual 259, 3) := by decide +kernel
theorem dX12_useAt_56 : decode cX12_useAt 56 = .ok (.goto 4, 3) := by decide +kernel
theorem dX12_useAt_59 : decode cX12_useAt 59 = .ok (.iconst (-1), 1) := by decide +kernel
theorem dX12_useAt_60 : decode cX12_useAt 60 = .ok (.istore 5, 2) := by decide +kernel
theorem dX12_useAt_62 : decode cX12_useAt 62 = .ok (.iload 4, 2) := by decide +kernel
theorem dX12_useAt_64 : decode cX12_useAt 64 = .ok (.iconst (-1), 1) := by decide +kernel
theorem dX12_useAt_65 : decode cX12_useAt 65 = .ok (.if_icmp .ne 16, 3) := by decide +kernel
theorem dX12_useAt_68 : decode cX12_useAt 68 = .ok (.iload 5, 2) := by decide +kernel
theorem dX12_useAt_70 : decode cX12_useAt 70 = .ok (.iconst (-1), 1) := by decide +kernel
theorem dX12_useAt_71 : decode cX12_useAt 71 = .ok (.if_icmp .ne 10, 3) := by decide +kernel
theorem dX12_useAt_74 : decode cX12_useAt 74 = .ok (.aload_n 0, 1) := by decide +kernel
theorem dX12_useAt_75 : decode cX12_useAt 75 = .ok (.iconst 4, 1) := by decide +kernel
theorem dX12_useAt_76 : decode cX12_useAt 76 = .ok (.iload_n 2, 1) := by decide +kernel
theorem dX12_useAt_77 : decode cX12_useAt 77 = .ok (.invokevirtual 50, 3) := by decide +kernel
theorem dX12_useAt_80 : decode cX12_useAt 80 = .ok (.return_, 1) := by decide +kernel
theorem dX12_useAt_81 : decode cX12_useAt 81 = .ok (.aload_n 0, 1) := by decide +kernel
theorem dX12_useAt_82 : decode cX12_useAt 82 = .ok (.getfield 93, 3) := by decide +kernel
theorem dX12_useAt_85 : decode cX12_useAt 85 = .ok (.iload_n 1, 1) := by decide +kernel
theorem dX12_useAt_86 : decode cX12_useAt 86 = .ok (.iload 4, 2) := by decide +kernel
theorem dX12_useAt_88 : decode cX12_useAt 88 = .ok (.iconst (-1), 1) := by decide +kernel
theorem dX12_useAt_89 : decode cX12_useAt 89 = .ok (.if_icmp .ne 8, 3) := by decide +kernel
theorem dX12_useAt_92 : decode cX12_useAt 92 = .ok (.iload 5, 2) := by decide +kernel
theorem dX12_useAt_94 : decode cX12_useAt 94 = .ok (.goto 7, 3) := by decide +kernel
theorem dX12_useAt_97 : decode cX12_useAt 97 = .ok (.iconst (-1), 1) := by decide +kernel
theorem dX12_useAt_98 : decode cX12_useAt 98 = .ok (.iload 4, 2) := by decide +kernel
theorem dX12_useAt_100 : decode cX12_useAt 100 = .ok (.isub, 1) := by decide +kernel
theorem dX12_useAt_101 : decode cX12_useAt 101 = .ok (.iastore, 1) := by decide +kernel
theorem dX12_useAt_102 : decode cX12_useAt 102 = .ok (.aload_n 0, 1) := by decide +kernel
theorem dX12_useAt_103 : decode cX12_useAt 103 = .ok (.getfield 96, 3) := by decide +kernel
theorem dX12_useAt_106 : decode cX12_useAt 106 = .ok (.iload_n 1, 1) := by decide +kernel
theorem dX12_useAt_107 : decode cX12_useAt 107 = .ok (.iload 4, 2) := by decide +kernel
theorem dX12_useAt_109 : decode cX12_useAt 109 = .ok (.iconst (-1), 1) := by decide +kernel
theorem dX12_useAt_110 : decode cX12_useAt 110 = .ok (.if_icmp .ne 13, 3) := by decide +kernel
theorem dX12_useAt_113 : decode cX12_useAt 113 = .ok (.aload_n 0, 1) := by decide +kernel
theorem dX12_useAt_114 : decode cX12_useAt 114 = .ok (.getfield 268, 3) := by decide +kernel
theorem dX12_useAt_117 : decode cX12_useAt 117 = .ok (.iload 5, 2) := by decide +kernel
theorem dX12_useAt_119 : decode cX12_useAt 119 = .ok (.iaload, 1) := by decide +kernel
theorem dX12_useAt_120 : decode cX12_useAt 120 = .ok (.goto 4, 3) := by decide +kernel
theorem dX12_useAt_123 : decode cX12_useAt 123 = .ok (.iconst 0, 1) := by decide +kernel
theorem dX12_useAt_124 : decode cX12_useAt 124 = .ok (.iastore, 1) := by decide +kernel
theorem dX12_useAt_125 : decode cX12_useAt 125 = .ok (.aload_n 0, 1) := by decide +kernel
theorem dX12_useAt_126 : decode cX12_useAt 126 = .ok (.getfield 105, 3) := by decide +kernel
theorem dX12_useAt_129 : decode cX12_useAt 129 = .ok (.iload_n 1, 1) := by decide +kernel
theorem dX12_useAt_130 : decode cX12_useAt 130 = .ok (.ldc2_w 274, 3) := by decide +kernel
theorem dX12_useAt_133 : decode cX12_useAt 133 = .ok (.lastore, 1) := by decide +kernel
theorem dX12_useAt_134 : decode cX12_useAt 134 = .ok (.aload_n 0, 1) := by decide +kernel
theorem dX12_useAt_135 : decode cX12_useAt 135 = .ok (.getfield 96, 3) := by decide +kernel
theorem dX12_useAt_138 : decode cX12_useAt 138 = .ok (.iload_n 1, 1) := by decide +kernel
theorem dX12_useAt_139 : decode cX12_useAt 139 = .ok (.iaload, 1) := by decide +kernel
theorem dX12_useAt_140 : decode cX12_useAt 140 = .ok (.ifCond .le 9, 3) := by decide +kernel
theorem dX12_useAt_143 : decode cX12_useAt 143 = .ok (.aload_n 0, 1) := by decide +kernel
theorem dX12_useAt_144 : decode cX12_useAt 144 = .ok (.iconst 4, 1) := by decide +kernel
theorem dX12_useAt_145 : decode cX12_useAt 145 = .ok (.iload_n 1, 1) := by decide +kernel
theorem dX12_useAt_146 : decode cX12_useAt 146 = .ok (.invokevirtual 186, 3) := by decide +kernel
theorem dX12_useAt_149 : decode cX12_useAt 149 = .ok (.return_, 1) := by decide +kernel
abbrev rm_X12_useAt : Room := { frames := 4, cells := 0, slots := 0, locals := 84 }
def wp_X12_useAt (a : Nat) (p1 : Int32) (S : PS) (Q : PS → Prop) : Prop :=
  (∃ b1, fR S 105 a = some b1 ∧ (vp_in p1 (aN S b1) ∧ ∀ S2, S2 = wI S 42 b1 (p1).toNatClampNeg 10 → wp_X12_blanks a S2 (fun (S3 : PS) => 
 (∀ v4, v4 = fI S3 101 a → wp_X12_letters a S3 (fun (r6 : Int32) (S5 : PS) => 
 (if r6 = 0 then
 wp_X12_bad a 1 (fI S5 101 a) S5 (fun (S36 : PS) => 
 Q S36)
 else
 wp_X12_parameterOf a v4 r6 S5 (fun (r8 : Int32) (S7 : PS) => 
 (∀ K60_11 : Int32 → PS → Prop, (∀ (t9 : Int32) (S10 : PS),
 (∀ K81_13 : PS → Prop, (∀ (S12 : PS),
 (∃ b14, fR S12 107 a = some b14 ∧ (∀ K101_19 : Nat → Int32 → Int32 → PS → Prop, (∀ (t15 : Nat) (t16 : Int32) (t17 : Int32) (S18 : PS),
 (vp_in t16 (aN S18 t15) ∧ ∀ S20, S20 = wI S18 44 t15 (t16).toNatClampNeg t17 → (∃ b21, fR S20 108 a = some b21 ∧ (∀ K124_26 : Nat → Int32 → Int32 → PS → Prop, (∀ (t22 : Nat) (t23 : Int32) (t24 : Int32) (S25 : PS),
 (vp_in t23 (aN S25 t22) ∧ ∀ S27, S27 = wI S25 45 t22 (t23).toNatClampNeg t24 → (∃ b28, fR S27 111 a = some b28 ∧ (vp_in p1 (aN S27 b28) ∧ ∀ S29, S29 = wL S27 48 b28 (p1).toNatClampNeg (-1) → (∃ b30, fR S29 108 a = some b30 ∧ (vp_in p1 (aN S29 b30) ∧ (if aI S29 45 b30 (p1).toNatClampNeg ≤ 0 then
 Q S29
 else
 wp_X12_openBlock a 4 p1 S29 (fun (S31 : PS) => 
 Q S31)))))))
 → K124_26 t22 t23 t24 S25) →
 (if r8 = (-1) then
 (∃ b32, fR S20 124 a = some b32 ∧ (vp_in t9 (aN S20 b32) ∧ K124_26 b21 p1 (aI S20 58 b32 (t9).toNatClampNeg) S20))
 else
 K124_26 b21 p1 0 S20))))
 → K101_19 t15 t16 t17 S18) →
 (if r8 = (-1) then
 K101_19 b14 p1 t9 S12
 else
 K101_19 b14 p1 ((-1) - r8) S12)))
 → K81_13 S12) →
 (if r8 = (-1) then
 (if t9 = (-1) then
 wp_X12_bad a 4 v4 S10 (fun (S33 : PS) => 
 Q S33)
 else
 K81_13 S10)
 else
 K81_13 S10))
 → K60_11 t9 S10) →
 (if r8 = (-1) then
 wp_X12_nameOf a v4 r6 S7 (fun (r35 : Int32) (S34 : PS) => 
 K60_11 r35 S34)
 else
 K60_11 (-1) S7)))))))))
set_option maxRecDepth 100000 in
set_option maxHeartbeats 4000000 in
theorem c_X12_useAt {l : Launch} {E : EE} {A : Nat → Prop} {a : Nat} {p1 : Int32} {S : PS} {Q : PS → Prop} (r_a : Rf S a 9) (h : wp_X12_useAt a p1 S Q) : MtV l yX12_useAt (.code yX12_useAt cX12_useAt 6 none) rm_X12_useAt E A [.ref a, .int p1] S Q := by
  refine MtV.of (by decide) (Nat.le_of_ble_eq_true rfl) (fun X F hQ hN => ?_)
  show VV X (0, 0) S [(0, .ref a), (1, .int p1)] [] 0
  unfold wp_X12_useAt at h
  refine v_aload_n F dX12_useAt_0 0 rfl rfl ?_
  refine g_X12_86 F r_a h dX12_useAt_1 (fun b1 r_b1 h => ?_)
  refine v_iload_n F dX12_useAt_4 1 rfl rfl ?_
  refine v_bipush (v := 10) F dX12_useAt_5 (by decide) ?_
  refine v_iast F r_b1 o_42 h dX12_useAt_7 (fun S2 h hE => ?_)
  have r_a := r_a.tr hE
  refine v_aload_n F dX12_useAt_8 0 rfl rfl ?_
  refine v_cV0 (v_runV F k_X12_46 rfl (c_X12_blanks r_a h) r_a rfl rfl (Nat.le_of_ble_eq_true rfl) (by decide) (by decide) dX12_useAt_9) ⟨rfl, rfl⟩ (fun  S3 h hE => ?_)
  have r_a := r_a.tr hE
  refine v_aload_n F dX12_useAt_12 0 rfl rfl ?_
  refine g_X12_29 F r_a dX12_useAt_13 ?_
  refine v_topi (fun v4 e_v4 => ?_)
  have h := h v4 e_v4
  refine v_istore_n (lv1 := [(2, .int v4), (0, .ref a), (1, .int p1)]) F dX12_useAt_16 rfl (by rw [hN]; decide) rfl ?_
  refine v_aload_n F dX12_useAt_17 1 rfl rfl ?_
  refine v_cI0 (v_runV F k_X12_256 rfl (c_X12_letters r_a h) r_a rfl rfl (Nat.le_of_ble_eq_true rfl) (by decide) (by decide) dX12_useAt_18) ⟨rfl, rfl⟩ (fun r6 S5 h hE => ?_)
  have r_a := r_a.tr hE
  refine v_istore_n (lv1 := [(3, .int r6), (2, .int v4), (0, .ref a), (1, .int p1)]) F dX12_useAt_21 rfl (by rw [hN]; decide) rfl ?_
  refine v_iload_n F dX12_useAt_22 0 rfl rfl ?_
  refine v_if_ne (tgt := 36) F dX12_useAt_23 (by decide) h (fun h => ?_) (fun h => ?_)
  · refine v_aload_n F dX12_useAt_36 2 rfl rfl ?_
    refine v_iload_n F dX12_useAt_37 1 rfl rfl ?_
    refine v_iload_n F dX12_useAt_38 0 rfl rfl ?_
    refine v_cI0 (v_runV F k_X12_271 rfl (c_X12_parameterOf r_a h) r_a rfl rfl (Nat.le_of_ble_eq_true rfl) (by decide) (by decide) dX12_useAt_39) ⟨rfl, rfl⟩ (fun r8 S7 h hE => ?_)
    have r_a := r_a.tr hE
    refine v_istore (lv1 := [(4, .int r8), (3, .int r6), (2, .int v4), (0, .ref a), (1, .int p1)]) F dX12_useAt_42 (by rw [hN]; decide) rfl ?_
    refine v_iload F dX12_useAt_44 0 rfl ?_
    refine v_iconst (v := (-1)) F dX12_useAt_46 (by decide) ?_
    have h := h (fun (t9 : Int32) (S10 : PS) => Rf S10 a 9 → VV X (0, 0) S10 [(0, .ref a), (1, .int p1), (2, .int v4), (4, .int r8)] [.int t9] 60) (by
      intro t9 S10 h r_a
      refine v_istore (lv1 := [(5, .int t9), (0, .ref a), (1, .int p1), (2, .int v4), (4, .int r8)]) F dX12_useAt_60 (by rw [hN]; decide) rfl ?_
      refine v_iload F dX12_useAt_62 4 rfl ?_
      refine v_iconst (v := (-1)) F dX12_useAt_64 (by decide) ?_
      have h := h (fun (S12 : PS) => Rf S12 a 9 → VV X (0, 0) S12 [(0, .ref a), (1, .int p1), (4, .int r8), (5, .int t9)] [] 81) (by
        intro S12 h r_a
        refine v_aload_n F dX12_useAt_81 0 rfl rfl ?_
        refine g_X12_93 F r_a h dX12_useAt_82 (fun b14 r_b14 h => ?_)
        refine v_iload_n F dX12_useAt_85 1 rfl rfl ?_
        refine v_iload F dX12_useAt_86 2 rfl ?_
        refine v_iconst (v := (-1)) F dX12_useAt_88 (by decide) ?_
        have h := h (fun (t15 : Nat) (t16 : Int32) (t17 : Int32) (S18 : PS) => Rf S18 a 9 → Rf S18 t15 44 → VV X (0, 0) S18 [(0, .ref a), (1, .int p1), (4, .int r8), (5, .int t9)] [.int t17, .int t16, .ref t15] 101) (by
          intro t15 t16 t17 S18 h r_a r_t15
          refine v_iast F r_t15 o_44 h dX12_useAt_101 (fun S20 h hE => ?_)
          have r_a := r_a.tr hE
          refine v_aload_n F dX12_useAt_102 0 rfl rfl ?_
          refine g_X12_96 F r_a h dX12_useAt_103 (fun b21 r_b21 h => ?_)
          refine v_iload_n F dX12_useAt_106 1 rfl rfl ?_
          refine v_iload F dX12_useAt_107 2 rfl ?_
          refine v_iconst (v := (-1)) F dX12_useAt_109 (by decide) ?_
          have h := h (fun (t22 : Nat) (t23 : Int32) (t24 : Int32) (S25 : PS) => Rf S25 a 9 → Rf S25 t22 45 → VV X (0, 0) S25 [(0, .ref a), (1, .int p1)] [.int t24, .int t23, .ref t22] 124) (by
            intro t22 t23 t24 S25 h r_a r_t22
            refine v_iast F r_t22 o_45 h dX12_useAt_124 (fun S27 h hE => ?_)
            have r_a := r_a.tr hE
            refine v_aload_n F dX12_useAt_125 0 rfl rfl ?_
            refine g_X12_105 F r_a h dX12_useAt_126 (fun b28 r_b28 h => ?_)
            refine v_iload_n F dX12_useAt_129 1 rfl rfl ?_
            refine v_ldc2 F kc_X12_274 dX12_useAt_130 ?_
            refine v_last F r_b28 o_48 h dX12_useAt_133 (fun S29 h hE => ?_)
            have r_a := r_a.tr hE
            refine v_aload_n F dX12_useAt_134 0 rfl rfl ?_
            refine g_X12_96 F r_a h dX12_useAt_135 (fun b30 r_b30 h => ?_)
            refine v_iload_n F dX12_useAt_138 1 rfl rfl ?_
            refine v_iald F r_b30 o_45 h dX12_useAt_139 (fun h => ?_)
            refine v_if_le (tgt := 149) F dX12_useAt_140 (by decide) h (fun h => ?_) (fun h => ?_)
            · exact v_vret F hQ h (by decide) dX12_useAt_149
            · refine v_aload_n F dX12_useAt_143 0 rfl rfl ?_
              refine v_iconst (v := 4) F dX12_useAt_144 (by decide) ?_
              refine v_iload_n F dX12_useAt_145 1 rfl rfl ?_
              refine v_cV0 (v_runV F k_X12_186 rfl (c_X12_openBlock r_a h) r_a rfl rfl (Nat.le_of_ble_eq_true rfl) (by decide) (by decide) dX12_useAt_146) ⟨rfl, rfl⟩ (fun  S31 h hE => ?_)
              have r_a := r_a.tr hE
              exact v_vret F hQ h (by decide) dX12_useAt_149)
          refine v_icmp_ne (tgt := 123) F dX12_useAt_110 (by decide) h (fun h => ?_) (fun h => ?_)
          · refine v_iconst (v := 0) F dX12_useAt_123 (by decide) ?_
            exact v_sub [0, 1] rfl (h r_a r_b21)
          · refine v_aload_n F dX12_useAt_113 0 rfl rfl ?_
            refine g_X12_268 F r_a h dX12_useAt_114 (fun b32 r_b32 h => ?_)
            refine v_iload F dX12_useAt_117 3 rfl ?_
            refine v_iald F r_b32 o_58 h dX12_useAt_119 (fun h => ?_)
            refine v_goto (tgt := 124) F dX12_useAt_120 (by decide) ?_
            exact v_sub [0, 1] rfl (h r_a r_b21))
        refine v_icmp_ne (tgt := 97) F dX12_useAt_89 (by decide) h (fun h => ?_) (fun h => ?_)
        · refine v_iconst (v := (-1)) F dX12_useAt_97 (by decide) ?_
          refine v_iload F dX12_useAt_98 2 rfl ?_
          refine v_isub F dX12_useAt_100 ?_
          exact v_sub [0, 1, 2, 3] rfl (h r_a r_b14)
        · refine v_iload F dX12_useAt_92 3 rfl ?_
          refine v_goto (tgt := 101) F dX12_useAt_94 (by decide) ?_
          exact v_sub [0, 1, 2, 3] rfl (h r_a r_b14))
      refine v_icmp_ne (tgt := 81) F dX12_useAt_65 (by decide) h (fun h => ?_) (fun h => ?_)
      · exact v_sub [1, 2, 4, 0] rfl (h r_a)
      · refine v_iload F dX12_useAt_68 0 rfl ?_
        refine v_iconst (v := (-1)) F dX12_useAt_70 (by decide) ?_
        refine v_icmp_ne (tgt := 81) F dX12_useAt_71 (by decide) h (fun h => ?_) (fun h => ?_)
        · exact v_sub [1, 2, 4, 0] rfl (h r_a)
        · refine v_aload_n F dX12_useAt_74 1 rfl rfl ?_
          refine v_iconst (v := 4) F dX12_useAt_75 (by decide) ?_
          refine v_iload_n F dX12_useAt_76 3 rfl rfl ?_
          refine v_cV0 (v_runV F k_X12_50 rfl (c_X12_bad r_a h) r_a rfl rfl (Nat.le_of_ble_eq_true rfl) (by decide) (by decide) dX12_useAt_77) ⟨rfl, rfl⟩ (fun  S33 h hE => ?_)
          have r_a := r_a.tr hE
          exact v_vret F hQ h (by decide) dX12_useAt_80)
    refine v_icmp_ne (tgt := 59) F dX12_useAt_47 (by decide) h (fun h => ?_) (fun h => ?_)
    · refine v_iconst (v := (-1)) F dX12_useAt_59 (by decide) ?_
      exact v_sub [3, 4, 2, 0] rfl (h r_a)
    · refine v_aload_n F dX12_useAt_50 3 rfl rfl ?_
      refine v_iload_n F dX12_useAt_51 2 rfl rfl ?_
      refine v_iload_n F dX12_useAt_52 1 rfl rfl ?_
      refine v_cI0 (v_runV F k_X12_259 rfl (c_X12_nameOf r_a h) r_a rfl rfl (Nat.le_of_ble_eq_true rfl) (by decide) (by decide) dX12_useAt_53) ⟨rfl, rfl⟩ (fun r35 S34 h hE => ?_)
      have r_a := r_a.tr hE
      refine v_goto (tgt := 60) F dX12_useAt_56 (by decide) ?_
      exact v_sub [3, 4, 2, 0] rfl (h r_a)
  · refine v_aload_n F dX12_useAt_26 2 rfl rfl ?_
    refine v_iconst (v := 1) F dX12_useAt_27 (by decide) ?_
    refine v_aload_n F dX12_useAt_28 2 rfl rfl ?_
    refine g_X12_29 F r_a dX12_useAt_29 ?_
    refine v_cV0 (v_runV F k_X12_50 rfl (c_X12_bad r_a h) r_a rfl rfl (Nat.le_of_ble_eq_true rfl) (by decide) (by decide) dX12_useAt_32) ⟨rfl, rfl⟩ (fun  S36 h hE => ?_)
    have r_a := r_a.tr hE
    exact v_vret F hQ h (by decide) dX12_useAt_35
theorem dX12_readItem_0 : decode cX12_readItem 0 = .ok (.aload_n 0, 1) := by decide +kernel
theorem dX12_readItem_1 : decode cX12_readItem 1 = .ok (.invokevirtual 38, 3) := by decide +kernel
theorem dX12_readItem_4 : decode cX12_readItem 4 = .ok (.istore_n 1, 1) := by decide +kernel
theorem dX12_readItem_5 : decode cX12_readItem 5 = .ok (.iload_n 1, 1) := by decide +kernel
theorem dX12_readItem_6 : decode cX12_readItem 6 = .ok (.invokestatic 149, 3) := by decide +kernel
theorem dX12_readItem_9 : decode cX12_readItem 9 = .ok (.ifCond .ne 15, 3) := by decide +kernel
theorem dX12_readItem_12 : decode cX12_readItem 12 = .ok (.iload_n 1, 1) := by decide +kernel
theorem dX12_readItem_13 : decode cX12_readItem 13 = .ok (.bipush 114, 2) := by decide +kernel
theorem dX12_readItem_15 : decode cX12_readItem 15 = .ok (.if_icmp .eq 9, 3) := by decide +kernel
theorem dX12_readItem_18 : decode cX12_readItem 18 = .ok (.iload_n 1, 1) := by decide +kernel
theorem dX12_readItem_19 : decode cX12_readItem 19 = .ok (.bipush 60, 2) := by decide +kernel
theorem dX12_readItem_21 : decode cX12_readItem 21 = .ok (.if_icmp .ne 8, 3) := by decide +kernel
theorem dX12_readItem_24 : decode cX12_readItem 24 = .ok (.aload_n 0, 1) := by decide +kernel
theorem dX12_readItem_25 : decode cX12_readItem 25 = .ok (.invokevirtual 152, 3) := by decide +kernel
theorem dX12_readItem_28 : decode cX12_readItem 28 = .ok (.return_, 1) := by decide +kernel
theorem dX12_readItem_29 : decode cX12_readItem 29 = .ok (.aload_n 0, 1) := by decide +kernel
theorem dX12_readItem_30 : decode cX12_readItem 30 = .ok (.iconst 1, 1) := by decide +kernel
theorem dX12_readItem_31 : decode cX12_readItem 31 = .ok (.aload_n 0, 1) := by decide +kernel
theorem dX12_readItem_32 : decode cX12_readItem 32 = .ok (.getfield 29, 3) := by decide +kernel
theorem dX12_readItem_35 : decode cX12_readItem 35 = .ok (.invokevirtual 128, 3) := by decide +kernel
theorem dX12_readItem_38 : decode cX12_readItem 38 = .ok (.istore_n 2, 1) := by decide +kernel
theorem dX12_readItem_39 : decode cX12_readItem 39 = .ok (.aload_n 0, 1) := by decide +kernel
theorem dX12_readItem_40 : decode cX12_readItem 40 = .ok (.iload_n 2, 1) := by decide +kernel
theorem dX12_readItem_41 : decode cX12_readItem 41 = .ok (.invokevirtual 155, 3) := by decide +kernel
theorem dX12_readItem_44 : decode cX12_readItem 44 = .ok (.aload_n 0, 1) := by decide +kernel
theorem dX12_readItem_45 : decode cX12_readItem 45 = .ok (.dup, 1) := by decide +kernel
theorem dX12_readItem_46 : decode cX12_readItem 46 = .ok (.getfield 29, 3) := by decide +kernel
theorem dX12_readItem_49 : decode cX12_readItem 49 = .ok (.iconst 1, 1) := by decide +kernel
theorem dX12_readItem_50 : decode cX12_readItem 50 = .ok (.iadd, 1) := by decide +kernel
theorem dX12_readItem_51 : decode cX12_readItem 51 = .ok (.putfield 29, 3) := by decide +kernel
theorem dX12_readItem_54 : decode cX12_readItem 54 = .ok (.iload_n 1, 1) := by decide +kernel
theorem dX12_readItem_55 : decode cX12_readItem 55 = .ok (.lookupswitch 307 #[(36, 299), (61, 291), (76, 149), (77, 92), (82, 164), (84, 192), (87, 283), (88, 239), (91, 275), (124, 89)], 89) := by decide +kernel
theorem dX12_readItem_144 : decode cX12_readItem 144 = .ok (.goto 229, 3) := by decide +kernel
theorem dX12_readItem_147 : decode cX12_readItem 147 = .ok (.aload_n 0, 1) := by decide +kernel
theorem dX12_readItem_148 : decode cX12_readItem 148 = .ok (.getfield 86, 3) := by decide +kernel
theorem dX12_readItem_151 : decode cX12_readItem 151 = .ok (.iload_n 2, 1) := by decide +kernel
theorem dX12_readItem_152 : decode cX12_readItem 152 = .ok (.iconst 2, 1) := by decide +kernel
theorem dX12_readItem_153 : decode cX12_readItem 153 = .ok (.iastore, 1) := by decide +kernel
theorem dX12_readItem_154 : decode cX12_readItem 154 = .ok (.aload_n 0, 1) := by decide +kernel
theorem dX12_readItem_155 : decode cX12_readItem 155 = .ok (.getfield 93, 3) := by decide +kernel
theorem dX12_readItem_158 : decode cX12_readItem 158 = .ok (.iload_n 2, 1) := by decide +kernel
theorem dX12_readItem_159 : decode cX12_readItem 159 = .ok (.aload_n 0, 1) := by decide +kernel
theorem dX12_readItem_160 : decode cX12_readItem 160 = .ok (.iconst 1, 1) := by decide +kernel
theorem dX12_readItem_161 : decode cX12_readItem 161 = .ok (.bipush 32, 2) := by decide +kernel
theorem dX12_readItem_163 : decode cX12_readItem 163 = .ok (.invokevirtual 158, 3) := by decide +kernel
theorem dX12_readItem_166 : decode cX12_readItem 166 = .ok (.iastore, 1) := by decide +kernel
theorem dX12_readItem_167 : decode cX12_readItem 167 = .ok (.aload_n 0, 1) := by decide +kernel
theorem dX12_readItem_168 : decode cX12_readItem 168 = .ok (.bipush 47, 2) := by decide +kernel
theorem dX12_readItem_170 : decode cX12_readItem 170 = .ok (.invokevirtual 161, 3) := by decide +kernel
theorem dX12_readItem_173 : decode cX12_readItem 173 = .ok (.aload_n 0, 1) := by decide +kernel
theorem dX12_readItem_174 : decode cX12_readItem 174 = .ok (.invokevirtual 46, 3) := by decide +kernel
theorem dX12_readItem_177 : decode cX12_readItem 177 = .ok (.aload_n 0, 1) := by decide +kernel
theorem dX12_readItem_178 : decode cX12_readItem 178 = .ok (.getfield 96, 3) := by decide +kernel
theorem dX12_readItem_181 : decode cX12_readItem 181 = .ok (.iload_n 2, 1) := by decide +kernel
theorem dX12_readItem_182 : decode cX12_readItem 182 = .ok (.aload_n 0, 1) := by decide +kernel
theorem dX12_readItem_183 : decode cX12_readItem 183 = .ok (.getfield 23, 3) := by decide +kernel
theorem dX12_readItem_186 : decode cX12_readItem 186 = .ok (.ifCond .ne 13, 3) := by decide +kernel
theorem dX12_readItem_189 : decode cX12_readItem 189 = .ok (.aload_n 0, 1) := by decide +kernel
theorem dX12_readItem_190 : decode cX12_readItem 190 = .ok (.bipush 32, 2) := by decide +kernel
theorem dX12_readItem_192 : decode cX12_readItem 192 = .ok (.invokevirtual 164, 3) := by decide +kernel
theorem dX12_readItem_195 : decode cX12_readItem 195 = .ok (.l2i, 1) := by decide +kernel
theorem dX12_readItem_196 : decode cX12_readItem 196 = .ok (.goto 4, 3) := by decide +kernel
theorem dX12_readItem_199 : decode cX12_readItem 199 = .ok (.iconst 0, 1) := by decide +kernel
theorem dX12_readItem_200 : decode cX12_readItem 200 = .ok (.iastore, 1) := by decide +kernel
theorem dX12_readItem_201 : decode cX12_readItem 201 = .ok (.goto 172, 3) := by decide +kernel
theorem dX12_readItem_204 : decode cX12_readItem 204 = .ok (.aload_n 0, 1) := by decide +kernel
theorem dX12_readItem_205 : decode cX12_readItem 205 = .ok (.getfield 86, 3) := by decide +kernel
theorem dX12_readItem_208 : decode cX12_readItem 208 = .ok (.iload_n 2, 1) := by decide +kernel
theorem dX12_readItem_209 : decode cX12_readItem 209 = .ok (.iconst 3, 1) := by decide +kernel
theorem dX12_readItem_210 : decode cX12_readItem 210 = .ok (.iastore, 1) := by decide +kernel
theorem dX12_readItem_211 : decode cX12_readItem 211 = .ok (.aload_n 0, 1) := by decide +kernel
theorem dX12_readItem_212 : decode cX12_readItem 212 = .ok (.iload_n 2, 1) := by decide +kernel
theorem dX12_readItem_213 : decode cX12_readItem 213 = .ok (.invokevirtual 168, 3) := by decide +kernel
theorem dX12_readItem_216 : decode cX12_readItem 216 = .ok (.goto 157, 3) := by decide +kernel
theorem dX12_readItem_219 : decode cX12_readItem 219 = .ok (.aload_n 0, 1) := by decide +kernel
theorem dX12_readItem_220 : decode cX12_readItem 220 = .ok (.getfield 86, 3) := by decide +kernel
theorem dX12_readItem_223 : decode cX12_readItem 223 = .ok (.iload_n 2, 1) := by decide +kernel
theorem dX12_readItem_224 : decode cX12_readItem 224 = .ok (.iconst 4, 1) := by decide +kernel
theorem dX12_readItem_225 : decode cX12_readItem 225 = .ok (.iastore, 1) := by decide +kernel
theorem dX12_readItem_226 : decode cX12_readItem 226 = .ok (.aload_n 0, 1) := by decide +kernel
theorem dX12_readItem_227 : decode cX12_readItem 227 = .ok (.getfield 93, 3) := by decide +kernel
theorem dX12_readItem_230 : decode cX12_readItem 230 = .ok (.iload_n 2, 1) := by decide +kernel
theorem dX12_readItem_231 : decode cX12_readItem 231 = .ok (.aload_n 0, 1) := by decide +kernel
theorem dX12_readItem_232 : decode cX12_readItem 232 = .ok (.iconst 0, 1) := by decide +kernel
theorem dX12_readItem_233 : decode cX12_readItem 233 = .ok (.bipush 50, 2) := by decide +kernel
theorem dX12_readItem_235 : decode cX12_readItem 235 = .ok (.invokevirtual 158, 3) := by decide +kernel
theorem dX12_readItem_238 : decode cX12_readItem 238 = .ok (.iastore, 1) := by decide +kernel
theorem dX12_readItem_239 : decode cX12_readItem 239 = .ok (.aload_n 0, 1) := by decide +kernel
theorem dX12_readItem_240 : decode cX12_readItem 240 = .ok (.iload_n 2, 1) := by decide +kernel
theorem dX12_readItem_241 : decode cX12_readItem 241 = .ok (.invokevirtual 168, 3) := by decide +kernel
theorem dX12_readItem_244 : decode cX12_readItem 244 = .ok (.goto 129, 3) := by decide +kernel
theorem dX12_readItem_247 : decode cX12_readItem 247 = .ok (.aload_n 0, 1) := by decide +kernel
theorem dX12_readItem_248 : decode cX12_readItem 248 = .ok (.getfield 86, 3) := by decide +kernel
theorem dX12_readItem_251 : decode cX12_readItem 251 = .ok (.iload_n 2, 1) := by decide +kernel
theorem dX12_readItem_252 : decode cX12_readItem 252 = .ok (.iconst 5, 1) := by decide +kernel
theorem dX12_readItem_253 : decode cX12_readItem 253 = .ok (.iastore, 1) := by decide +kernel
theorem dX12_readItem_254 : decode cX12_readItem 254 = .ok (.aload_n 0, 1) := by decide +kernel
theorem dX12_readItem_255 : decode cX12_readItem 255 = .ok (.getfield 93, 3) := by decide +kernel
theorem dX12_readItem_258 : decode cX12_readItem 258 = .ok (.iload_n 2, 1) := by decide +kernel
theorem dX12_readItem_259 : decode cX12_readItem 259 = .ok (.aload_n 0, 1) := by decide +kernel
theorem dX12_readItem_260 : decode cX12_readItem 260 = .ok (.iconst 1, 1) := by decide +kernel
theorem dX12_readItem_261 : decode cX12_readItem 261 = .ok (.bipush 9, 2) := by decide +kernel
theorem dX12_readItem_263 : decode cX12_readItem 263 = .ok (.invokevirtual 158, 3) := by decide +kernel
theorem dX12_readItem_266 : decode cX12_readItem 266 = .ok (.iastore, 1) := by decide +kernel
theorem dX12_readItem_267 : decode cX12_readItem 267 = .ok (.aload_n 0, 1) := by decide +kernel
theorem dX12_readItem_268 : decode cX12_readItem 268 = .ok (.bipush 47, 2) := by decide +kernel
theorem dX12_readItem_270 : decode cX12_readItem 270 = .ok (.invokevirtual 161, 3) := by decide +kernel
theorem dX12_readItem_273 : decode cX12_readItem 273 = .ok (.aload_n 0, 1) := by decide +kernel
theorem dX12_readItem_274 : decode cX12_readItem 274 = .ok (.getfield 96, 3) := by decide +kernel
theorem dX12_readItem_277 : decode cX12_readItem 277 = .ok (.iload_n 2, 1) := by decide +kernel
theorem dX12_readItem_278 : decode cX12_readItem 278 = .ok (.aload_n 0, 1) := by decide +kernel
theorem dX12_readItem_279 : decode cX12_readItem 279 = .ok (.iconst 1, 1) := by decide +kernel
theorem dX12_readItem_280 : decode cX12_readItem 280 = .ok (.bipush 9, 2) := by decide +kernel
theorem dX12_readItem_282 : decode cX12_readItem 282 = .ok (.invokevirtual 158, 3) := by decide +kernel
theorem dX12_readItem_285 : decode cX12_readItem 285 = .ok (.iastore, 1) := by decide +kernel
theorem dX12_readItem_286 : decode cX12_readItem 286 = .ok (.aload_n 0, 1) := by decide +kernel
theorem dX12_readItem_287 : decode cX12_readItem 287 = .ok (.iload_n 2, 1) := by decide +kernel
theorem dX12_readItem_288 : decode cX12_readItem 288 = .ok (.invokevirtual 168, 3) := by decide +kernel
theorem dX12_readItem_291 : decode cX12_readItem 291 = .ok (.goto 82, 3) := by decide +kernel
theorem dX12_readItem_294 : decode cX12_readItem 294 = .ok (.aload_n 0, 1) := by decide +kernel
theorem dX12_readItem_295 : decode cX12_readItem 295 = .ok (.getfield 86, 3) := by decide +kernel
theorem dX12_readItem_298 : decode cX12_readItem 298 = .ok (.iload_n 2, 1) := by decide +kernel
theorem dX12_readItem_299 : decode cX12_readItem 299 = .ok (.bipush 6, 2) := by decide +kernel
theorem dX12_readItem_301 : decode cX12_readItem 301 = .ok (.iastore, 1) := by decide +kernel
theorem dX12_readItem_302 : decode cX12_readItem 302 = .ok (.aload_n 0, 1) := by decide +kernel
theorem dX12_readItem_303 : decode cX12_readItem 303 = .ok (.getfield 93, 3) := by decide +kernel
theorem dX12_readItem_306 : decode cX12_readItem 306 = .ok (.iload_n 2, 1) := by decide +kernel
theorem dX12_readItem_307 : decode cX12_readItem 307 = .ok (.aload_n 0, 1) := by decide +kernel
theorem dX12_readItem_308 : decode cX12_readItem 308 = .ok (.invokevirtual 171, 3) := by decide +kernel
theorem dX12_readItem_311 : decode cX12_readItem 311 = .ok (.iastore, 1) := by decide +kernel
theorem dX12_readItem_312 : decode cX12_readItem 312 = .ok (.aload_n 0, 1) := by decide +kernel
theorem dX12_readItem_313 : decode cX12_readItem 313 = .ok (.getfield 96, 3) := by decide +kernel
theorem dX12_readItem_316 : decode cX12_readItem 316 = .ok (.iload_n 2, 1) := by decide +kernel
theorem dX12_readItem_317 : decode cX12_readItem 317 = .ok (.aload_n 0, 1) := by decide +kernel
theorem dX12_readItem_318 : decode cX12_readItem 318 = .ok (.invokevirtual 171, 3) := by decide +kernel
theorem dX12_readItem_321 : decode cX12_readItem 321 = .ok (.iastore, 1) := by decide +kernel
theorem dX12_readItem_322 : decode cX12_readItem 322 = .ok (.aload_n 0, 1) := by decide +kernel
theorem dX12_readItem_323 : decode cX12_readItem 323 = .ok (.iload_n 2, 1) := by decide +kernel
theorem dX12_readItem_324 : decode cX12_readItem 324 = .ok (.invokevirtual 168, 3) := by decide +kernel
theorem dX12_readItem_327 : decode cX12_readItem 327 = .ok (.goto 46, 3) := by decide +kernel
theorem dX12_readItem_330 : decode cX12_readItem 330 = .ok (.aload_n 0, 1) := by decide +kernel
theorem dX12_readItem_331 : decode cX12_readItem 331 = .ok (.iload_n 2, 1) := by decide +kernel
theorem dX12_readItem_332 : decode cX12_readItem 332 = .ok (.invokevirtual 174, 3) := by decide +kernel
theorem dX12_readItem_335 : decode cX12_readItem 335 = .ok (.goto 38, 3) := by decide +kernel
theorem dX12_readItem_338 : decode cX12_readItem 338 = .ok (.aload_n 0, 1) := by decide +kernel
theorem dX12_readItem_339 : decode cX12_readItem 339 = .ok (.iload_n 2, 1) := by decide +kernel
theorem dX12_readItem_340 : decode cX12_readItem 340 = .ok (.invokevirtual 177, 3) := by decide +kernel
theorem dX12_readItem_343 : decode cX12_readItem 343 = .ok (.goto 30, 3) := by decide +kernel
theorem dX12_readItem_346 : decode cX12_readItem 346 = .ok (.aload_n 0, 1) := by decide +kernel
theorem dX12_readItem_347 : decode cX12_readItem 347 = .ok (.iload_n 2, 1) := by decide +kernel
theorem dX12_readItem_348 : decode cX12_readItem 348 = .ok (.invokevirtual 180, 3) := by decide +kernel
theorem dX12_readItem_351 : decode cX12_readItem 351 = .ok (.goto 22, 3) := by decide +kernel
theorem dX12_readItem_354 : decode cX12_readItem 354 = .ok (.aload_n 0, 1) := by decide +kernel
theorem dX12_readItem_355 : decode cX12_readItem 355 = .ok (.iload_n 2, 1) := by decide +kernel
theorem dX12_readItem_356 : decode cX12_readItem 356 = .ok (.invokevirtual 183, 3) := by decide +kernel
theorem dX12_readItem_359 : decode cX12_readItem 359 = .ok (.goto 14, 3) := by decide +kernel
theorem dX12_readItem_362 : decode cX12_readItem 362 = .ok (.aload_n 0, 1) := by decide +kernel
theorem dX12_readItem_363 : decode cX12_readItem 363 = .ok (.iconst 1, 1) := by decide +kernel
theorem dX12_readItem_364 : decode cX12_readItem 364 = .ok (.aload_n 0, 1) := by decide +kernel
theorem dX12_readItem_365 : decode cX12_readItem 365 = .ok (.getfield 29, 3) := by decide +kernel
theorem dX12_readItem_368 : decode cX12_readItem 368 = .ok (.iconst 1, 1) := by decide +kernel
theorem dX12_readItem_369 : decode cX12_readItem 369 = .ok (.isub, 1) := by decide +kernel
theorem dX12_readItem_370 : decode cX12_readItem 370 = .ok (.invokevirtual 50, 3) := by decide +kernel
theorem dX12_readItem_373 : decode cX12_readItem 373 = .ok (.return_, 1) := by decide +kernel
abbrev rm_X12_readItem : Room := { frames := 5, cells := 0, slots := 0, locals := 129 }
def wp_X12_readItem (a : Nat) (S : PS) (Q : PS → Prop) : Prop :=
  wp_X12_here a S (fun (r2 : Int32) (S1 : PS) => 
 wp_X12_isTone r2 S1 (fun (r4 : Int32) (S3 : PS) => 
 (∀ K24_6 : PS → Prop, (∀ (S5 : PS),
 wp_X12_tones a S5 (fun (S7 : PS) => 
 Q S7)
 → K24_6 S5) →
 (if r4 = 0 then
 (if r2 = 114 then
 K24_6 S3
 else
 (if r2 = 60 then
 K24_6 S3
 else
 wp_X12_item a 1 (fI S3 101 a) S3 (fun (r9 : Int32) (S8 : PS) => 
 wp_X12_hang a r9 S8 (fun (S10 : PS) => 
 (∀ S11, S11 = sI S10 101 a ((fI S10 101 a) + 1) → (if r2 = 36 then
 wp_X12_useAt a r9 S11 (fun (S12 : PS) => 
 Q S12)
 else (if r2 = 61 then
 wp_X12_namedAt a r9 S11 (fun (S14 : PS) => 
 Q S14)
 else (if r2 = 76 then
 (∃ b16, fR S11 105 a = some b16 ∧ (vp_in r9 (aN S11 b16) ∧ ∀ S17, S17 = wI S11 42 b16 (r9).toNatClampNeg 3 → wp_X12_itsBlock a r9 S17 (fun (S18 : PS) => 
 Q S18)))
 else (if r2 = 77 then
 (∃ b20, fR S11 105 a = some b20 ∧ (vp_in r9 (aN S11 b20) ∧ ∀ S21, S21 = wI S11 42 b20 (r9).toNatClampNeg 2 → (∃ b22, fR S21 107 a = some b22 ∧ wp_X12_number a 1 32 S21 (fun (r24 : Int32) (S23 : PS) => 
 (vp_in r9 (aN S23 b22) ∧ ∀ S25, S25 = wI S23 44 b22 (r9).toNatClampNeg r24 → wp_X12_want a 47 S25 (fun (S26 : PS) => 
 wp_X12_blanks a S26 (fun (S27 : PS) => 
 (∃ b28, fR S27 108 a = some b28 ∧ (∀ K200_33 : Nat → Int32 → Int32 → PS → Prop, (∀ (t29 : Nat) (t30 : Int32) (t31 : Int32) (S32 : PS),
 (vp_in t30 (aN S32 t29) ∧ ∀ S34, S34 = wI S32 45 t29 (t30).toNatClampNeg t31 → Q S34)
 → K200_33 t29 t30 t31 S32) →
 (if fI S27 102 a = 0 then
 wp_X12_halved a 32 S27 (fun (r36 : Int64) (S35 : PS) => 
 K200_33 b28 r9 (r36.toInt32) S35)
 else
 K200_33 b28 r9 0 S27))))))))))
 else (if r2 = 82 then
 (∃ b38, fR S11 105 a = some b38 ∧ (vp_in r9 (aN S11 b38) ∧ ∀ S39, S39 = wI S11 42 b38 (r9).toNatClampNeg 4 → (∃ b40, fR S39 107 a = some b40 ∧ wp_X12_number a 0 50 S39 (fun (r42 : Int32) (S41 : PS) => 
 (vp_in r9 (aN S41 b40) ∧ ∀ S43, S43 = wI S41 44 b40 (r9).toNatClampNeg r42 → wp_X12_itsBlock a r9 S43 (fun (S44 : PS) => 
 Q S44))))))
 else (if r2 = 84 then
 (∃ b46, fR S11 105 a = some b46 ∧ (vp_in r9 (aN S11 b46) ∧ ∀ S47, S47 = wI S11 42 b46 (r9).toNatClampNeg 5 → (∃ b48, fR S47 107 a = some b48 ∧ wp_X12_number a 1 9 S47 (fun (r50 : Int32) (S49 : PS) => 
 (vp_in r9 (aN S49 b48) ∧ ∀ S51, S51 = wI S49 44 b48 (r9).toNatClampNeg r50 → wp_X12_want a 47 S51 (fun (S52 : PS) => 
 (∃ b53, fR S52 108 a = some b53 ∧ wp_X12_number a 1 9 S52 (fun (r55 : Int32) (S54 : PS) => 
 (vp_in r9 (aN S54 b53) ∧ ∀ S56, S56 = wI S54 45 b53 (r9).toNatClampNeg r55 → wp_X12_itsBlock a r9 S56 (fun (S57 : PS) => 
 Q S57))))))))))
 else (if r2 = 87 then
 wp_X12_wordsAt a r9 S11 (fun (S59 : PS) => 
 Q S59)
 else (if r2 = 88 then
 (∃ b61, fR S11 105 a = some b61 ∧ (vp_in r9 (aN S11 b61) ∧ ∀ S62, S62 = wI S11 42 b61 (r9).toNatClampNeg 6 → (∃ b63, fR S62 107 a = some b63 ∧ wp_X12_signed a S62 (fun (r65 : Int32) (S64 : PS) => 
 (vp_in r9 (aN S64 b63) ∧ ∀ S66, S66 = wI S64 44 b63 (r9).toNatClampNeg r65 → (∃ b67, fR S66 108 a = some b67 ∧ wp_X12_signed a S66 (fun (r69 : Int32) (S68 : PS) => 
 (vp_in r9 (aN S68 b67) ∧ ∀ S70, S70 = wI S68 45 b67 (r9).toNatClampNeg r69 → wp_X12_itsBlock a r9 S70 (fun (S71 : PS) => 
 Q S71)))))))))
 else (if r2 = 91 then
 wp_X12_voicesAt a r9 S11 (fun (S73 : PS) => 
 Q S73)
 else (if r2 = 124 then
 Q S11
 else wp_X12_bad a 1 ((fI S11 101 a) - 1) S11 (fun (S76 : PS) => 
 Q S76))))))))))))))))
 else
 K24_6 S3))))
set_option maxRecDepth 100000 in
set_option maxHeartbeats 4000000 in
theorem c_X12_readItem {l : Launch} {E : EE} {A : Nat → Prop} {a : Nat} {S : PS} {Q : PS → Prop} (r_a : Rf S a 9) (h : wp_X12_readItem a S Q) : MtV l yX12_readItem (.code yX12_readItem cX12_readItem 3 none) rm_X12_readItem E A [.ref a] S Q := by
  refine MtV.of (by decide) (Nat.le_of_ble_eq_true rfl) (fun X F hQ hN => ?_)
  show VV X (0, 0) S [(0, .ref a)] [] 0
  unfold wp_X12_readItem at h
  refine v_aload_n F dX12_readItem_0 0 rfl rfl ?_
  refine v_cI0 (v_runV F k_X12_38 rfl (c_X12_here r_a h) r_a rfl rfl (Nat.le_of_ble_eq_true rfl) (by decide) (by decide) dX12_readItem_1) ⟨rfl, rfl⟩ (fun r2 S1 h hE => ?_)
  have r_a := r_a.tr hE
  refine v_istore_n (lv1 := [(1, .int r2), (0, .ref a)]) F dX12_readItem_4 rfl (by rw [hN]; decide) rfl ?_
  refine v_iload_n F dX12_readItem_5 0 rfl rfl ?_
  refine v_cI0 (v_runS F k_X12_149 (c_X12_isTone h) rfl rfl (Nat.le_of_ble_eq_true rfl) (by decide) (by decide) dX12_readItem_6) ⟨rfl, rfl⟩ (fun r4 S3 h hE => ?_)
  obtain ⟨nz_r4, h⟩ := h
  have r_a := r_a.tr hE
  have h := h (fun (S5 : PS) => Rf S5 a 9 → VV X (0, 0) S5 [(0, .ref a)] [] 24) (by
    intro S5 h r_a
    refine v_aload_n F dX12_readItem_24 0 rfl rfl ?_
    refine v_cV0 (v_runV F k_X12_152 rfl (c_X12_tones r_a h) r_a rfl rfl (Nat.le_of_ble_eq_true rfl) (by decide) (by decide) dX12_readItem_25) ⟨rfl, rfl⟩ (fun  S7 h hE => ?_)
    have r_a := r_a.tr hE
    exact v_vret F hQ h (by decide) dX12_readItem_28)
  refine v_if_ne (tgt := 24) F dX12_readItem_9 (by decide) h (fun h => ?_) (fun h => ?_)
  · exact v_sub [1] rfl (h r_a)
  · refine v_iload_n F dX12_readItem_12 0 rfl rfl ?_
    refine v_bipush (v := 114) F dX12_readItem_13 (by decide) ?_
    refine v_icmp_eq (tgt := 24) F dX12_readItem_15 (by decide) h (fun h => ?_) (fun h => ?_)
    · exact v_sub [1] rfl (h r_a)
    · refine v_iload_n F dX12_readItem_18 0 rfl rfl ?_
      refine v_bipush (v := 60) F dX12_readItem_19 (by decide) ?_
      refine v_icmp_ne (tgt := 29) F dX12_readItem_21 (by decide) h (fun h => ?_) (fun h => ?_)
      · refine v_aload_n F dX12_readItem_29 1 rfl rfl ?_
        refine v_iconst (v := 1) F dX12_readItem_30 (by decide) ?_
        refine v_aload_n F dX12_readItem_31 1 rfl rfl ?_
        refine g_X12_29 F r_a dX12_readItem_32 ?_
        refine v_cI0 (v_runV F k_X12_128 rfl (c_X12_item r_a h) r_a rfl rfl (Nat.le_of_ble_eq_true rfl) (by decide) (by decide) dX12_readItem_35) ⟨rfl, rfl⟩ (fun r9 S8 h hE => ?_)
        have r_a := r_a.tr hE
        refine v_istore_n (lv1 := [(2, .int r9), (1, .int r2), (0, .ref a)]) F dX12_readItem_38 rfl (by rw [hN]; decide) rfl ?_
        refine v_aload_n F dX12_readItem_39 2 rfl rfl ?_
        refine v_iload_n F dX12_readItem_40 0 rfl rfl ?_
        refine v_cV0 (v_runV F k_X12_155 rfl (c_X12_hang r_a h) r_a rfl rfl (Nat.le_of_ble_eq_true rfl) (by decide) (by decide) dX12_readItem_41) ⟨rfl, rfl⟩ (fun  S10 h hE => ?_)
        have r_a := r_a.tr hE
        refine v_aload_n F dX12_readItem_44 2 rfl rfl ?_
        refine v_dup F dX12_readItem_45 rfl ?_
        refine g_X12_29 F r_a dX12_readItem_46 ?_
        refine v_iconst (v := 1) F dX12_readItem_49 (by decide) ?_
        refine v_iadd F dX12_readItem_50 ?_
        refine p_X12_29 F r_a h dX12_readItem_51 (fun S11 h hE => ?_)
        have r_a := r_a.tr hE
        refine v_iload_n F dX12_readItem_54 1 rfl rfl ?_
        refine v_case h (fun e13 h => ?_) (fun e13 h => ?_)
        · refine v_lookupL (l := [(36, 299), (61, 291), (76, 149), (77, 92), (82, 164), (84, 192), (87, 283), (88, 239), (91, 275), (124, 89)]) (off := 299) (tgt := 354) F dX12_readItem_55 rfl (by decide) (by rw [e13] <;> rfl) (by decide) ?_
          refine v_aload_n F dX12_readItem_354 2 rfl rfl ?_
          refine v_iload_n F dX12_readItem_355 0 rfl rfl ?_
          refine v_cV0 (v_runV F k_X12_183 rfl (c_X12_useAt r_a h) r_a rfl rfl (Nat.le_of_ble_eq_true rfl) (by decide) (by decide) dX12_readItem_356) ⟨rfl, rfl⟩ (fun  S12 h hE => ?_)
          have r_a := r_a.tr hE
          refine v_goto (tgt := 373) F dX12_readItem_359 (by decide) ?_
          exact v_vret F hQ h (by decide) dX12_readItem_373
        refine v_case h (fun e15 h => ?_) (fun e15 h => ?_)
        · refine v_lookupL (l := [(36, 299), (61, 291), (76, 149), (77, 92), (82, 164), (84, 192), (87, 283), (88, 239), (91, 275), (124, 89)]) (off := 291) (tgt := 346) F dX12_readItem_55 rfl (by decide) (by rw [e15] <;> rfl) (by decide) ?_
          refine v_aload_n F dX12_readItem_346 2 rfl rfl ?_
          refine v_iload_n F dX12_readItem_347 0 rfl rfl ?_
          refine v_cV0 (v_runV F k_X12_180 rfl (c_X12_namedAt r_a h) r_a rfl rfl (Nat.le_of_ble_eq_true rfl) (by decide) (by decide) dX12_readItem_348) ⟨rfl, rfl⟩ (fun  S14 h hE => ?_)
          have r_a := r_a.tr hE
          refine v_goto (tgt := 373) F dX12_readItem_351 (by decide) ?_
          exact v_vret F hQ h (by decide) dX12_readItem_373
        refine v_case h (fun e19 h => ?_) (fun e19 h => ?_)
        · refine v_lookupL (l := [(36, 299), (61, 291), (76, 149), (77, 92), (82, 164), (84, 192), (87, 283), (88, 239), (91, 275), (124, 89)]) (off := 149) (tgt := 204) F dX12_readItem_55 rfl (by decide) (by rw [e19] <;> rfl) (by decide) ?_
          refine v_aload_n F dX12_readItem_204 2 rfl rfl ?_
          refine g_X12_86 F r_a h dX12_readItem_205 (fun b16 r_b16 h => ?_)
          refine v_iload_n F dX12_readItem_208 0 rfl rfl ?_
          refine v_iconst (v := 3) F dX12_readItem_209 (by decide) ?_
          refine v_iast F r_b16 o_42 h dX12_readItem_210 (fun S17 h hE => ?_)
          have r_a := r_a.tr hE
          refine v_aload_n F dX12_readItem_211 2 rfl rfl ?_
          refine v_iload_n F dX12_readItem_212 0 rfl rfl ?_
          refine v_cV0 (v_runV F k_X12_168 rfl (c_X12_itsBlock r_a h) r_a rfl rfl (Nat.le_of_ble_eq_true rfl) (by decide) (by decide) dX12_readItem_213) ⟨rfl, rfl⟩ (fun  S18 h hE => ?_)
          have r_a := r_a.tr hE
          refine v_goto (tgt := 373) F dX12_readItem_216 (by decide) ?_
          exact v_vret F hQ h (by decide) dX12_readItem_373
        refine v_case h (fun e37 h => ?_) (fun e37 h => ?_)
        · refine v_lookupL (l := [(36, 299), (61, 291), (76, 149), (77, 92), (82, 164), (84, 192), (87, 283), (88, 239), (91, 275), (124, 89)]) (off := 92) (tgt := 147) F dX12_readItem_55 rfl (by decide) (by rw [e37] <;> rfl) (by decide) ?_
          refine v_aload_n F dX12_readItem_147 2 rfl rfl ?_
          refine g_X12_86 F r_a h dX12_readItem_148 (fun b20 r_b20 h => ?_)
          refine v_iload_n F dX12_readItem_151 0 rfl rfl ?_
          refine v_iconst (v := 2) F dX12_readItem_152 (by decide) ?_
          refine v_iast F r_b20 o_42 h dX12_readItem_153 (fun S21 h hE => ?_)
          have r_a := r_a.tr hE
          refine v_aload_n F dX12_readItem_154 2 rfl rfl ?_
          refine g_X12_93 F r_a h dX12_readItem_155 (fun b22 r_b22 h => ?_)
          refine v_iload_n F dX12_readItem_158 0 rfl rfl ?_
          refine v_aload_n F dX12_readItem_159 2 rfl rfl ?_
          refine v_iconst (v := 1) F dX12_readItem_160 (by decide) ?_
          refine v_bipush (v := 32) F dX12_readItem_161 (by decide) ?_
          refine v_cI0 (v_runV F k_X12_158 rfl (c_X12_number r_a h) r_a rfl rfl (Nat.le_of_ble_eq_true rfl) (by decide) (by decide) dX12_readItem_163) ⟨rfl, rfl⟩ (fun r24 S23 h hE => ?_)
          have r_a := r_a.tr hE
          have r_b22 := r_b22.tr hE
          refine v_iast F r_b22 o_44 h dX12_readItem_166 (fun S25 h hE => ?_)
          have r_a := r_a.tr hE
          refine v_aload_n F dX12_readItem_167 2 rfl rfl ?_
          refine v_bipush (v := 47) F dX12_readItem_168 (by decide) ?_
          refine v_cV0 (v_runV F k_X12_161 rfl (c_X12_want r_a h) r_a rfl rfl (Nat.le_of_ble_eq_true rfl) (by decide) (by decide) dX12_readItem_170) ⟨rfl, rfl⟩ (fun  S26 h hE => ?_)
          have r_a := r_a.tr hE
          refine v_aload_n F dX12_readItem_173 2 rfl rfl ?_
          refine v_cV0 (v_runV F k_X12_46 rfl (c_X12_blanks r_a h) r_a rfl rfl (Nat.le_of_ble_eq_true rfl) (by decide) (by decide) dX12_readItem_174) ⟨rfl, rfl⟩ (fun  S27 h hE => ?_)
          have r_a := r_a.tr hE
          refine v_aload_n F dX12_readItem_177 2 rfl rfl ?_
          refine g_X12_96 F r_a h dX12_readItem_178 (fun b28 r_b28 h => ?_)
          refine v_iload_n F dX12_readItem_181 0 rfl rfl ?_
          refine v_aload_n F dX12_readItem_182 2 rfl rfl ?_
          refine g_X12_23 F r_a dX12_readItem_183 ?_
          have h := h (fun (t29 : Nat) (t30 : Int32) (t31 : Int32) (S32 : PS) => Rf S32 t29 45 → VV X (0, 0) S32 [] [.int t31, .int t30, .ref t29] 200) (by
            intro t29 t30 t31 S32 h r_t29
            refine v_iast F r_t29 o_45 h dX12_readItem_200 (fun S34 h hE => ?_)
            refine v_goto (tgt := 373) F dX12_readItem_201 (by decide) ?_
            exact v_vret F hQ h (by decide) dX12_readItem_373)
          refine v_if_ne (tgt := 199) F dX12_readItem_186 (by decide) h (fun h => ?_) (fun h => ?_)
          · refine v_iconst (v := 0) F dX12_readItem_199 (by decide) ?_
            exact v_sub [] rfl (h r_b28)
          · refine v_aload_n F dX12_readItem_189 2 rfl rfl ?_
            refine v_bipush (v := 32) F dX12_readItem_190 (by decide) ?_
            refine v_cL0 (v_runV F k_X12_164 rfl (c_X12_halved r_a h) r_a rfl rfl (Nat.le_of_ble_eq_true rfl) (by decide) (by decide) dX12_readItem_192) ⟨rfl, rfl⟩ (fun r36 S35 h hE => ?_)
            have r_a := r_a.tr hE
            have r_b28 := r_b28.tr hE
            refine v_l2i F dX12_readItem_195 ?_
            refine v_goto (tgt := 200) F dX12_readItem_196 (by decide) ?_
            exact v_sub [] rfl (h r_b28)
        refine v_case h (fun e45 h => ?_) (fun e45 h => ?_)
        · refine v_lookupL (l := [(36, 299), (61, 291), (76, 149), (77, 92), (82, 164), (84, 192), (87, 283), (88, 239), (91, 275), (124, 89)]) (off := 164) (tgt := 219) F dX12_readItem_55 rfl (by decide) (by rw [e45] <;> rfl) (by decide) ?_
          refine v_aload_n F dX12_readItem_219 2 rfl rfl ?_
          refine g_X12_86 F r_a h dX12_readItem_220 (fun b38 r_b38 h => ?_)
          refine v_iload_n F dX12_readItem_223 0 rfl rfl ?_
          refine v_iconst (v := 4) F dX12_readItem_224 (by decide) ?_
          refine v_iast F r_b38 o_42 h dX12_readItem_225 (fun S39 h hE => ?_)
          have r_a := r_a.tr hE
          refine v_aload_n F dX12_readItem_226 2 rfl rfl ?_
          refine g_X12_93 F r_a h dX12_readItem_227 (fun b40 r_b40 h => ?_)
          refine v_iload_n F dX12_readItem_230 0 rfl rfl ?_
          refine v_aload_n F dX12_readItem_231 2 rfl rfl ?_
          refine v_iconst (v := 0) F dX12_readItem_232 (by decide) ?_
          refine v_bipush (v := 50) F dX12_readItem_233 (by decide) ?_
          refine v_cI0 (v_runV F k_X12_158 rfl (c_X12_number r_a h) r_a rfl rfl (Nat.le_of_ble_eq_true rfl) (by decide) (by decide) dX12_readItem_235) ⟨rfl, rfl⟩ (fun r42 S41 h hE => ?_)
          have r_a := r_a.tr hE
          have r_b40 := r_b40.tr hE
          refine v_iast F r_b40 o_44 h dX12_readItem_238 (fun S43 h hE => ?_)
          have r_a := r_a.tr hE
          refine v_aload_n F dX12_readItem_239 2 rfl rfl ?_
          refine v_iload_n F dX12_readItem_240 0 rfl rfl ?_
          refine v_cV0 (v_runV F k_X12_168 rfl (c_X12_itsBlock r_a h) r_a rfl rfl (Nat.le_of_ble_eq_true rfl) (by decide) (by decide) dX12_readItem_241) ⟨rfl, rfl⟩ (fun  S44 h hE => ?_)
          have r_a := r_a.tr hE
          refine v_goto (tgt := 373) F dX12_readItem_244 (by decide) ?_
          exact v_vret F hQ h (by decide) dX12_readItem_373
        refine v_case h (fun e58 h => ?_) (fun e58 h => ?_)
        · refine v_lookupL (l := [(36, 299), (61, 291), (76, 149), (77, 92), (82, 164), (84, 192), (87, 283), (88, 239), (91, 275), (124, 89)]) (off := 192) (tgt := 247) F dX12_readItem_55 rfl (by decide) (by rw [e58] <;> rfl) (by decide) ?_
          refine v_aload_n F dX12_readItem_247 2 rfl rfl ?_
          refine g_X12_86 F r_a h dX12_readItem_248 (fun b46 r_b46 h => ?_)
          refine v_iload_n F dX12_readItem_251 0 rfl rfl ?_
          refine v_iconst (v := 5) F dX12_readItem_252 (by decide) ?_
          refine v_iast F r_b46 o_42 h dX12_readItem_253 (fun S47 h hE => ?_)
          have r_a := r_a.tr hE
          refine v_aload_n F dX12_readItem_254 2 rfl rfl ?_
          refine g_X12_93 F r_a h dX12_readItem_255 (fun b48 r_b48 h => ?_)
          refine v_iload_n F dX12_readItem_258 0 rfl rfl ?_
          refine v_aload_n F dX12_readItem_259 2 rfl rfl ?_
          refine v_iconst (v := 1) F dX12_readItem_260 (by decide) ?_
          refine v_bipush (v := 9) F dX12_readItem_261 (by decide) ?_
          refine v_cI0 (v_runV F k_X12_158 rfl (c_X12_number r_a h) r_a rfl rfl (Nat.le_of_ble_eq_true rfl) (by decide) (by decide) dX12_readItem_263) ⟨rfl, rfl⟩ (fun r50 S49 h hE => ?_)
          have r_a := r_a.tr hE
          have r_b48 := r_b48.tr hE
          refine v_iast F r_b48 o_44 h dX12_readItem_266 (fun S51 h hE => ?_)
          have r_a := r_a.tr hE
          refine v_aload_n F dX12_readItem_267 2 rfl rfl ?_
          refine v_bipush (v := 47) F dX12_readItem_268 (by decide) ?_
          refine v_cV0 (v_runV F k_X12_161 rfl (c_X12_want r_a h) r_a rfl rfl (Nat.le_of_ble_eq_true rfl) (by decide) (by decide) dX12_readItem_270) ⟨rfl, rfl⟩ (fun  S52 h hE => ?_)
          have r_a := r_a.tr hE
          refine v_aload_n F dX12_readItem_273 2 rfl rfl ?_
          refine g_X12_96 F r_a h dX12_readItem_274 (fun b53 r_b53 h => ?_)
          refine v_iload_n F dX12_readItem_277 0 rfl rfl ?_
          refine v_aload_n F dX12_readItem_278 2 rfl rfl ?_
          refine v_iconst (v := 1) F dX12_readItem_279 (by decide) ?_
          refine v_bipush (v := 9) F dX12_readItem_280 (by decide) ?_
          refine v_cI0 (v_runV F k_X12_158 rfl (c_X12_number r_a h) r_a rfl rfl (Nat.le_of_ble_eq_true rfl) (by decide) (by decide) dX12_readItem_282) ⟨rfl, rfl⟩ (fun r55 S54 h hE => ?_)
          have r_a := r_a.tr hE
          have r_b53 := r_b53.tr hE
          refine v_iast F r_b53 o_45 h dX12_readItem_285 (fun S56 h hE => ?_)
          have r_a := r_a.tr hE
          refine v_aload_n F dX12_readItem_286 2 rfl rfl ?_
          refine v_iload_n F dX12_readItem_287 0 rfl rfl ?_
          refine v_cV0 (v_runV F k_X12_168 rfl (c_X12_itsBlock r_a h) r_a rfl rfl (Nat.le_of_ble_eq_true rfl) (by decide) (by decide) dX12_readItem_288) ⟨rfl, rfl⟩ (fun  S57 h hE => ?_)
          have r_a := r_a.tr hE
          refine v_goto (tgt := 373) F dX12_readItem_291 (by decide) ?_
          exact v_vret F hQ h (by decide) dX12_readItem_373
        refine v_case h (fun e60 h => ?_) (fun e60 h => ?_)
        · refine v_lookupL (l := [(36, 299), (61, 291), (76, 149), (77, 92), (82, 164), (84, 192), (87, 283), (88, 239), (91, 275), (124, 89)]) (off := 283) (tgt := 338) F dX12_readItem_55 rfl (by decide) (by rw [e60] <;> rfl) (by decide) ?_
          refine v_aload_n F dX12_readItem_338 2 rfl rfl ?_
          refine v_iload_n F dX12_readItem_339 0 rfl rfl ?_
          refine v_cV0 (v_runV F k_X12_177 rfl (c_X12_wordsAt r_a h) r_a rfl rfl (Nat.le_of_ble_eq_true rfl) (by decide) (by decide) dX12_readItem_340) ⟨rfl, rfl⟩ (fun  S59 h hE => ?_)
          have r_a := r_a.tr hE
          refine v_goto (tgt := 373) F dX12_readItem_343 (by decide) ?_
          exact v_vret F hQ h (by decide) dX12_readItem_373
        refine v_case h (fun e72 h => ?_) (fun e72 h => ?_)
        · refine v_lookupL (l := [(36, 299), (61, 291), (76, 149), (77, 92), (82, 164), (84, 192), (87, 283), (88, 239), (91, 275), (124, 89)]) (off := 239) (tgt := 294) F dX12_readItem_55 rfl (by decide) (by rw [e72] <;> rfl) (by decide) ?_
          refine v_aload_n F dX12_readItem_294 2 rfl rfl ?_
          refine g_X12_86 F r_a h dX12_readItem_295 (fun b61 r_b61 h => ?_)
          refine v_iload_n F dX12_readItem_298 0 rfl rfl ?_
          refine v_bipush (v := 6) F dX12_readItem_299 (by decide) ?_
          refine v_iast F r_b61 o_42 h dX12_readItem_301 (fun S62 h hE => ?_)
          have r_a := r_a.tr hE
          refine v_aload_n F dX12_readItem_302 2 rfl rfl ?_
          refine g_X12_93 F r_a h dX12_readItem_303 (fun b63 r_b63 h => ?_)
          refine v_iload_n F dX12_readItem_306 0 rfl rfl ?_
          refine v_aload_n F dX12_readItem_307 2 rfl rfl ?_
          refine v_cI0 (v_runV F k_X12_171 rfl (c_X12_signed r_a h) r_a rfl rfl (Nat.le_of_ble_eq_true rfl) (by decide) (by decide) dX12_readItem_308) ⟨rfl, rfl⟩ (fun r65 S64 h hE => ?_)
          have r_a := r_a.tr hE
          have r_b63 := r_b63.tr hE
          refine v_iast F r_b63 o_44 h dX12_readItem_311 (fun S66 h hE => ?_)
          have r_a := r_a.tr hE
          refine v_aload_n F dX12_readItem_312 2 rfl rfl ?_
          refine g_X12_96 F r_a h dX12_readItem_313 (fun b67 r_b67 h => ?_)
          refine v_iload_n F dX12_readItem_316 0 rfl rfl ?_
          refine v_aload_n F dX12_readItem_317 2 rfl rfl ?_
          refine v_cI0 (v_runV F k_X12_171 rfl (c_X12_signed r_a h) r_a rfl rfl (Nat.le_of_ble_eq_true rfl) (by decide) (by decide) dX12_readItem_318) ⟨rfl, rfl⟩ (fun r69 S68 h hE => ?_)
          have r_a := r_a.tr hE
          have r_b67 := r_b67.tr hE
          refine v_iast F r_b67 o_45 h dX12_readItem_321 (fun S70 h hE => ?_)
          have r_a := r_a.tr hE
          refine v_aload_n F dX12_readItem_322 2 rfl rfl ?_
          refine v_iload_n F dX12_readItem_323 0 rfl rfl ?_
          refine v_cV0 (v_runV F k_X12_168 rfl (c_X12_itsBlock r_a h) r_a rfl rfl (Nat.le_of_ble_eq_true rfl) (by decide) (by decide) dX12_readItem_324) ⟨rfl, rfl⟩ (fun  S71 h hE => ?_)
          have r_a := r_a.tr hE
          refine v_goto (tgt := 373) F dX12_readItem_327 (by decide) ?_
          exact v_vret F hQ h (by decide) dX12_readItem_373
        refine v_case h (fun e74 h => ?_) (fun e74 h => ?_)
        · refine v_lookupL (l := [(36, 299), (61, 291), (76, 149), (77, 92), (82, 164), (84, 192), (87, 283), (88, 239), (91, 275), (124, 89)]) (off := 275) (tgt := 330) F dX12_readItem_55 rfl (by decide) (by rw [e74] <;> rfl) (by decide) ?_
          refine v_aload_n F dX12_readItem_330 2 rfl rfl ?_
          refine v_iload_n F dX12_readItem_331 0 rfl rfl ?_
          refine v_cV0 (v_runV F k_X12_174 rfl (c_X12_voicesAt r_a h) r_a rfl rfl (Nat.le_of_ble_eq_true rfl) (by decide) (by decide) dX12_readItem_332) ⟨rfl, rfl⟩ (fun  S73 h hE => ?_)
          have r_a := r_a.tr hE
          refine v_goto (tgt := 373) F dX12_readItem_335 (by decide) ?_
          exact v_vret F hQ h (by decide) dX12_readItem_373
        refine v_case h (fun e75 h => ?_) (fun e75 h => ?_)
        · refine v_lookupL (l := [(36, 299), (61, 291), (76, 149), (77, 92), (82, 164), (84, 192), (87, 283), (88, 239), (91, 275), (124, 89)]) (off := 89) (tgt := 144) F dX12_readItem_55 rfl (by decide) (by rw [e75] <;> rfl) (by decide) ?_
          refine v_goto (tgt := 373) F dX12_readItem_144 (by decide) ?_
          exact v_vret F hQ h (by decide) dX12_readItem_373
        refine v_lookupL (l := [(36, 299), (61, 291), (76, 149), (77, 92), (82, 164), (84, 192), (87, 283), (88, 239), (91, 275), (124, 89)]) (off := 307) (tgt := 362) F dX12_readItem_55 rfl (by decide) (by rw [lv_osw (a := 36) e13 rfl, lv_osw (a := 61) e15 rfl, lv_osw (a := 76) e19 rfl, lv_osw (a := 77) e37 rfl, lv_osw (a := 82) e45 rfl, lv_osw (a := 84) e58 rfl, lv_osw (a := 87) e60 rfl, lv_osw (a := 88) e72 rfl, lv_osw (a := 91) e74 rfl, lv_osw (a := 124) e75 rfl]; rfl) (by decide) ?_
        refine v_aload_n F dX12_readItem_362 2 rfl rfl ?_
        refine v_iconst (v := 1) F dX12_readItem_363 (by decide) ?_
        refine v_aload_n F dX12_readItem_364 2 rfl rfl ?_
        refine g_X12_29 F r_a dX12_readItem_365 ?_
        refine v_iconst (v := 1) F dX12_readItem_368 (by decide) ?_
        refine v_isub F dX12_readItem_369 ?_
        refine v_cV0 (v_runV F k_X12_50 rfl (c_X12_bad r_a h) r_a rfl rfl (Nat.le_of_ble_eq_true rfl) (by decide) (by decide) dX12_readItem_370) ⟨rfl, rfl⟩ (fun  S76 h hE => ?_)
        have r_a := r_a.tr hE
        exact v_vret F hQ h (by decide) dX12_readItem_373
      · exact v_sub [1] rfl (h r_a)
theorem dX12_endNaming_0 : decode cX12_endNaming 0 = .ok (.aload_n 0, 1) := by decide +kernel
theorem dX12_endNaming_1 : decode cX12_endNaming 1 = .ok (.iconst 0, 1) := by decide +kernel
theorem dX12_endNaming_2 : decode cX12_endNaming 2 = .ok (.putfield 246, 3) := by decide +kernel
theorem dX12_endNaming_5 : decode cX12_endNaming 5 = .ok (.aload_n 0, 1) := by decide +kernel
theorem dX12_endNaming_6 : decode cX12_endNaming 6 = .ok (.getfield 99, 3) := by decide +kernel
theorem dX12_endNaming_9 : decode cX12_endNaming 9 = .ok (.iload_n 1, 1) := by decide +kernel
theorem dX12_endNaming_10 : decode cX12_endNaming 10 = .ok (.iload_n 2, 1) := by decide +kernel
theorem dX12_endNaming_11 : decode cX12_endNaming 11 = .ok (.iastore, 1) := by decide +kernel
theorem dX12_endNaming_12 : decode cX12_endNaming 12 = .ok (.aload_n 0, 1) := by decide +kernel
theorem dX12_endNaming_13 : decode cX12_endNaming 13 = .ok (.getfield 233, 3) := by decide +kernel
theorem dX12_endNaming_16 : decode cX12_endNaming 16 = .ok (.aload_n 0, 1) := by decide +kernel
theorem dX12_endNaming_17 : decode cX12_endNaming 17 = .ok (.getfield 230, 3) := by decide +kernel
theorem dX12_endNaming_20 : decode cX12_endNaming 20 = .ok (.aload_n 0, 1) := by decide +kernel
theorem dX12_endNaming_21 : decode cX12_endNaming 21 = .ok (.getfield 250, 3) := by decide +kernel
theorem dX12_endNaming_24 : decode cX12_endNaming 24 = .ok (.iconst 0, 1) := by decide +kernel
theorem dX12_endNaming_25 : decode cX12_endNaming 25 = .ok (.iaload, 1) := by decide +kernel
theorem dX12_endNaming_26 : decode cX12_endNaming 26 = .ok (.iastore, 1) := by decide +kernel
theorem dX12_endNaming_27 : decode cX12_endNaming 27 = .ok (.aload_n 0, 1) := by decide +kernel
theorem dX12_endNaming_28 : decode cX12_endNaming 28 = .ok (.getfield 236, 3) := by decide +kernel
theorem dX12_endNaming_31 : decode cX12_endNaming 31 = .ok (.aload_n 0, 1) := by decide +kernel
theorem dX12_endNaming_32 : decode cX12_endNaming 32 = .ok (.getfield 230, 3) := by decide +kernel
theorem dX12_endNaming_35 : decode cX12_endNaming 35 = .ok (.aload_n 0, 1) := by decide +kernel
theorem dX12_endNaming_36 : decode cX12_endNaming 36 = .ok (.getfield 253, 3) := by decide +kernel
theorem dX12_endNaming_39 : decode cX12_endNaming 39 = .ok (.iconst 0, 1) := by decide +kernel
theorem dX12_endNaming_40 : decode cX12_endNaming 40 = .ok (.iaload, 1) := by decide +kernel
theorem dX12_endNaming_41 : decode cX12_endNaming 41 = .ok (.iastore, 1) := by decide +kernel
theorem dX12_endNaming_42 : decode cX12_endNaming 42 = .ok (.aload_n 0, 1) := by decide +kernel
theorem dX12_endNaming_43 : decode cX12_endNaming 43 = .ok (.getfield 265, 3) := by decide +kernel
theorem dX12_endNaming_46 : decode cX12_endNaming 46 = .ok (.aload_n 0, 1) := by decide +kernel
theorem dX12_endNaming_47 : decode cX12_endNaming 47 = .ok (.getfield 230, 3) := by decide +kernel
theorem dX12_endNaming_50 : decode cX12_endNaming 50 = .ok (.iload_n 2, 1) := by decide +kernel
theorem dX12_endNaming_51 : decode cX12_endNaming 51 = .ok (.iastore, 1) := by decide +kernel
theorem dX12_endNaming_52 : decode cX12_endNaming 52 = .ok (.aload_n 0, 1) := by decide +kernel
theorem dX12_endNaming_53 : decode cX12_endNaming 53 = .ok (.getfield 268, 3) := by decide +kernel
theorem dX12_endNaming_56 : decode cX12_endNaming 56 = .ok (.aload_n 0, 1) := by decide +kernel
theorem dX12_endNaming_57 : decode cX12_endNaming 57 = .ok (.getfield 230, 3) := by decide +kernel
theorem dX12_endNaming_60 : decode cX12_endNaming 60 = .ok (.aload_n 0, 1) := by decide +kernel
theorem dX12_endNaming_61 : decode cX12_endNaming 61 = .ok (.getfield 243, 3) := by decide +kernel
theorem dX12_endNaming_64 : decode cX12_endNaming 64 = .ok (.iastore, 1) := by decide +kernel
theorem dX12_endNaming_65 : decode cX12_endNaming 65 = .ok (.aload_n 0, 1) := by decide +kernel
theorem dX12_endNaming_66 : decode cX12_endNaming 66 = .ok (.dup, 1) := by decide +kernel
theorem dX12_endNaming_67 : decode cX12_endNaming 67 = .ok (.getfield 230, 3) := by decide +kernel
theorem dX12_endNaming_70 : decode cX12_endNaming 70 = .ok (.iconst 1, 1) := by decide +kernel
theorem dX12_endNaming_71 : decode cX12_endNaming 71 = .ok (.iadd, 1) := by decide +kernel
theorem dX12_endNaming_72 : decode cX12_endNaming 72 = .ok (.putfield 230, 3) := by decide +kernel
theorem dX12_endNaming_75 : decode cX12_endNaming 75 = .ok (.return_, 1) := by decide +kernel
abbrev rm_X12_endNaming : Room := { frames := 0, cells := 0, slots := 0, locals := 0 }
def wp_X12_endNaming (a : Nat) (p1 : Int32) (p2 : Int32) (S : PS) (Q : PS → Prop) : Prop :=
  (∀ S1, S1 = sI S 126 a 0 → (∃ b2, fR S1 109 a = some b2 ∧ (vp_in p1 (aN S1 b2) ∧ ∀ S3, S3 = wI S1 46 b2 (p1).toNatClampNeg p2 → (∃ b4, fR S3 121 a = some b4 ∧ (∃ b5, fR S3 127 a = some b5 ∧ (vp_in 0 (aN S3 b5) ∧ (vp_in (fI S3 125 a) (aN S3 b4) ∧ ∀ S6, S6 = wI S3 55 b4 (fI S3 125 a).toNatClampNeg (aI S3 59 b5 (0 : Int32).toNatClampNeg) → (∃ b7, fR S6 122 a = some b7 ∧ (∃ b8, fR S6 128 a = some b8 ∧ (vp_in 0 (aN S6 b8) ∧ (vp_in (fI S6 125 a) (aN S6 b7) ∧ ∀ S9, S9 = wI S6 56 b7 (fI S6 125 a).toNatClampNeg (aI S6 60 b8 (0 : Int32).toNatClampNeg) → (∃ b10, fR S9 123 a = some b10 ∧ (vp_in (fI S9 125 a) (aN S9 b10) ∧ ∀ S11, S11 = wI S9 57 b10 (fI S9 125 a).toNatClampNeg p2 → (∃ b12, fR S11 124 a = some b12 ∧ (vp_in (fI S11 125 a) (aN S11 b12) ∧ ∀ S13, S13 = wI S11 58 b12 (fI S11 125 a).toNatClampNeg (fI S11 129 a) → (∀ S14, S14 = sI S13 125 a ((fI S13 125 a) + 1) → Q S14))))))))))))))))
set_option maxRecDepth 100000 in
set_option maxHeartbeats 4000000 in
theorem c_X12_endNaming {l : Launch} {E : EE} {A : Nat → Prop} {a : Nat} {p1 : Int32} {p2 : Int32} {S : PS} {Q : PS → Prop} (r_a : Rf S a 9) (h : wp_X12_endNaming a p1 p2 S Q) : MtV l yX12_endNaming (.code yX12_endNaming cX12_endNaming 3 none) rm_X12_endNaming E A [.ref a, .int p1, .int p2] S Q := by
  refine MtV.of (by decide) (Nat.le_of_ble_eq_true rfl) (fun X F hQ hN => ?_)
  show VV X (0, 0) S [(0, .ref a), (1, .int p1), (2, .int p2)] [] 0
  unfold wp_X12_endNaming at h
  refine v_aload_n F dX12_endNaming_0 0 rfl rfl ?_
  refine v_iconst (v := 0) F dX12_endNaming_1 (by decide) ?_
  refine p_X12_246 F r_a rfl rfl h dX12_endNaming_2 (fun S1 h hE => ?_)
  have r_a := r_a.tr hE
  refine v_aload_n F dX12_endNaming_5 0 rfl rfl ?_
  refine g_X12_99 F r_a h dX12_endNaming_6 (fun b2 r_b2 h => ?_)
  refine v_iload_n F dX12_endNaming_9 1 rfl rfl ?_
  refine v_iload_n F dX12_endNaming_10 2 rfl rfl ?_
  refine v_iast F r_b2 o_46 h dX12_endNaming_11 (fun S3 h hE => ?_)
  have r_a := r_a.tr hE
  refine v_aload_n F dX12_endNaming_12 0 rfl rfl ?_
  refine g_X12_233 F r_a h dX12_endNaming_13 (fun b4 r_b4 h => ?_)
  refine v_aload_n F dX12_endNaming_16 0 rfl rfl ?_
  refine g_X12_230 F r_a dX12_endNaming_17 ?_
  refine v_aload_n F dX12_endNaming_20 0 rfl rfl ?_
  refine g_X12_250 F r_a h dX12_endNaming_21 (fun b5 r_b5 h => ?_)
  refine v_iconst (v := 0) F dX12_endNaming_24 (by decide) ?_
  refine v_iald F r_b5 o_59 h dX12_endNaming_25 (fun h => ?_)
  refine v_iast F r_b4 o_55 h dX12_endNaming_26 (fun S6 h hE => ?_)
  have r_a := r_a.tr hE
  refine v_aload_n F dX12_endNaming_27 0 rfl rfl ?_
  refine g_X12_236 F r_a h dX12_endNaming_28 (fun b7 r_b7 h => ?_)
  refine v_aload_n F dX12_endNaming_31 0 rfl rfl ?_
  refine g_X12_230 F r_a dX12_endNaming_32 ?_
  refine v_aload_n F dX12_endNaming_35 0 rfl rfl ?_
  refine g_X12_253 F r_a h dX12_endNaming_36 (fun b8 r_b8 h => ?_)
  refine v_iconst (v := 0) F dX12_endNaming_39 (by decide) ?_
  refine v_iald F r_b8 o_60 h dX12_endNaming_40 (fun h => ?_)
  refine v_iast F r_b7 o_56 h dX12_endNaming_41 (fun S9 h hE => ?_)
  have r_a := r_a.tr hE
  refine v_aload_n F dX12_endNaming_42 0 rfl rfl ?_
  refine g_X12_265 F r_a h dX12_endNaming_43 (fun b10 r_b10 h => ?_)
  refine v_aload_n F dX12_endNaming_46 0 rfl rfl ?_
  refine g_X12_230 F r_a dX12_endNaming_47 ?_
  refine v_iload_n F dX12_endNaming_50 2 rfl rfl ?_
  refine v_iast F r_b10 o_57 h dX12_endNaming_51 (fun S11 h hE => ?_)
  have r_a := r_a.tr hE
  refine v_aload_n F dX12_endNaming_52 0 rfl rfl ?_
  refine g_X12_268 F r_a h dX12_endNaming_53 (fun b12 r_b12 h => ?_)
  refine v_aload_n F dX12_endNaming_56 0 rfl rfl ?_
  refine g_X12_230 F r_a dX12_endNaming_57 ?_
  refine v_aload_n F dX12_endNaming_60 0 rfl rfl ?_
  refine g_X12_243 F r_a dX12_endNaming_61 ?_
  refine v_iast F r_b12 o_58 h dX12_endNaming_64 (fun S13 h hE => ?_)
  have r_a := r_a.tr hE
  refine v_aload_n F dX12_endNaming_65 0 rfl rfl ?_
  refine v_dup F dX12_endNaming_66 rfl ?_
  refine g_X12_230 F r_a dX12_endNaming_67 ?_
  refine v_iconst (v := 1) F dX12_endNaming_70 (by decide) ?_
  refine v_iadd F dX12_endNaming_71 ?_
  refine p_X12_230 F r_a h dX12_endNaming_72 (fun S14 h hE => ?_)
  have r_a := r_a.tr hE
  exact v_vret F hQ h (by decide) dX12_endNaming_75
theorem dX12_useBlock_0 : decode cX12_useBlock 0 = .ok (.aload_n 0, 1) := by decide +kernel
theorem dX12_useBlock_1 : decode cX12_useBlock 1 = .ok (.getfield 99, 3) := by decide +kernel
theorem dX12_useBlock_4 : decode cX12_useBlock 4 = .ok (.iload_n 1, 1) := by decide +kernel
theorem dX12_useBlock_5 : decode cX12_useBlock 5 = .ok (.iaload, 1) := by decide +kernel
theorem dX12_useBlock_6 : decode cX12_useBlock 6 = .ok (.iconst (-1), 1) := by decide +kernel
theorem dX12_useBlock_7 : decode cX12_useBlock 7 = .ok (.if_icmp .ne 13, 3) := by decide +kernel
theorem dX12_useBlock_10 : decode cX12_useBlock 10 = .ok (.aload_n 0, 1) := by decide +kernel
theorem dX12_useBlock_11 : decode cX12_useBlock 11 = .ok (.getfield 99, 3) := by decide +kernel
theorem dX12_useBlock_14 : decode cX12_useBlock 14 = .ok (.iload_n 1, 1) := by decide +kernel
theorem dX12_useBlock_15 : decode cX12_useBlock 15 = .ok (.iload_n 2, 1) := by decide +kernel
theorem dX12_useBlock_16 : decode cX12_useBlock 16 = .ok (.iastore, 1) := by decide +kernel
theorem dX12_useBlock_17 : decode cX12_useBlock 17 = .ok (.goto 16, 3) := by decide +kernel
theorem dX12_useBlock_20 : decode cX12_useBlock 20 = .ok (.aload_n 0, 1) := by decide +kernel
theorem dX12_useBlock_21 : decode cX12_useBlock 21 = .ok (.getfield 102, 3) := by decide +kernel
theorem dX12_useBlock_24 : decode cX12_useBlock 24 = .ok (.aload_n 0, 1) := by decide +kernel
theorem dX12_useBlock_25 : decode cX12_useBlock 25 = .ok (.getfield 105, 3) := by decide +kernel
theorem dX12_useBlock_28 : decode cX12_useBlock 28 = .ok (.iload_n 1, 1) := by decide +kernel
theorem dX12_useBlock_29 : decode cX12_useBlock 29 = .ok (.laload, 1) := by decide +kernel
theorem dX12_useBlock_30 : decode cX12_useBlock 30 = .ok (.l2i, 1) := by decide +kernel
theorem dX12_useBlock_31 : decode cX12_useBlock 31 = .ok (.iload_n 2, 1) := by decide +kernel
theorem dX12_useBlock_32 : decode cX12_useBlock 32 = .ok (.iastore, 1) := by decide +kernel
theorem dX12_useBlock_33 : decode cX12_useBlock 33 = .ok (.aload_n 0, 1) := by decide +kernel
theorem dX12_useBlock_34 : decode cX12_useBlock 34 = .ok (.getfield 105, 3) := by decide +kernel
theorem dX12_useBlock_37 : decode cX12_useBlock 37 = .ok (.iload_n 1, 1) := by decide +kernel
theorem dX12_useBlock_38 : decode cX12_useBlock 38 = .ok (.iload_n 2, 1) := by decide +kernel
theorem dX12_useBlock_39 : decode cX12_useBlock 39 = .ok (.i2l, 1) := by decide +kernel
theorem dX12_useBlock_40 : decode cX12_useBlock 40 = .ok (.lastore, 1) := by decide +kernel
theorem dX12_useBlock_41 : decode cX12_useBlock 41 = .ok (.aload_n 0, 1) := by decide +kernel
theorem dX12_useBlock_42 : decode cX12_useBlock 42 = .ok (.getfield 96, 3) := by decide +kernel
theorem dX12_useBlock_45 : decode cX12_useBlock 45 = .ok (.iload_n 1, 1) := by decide +kernel
theorem dX12_useBlock_46 : decode cX12_useBlock 46 = .ok (.dup2, 1) := by decide +kernel
theorem dX12_useBlock_47 : decode cX12_useBlock 47 = .ok (.iaload, 1) := by decide +kernel
theorem dX12_useBlock_48 : decode cX12_useBlock 48 = .ok (.iconst 1, 1) := by decide +kernel
theorem dX12_useBlock_49 : decode cX12_useBlock 49 = .ok (.isub, 1) := by decide +kernel
theorem dX12_useBlock_50 : decode cX12_useBlock 50 = .ok (.iastore, 1) := by decide +kernel
theorem dX12_useBlock_51 : decode cX12_useBlock 51 = .ok (.aload_n 0, 1) := by decide +kernel
theorem dX12_useBlock_52 : decode cX12_useBlock 52 = .ok (.getfield 96, 3) := by decide +kernel
theorem dX12_useBlock_55 : decode cX12_useBlock 55 = .ok (.iload_n 1, 1) := by decide +kernel
theorem dX12_useBlock_56 : decode cX12_useBlock 56 = .ok (.iaload, 1) := by decide +kernel
theorem dX12_useBlock_57 : decode cX12_useBlock 57 = .ok (.ifCond .le 9, 3) := by decide +kernel
theorem dX12_useBlock_60 : decode cX12_useBlock 60 = .ok (.aload_n 0, 1) := by decide +kernel
theorem dX12_useBlock_61 : decode cX12_useBlock 61 = .ok (.iconst 4, 1) := by decide +kernel
theorem dX12_useBlock_62 : decode cX12_useBlock 62 = .ok (.iload_n 1, 1) := by decide +kernel
theorem dX12_useBlock_63 : decode cX12_useBlock 63 = .ok (.invokevirtual 186, 3) := by decide +kernel
theorem dX12_useBlock_66 : decode cX12_useBlock 66 = .ok (.return_, 1) := by decide +kernel
abbrev rm_X12_useBlock : Room := { frames := 4, cells := 0, slots := 0, locals := 84 }
def wp_X12_useBlock (a : Nat) (p1 : Int32) (p2 : Int32) (S : PS) (Q : PS → Prop) : Prop :=
  (∃ b1, fR S 109 a = some b1 ∧ (vp_in p1 (aN S b1) ∧ (∀ K33_3 : PS → Prop, (∀ (S2 : PS),
 (∃ b4, fR S2 111 a = some b4 ∧ (vp_in p1 (aN S2 b4) ∧ ∀ S5, S5 = wL S2 48 b4 (p1).toNatClampNeg (p2.toInt64) → (∃ b6, fR S5 108 a = some b6 ∧ (vp_in p1 (aN S5 b6) ∧ (vp_in p1 (aN S5 b6) ∧ ∀ S7, S7 = wI S5 45 b6 (p1).toNatClampNeg ((aI S5 45 b6 (p1).toNatClampNeg) - 1) → (∃ b8, fR S7 108 a = some b8 ∧ (vp_in p1 (aN S7 b8) ∧ (if aI S7 45 b8 (p1).toNatClampNeg ≤ 0 then
 Q S7
 else
 wp_X12_openBlock a 4 p1 S7 (fun (S9 : PS) => 
 Q S9)))))))))
 → K33_3 S2) →
 (if aI S 46 b1 (p1).toNatClampNeg = (-1) then
 (∃ b13, fR S 109 a = some b13 ∧ (vp_in p1 (aN S b13) ∧ ∀ S14, S14 = wI S 46 b13 (p1).toNatClampNeg p2 → K33_3 S14))
 else
 (∃ b10, fR S 110 a = some b10 ∧ (∃ b11, fR S 111 a = some b11 ∧ (vp_in p1 (aN S b11) ∧ (vp_in ((aL S 48 b11 (p1).toNatClampNeg).toInt32) (aN S b10) ∧ ∀ S12, S12 = wI S 47 b10 ((aL S 48 b11 (p1).toNatClampNeg).toInt32).toNatClampNeg p2 → K33_3 S12))))))))
set_option maxRecDepth 100000 in
set_option maxHeartbeats 4000000 in
theorem c_X12_useBlock {l : Launch} {E : EE} {A : Nat → Prop} {a : Nat} {p1 : Int32} {p2 : Int32} {S : PS} {Q : PS → Prop} (r_a : Rf S a 9) (h : wp_X12_useBlock a p1 p2 S Q) : MtV l yX12_useBlock (.code yX12_useBlock cX12_useBlock 3 none) rm_X12_useBlock E A [.ref a, .int p1, .int p2] S Q := by
  refine MtV.of (by decide) (Nat.le_of_ble_eq_true rfl) (fun X F hQ hN => ?_)
  show VV X (0, 0) S [(0, .ref a), (1, .int p1), (2, .int p2)] [] 0
  unfold wp_X12_useBlock at h
  refine v_aload_n F dX12_useBlock_0 0 rfl rfl ?_
  refine g_X12_99 F r_a h dX12_useBlock_1 (fun b1 r_b1 h => ?_)
  refine v_iload_n F dX12_useBlock_4 1 rfl rfl ?_
  refine v_iald F r_b1 o_46 h dX12_useBlock_5 (fun h => ?_)
  refine v_iconst (v := (-1)) F dX12_useBlock_6 (by decide) ?_
  have h := h (fun (S2 : PS) => Rf S2 a 9 → VV X (0, 0) S2 [(0, .ref a), (1, .int p1), (2, .int p2)] [] 33) (by
    intro S2 h r_a
    refine v_aload_n F dX12_useBlock_33 0 rfl rfl ?_
    refine g_X12_105 F r_a h dX12_useBlock_34 (fun b4 r_b4 h => ?_)
    refine v_iload_n F dX12_useBlock_37 1 rfl rfl ?_
    refine v_iload_n F dX12_useBlock_38 2 rfl rfl ?_
    refine v_i2l F dX12_useBlock_39 ?_
    refine v_last F r_b4 o_48 h dX12_useBlock_40 (fun S5 h hE => ?_)
    have r_a := r_a.tr hE
    refine v_aload_n F dX12_useBlock_41 0 rfl rfl ?_
    refine g_X12_96 F r_a h dX12_useBlock_42 (fun b6 r_b6 h => ?_)
    refine v_iload_n F dX12_useBlock_45 1 rfl rfl ?_
    refine v_dup2 F dX12_useBlock_46 rfl rfl ?_
    refine v_iald F r_b6 o_45 h dX12_useBlock_47 (fun h => ?_)
    refine v_iconst (v := 1) F dX12_useBlock_48 (by decide) ?_
    refine v_isub F dX12_useBlock_49 ?_
    refine v_iast F r_b6 o_45 h dX12_useBlock_50 (fun S7 h hE => ?_)
    have r_a := r_a.tr hE
    refine v_aload_n F dX12_useBlock_51 0 rfl rfl ?_
    refine g_X12_96 F r_a h dX12_useBlock_52 (fun b8 r_b8 h => ?_)
    refine v_iload_n F dX12_useBlock_55 1 rfl rfl ?_
    refine v_iald F r_b8 o_45 h dX12_useBlock_56 (fun h => ?_)
    refine v_if_le (tgt := 66) F dX12_useBlock_57 (by decide) h (fun h => ?_) (fun h => ?_)
    · exact v_vret F hQ h (by decide) dX12_useBlock_66
    · refine v_aload_n F dX12_useBlock_60 0 rfl rfl ?_
      refine v_iconst (v := 4) F dX12_useBlock_61 (by decide) ?_
      refine v_iload_n F dX12_useBlock_62 1 rfl rfl ?_
      refine v_cV0 (v_runV F k_X12_186 rfl (c_X12_openBlock r_a h) r_a rfl rfl (Nat.le_of_ble_eq_true rfl) (by decide) (by decide) dX12_useBlock_63) ⟨rfl, rfl⟩ (fun  S9 h hE => ?_)
      have r_a := r_a.tr hE
      exact v_vret F hQ h (by decide) dX12_useBlock_66)
  refine v_icmp_ne (tgt := 20) F dX12_useBlock_7 (by decide) h (fun h => ?_) (fun h => ?_)
  · refine v_aload_n F dX12_useBlock_20 0 rfl rfl ?_
    refine g_X12_102 F r_a h dX12_useBlock_21 (fun b10 r_b10 h => ?_)
    refine v_aload_n F dX12_useBlock_24 0 rfl rfl ?_
    refine g_X12_105 F r_a h dX12_useBlock_25 (fun b11 r_b11 h => ?_)
    refine v_iload_n F dX12_useBlock_28 1 rfl rfl ?_
    refine v_lald F r_b11 o_48 h dX12_useBlock_29 (fun h => ?_)
    refine v_l2i F dX12_useBlock_30 ?_
    refine v_iload_n F dX12_useBlock_31 2 rfl rfl ?_
    refine v_iast F r_b10 o_47 h dX12_useBlock_32 (fun S12 h hE => ?_)
    have r_a := r_a.tr hE
    exact v_sub [0, 1, 2] rfl (h r_a)
  · refine v_aload_n F dX12_useBlock_10 0 rfl rfl ?_
    refine g_X12_99 F r_a h dX12_useBlock_11 (fun b13 r_b13 h => ?_)
    refine v_iload_n F dX12_useBlock_14 1 rfl rfl ?_
    refine v_iload_n F dX12_useBlock_15 2 rfl rfl ?_
    refine v_iast F r_b13 o_46 h dX12_useBlock_16 (fun S14 h hE => ?_)
    have r_a := r_a.tr hE
    refine v_goto (tgt := 33) F dX12_useBlock_17 (by decide) ?_
    exact v_sub [0, 1, 2] rfl (h r_a)
theorem dX12_endMusic_0 : decode cX12_endMusic 0 = .ok (.aload_n 0, 1) := by decide +kernel
theorem dX12_endMusic_1 : decode cX12_endMusic 1 = .ok (.getfield 116, 3) := by decide +kernel
theorem dX12_endMusic_4 : decode cX12_endMusic 4 = .ok (.iconst 1, 1) := by decide +kernel
theorem dX12_endMusic_5 : decode cX12_endMusic 5 = .ok (.isub, 1) := by decide +kernel
theorem dX12_endMusic_6 : decode cX12_endMusic 6 = .ok (.istore_n 2, 1) := by decide +kernel
theorem dX12_endMusic_7 : decode cX12_endMusic 7 = .ok (.aload_n 0, 1) := by decide +kernel
theorem dX12_endMusic_8 : decode cX12_endMusic 8 = .ok (.getfield 119, 3) := by decide +kernel
theorem dX12_endMusic_11 : decode cX12_endMusic 11 = .ok (.iload_n 2, 1) := by decide +kernel
theorem dX12_endMusic_12 : decode cX12_endMusic 12 = .ok (.iaload, 1) := by decide +kernel
theorem dX12_endMusic_13 : decode cX12_endMusic 13 = .ok (.istore_n 3, 1) := by decide +kernel
theorem dX12_endMusic_14 : decode cX12_endMusic 14 = .ok (.iload_n 1, 1) := by decide +kernel
theorem dX12_endMusic_15 : decode cX12_endMusic 15 = .ok (.aload_n 0, 1) := by decide +kernel
theorem dX12_endMusic_16 : decode cX12_endMusic 16 = .ok (.getfield 113, 3) := by decide +kernel
theorem dX12_endMusic_19 : decode cX12_endMusic 19 = .ok (.iload_n 2, 1) := by decide +kernel
theorem dX12_endMusic_20 : decode cX12_endMusic 20 = .ok (.iaload, 1) := by decide +kernel
theorem dX12_endMusic_21 : decode cX12_endMusic 21 = .ok (.iconst 2, 1) := by decide +kernel
theorem dX12_endMusic_22 : decode cX12_endMusic 22 = .ok (.if_icmp .ne 8, 3) := by decide +kernel
theorem dX12_endMusic_25 : decode cX12_endMusic 25 = .ok (.bipush 93, 2) := by decide +kernel
theorem dX12_endMusic_27 : decode cX12_endMusic 27 = .ok (.goto 5, 3) := by decide +kernel
theorem dX12_endMusic_30 : decode cX12_endMusic 30 = .ok (.bipush 125, 2) := by decide +kernel
theorem dX12_endMusic_32 : decode cX12_endMusic 32 = .ok (.if_icmp .eq 29, 3) := by decide +kernel
theorem dX12_endMusic_35 : decode cX12_endMusic 35 = .ok (.iload_n 1, 1) := by decide +kernel
theorem dX12_endMusic_36 : decode cX12_endMusic 36 = .ok (.bipush 47, 2) := by decide +kernel
theorem dX12_endMusic_38 : decode cX12_endMusic 38 = .ok (.if_icmp .ne 13, 3) := by decide +kernel
theorem dX12_endMusic_41 : decode cX12_endMusic 41 = .ok (.aload_n 0, 1) := by decide +kernel
theorem dX12_endMusic_42 : decode cX12_endMusic 42 = .ok (.getfield 113, 3) := by decide +kernel
theorem dX12_endMusic_45 : decode cX12_endMusic 45 = .ok (.iload_n 2, 1) := by decide +kernel
theorem dX12_endMusic_46 : decode cX12_endMusic 46 = .ok (.iaload, 1) := by decide +kernel
theorem dX12_endMusic_47 : decode cX12_endMusic 47 = .ok (.iconst 2, 1) := by decide +kernel
theorem dX12_endMusic_48 : decode cX12_endMusic 48 = .ok (.if_icmp .eq 13, 3) := by decide +kernel
theorem dX12_endMusic_51 : decode cX12_endMusic 51 = .ok (.aload_n 0, 1) := by decide +kernel
theorem dX12_endMusic_52 : decode cX12_endMusic 52 = .ok (.iconst 1, 1) := by decide +kernel
theorem dX12_endMusic_53 : decode cX12_endMusic 53 = .ok (.aload_n 0, 1) := by decide +kernel
theorem dX12_endMusic_54 : decode cX12_endMusic 54 = .ok (.getfield 29, 3) := by decide +kernel
theorem dX12_endMusic_57 : decode cX12_endMusic 57 = .ok (.invokevirtual 50, 3) := by decide +kernel
theorem dX12_endMusic_60 : decode cX12_endMusic 60 = .ok (.return_, 1) := by decide +kernel
theorem dX12_endMusic_61 : decode cX12_endMusic 61 = .ok (.aload_n 0, 1) := by decide +kernel
theorem dX12_endMusic_62 : decode cX12_endMusic 62 = .ok (.dup, 1) := by decide +kernel
theorem dX12_endMusic_63 : decode cX12_endMusic 63 = .ok (.getfield 29, 3) := by decide +kernel
theorem dX12_endMusic_66 : decode cX12_endMusic 66 = .ok (.iconst 1, 1) := by decide +kernel
theorem dX12_endMusic_67 : decode cX12_endMusic 67 = .ok (.iadd, 1) := by decide +kernel
theorem dX12_endMusic_68 : decode cX12_endMusic 68 = .ok (.putfield 29, 3) := by decide +kernel
theorem dX12_endMusic_71 : decode cX12_endMusic 71 = .ok (.aload_n 0, 1) := by decide +kernel
theorem dX12_endMusic_72 : decode cX12_endMusic 72 = .ok (.getfield 122, 3) := by decide +kernel
theorem dX12_endMusic_75 : decode cX12_endMusic 75 = .ok (.iload_n 2, 1) := by decide +kernel
theorem dX12_endMusic_76 : decode cX12_endMusic 76 = .ok (.iaload, 1) := by decide +kernel
theorem dX12_endMusic_77 : decode cX12_endMusic 77 = .ok (.istore 4, 2) := by decide +kernel
theorem dX12_endMusic_79 : decode cX12_endMusic 79 = .ok (.aload_n 0, 1) := by decide +kernel
theorem dX12_endMusic_80 : decode cX12_endMusic 80 = .ok (.dup, 1) := by decide +kernel
theorem dX12_endMusic_81 : decode cX12_endMusic 81 = .ok (.getfield 116, 3) := by decide +kernel
theorem dX12_endMusic_84 : decode cX12_endMusic 84 = .ok (.iconst 1, 1) := by decide +kernel
theorem dX12_endMusic_85 : decode cX12_endMusic 85 = .ok (.isub, 1) := by decide +kernel
theorem dX12_endMusic_86 : decode cX12_endMusic 86 = .ok (.putfield 116, 3) := by decide +kernel
theorem dX12_endMusic_89 : decode cX12_endMusic 89 = .ok (.iload_n 1, 1) := by decide +kernel
theorem dX12_endMusic_90 : decode cX12_endMusic 90 = .ok (.bipush 47, 2) := by decide +kernel
theorem dX12_endMusic_92 : decode cX12_endMusic 92 = .ok (.if_icmp .ne 35, 3) := by decide +kernel
theorem dX12_endMusic_95 : decode cX12_endMusic 95 = .ok (.aload_n 0, 1) := by decide +kernel
theorem dX12_endMusic_96 : decode cX12_endMusic 96 = .ok (.bipush 11, 2) := by decide +kernel
theorem dX12_endMusic_98 : decode cX12_endMusic 98 = .ok (.aload_n 0, 1) := by decide +kernel
theorem dX12_endMusic_99 : decode cX12_endMusic 99 = .ok (.getfield 29, 3) := by decide +kernel
theorem dX12_endMusic_102 : decode cX12_endMusic 102 = .ok (.invokevirtual 128, 3) := by decide +kernel
theorem dX12_endMusic_105 : decode cX12_endMusic 105 = .ok (.istore 5, 2) := by decide +kernel
theorem dX12_endMusic_107 : decode cX12_endMusic 107 = .ok (.aload_n 0, 1) := by decide +kernel
theorem dX12_endMusic_108 : decode cX12_endMusic 108 = .ok (.getfield 102, 3) := by decide +kernel
theorem dX12_endMusic_111 : decode cX12_endMusic 111 = .ok (.iload 4, 2) := by decide +kernel
theorem dX12_endMusic_113 : decode cX12_endMusic 113 = .ok (.iload 5, 2) := by decide +kernel
theorem dX12_endMusic_115 : decode cX12_endMusic 115 = .ok (.iastore, 1) := by decide +kernel
theorem dX12_endMusic_116 : decode cX12_endMusic 116 = .ok (.aload_n 0, 1) := by decide +kernel
theorem dX12_endMusic_117 : decode cX12_endMusic 117 = .ok (.iconst 2, 1) := by decide +kernel
theorem dX12_endMusic_118 : decode cX12_endMusic 118 = .ok (.iload_n 3, 1) := by decide +kernel
theorem dX12_endMusic_119 : decode cX12_endMusic 119 = .ok (.iload 5, 2) := by decide +kernel
theorem dX12_endMusic_121 : decode cX12_endMusic 121 = .ok (.invokevirtual 132, 3) := by decide +kernel
theorem dX12_endMusic_124 : decode cX12_endMusic 124 = .ok (.goto 40, 3) := by decide +kernel
theorem dX12_endMusic_127 : decode cX12_endMusic 127 = .ok (.aload_n 0, 1) := by decide +kernel
theorem dX12_endMusic_128 : decode cX12_endMusic 128 = .ok (.getfield 113, 3) := by decide +kernel
theorem dX12_endMusic_131 : decode cX12_endMusic 131 = .ok (.iload_n 2, 1) := by decide +kernel
theorem dX12_endMusic_132 : decode cX12_endMusic 132 = .ok (.iaload, 1) := by decide +kernel
theorem dX12_endMusic_133 : decode cX12_endMusic 133 = .ok (.iconst 3, 1) := by decide +kernel
theorem dX12_endMusic_134 : decode cX12_endMusic 134 = .ok (.if_icmp .ne 13, 3) := by decide +kernel
theorem dX12_endMusic_137 : decode cX12_endMusic 137 = .ok (.aload_n 0, 1) := by decide +kernel
theorem dX12_endMusic_138 : decode cX12_endMusic 138 = .ok (.iload_n 3, 1) := by decide +kernel
theorem dX12_endMusic_139 : decode cX12_endMusic 139 = .ok (.iload 4, 2) := by decide +kernel
theorem dX12_endMusic_141 : decode cX12_endMusic 141 = .ok (.invokevirtual 143, 3) := by decide +kernel
theorem dX12_endMusic_144 : decode cX12_endMusic 144 = .ok (.goto 20, 3) := by decide +kernel
theorem dX12_endMusic_147 : decode cX12_endMusic 147 = .ok (.aload_n 0, 1) := by decide +kernel
theorem dX12_endMusic_148 : decode cX12_endMusic 148 = .ok (.getfield 113, 3) := by decide +kernel
theorem dX12_endMusic_151 : decode cX12_endMusic 151 = .ok (.iload_n 2, 1) := by decide +kernel
theorem dX12_endMusic_152 : decode cX12_endMusic 152 = .ok (.iaload, 1) := by decide +kernel
theorem dX12_endMusic_153 : decode cX12_endMusic 153 = .ok (.iconst 4, 1) := by decide +kernel
theorem dX12_endMusic_154 : decode cX12_endMusic 154 = .ok (.if_icmp .ne 10, 3) := by decide +kernel
theorem dX12_endMusic_157 : decode cX12_endMusic 157 = .ok (.aload_n 0, 1) := by decide +kernel
theorem dX12_endMusic_158 : decode cX12_endMusic 158 = .ok (.iload_n 3, 1) := by decide +kernel
theorem dX12_endMusic_159 : decode cX12_endMusic 159 = .ok (.iload 4, 2) := by decide +kernel
theorem dX12_endMusic_161 : decode cX12_endMusic 161 = .ok (.invokevirtual 146, 3) := by decide +kernel
theorem dX12_endMusic_164 : decode cX12_endMusic 164 = .ok (.return_, 1) := by decide +kernel
abbrev rm_X12_endMusic : Room := { frames := 5, cells := 0, slots := 0, locals := 106 }
def wp_X12_endMusic (a : Nat) (p1 : Int32) (S : PS) (Q : PS → Prop) : Prop :=
  (∀ v1, v1 = (fI S 134 a) - 1 → (∃ b2, fR S 131 a = some b2 ∧ (vp_in v1 (aN S b2) ∧ (∀ v3, v3 = aI S 62 b2 (v1).toNatClampNeg → (∃ b4, fR S 130 a = some b4 ∧ (vp_in v1 (aN S b4) ∧ (∀ K32_8 : Int32 → Int32 → PS → Prop, (∀ (t5 : Int32) (t6 : Int32) (S7 : PS),
 (∀ K61_10 : PS → Prop, (∀ (S9 : PS),
 (∀ S11, S11 = sI S9 101 a ((fI S9 101 a) + 1) → (∃ b12, fR S11 132 a = some b12 ∧ (vp_in v1 (aN S11 b12) ∧ (∀ v13, v13 = aI S11 63 b12 (v1).toNatClampNeg → (∀ S14, S14 = sI S11 134 a ((fI S11 134 a) - 1) → (if p1 = 47 then
 wp_X12_item a 11 (fI S14 101 a) S14 (fun (r20 : Int32) (S19 : PS) => 
 (∃ b21, fR S19 110 a = some b21 ∧ (vp_in v13 (aN S19 b21) ∧ ∀ S22, S22 = wI S19 47 b21 (v13).toNatClampNeg r20 → wp_X12_openMusic a 2 v3 r20 S22 (fun (S23 : PS) => 
 Q S23))))
 else
 (∃ b15, fR S14 130 a = some b15 ∧ (vp_in v1 (aN S14 b15) ∧ (if aI S14 61 b15 (v1).toNatClampNeg = 3 then
 wp_X12_endNaming a v3 v13 S14 (fun (S18 : PS) => 
 Q S18)
 else
 (∃ b16, fR S14 130 a = some b16 ∧ (vp_in v1 (aN S14 b16) ∧ (if aI S14 61 b16 (v1).toNatClampNeg = 4 then
 wp_X12_useBlock a v3 v13 S14 (fun (S17 : PS) => 
 Q S17)
 else
 Q S14))))))))))))
 → K61_10 S9) →
 (if t5 = t6 then
 K61_10 S7
 else
 (∀ K51_25 : PS → Prop, (∀ (S24 : PS),
 wp_X12_bad a 1 (fI S24 101 a) S24 (fun (S26 : PS) => 
 Q S26)
 → K51_25 S24) →
 (if p1 = 47 then
 (∃ b27, fR S7 130 a = some b27 ∧ (vp_in v1 (aN S7 b27) ∧ (if aI S7 61 b27 (v1).toNatClampNeg = 2 then
 K61_10 S7
 else
 K51_25 S7)))
 else
 K51_25 S7))))
 → K32_8 t5 t6 S7) →
 (if aI S 61 b4 (v1).toNatClampNeg = 2 then
 K32_8 p1 93 S
 else
 K32_8 p1 125 S))))))))
set_option maxRecDepth 100000 in
set_option maxHeartbeats 4000000 in
theorem c_X12_endMusic {l : Launch} {E : EE} {A : Nat → Prop} {a : Nat} {p1 : Int32} {S : PS} {Q : PS → Prop} (r_a : Rf S a 9) (h : wp_X12_endMusic a p1 S Q) : MtV l yX12_endMusic (.code yX12_endMusic cX12_endMusic 6 none) rm_X12_endMusic E A [.ref a, .int p1] S Q := by
  refine MtV.of (by decide) (Nat.le_of_ble_eq_true rfl) (fun X F hQ hN => ?_)
  show VV X (0, 0) S [(0, .ref a), (1, .int p1)] [] 0
  unfold wp_X12_endMusic at h
  refine v_aload_n F dX12_endMusic_0 0 rfl rfl ?_
  refine g_X12_116 F r_a dX12_endMusic_1 ?_
  refine v_iconst (v := 1) F dX12_endMusic_4 (by decide) ?_
  refine v_isub F dX12_endMusic_5 ?_
  refine v_topi (fun v1 e_v1 => ?_)
  have h := h v1 e_v1
  refine v_istore_n (lv1 := [(2, .int v1), (0, .ref a), (1, .int p1)]) F dX12_endMusic_6 rfl (by rw [hN]; decide) rfl ?_
  refine v_aload_n F dX12_endMusic_7 1 rfl rfl ?_
  refine g_X12_119 F r_a h dX12_endMusic_8 (fun b2 r_b2 h => ?_)
  refine v_iload_n F dX12_endMusic_11 0 rfl rfl ?_
  refine v_iald F r_b2 o_62 h dX12_endMusic_12 (fun h => ?_)
  refine v_topi (fun v3 e_v3 => ?_)
  have h := h v3 e_v3
  refine v_istore_n (lv1 := [(3, .int v3), (2, .int v1), (0, .ref a), (1, .int p1)]) F dX12_endMusic_13 rfl (by rw [hN]; decide) rfl ?_
  refine v_iload_n F dX12_endMusic_14 3 rfl rfl ?_
  refine v_aload_n F dX12_endMusic_15 2 rfl rfl ?_
  refine g_X12_113 F r_a h dX12_endMusic_16 (fun b4 r_b4 h => ?_)
  refine v_iload_n F dX12_endMusic_19 1 rfl rfl ?_
  refine v_iald F r_b4 o_61 h dX12_endMusic_20 (fun h => ?_)
  refine v_iconst (v := 2) F dX12_endMusic_21 (by decide) ?_
  have h := h (fun (t5 : Int32) (t6 : Int32) (S7 : PS) => Rf S7 a 9 → VV X (0, 0) S7 [(0, .ref a), (1, .int p1), (2, .int v1), (3, .int v3)] [.int t6, .int t5] 32) (by
    intro t5 t6 S7 h r_a
    have h := h (fun (S9 : PS) => Rf S9 a 9 → VV X (0, 0) S9 [(0, .ref a), (1, .int p1), (2, .int v1), (3, .int v3)] [] 61) (by
      intro S9 h r_a
      refine v_aload_n F dX12_endMusic_61 0 rfl rfl ?_
      refine v_dup F dX12_endMusic_62 rfl ?_
      refine g_X12_29 F r_a dX12_endMusic_63 ?_
      refine v_iconst (v := 1) F dX12_endMusic_66 (by decide) ?_
      refine v_iadd F dX12_endMusic_67 ?_
      refine p_X12_29 F r_a h dX12_endMusic_68 (fun S11 h hE => ?_)
      have r_a := r_a.tr hE
      refine v_aload_n F dX12_endMusic_71 0 rfl rfl ?_
      refine g_X12_122 F r_a h dX12_endMusic_72 (fun b12 r_b12 h => ?_)
      refine v_iload_n F dX12_endMusic_75 2 rfl rfl ?_
      refine v_iald F r_b12 o_63 h dX12_endMusic_76 (fun h => ?_)
      refine v_topi (fun v13 e_v13 => ?_)
      have h := h v13 e_v13
      refine v_istore (lv1 := [(4, .int v13), (0, .ref a), (1, .int p1), (2, .int v1), (3, .int v3)]) F dX12_endMusic_77 (by rw [hN]; decide) rfl ?_
      refine v_aload_n F dX12_endMusic_79 1 rfl rfl ?_
      refine v_dup F dX12_endMusic_80 rfl ?_
      refine g_X12_116 F r_a dX12_endMusic_81 ?_
      refine v_iconst (v := 1) F dX12_endMusic_84 (by decide) ?_
      refine v_isub F dX12_endMusic_85 ?_
      refine p_X12_116 F r_a h dX12_endMusic_86 (fun S14 h hE => ?_)
      have r_a := r_a.tr hE
      refine v_iload_n F dX12_endMusic_89 2 rfl rfl ?_
      refine v_bipush (v := 47) F dX12_endMusic_90 (by decide) ?_
      refine v_icmp_ne (tgt := 127) F dX12_endMusic_92 (by decide) h (fun h => ?_) (fun h => ?_)
      · refine v_aload_n F dX12_endMusic_127 1 rfl rfl ?_
        refine g_X12_113 F r_a h dX12_endMusic_128 (fun b15 r_b15 h => ?_)
        refine v_iload_n F dX12_endMusic_131 3 rfl rfl ?_
        refine v_iald F r_b15 o_61 h dX12_endMusic_132 (fun h => ?_)
        refine v_iconst (v := 3) F dX12_endMusic_133 (by decide) ?_
        refine v_icmp_ne (tgt := 147) F dX12_endMusic_134 (by decide) h (fun h => ?_) (fun h => ?_)
        · refine v_aload_n F dX12_endMusic_147 1 rfl rfl ?_
          refine g_X12_113 F r_a h dX12_endMusic_148 (fun b16 r_b16 h => ?_)
          refine v_iload_n F dX12_endMusic_151 3 rfl rfl ?_
          refine v_iald F r_b16 o_61 h dX12_endMusic_152 (fun h => ?_)
          refine v_iconst (v := 4) F dX12_endMusic_153 (by decide) ?_
          refine v_icmp_ne (tgt := 164) F dX12_endMusic_154 (by decide) h (fun h => ?_) (fun h => ?_)
          · exact v_vret F hQ h (by decide) dX12_endMusic_164
          · refine v_aload_n F dX12_endMusic_157 1 rfl rfl ?_
            refine v_iload_n F dX12_endMusic_158 4 rfl rfl ?_
            refine v_iload F dX12_endMusic_159 0 rfl ?_
            refine v_cV0 (v_runV F k_X12_146 rfl (c_X12_useBlock r_a h) r_a rfl rfl (Nat.le_of_ble_eq_true rfl) (by decide) (by decide) dX12_endMusic_161) ⟨rfl, rfl⟩ (fun  S17 h hE => ?_)
            have r_a := r_a.tr hE
            exact v_vret F hQ h (by decide) dX12_endMusic_164
        · refine v_aload_n F dX12_endMusic_137 1 rfl rfl ?_
          refine v_iload_n F dX12_endMusic_138 4 rfl rfl ?_
          refine v_iload F dX12_endMusic_139 0 rfl ?_
          refine v_cV0 (v_runV F k_X12_143 rfl (c_X12_endNaming r_a h) r_a rfl rfl (Nat.le_of_ble_eq_true rfl) (by decide) (by decide) dX12_endMusic_141) ⟨rfl, rfl⟩ (fun  S18 h hE => ?_)
          have r_a := r_a.tr hE
          refine v_goto (tgt := 164) F dX12_endMusic_144 (by decide) ?_
          exact v_vret F hQ h (by decide) dX12_endMusic_164
      · refine v_aload_n F dX12_endMusic_95 1 rfl rfl ?_
        refine v_bipush (v := 11) F dX12_endMusic_96 (by decide) ?_
        refine v_aload_n F dX12_endMusic_98 1 rfl rfl ?_
        refine g_X12_29 F r_a dX12_endMusic_99 ?_
        refine v_cI0 (v_runV F k_X12_128 rfl (c_X12_item r_a h) r_a rfl rfl (Nat.le_of_ble_eq_true rfl) (by decide) (by decide) dX12_endMusic_102) ⟨rfl, rfl⟩ (fun r20 S19 h hE => ?_)
        have r_a := r_a.tr hE
        refine v_istore (lv1 := [(5, .int r20), (4, .int v13), (0, .ref a), (1, .int p1), (2, .int v1), (3, .int v3)]) F dX12_endMusic_105 (by rw [hN]; decide) rfl ?_
        refine v_aload_n F dX12_endMusic_107 2 rfl rfl ?_
        refine g_X12_102 F r_a h dX12_endMusic_108 (fun b21 r_b21 h => ?_)
        refine v_iload F dX12_endMusic_111 1 rfl ?_
        refine v_iload F dX12_endMusic_113 0 rfl ?_
        refine v_iast F r_b21 o_47 h dX12_endMusic_115 (fun S22 h hE => ?_)
        have r_a := r_a.tr hE
        refine v_aload_n F dX12_endMusic_116 2 rfl rfl ?_
        refine v_iconst (v := 2) F dX12_endMusic_117 (by decide) ?_
        refine v_iload_n F dX12_endMusic_118 5 rfl rfl ?_
        refine v_iload F dX12_endMusic_119 0 rfl ?_
        refine v_cV0 (v_runV F k_X12_132 rfl (c_X12_openMusic r_a h) r_a rfl rfl (Nat.le_of_ble_eq_true rfl) (by decide) (by decide) dX12_endMusic_121) ⟨rfl, rfl⟩ (fun  S23 h hE => ?_)
        have r_a := r_a.tr hE
        refine v_goto (tgt := 164) F dX12_endMusic_124 (by decide) ?_
        exact v_vret F hQ h (by decide) dX12_endMusic_164)
    refine v_icmp_eq (tgt := 61) F dX12_endMusic_32 (by decide) h (fun h => ?_) (fun h => ?_)
    · exact v_sub [0, 1, 2, 3] rfl (h r_a)
    · refine v_iload_n F dX12_endMusic_35 1 rfl rfl ?_
      refine v_bipush (v := 47) F dX12_endMusic_36 (by decide) ?_
      have h := h (fun (S24 : PS) => Rf S24 a 9 → VV X (0, 0) S24 [(0, .ref a)] [] 51) (by
        intro S24 h r_a
        refine v_aload_n F dX12_endMusic_51 0 rfl rfl ?_
        refine v_iconst (v := 1) F dX12_endMusic_52 (by decide) ?_
        refine v_aload_n F dX12_endMusic_53 0 rfl rfl ?_
        refine g_X12_29 F r_a dX12_endMusic_54 ?_
        refine v_cV0 (v_runV F k_X12_50 rfl (c_X12_bad r_a h) r_a rfl rfl (Nat.le_of_ble_eq_true rfl) (by decide) (by decide) dX12_endMusic_57) ⟨rfl, rfl⟩ (fun  S26 h hE => ?_)
        have r_a := r_a.tr hE
        exact v_vret F hQ h (by decide) dX12_endMusic_60)
      refine v_icmp_ne (tgt := 51) F dX12_endMusic_38 (by decide) h (fun h => ?_) (fun h => ?_)
      · exact v_sub [0] rfl (h r_a)
      · refine v_aload_n F dX12_endMusic_41 0 rfl rfl ?_
        refine g_X12_113 F r_a h dX12_endMusic_42 (fun b27 r_b27 h => ?_)
        refine v_iload_n F dX12_endMusic_45 2 rfl rfl ?_
        refine v_iald F r_b27 o_61 h dX12_endMusic_46 (fun h => ?_)
        refine v_iconst (v := 2) F dX12_endMusic_47 (by decide) ?_
        refine v_icmp_eq (tgt := 61) F dX12_endMusic_48 (by decide) h (fun h => ?_) (fun h => ?_)
        · exact v_sub [0, 1, 2, 3] rfl (h r_a)
        · exact v_sub [0] rfl (h r_a))
  refine v_icmp_ne (tgt := 30) F dX12_endMusic_22 (by decide) h (fun h => ?_) (fun h => ?_)
  · refine v_bipush (v := 125) F dX12_endMusic_30 (by decide) ?_
    exact v_sub [2, 3, 1, 0] rfl (h r_a)
  · refine v_bipush (v := 93) F dX12_endMusic_25 (by decide) ?_
    refine v_goto (tgt := 32) F dX12_endMusic_27 (by decide) ?_
    exact v_sub [2, 3, 1, 0] rfl (h r_a)
theorem dX12_readAll_0 : decode cX12_readAll 0 = .ok (.aload_n 0, 1) := by decide +kernel
theorem dX12_readAll_1 : decode cX12_readAll 1 = .ok (.bipush 11, 2) := by decide +kernel
theorem dX12_readAll_3 : decode cX12_readAll 3 = .ok (.iconst 0, 1) := by decide +kernel
theorem dX12_readAll_4 : decode cX12_readAll 4 = .ok (.invokevirtual 128, 3) := by decide +kernel
theorem dX12_readAll_7 : decode cX12_readAll 7 = .ok (.istore_n 1, 1) := by decide +kernel
theorem dX12_readAll_8 : decode cX12_readAll 8 = .ok (.aload_n 0, 1) := by decide +kernel
theorem dX12_readAll_9 : decode cX12_readAll 9 = .ok (.iconst 0, 1) := by decide +kernel
theorem dX12_readAll_10 : decode cX12_readAll 10 = .ok (.putfield 116, 3) := by decide +kernel
theorem dX12_readAll_13 : decode cX12_readAll 13 = .ok (.aload_n 0, 1) := by decide +kernel
theorem dX12_readAll_14 : decode cX12_readAll 14 = .ok (.iconst 0, 1) := by decide +kernel
theorem dX12_readAll_15 : decode cX12_readAll 15 = .ok (.iconst (-1), 1) := by decide +kernel
theorem dX12_readAll_16 : decode cX12_readAll 16 = .ok (.iload_n 1, 1) := by decide +kernel
theorem dX12_readAll_17 : decode cX12_readAll 17 = .ok (.invokevirtual 132, 3) := by decide +kernel
theorem dX12_readAll_20 : decode cX12_readAll 20 = .ok (.iconst 1, 1) := by decide +kernel
theorem dX12_readAll_21 : decode cX12_readAll 21 = .ok (.istore_n 2, 1) := by decide +kernel
theorem dX12_readAll_22 : decode cX12_readAll 22 = .ok (.iload_n 2, 1) := by decide +kernel
theorem dX12_readAll_23 : decode cX12_readAll 23 = .ok (.ifCond .eq 86, 3) := by decide +kernel
theorem dX12_readAll_26 : decode cX12_readAll 26 = .ok (.aload_n 0, 1) := by decide +kernel
theorem dX12_readAll_27 : decode cX12_readAll 27 = .ok (.invokevirtual 46, 3) := by decide +kernel
theorem dX12_readAll_30 : decode cX12_readAll 30 = .ok (.aload_n 0, 1) := by decide +kernel
theorem dX12_readAll_31 : decode cX12_readAll 31 = .ok (.invokevirtual 38, 3) := by decide +kernel
theorem dX12_readAll_34 : decode cX12_readAll 34 = .ok (.istore_n 3, 1) := by decide +kernel
theorem dX12_readAll_35 : decode cX12_readAll 35 = .ok (.iload_n 3, 1) := by decide +kernel
theorem dX12_readAll_36 : decode cX12_readAll 36 = .ok (.iconst (-1), 1) := by decide +kernel
theorem dX12_readAll_37 : decode cX12_readAll 37 = .ok (.if_icmp .eq 28, 3) := by decide +kernel
theorem dX12_readAll_40 : decode cX12_readAll 40 = .ok (.iload_n 3, 1) := by decide +kernel
theorem dX12_readAll_41 : decode cX12_readAll 41 = .ok (.bipush 125, 2) := by decide +kernel
theorem dX12_readAll_43 : decode cX12_readAll 43 = .ok (.if_icmp .eq 22, 3) := by decide +kernel
theorem dX12_readAll_46 : decode cX12_readAll 46 = .ok (.iload_n 3, 1) := by decide +kernel
theorem dX12_readAll_47 : decode cX12_readAll 47 = .ok (.bipush 93, 2) := by decide +kernel
theorem dX12_readAll_49 : decode cX12_readAll 49 = .ok (.if_icmp .eq 16, 3) := by decide +kernel
theorem dX12_readAll_52 : decode cX12_readAll 52 = .ok (.iload_n 3, 1) := by decide +kernel
theorem dX12_readAll_53 : decode cX12_readAll 53 = .ok (.bipush 47, 2) := by decide +kernel
theorem dX12_readAll_55 : decode cX12_readAll 55 = .ok (.if_icmp .eq 10, 3) := by decide +kernel
theorem dX12_readAll_58 : decode cX12_readAll 58 = .ok (.aload_n 0, 1) := by decide +kernel
theorem dX12_readAll_59 : decode cX12_readAll 59 = .ok (.invokevirtual 136, 3) := by decide +kernel
theorem dX12_readAll_62 : decode cX12_readAll 62 = .ok (.goto 27, 3) := by decide +kernel
theorem dX12_readAll_65 : decode cX12_readAll 65 = .ok (.aload_n 0, 1) := by decide +kernel
theorem dX12_readAll_66 : decode cX12_readAll 66 = .ok (.getfield 113, 3) := by decide +kernel
theorem dX12_readAll_69 : decode cX12_readAll 69 = .ok (.aload_n 0, 1) := by decide +kernel
theorem dX12_readAll_70 : decode cX12_readAll 70 = .ok (.getfield 116, 3) := by decide +kernel
theorem dX12_readAll_73 : decode cX12_readAll 73 = .ok (.iconst 1, 1) := by decide +kernel
theorem dX12_readAll_74 : decode cX12_readAll 74 = .ok (.isub, 1) := by decide +kernel
theorem dX12_readAll_75 : decode cX12_readAll 75 = .ok (.iaload, 1) := by decide +kernel
theorem dX12_readAll_76 : decode cX12_readAll 76 = .ok (.ifCond .ne 8, 3) := by decide +kernel
theorem dX12_readAll_79 : decode cX12_readAll 79 = .ok (.iconst 0, 1) := by decide +kernel
theorem dX12_readAll_80 : decode cX12_readAll 80 = .ok (.istore_n 2, 1) := by decide +kernel
theorem dX12_readAll_81 : decode cX12_readAll 81 = .ok (.goto 8, 3) := by decide +kernel
theorem dX12_readAll_84 : decode cX12_readAll 84 = .ok (.aload_n 0, 1) := by decide +kernel
theorem dX12_readAll_85 : decode cX12_readAll 85 = .ok (.iload_n 3, 1) := by decide +kernel
theorem dX12_readAll_86 : decode cX12_readAll 86 = .ok (.invokevirtual 139, 3) := by decide +kernel
theorem dX12_readAll_89 : decode cX12_readAll 89 = .ok (.iload_n 2, 1) := by decide +kernel
theorem dX12_readAll_90 : decode cX12_readAll 90 = .ok (.ifCond .eq 14, 3) := by decide +kernel
theorem dX12_readAll_93 : decode cX12_readAll 93 = .ok (.aload_n 0, 1) := by decide +kernel
theorem dX12_readAll_94 : decode cX12_readAll 94 = .ok (.getfield 23, 3) := by decide +kernel
theorem dX12_readAll_97 : decode cX12_readAll 97 = .ok (.ifCond .ne 7, 3) := by decide +kernel
theorem dX12_readAll_100 : decode cX12_readAll 100 = .ok (.iconst 1, 1) := by decide +kernel
theorem dX12_readAll_101 : decode cX12_readAll 101 = .ok (.goto 4, 3) := by decide +kernel
theorem dX12_readAll_104 : decode cX12_readAll 104 = .ok (.iconst 0, 1) := by decide +kernel
theorem dX12_readAll_105 : decode cX12_readAll 105 = .ok (.istore_n 2, 1) := by decide +kernel
theorem dX12_readAll_106 : decode cX12_readAll 106 = .ok (.goto (-84), 3) := by decide +kernel
theorem dX12_readAll_109 : decode cX12_readAll 109 = .ok (.iload_n 1, 1) := by decide +kernel
theorem dX12_readAll_110 : decode cX12_readAll 110 = .ok (.ireturn, 1) := by decide +kernel
abbrev rm_X12_readAll : Room := { frames := 6, cells := 0, slots := 0, locals := 151 }
def wp_X12_readAll (a : Nat) (S : PS) (Q : Int32 → PS → Prop) : Prop :=
  wp_X12_item a 11 0 S (fun (r2 : Int32) (S1 : PS) => 
 (∀ S3, S3 = sI S1 134 a 0 → wp_X12_openMusic a 0 (-1) r2 S3 (fun (S4 : PS) => 
 (∀ P22_5 : Int32 → PS → Prop, (∀ (x2_6 : Int32) (S7 : PS),
 (if x2_6 = 0 then
 Q r2 S7
 else
 wp_X12_blanks a S7 (fun (S8 : PS) => 
 wp_X12_here a S8 (fun (r10 : Int32) (S9 : PS) => 
 (∀ K89_13 : Int32 → PS → Prop, (∀ (x2_11 : Int32) (S12 : PS),
 (∀ K105_16 : Int32 → PS → Prop, (∀ (t14 : Int32) (S15 : PS),
 P22_5 t14 S15
 → K105_16 t14 S15) →
 (if x2_11 = 0 then
 K105_16 0 S12
 else
 (if fI S12 102 a = 0 then
 K105_16 1 S12
 else
 K105_16 0 S12)))
 → K89_13 x2_11 S12) →
 (∀ K65_18 : PS → Prop, (∀ (S17 : PS),
 (∃ b19, fR S17 130 a = some b19 ∧ (vp_in ((fI S17 134 a) - 1) (aN S17 b19) ∧ (if aI S17 61 b19 ((fI S17 134 a) - 1).toNatClampNeg = 0 then
 K89_13 0 S17
 else
 wp_X12_endMusic a r10 S17 (fun (S20 : PS) => 
 K89_13 x2_6 S20))))
 → K65_18 S17) →
 (if r10 = (-1) then
 K65_18 S9
 else
 (if r10 = 125 then
 K65_18 S9
 else
 (if r10 = 93 then
 K65_18 S9
 else
 (if r10 = 47 then
 K65_18 S9
 else
 wp_X12_readItem a S9 (fun (S21 : PS) => 
 K89_13 x2_6 S21))))))))))
 → P22_5 x2_6 S7) → P22_5 1 S4))))
set_option maxRecDepth 100000 in
set_option maxHeartbeats 4000000 in
theorem c_X12_readAll {l : Launch} {E : EE} {A : Nat → Prop} {a : Nat} {S : PS} {Q : Int32 → PS → Prop} (r_a : Rf S a 9) (h : wp_X12_readAll a S Q) : MtI l yX12_readAll (.code yX12_readAll cX12_readAll 4 (some .int)) rm_X12_readAll E A [.ref a] S Q := by
  refine MtI.of (by decide) (Nat.le_of_ble_eq_true rfl) (fun X F hQ hN => ?_)
  show VV X (0, 0) S [(0, .ref a)] [] 0
  unfold wp_X12_readAll at h
  refine v_aload_n F dX12_readAll_0 0 rfl rfl ?_
  refine v_bipush (v := 11) F dX12_readAll_1 (by decide) ?_
  refine v_iconst (v := 0) F dX12_readAll_3 (by decide) ?_
  refine v_cI0 (v_runV F k_X12_128 rfl (c_X12_item r_a h) r_a rfl rfl (Nat.le_of_ble_eq_true rfl) (by decide) (by decide) dX12_readAll_4) ⟨rfl, rfl⟩ (fun r2 S1 h hE => ?_)
  have r_a := r_a.tr hE
  refine v_istore_n (lv1 := [(1, .int r2), (0, .ref a)]) F dX12_readAll_7 rfl (by rw [hN]; decide) rfl ?_
  refine v_aload_n F dX12_readAll_8 1 rfl rfl ?_
  refine v_iconst (v := 0) F dX12_readAll_9 (by decide) ?_
  refine p_X12_116 F r_a h dX12_readAll_10 (fun S3 h hE => ?_)
  have r_a := r_a.tr hE
  refine v_aload_n F dX12_readAll_13 1 rfl rfl ?_
  refine v_iconst (v := 0) F dX12_readAll_14 (by decide) ?_
  refine v_iconst (v := (-1)) F dX12_readAll_15 (by decide) ?_
  refine v_iload_n F dX12_readAll_16 0 rfl rfl ?_
  refine v_cV0 (v_runV F k_X12_132 rfl (c_X12_openMusic r_a h) r_a rfl rfl (Nat.le_of_ble_eq_true rfl) (by decide) (by decide) dX12_readAll_17) ⟨rfl, rfl⟩ (fun  S4 h hE => ?_)
  have r_a := r_a.tr hE
  refine v_iconst (v := 1) F dX12_readAll_20 (by decide) ?_
  refine v_istore_n (lv1 := [(2, .int 1), (1, .int r2), (0, .ref a)]) F dX12_readAll_21 rfl (by rw [hN]; decide) rfl ?_
  refine v_sub [2, 1, 0] rfl ?_
  refine h (fun (x2_6 : Int32) (S7 : PS) => Rf S7 a 9 → VV X (0, 0) S7 [(0, .ref a), (1, .int r2), (2, .int x2_6)] [] 22) (fun x2_6 S7 h r_a => ?_) r_a
  refine v_iload_n F dX12_readAll_22 2 rfl rfl ?_
  refine v_if_eq (tgt := 109) F dX12_readAll_23 (by decide) h (fun h => ?_) (fun h => ?_)
  · refine v_iload_n F dX12_readAll_109 1 rfl rfl ?_
    exact v_iret F hQ h (by decide) dX12_readAll_110
  · refine v_aload_n F dX12_readAll_26 0 rfl rfl ?_
    refine v_cV0 (v_runV F k_X12_46 rfl (c_X12_blanks r_a h) r_a rfl rfl (Nat.le_of_ble_eq_true rfl) (by decide) (by decide) dX12_readAll_27) ⟨rfl, rfl⟩ (fun  S8 h hE => ?_)
    have r_a := r_a.tr hE
    refine v_aload_n F dX12_readAll_30 0 rfl rfl ?_
    refine v_cI0 (v_runV F k_X12_38 rfl (c_X12_here r_a h) r_a rfl rfl (Nat.le_of_ble_eq_true rfl) (by decide) (by decide) dX12_readAll_31) ⟨rfl, rfl⟩ (fun r10 S9 h hE => ?_)
    have r_a := r_a.tr hE
    refine v_istore_n (lv1 := [(3, .int r10), (0, .ref a), (1, .int r2), (2, .int x2_6)]) F dX12_readAll_34 rfl (by rw [hN]; decide) rfl ?_
    refine v_iload_n F dX12_readAll_35 0 rfl rfl ?_
    refine v_iconst (v := (-1)) F dX12_readAll_36 (by decide) ?_
    have h := h (fun (x2_11 : Int32) (S12 : PS) => Rf S12 a 9 → VV X (0, 0) S12 [(0, .ref a), (1, .int r2), (2, .int x2_11)] [] 89) (by
      intro x2_11 S12 h r_a
      refine v_iload_n F dX12_readAll_89 2 rfl rfl ?_
      have h := h (fun (t14 : Int32) (S15 : PS) => Rf S15 a 9 → VV X (0, 0) S15 [(0, .ref a), (1, .int r2)] [.int t14] 105) (by
        intro t14 S15 h r_a
        refine v_istore_n (lv1 := [(2, .int t14), (0, .ref a), (1, .int r2)]) F dX12_readAll_105 rfl (by rw [hN]; decide) rfl ?_
        refine v_goto (tgt := 22) F dX12_readAll_106 (by decide) ?_
        exact v_sub [1, 2, 0] rfl (h r_a))
      refine v_if_eq (tgt := 104) F dX12_readAll_90 (by decide) h (fun h => ?_) (fun h => ?_)
      · refine v_iconst (v := 0) F dX12_readAll_104 (by decide) ?_
        exact v_sub [0, 1] rfl (h r_a)
      · refine v_aload_n F dX12_readAll_93 0 rfl rfl ?_
        refine g_X12_23 F r_a dX12_readAll_94 ?_
        refine v_if_ne (tgt := 104) F dX12_readAll_97 (by decide) h (fun h => ?_) (fun h => ?_)
        · refine v_iconst (v := 0) F dX12_readAll_104 (by decide) ?_
          exact v_sub [0, 1] rfl (h r_a)
        · refine v_iconst (v := 1) F dX12_readAll_100 (by decide) ?_
          refine v_goto (tgt := 105) F dX12_readAll_101 (by decide) ?_
          exact v_sub [0, 1] rfl (h r_a))
    have h := h (fun (S17 : PS) => Rf S17 a 9 → VV X (0, 0) S17 [(0, .ref a), (1, .int r2), (2, .int x2_6), (3, .int r10)] [] 65) (by
      intro S17 h r_a
      refine v_aload_n F dX12_readAll_65 0 rfl rfl ?_
      refine g_X12_113 F r_a h dX12_readAll_66 (fun b19 r_b19 h => ?_)
      refine v_aload_n F dX12_readAll_69 0 rfl rfl ?_
      refine g_X12_116 F r_a dX12_readAll_70 ?_
      refine v_iconst (v := 1) F dX12_readAll_73 (by decide) ?_
      refine v_isub F dX12_readAll_74 ?_
      refine v_iald F r_b19 o_61 h dX12_readAll_75 (fun h => ?_)
      refine v_if_ne (tgt := 84) F dX12_readAll_76 (by decide) h (fun h => ?_) (fun h => ?_)
      · refine v_aload_n F dX12_readAll_84 0 rfl rfl ?_
        refine v_iload_n F dX12_readAll_85 3 rfl rfl ?_
        refine v_cV0 (v_runV F k_X12_139 rfl (c_X12_endMusic r_a h) r_a rfl rfl (Nat.le_of_ble_eq_true rfl) (by decide) (by decide) dX12_readAll_86) ⟨rfl, rfl⟩ (fun  S20 h hE => ?_)
        have r_a := r_a.tr hE
        exact v_sub [0, 1, 2] rfl (h r_a)
      · refine v_iconst (v := 0) F dX12_readAll_79 (by decide) ?_
        refine v_istore_n (lv1 := [(2, .int 0), (0, .ref a), (1, .int r2), (3, .int r10)]) F dX12_readAll_80 rfl (by rw [hN]; decide) rfl ?_
        refine v_goto (tgt := 89) F dX12_readAll_81 (by decide) ?_
        exact v_sub [1, 2, 0] rfl (h r_a))
    refine v_icmp_eq (tgt := 65) F dX12_readAll_37 (by decide) h (fun h => ?_) (fun h => ?_)
    · exact v_sub [1, 2, 3, 0] rfl (h r_a)
    · refine v_iload_n F dX12_readAll_40 0 rfl rfl ?_
      refine v_bipush (v := 125) F dX12_readAll_41 (by decide) ?_
      refine v_icmp_eq (tgt := 65) F dX12_readAll_43 (by decide) h (fun h => ?_) (fun h => ?_)
      · exact v_sub [1, 2, 3, 0] rfl (h r_a)
      · refine v_iload_n F dX12_readAll_46 0 rfl rfl ?_
        refine v_bipush (v := 93) F dX12_readAll_47 (by decide) ?_
        refine v_icmp_eq (tgt := 65) F dX12_readAll_49 (by decide) h (fun h => ?_) (fun h => ?_)
        · exact v_sub [1, 2, 3, 0] rfl (h r_a)
        · refine v_iload_n F dX12_readAll_52 0 rfl rfl ?_
          refine v_bipush (v := 47) F dX12_readAll_53 (by decide) ?_
          refine v_icmp_eq (tgt := 65) F dX12_readAll_55 (by decide) h (fun h => ?_) (fun h => ?_)
          · exact v_sub [1, 2, 3, 0] rfl (h r_a)
          · refine v_aload_n F dX12_readAll_58 1 rfl rfl ?_
            refine v_cV0 (v_runV F k_X12_136 rfl (c_X12_readItem r_a h) r_a rfl rfl (Nat.le_of_ble_eq_true rfl) (by decide) (by decide) dX12_readAll_59) ⟨rfl, rfl⟩ (fun  S21 h hE => ?_)
            have r_a := r_a.tr hE
            refine v_goto (tgt := 89) F dX12_readAll_62 (by decide) ?_
            exact v_sub [1, 2, 3] rfl (h r_a)
theorem dX12_halves_0 : decode cX12_halves 0 = .ok (.iload_n 0, 1) := by decide +kernel
theorem dX12_halves_1 : decode cX12_halves 1 = .ok (.iconst 3, 1) := by decide +kernel
theorem dX12_halves_2 : decode cX12_halves 2 = .ok (.if_icmp .ge 9, 3) := by decide +kernel
theorem dX12_halves_5 : decode cX12_halves 5 = .ok (.iconst 2, 1) := by decide +kernel
theorem dX12_halves_6 : decode cX12_halves 6 = .ok (.iload_n 0, 1) := by decide +kernel
theorem dX12_halves_7 : decode cX12_halves 7 = .ok (.imul, 1) := by decide +kernel
theorem dX12_halves_8 : decode cX12_halves 8 = .ok (.goto 8, 3) := by decide +kernel
theorem dX12_halves_11 : decode cX12_halves 11 = .ok (.iconst 2, 1) := by decide +kernel
theorem dX12_halves_12 : decode cX12_halves 12 = .ok (.iload_n 0, 1) := by decide +kernel
theorem dX12_halves_13 : decode cX12_halves 13 = .ok (.imul, 1) := by decide +kernel
theorem dX12_halves_14 : decode cX12_halves 14 = .ok (.iconst 1, 1) := by decide +kernel
theorem dX12_halves_15 : decode cX12_halves 15 = .ok (.isub, 1) := by decide +kernel
theorem dX12_halves_16 : decode cX12_halves 16 = .ok (.ireturn, 1) := by decide +kernel
abbrev rm_X12_halves : Room := { frames := 0, cells := 0, slots := 0, locals := 0 }
def wp_X12_halves (p1 : Int32) (S : PS) (Q : Int32 → PS → Prop) : Prop :=
  (if 3 ≤ p1 then
 Q (((2 : Int32) * p1) - 1) S
 else
 Q ((2 : Int32) * p1) S)
set_option maxRecDepth 100000 in
set_option maxHeartbeats 4000000 in
theorem c_X12_halves {l : Launch} {E : EE} {A : Nat → Prop} {p1 : Int32} {S : PS} {Q : Int32 → PS → Prop} (h : wp_X12_halves p1 S Q) : MtI l yX12_halves (.code yX12_halves cX12_halves 1 (some .int)) rm_X12_halves E A [.int p1] S Q := by
  refine MtI.of (by decide) (Nat.le_of_ble_eq_true rfl) (fun X F hQ hN => ?_)
  show VV X (0, 0) S [(0, .int p1)] [] 0
  unfold wp_X12_halves at h
  refine v_iload_n F dX12_halves_0 0 rfl rfl ?_
  refine v_iconst (v := 3) F dX12_halves_1 (by decide) ?_
  refine v_icmp_ge (tgt := 11) F dX12_halves_2 (by decide) h (fun h => ?_) (fun h => ?_)
  · refine v_iconst (v := 2) F dX12_halves_11 (by decide) ?_
    refine v_iload_n F dX12_halves_12 0 rfl rfl ?_
    refine v_imul F dX12_halves_13 ?_
    refine v_iconst (v := 1) F dX12_halves_14 (by decide) ?_
    refine v_isub F dX12_halves_15 ?_
    exact v_iret F hQ h (by decide) dX12_halves_16
  · refine v_iconst (v := 2) F dX12_halves_5 (by decide) ?_
    refine v_iload_n F dX12_halves_6 0 rfl rfl ?_
    refine v_imul F dX12_halves_7 ?_
    refine v_goto (tgt := 16) F dX12_halves_8 (by decide) ?_
    exact v_iret F hQ h (by decide) dX12_halves_16
theorem dX12_step_0 : decode cX12_step 0 = .ok (.aload_n 0, 1) := by decide +kernel
theorem dX12_step_1 : decode cX12_step 1 = .ok (.getfield 276, 3) := by decide +kernel
theorem dX12_step_4 : decode cX12_step 4 = .ok (.sipush 3000, 3) := by decide +kernel
theorem dX12_step_7 : decode cX12_step 7 = .ok (.if_icmp .ne 17, 3) := by decide +kernel
theorem dX12_step_10 : decode cX12_step 10 = .ok (.aload_n 0, 1) := by decide +kernel
theorem dX12_step_11 : decode cX12_step 11 = .ok (.iconst 5, 1) := by decide +kernel
theorem dX12_step_12 : decode cX12_step 12 = .ok (.aload_n 0, 1) := by decide +kernel
theorem dX12_step_13 : decode cX12_step 13 = .ok (.getfield 90, 3) := by decide +kernel
theorem dX12_step_16 : decode cX12_step 16 = .ok (.iload_n 1, 1) := by decide +kernel
theorem dX12_step_17 : decode cX12_step 17 = .ok (.iaload, 1) := by decide +kernel
theorem dX12_step_18 : decode cX12_step 18 = .ok (.invokevirtual 50, 3) := by decide +kernel
theorem dX12_step_21 : decode cX12_step 21 = .ok (.goto 13, 3) := by decide +kernel
theorem dX12_step_24 : decode cX12_step 24 = .ok (.aload_n 0, 1) := by decide +kernel
theorem dX12_step_25 : decode cX12_step 25 = .ok (.dup, 1) := by decide +kernel
theorem dX12_step_26 : decode cX12_step 26 = .ok (.getfield 276, 3) := by decide +kernel
theorem dX12_step_29 : decode cX12_step 29 = .ok (.iconst 1, 1) := by decide +kernel
theorem dX12_step_30 : decode cX12_step 30 = .ok (.iadd, 1) := by decide +kernel
theorem dX12_step_31 : decode cX12_step 31 = .ok (.putfield 276, 3) := by decide +kernel
theorem dX12_step_34 : decode cX12_step 34 = .ok (.return_, 1) := by decide +kernel
abbrev rm_X12_step : Room := { frames := 1, cells := 0, slots := 0, locals := 22 }
def wp_X12_step (a : Nat) (p1 : Int32) (S : PS) (Q : PS → Prop) : Prop :=
  (if fI S 154 a = 3000 then
 (∃ b2, fR S 106 a = some b2 ∧ (vp_in p1 (aN S b2) ∧ wp_X12_bad a 5 (aI S 43 b2 (p1).toNatClampNeg) S (fun (S3 : PS) => 
 Q S3)))
 else
 (∀ S1, S1 = sI S 154 a ((fI S 154 a) + 1) → Q S1))
set_option maxRecDepth 100000 in
set_option maxHeartbeats 4000000 in
theorem c_X12_step {l : Launch} {E : EE} {A : Nat → Prop} {a : Nat} {p1 : Int32} {S : PS} {Q : PS → Prop} (r_a : Rf S a 9) (h : wp_X12_step a p1 S Q) : MtV l yX12_step (.code yX12_step cX12_step 2 none) rm_X12_step E A [.ref a, .int p1] S Q := by
  refine MtV.of (by decide) (Nat.le_of_ble_eq_true rfl) (fun X F hQ hN => ?_)
  show VV X (0, 0) S [(0, .ref a), (1, .int p1)] [] 0
  unfold wp_X12_step at h
  refine v_aload_n F dX12_step_0 0 rfl rfl ?_
  refine g_X12_276 F r_a dX12_step_1 ?_
  refine v_sipush (v := 3000) F dX12_step_4 (by decide) ?_
  refine v_icmp_ne (tgt := 24) F dX12_step_7 (by decide) h (fun h => ?_) (fun h => ?_)
  · refine v_aload_n F dX12_step_24 0 rfl rfl ?_
    refine v_dup F dX12_step_25 rfl ?_
    refine g_X12_276 F r_a dX12_step_26 ?_
    refine v_iconst (v := 1) F dX12_step_29 (by decide) ?_
    refine v_iadd F dX12_step_30 ?_
    refine p_X12_276 F r_a h dX12_step_31 (fun S1 h hE => ?_)
    have r_a := r_a.tr hE
    exact v_vret F hQ h (by decide) dX12_step_34
  · refine v_aload_n F dX12_step_10 0 rfl rfl ?_
    refine v_iconst (v := 5) F dX12_step_11 (by decide) ?_
    refine v_aload_n F dX12_step_12 0 rfl rfl ?_
    refine g_X12_90 F r_a h dX12_step_13 (fun b2 r_b2 h => ?_)
    refine v_iload_n F dX12_step_16 1 rfl rfl ?_
    refine v_iald F r_b2 o_43 h dX12_step_17 (fun h => ?_)
    refine v_cV0 (v_runV F k_X12_50 rfl (c_X12_bad r_a h) r_a rfl rfl (Nat.le_of_ble_eq_true rfl) (by decide) (by decide) dX12_step_18) ⟨rfl, rfl⟩ (fun  S3 h hE => ?_)
    have r_a := r_a.tr hE
    refine v_goto (tgt := 34) F dX12_step_21 (by decide) ?_
    exact v_vret F hQ h (by decide) dX12_step_34
theorem dX12_enter_0 : decode cX12_enter 0 = .ok (.aload_n 0, 1) := by decide +kernel
theorem dX12_enter_1 : decode cX12_enter 1 = .ok (.getfield 279, 3) := by decide +kernel
theorem dX12_enter_4 : decode cX12_enter 4 = .ok (.aload_n 0, 1) := by decide +kernel
theorem dX12_enter_5 : decode cX12_enter 5 = .ok (.getfield 282, 3) := by decide +kernel
theorem dX12_enter_8 : decode cX12_enter 8 = .ok (.iload_n 1, 1) := by decide +kernel
theorem dX12_enter_9 : decode cX12_enter 9 = .ok (.iastore, 1) := by decide +kernel
theorem dX12_enter_10 : decode cX12_enter 10 = .ok (.aload_n 0, 1) := by decide +kernel
theorem dX12_enter_11 : decode cX12_enter 11 = .ok (.getfield 285, 3) := by decide +kernel
theorem dX12_enter_14 : decode cX12_enter 14 = .ok (.aload_n 0, 1) := by decide +kernel
theorem dX12_enter_15 : decode cX12_enter 15 = .ok (.getfield 282, 3) := by decide +kernel
theorem dX12_enter_18 : decode cX12_enter 18 = .ok (.aload_n 0, 1) := by decide +kernel
theorem dX12_enter_19 : decode cX12_enter 19 = .ok (.getfield 99, 3) := by decide +kernel
theorem dX12_enter_22 : decode cX12_enter 22 = .ok (.iload_n 2, 1) := by decide +kernel
theorem dX12_enter_23 : decode cX12_enter 23 = .ok (.iaload, 1) := by decide +kernel
theorem dX12_enter_24 : decode cX12_enter 24 = .ok (.iastore, 1) := by decide +kernel
theorem dX12_enter_25 : decode cX12_enter 25 = .ok (.aload_n 0, 1) := by decide +kernel
theorem dX12_enter_26 : decode cX12_enter 26 = .ok (.getfield 288, 3) := by decide +kernel
theorem dX12_enter_29 : decode cX12_enter 29 = .ok (.aload_n 0, 1) := by decide +kernel
theorem dX12_enter_30 : decode cX12_enter 30 = .ok (.getfield 282, 3) := by decide +kernel
theorem dX12_enter_33 : decode cX12_enter 33 = .ok (.iload_n 2, 1) := by decide +kernel
theorem dX12_enter_34 : decode cX12_enter 34 = .ok (.iastore, 1) := by decide +kernel
theorem dX12_enter_35 : decode cX12_enter 35 = .ok (.aload_n 0, 1) := by decide +kernel
theorem dX12_enter_36 : decode cX12_enter 36 = .ok (.getfield 291, 3) := by decide +kernel
theorem dX12_enter_39 : decode cX12_enter 39 = .ok (.aload_n 0, 1) := by decide +kernel
theorem dX12_enter_40 : decode cX12_enter 40 = .ok (.getfield 282, 3) := by decide +kernel
theorem dX12_enter_43 : decode cX12_enter 43 = .ok (.iload_n 3, 1) := by decide +kernel
theorem dX12_enter_44 : decode cX12_enter 44 = .ok (.iastore, 1) := by decide +kernel
theorem dX12_enter_45 : decode cX12_enter 45 = .ok (.aload_n 0, 1) := by decide +kernel
theorem dX12_enter_46 : decode cX12_enter 46 = .ok (.dup, 1) := by decide +kernel
theorem dX12_enter_47 : decode cX12_enter 47 = .ok (.getfield 282, 3) := by decide +kernel
theorem dX12_enter_50 : decode cX12_enter 50 = .ok (.iconst 1, 1) := by decide +kernel
theorem dX12_enter_51 : decode cX12_enter 51 = .ok (.iadd, 1) := by decide +kernel
theorem dX12_enter_52 : decode cX12_enter 52 = .ok (.putfield 282, 3) := by decide +kernel
theorem dX12_enter_55 : decode cX12_enter 55 = .ok (.return_, 1) := by decide +kernel
abbrev rm_X12_enter : Room := { frames := 0, cells := 0, slots := 0, locals := 0 }
def wp_X12_enter (a : Nat) (p1 : Int32) (p2 : Int32) (p3 : Int32) (S : PS) (Q : PS → Prop) : Prop :=
  (∃ b1, fR S 174 a = some b1 ∧ (vp_in (fI S 188 a) (aN S b1) ∧ ∀ S2, S2 = wI S 87 b1 (fI S 188 a).toNatClampNeg p1 → (∃ b3, fR S2 173 a = some b3 ∧ (∃ b4, fR S2 109 a = some b4 ∧ (vp_in p2 (aN S2 b4) ∧ (vp_in (fI S2 188 a) (aN S2 b3) ∧ ∀ S5, S5 = wI S2 86 b3 (fI S2 188 a).toNatClampNeg (aI S2 46 b4 (p2).toNatClampNeg) → (∃ b6, fR S5 179 a = some b6 ∧ (vp_in (fI S5 188 a) (aN S5 b6) ∧ ∀ S7, S7 = wI S5 92 b6 (fI S5 188 a).toNatClampNeg p2 → (∃ b8, fR S7 175 a = some b8 ∧ (vp_in (fI S7 188 a) (aN S7 b8) ∧ ∀ S9, S9 = wI S7 88 b8 (fI S7 188 a).toNatClampNeg p3 → (∀ S10, S10 = sI S9 188 a ((fI S9 188 a) + 1) → Q S10)))))))))))
set_option maxRecDepth 100000 in
set_option maxHeartbeats 4000000 in
theorem c_X12_enter {l : Launch} {E : EE} {A : Nat → Prop} {a : Nat} {p1 : Int32} {p2 : Int32} {p3 : Int32} {S : PS} {Q : PS → Prop} (r_a : Rf S a 9) (h : wp_X12_enter a p1 p2 p3 S Q) : MtV l yX12_enter (.code yX12_enter cX12_enter 4 none) rm_X12_enter E A [.ref a, .int p1, .int p2, .int p3] S Q := by
  refine MtV.of (by decide) (Nat.le_of_ble_eq_true rfl) (fun X F hQ hN => ?_)
  show VV X (0, 0) S [(0, .ref a), (1, .int p1), (2, .int p2), (3, .int p3)] [] 0
  unfold wp_X12_enter at h
  refine v_aload_n F dX12_enter_0 0 rfl rfl ?_
  refine g_X12_279 F r_a h dX12_enter_1 (fun b1 r_b1 h => ?_)
  refine v_aload_n F dX12_enter_4 0 rfl rfl ?_
  refine g_X12_282 F r_a dX12_enter_5 ?_
  refine v_iload_n F dX12_enter_8 1 rfl rfl ?_
  refine v_iast F r_b1 o_87 h dX12_enter_9 (fun S2 h hE => ?_)
  have r_a := r_a.tr hE
  refine v_aload_n F dX12_enter_10 0 rfl rfl ?_
  refine g_X12_285 F r_a h dX12_enter_11 (fun b3 r_b3 h => ?_)
  refine v_aload_n F dX12_enter_14 0 rfl rfl ?_
  refine g_X12_282 F r_a dX12_enter_15 ?_
  refine v_aload_n F dX12_enter_18 0 rfl rfl ?_
  refine g_X12_99 F r_a h dX12_enter_19 (fun b4 r_b4 h => ?_)
  refine v_iload_n F dX12_enter_22 2 rfl rfl ?_
  refine v_iald F r_b4 o_46 h dX12_enter_23 (fun h => ?_)
  refine v_iast F r_b3 o_86 h dX12_enter_24 (fun S5 h hE => ?_)
  have r_a := r_a.tr hE
  refine v_aload_n F dX12_enter_25 0 rfl rfl ?_
  refine g_X12_288 F r_a h dX12_enter_26 (fun b6 r_b6 h => ?_)
  refine v_aload_n F dX12_enter_29 0 rfl rfl ?_
  refine g_X12_282 F r_a dX12_enter_30 ?_
  refine v_iload_n F dX12_enter_33 2 rfl rfl ?_
  refine v_iast F r_b6 o_92 h dX12_enter_34 (fun S7 h hE => ?_)
  have r_a := r_a.tr hE
  refine v_aload_n F dX12_enter_35 0 rfl rfl ?_
  refine g_X12_291 F r_a h dX12_enter_36 (fun b8 r_b8 h => ?_)
  refine v_aload_n F dX12_enter_39 0 rfl rfl ?_
  refine g_X12_282 F r_a dX12_enter_40 ?_
  refine v_iload_n F dX12_enter_43 3 rfl rfl ?_
  refine v_iast F r_b8 o_88 h dX12_enter_44 (fun S9 h hE => ?_)
  have r_a := r_a.tr hE
  refine v_aload_n F dX12_enter_45 0 rfl rfl ?_
  refine v_dup F dX12_enter_46 rfl ?_
  refine g_X12_282 F r_a dX12_enter_47 ?_
  refine v_iconst (v := 1) F dX12_enter_50 (by decide) ?_
  refine v_iadd F dX12_enter_51 ?_
  refine p_X12_282 F r_a h dX12_enter_52 (fun S10 h hE => ?_)
  have r_a := r_a.tr hE
  exact v_vret F hQ h (by decide) dX12_enter_55
theorem dX12_endOfVoice_0 : decode cX12_endOfVoice 0 = .ok (.aload_n 0, 1) := by decide +kernel
theorem dX12_endOfVoice_1 : decode cX12_endOfVoice 1 = .ok (.getfield 23, 3) := by decide +kernel
theorem dX12_endOfVoice_4 : decode cX12_endOfVoice 4 = .ok (.ifCond .ne 36, 3) := by decide +kernel
theorem dX12_endOfVoice_7 : decode cX12_endOfVoice 7 = .ok (.aload_n 0, 1) := by decide +kernel
theorem dX12_endOfVoice_8 : decode cX12_endOfVoice 8 = .ok (.getfield 432, 3) := by decide +kernel
theorem dX12_endOfVoice_11 : decode cX12_endOfVoice 11 = .ok (.aload_n 0, 1) := by decide +kernel
theorem dX12_endOfVoice_12 : decode cX12_endOfVoice 12 = .ok (.getfield 344, 3) := by decide +kernel
theorem dX12_endOfVoice_15 : decode cX12_endOfVoice 15 = .ok (.iaload, 1) := by decide +kernel
theorem dX12_endOfVoice_16 : decode cX12_endOfVoice 16 = .ok (.iconst (-1), 1) := by decide +kernel
theorem dX12_endOfVoice_17 : decode cX12_endOfVoice 17 = .ok (.if_icmp .eq 23, 3) := by decide +kernel
theorem dX12_endOfVoice_20 : decode cX12_endOfVoice 20 = .ok (.aload_n 0, 1) := by decide +kernel
theorem dX12_endOfVoice_21 : decode cX12_endOfVoice 21 = .ok (.bipush 6, 2) := by decide +kernel
theorem dX12_endOfVoice_23 : decode cX12_endOfVoice 23 = .ok (.aload_n 0, 1) := by decide +kernel
theorem dX12_endOfVoice_24 : decode cX12_endOfVoice 24 = .ok (.getfield 438, 3) := by decide +kernel
theorem dX12_endOfVoice_27 : decode cX12_endOfVoice 27 = .ok (.aload_n 0, 1) := by decide +kernel
theorem dX12_endOfVoice_28 : decode cX12_endOfVoice 28 = .ok (.getfield 432, 3) := by decide +kernel
theorem dX12_endOfVoice_31 : decode cX12_endOfVoice 31 = .ok (.aload_n 0, 1) := by decide +kernel
theorem dX12_endOfVoice_32 : decode cX12_endOfVoice 32 = .ok (.getfield 344, 3) := by decide +kernel
theorem dX12_endOfVoice_35 : decode cX12_endOfVoice 35 = .ok (.iaload, 1) := by decide +kernel
theorem dX12_endOfVoice_36 : decode cX12_endOfVoice 36 = .ok (.iaload, 1) := by decide +kernel
theorem dX12_endOfVoice_37 : decode cX12_endOfVoice 37 = .ok (.invokevirtual 50, 3) := by decide +kernel
theorem dX12_endOfVoice_40 : decode cX12_endOfVoice 40 = .ok (.return_, 1) := by decide +kernel
abbrev rm_X12_endOfVoice : Room := { frames := 1, cells := 0, slots := 0, locals := 22 }
def wp_X12_endOfVoice (a : Nat) (S : PS) (Q : PS → Prop) : Prop :=
  (if fI S 102 a = 0 then
 (∃ b1, fR S 148 a = some b1 ∧ (vp_in (fI S 155 a) (aN S b1) ∧ (if aI S 77 b1 (fI S 155 a).toNatClampNeg = (-1) then
 Q S
 else
 (∃ b2, fR S 141 a = some b2 ∧ (∃ b3, fR S 148 a = some b3 ∧ (vp_in (fI S 155 a) (aN S b3) ∧ (vp_in (aI S 77 b3 (fI S 155 a).toNatClampNeg) (aN S b2) ∧ wp_X12_bad a 6 (aI S 71 b2 (aI S 77 b3 (fI S 155 a).toNatClampNeg).toNatClampNeg) S (fun (S4 : PS) => 
 Q S4))))))))
 else
 Q S)
set_option maxRecDepth 100000 in
set_option maxHeartbeats 4000000 in
theorem c_X12_endOfVoice {l : Launch} {E : EE} {A : Nat → Prop} {a : Nat} {S : PS} {Q : PS → Prop} (r_a : Rf S a 9) (h : wp_X12_endOfVoice a S Q) : MtV l yX12_endOfVoice (.code yX12_endOfVoice cX12_endOfVoice 1 none) rm_X12_endOfVoice E A [.ref a] S Q := by
  refine MtV.of (by decide) (Nat.le_of_ble_eq_true rfl) (fun X F hQ hN => ?_)
  show VV X (0, 0) S [(0, .ref a)] [] 0
  unfold wp_X12_endOfVoice at h
  refine v_aload_n F dX12_endOfVoice_0 0 rfl rfl ?_
  refine g_X12_23 F r_a dX12_endOfVoice_1 ?_
  refine v_if_ne (tgt := 40) F dX12_endOfVoice_4 (by decide) h (fun h => ?_) (fun h => ?_)
  · exact v_vret F hQ h (by decide) dX12_endOfVoice_40
  · refine v_aload_n F dX12_endOfVoice_7 0 rfl rfl ?_
    refine g_X12_432 F r_a h dX12_endOfVoice_8 (fun b1 r_b1 h => ?_)
    refine v_aload_n F dX12_endOfVoice_11 0 rfl rfl ?_
    refine g_X12_344 F r_a dX12_endOfVoice_12 ?_
    refine v_iald F r_b1 o_77 h dX12_endOfVoice_15 (fun h => ?_)
    refine v_iconst (v := (-1)) F dX12_endOfVoice_16 (by decide) ?_
    refine v_icmp_eq (tgt := 40) F dX12_endOfVoice_17 (by decide) h (fun h => ?_) (fun h => ?_)
    · exact v_vret F hQ h (by decide) dX12_endOfVoice_40
    · refine v_aload_n F dX12_endOfVoice_20 0 rfl rfl ?_
      refine v_bipush (v := 6) F dX12_endOfVoice_21 (by decide) ?_
      refine v_aload_n F dX12_endOfVoice_23 0 rfl rfl ?_
      refine g_X12_438 F r_a h dX12_endOfVoice_24 (fun b2 r_b2 h => ?_)
      refine v_aload_n F dX12_endOfVoice_27 0 rfl rfl ?_
      refine g_X12_432 F r_a h dX12_endOfVoice_28 (fun b3 r_b3 h => ?_)
      refine v_aload_n F dX12_endOfVoice_31 0 rfl rfl ?_
      refine g_X12_344 F r_a dX12_endOfVoice_32 ?_
      refine v_iald F r_b3 o_77 h dX12_endOfVoice_35 (fun h => ?_)
      refine v_iald F r_b2 o_71 h dX12_endOfVoice_36 (fun h => ?_)
      refine v_cV0 (v_runV F k_X12_50 rfl (c_X12_bad r_a h) r_a rfl rfl (Nat.le_of_ble_eq_true rfl) (by decide) (by decide) dX12_endOfVoice_37) ⟨rfl, rfl⟩ (fun  S4 h hE => ?_)
      have r_a := r_a.tr hE
      exact v_vret F hQ h (by decide) dX12_endOfVoice_40
theorem dX12_isLike_0 : decode cX12_isLike 0 = .ok (.aload_n 0, 1) := by decide +kernel
theorem dX12_isLike_1 : decode cX12_isLike 1 = .ok (.getfield 420, 3) := by decide +kernel
theorem dX12_isLike_4 : decode cX12_isLike 4 = .ok (.iload_n 1, 1) := by decide +kernel
theorem dX12_isLike_5 : decode cX12_isLike 5 = .ok (.iaload, 1) := by decide +kernel
theorem dX12_isLike_6 : decode cX12_isLike 6 = .ok (.iload_n 2, 1) := by decide +kernel
theorem dX12_isLike_7 : decode cX12_isLike 7 = .ok (.if_icmp .ne 11, 3) := by decide +kernel
theorem dX12_isLike_10 : decode cX12_isLike 10 = .ok (.iload_n 2, 1) := by decide +kernel
theorem dX12_isLike_11 : decode cX12_isLike 11 = .ok (.ifCond .le 7, 3) := by decide +kernel
theorem dX12_isLike_14 : decode cX12_isLike 14 = .ok (.iconst 1, 1) := by decide +kernel
theorem dX12_isLike_15 : decode cX12_isLike 15 = .ok (.goto 4, 3) := by decide +kernel
theorem dX12_isLike_18 : decode cX12_isLike 18 = .ok (.iconst 0, 1) := by decide +kernel
theorem dX12_isLike_19 : decode cX12_isLike 19 = .ok (.istore_n 3, 1) := by decide +kernel
theorem dX12_isLike_20 : decode cX12_isLike 20 = .ok (.iconst 0, 1) := by decide +kernel
theorem dX12_isLike_21 : decode cX12_isLike 21 = .ok (.istore 4, 2) := by decide +kernel
theorem dX12_isLike_23 : decode cX12_isLike 23 = .ok (.iload 4, 2) := by decide +kernel
theorem dX12_isLike_25 : decode cX12_isLike 25 = .ok (.iload_n 2, 1) := by decide +kernel
theorem dX12_isLike_26 : decode cX12_isLike 26 = .ok (.if_icmp .ge 85, 3) := by decide +kernel
theorem dX12_isLike_29 : decode cX12_isLike 29 = .ok (.iload_n 3, 1) := by decide +kernel
theorem dX12_isLike_30 : decode cX12_isLike 30 = .ok (.ifCond .eq 81, 3) := by decide +kernel
theorem dX12_isLike_33 : decode cX12_isLike 33 = .ok (.aload_n 0, 1) := by decide +kernel
theorem dX12_isLike_34 : decode cX12_isLike 34 = .ok (.getfield 423, 3) := by decide +kernel
theorem dX12_isLike_37 : decode cX12_isLike 37 = .ok (.bipush 6, 2) := by decide +kernel
theorem dX12_isLike_39 : decode cX12_isLike 39 = .ok (.iload_n 1, 1) := by decide +kernel
theorem dX12_isLike_40 : decode cX12_isLike 40 = .ok (.imul, 1) := by decide +kernel
theorem dX12_isLike_41 : decode cX12_isLike 41 = .ok (.iload 4, 2) := by decide +kernel
theorem dX12_isLike_43 : decode cX12_isLike 43 = .ok (.iadd, 1) := by decide +kernel
theorem dX12_isLike_44 : decode cX12_isLike 44 = .ok (.iaload, 1) := by decide +kernel
theorem dX12_isLike_45 : decode cX12_isLike 45 = .ok (.aload_n 0, 1) := by decide +kernel
theorem dX12_isLike_46 : decode cX12_isLike 46 = .ok (.getfield 399, 3) := by decide +kernel
theorem dX12_isLike_49 : decode cX12_isLike 49 = .ok (.iload 4, 2) := by decide +kernel
theorem dX12_isLike_51 : decode cX12_isLike 51 = .ok (.iaload, 1) := by decide +kernel
theorem dX12_isLike_52 : decode cX12_isLike 52 = .ok (.if_icmp .ne 51, 3) := by decide +kernel
theorem dX12_isLike_55 : decode cX12_isLike 55 = .ok (.aload_n 0, 1) := by decide +kernel
theorem dX12_isLike_56 : decode cX12_isLike 56 = .ok (.getfield 426, 3) := by decide +kernel
theorem dX12_isLike_59 : decode cX12_isLike 59 = .ok (.bipush 6, 2) := by decide +kernel
theorem dX12_isLike_61 : decode cX12_isLike 61 = .ok (.iload_n 1, 1) := by decide +kernel
theorem dX12_isLike_62 : decode cX12_isLike 62 = .ok (.imul, 1) := by decide +kernel
theorem dX12_isLike_63 : decode cX12_isLike 63 = .ok (.iload 4, 2) := by decide +kernel
theorem dX12_isLike_65 : decode cX12_isLike 65 = .ok (.iadd, 1) := by decide +kernel
theorem dX12_isLike_66 : decode cX12_isLike 66 = .ok (.iaload, 1) := by decide +kernel
theorem dX12_isLike_67 : decode cX12_isLike 67 = .ok (.aload_n 0, 1) := by decide +kernel
theorem dX12_isLike_68 : decode cX12_isLike 68 = .ok (.getfield 402, 3) := by decide +kernel
theorem dX12_isLike_71 : decode cX12_isLike 71 = .ok (.iload 4, 2) := by decide +kernel
theorem dX12_isLike_73 : decode cX12_isLike 73 = .ok (.iaload, 1) := by decide +kernel
theorem dX12_isLike_74 : decode cX12_isLike 74 = .ok (.if_icmp .ne 29, 3) := by decide +kernel
theorem dX12_isLike_77 : decode cX12_isLike 77 = .ok (.aload_n 0, 1) := by decide +kernel
theorem dX12_isLike_78 : decode cX12_isLike 78 = .ok (.getfield 429, 3) := by decide +kernel
theorem dX12_isLike_81 : decode cX12_isLike 81 = .ok (.bipush 6, 2) := by decide +kernel
theorem dX12_isLike_83 : decode cX12_isLike 83 = .ok (.iload_n 1, 1) := by decide +kernel
theorem dX12_isLike_84 : decode cX12_isLike 84 = .ok (.imul, 1) := by decide +kernel
theorem dX12_isLike_85 : decode cX12_isLike 85 = .ok (.iload 4, 2) := by decide +kernel
theorem dX12_isLike_87 : decode cX12_isLike 87 = .ok (.iadd, 1) := by decide +kernel
theorem dX12_isLike_88 : decode cX12_isLike 88 = .ok (.iaload, 1) := by decide +kernel
theorem dX12_isLike_89 : decode cX12_isLike 89 = .ok (.aload_n 0, 1) := by decide +kernel
theorem dX12_isLike_90 : decode cX12_isLike 90 = .ok (.getfield 396, 3) := by decide +kernel
theorem dX12_isLike_93 : decode cX12_isLike 93 = .ok (.iload 4, 2) := by decide +kernel
theorem dX12_isLike_95 : decode cX12_isLike 95 = .ok (.iaload, 1) := by decide +kernel
theorem dX12_isLike_96 : decode cX12_isLike 96 = .ok (.if_icmp .ne 7, 3) := by decide +kernel
theorem dX12_isLike_99 : decode cX12_isLike 99 = .ok (.iconst 1, 1) := by decide +kernel
theorem dX12_isLike_100 : decode cX12_isLike 100 = .ok (.goto 4, 3) := by decide +kernel
theorem dX12_isLike_103 : decode cX12_isLike 103 = .ok (.iconst 0, 1) := by decide +kernel
theorem dX12_isLike_104 : decode cX12_isLike 104 = .ok (.istore_n 3, 1) := by decide +kernel
theorem dX12_isLike_105 : decode cX12_isLike 105 = .ok (.iinc 4 1, 3) := by decide +kernel
theorem dX12_isLike_108 : decode cX12_isLike 108 = .ok (.goto (-85), 3) := by decide +kernel
theorem dX12_isLike_111 : decode cX12_isLike 111 = .ok (.iload_n 3, 1) := by decide +kernel
theorem dX12_isLike_112 : decode cX12_isLike 112 = .ok (.ireturn, 1) := by decide +kernel
abbrev rm_X12_isLike : Room := { frames := 0, cells := 0, slots := 0, locals := 0 }
def wp_X12_isLike (a : Nat) (p1 : Int32) (p2 : Int32) (S : PS) (Q : Int32 → PS → Prop) : Prop :=
  (∃ b1, fR S 136 a = some b1 ∧ (vp_in p1 (aN S b1) ∧ (∀ K19_4 : Int32 → PS → Prop, (∀ (t2 : Int32) (S3 : PS),
 (∀ P23_5 : Int32 → Int32 → PS → Prop, (∀ (x3_6 : Int32) (x4_7 : Int32) (S8 : PS),
 (if p2 ≤ x4_7 then
 (nz x3_6 ∧ Q x3_6 S8)
 else
 (if x3_6 = 0 then
 (nz x3_6 ∧ Q x3_6 S8)
 else
 (∃ b9, fR S8 142 a = some b9 ∧ (vp_in (((6 : Int32) * p1) + x4_7) (aN S8 b9) ∧ (∃ b10, fR S8 170 a = some b10 ∧ (vp_in x4_7 (aN S8 b10) ∧ (∀ K104_13 : Int32 → PS → Prop, (∀ (t11 : Int32) (S12 : PS),
 (∀ v14, v14 = x4_7 + 1 → P23_5 t11 v14 S12)
 → K104_13 t11 S12) →
 (if aI S8 72 b9 (((6 : Int32) * p1) + x4_7).toNatClampNeg = aI S8 83 b10 (x4_7).toNatClampNeg then
 (∃ b15, fR S8 143 a = some b15 ∧ (vp_in (((6 : Int32) * p1) + x4_7) (aN S8 b15) ∧ (∃ b16, fR S8 171 a = some b16 ∧ (vp_in x4_7 (aN S8 b16) ∧ (if aI S8 73 b15 (((6 : Int32) * p1) + x4_7).toNatClampNeg = aI S8 84 b16 (x4_7).toNatClampNeg then
 (∃ b17, fR S8 144 a = some b17 ∧ (vp_in (((6 : Int32) * p1) + x4_7) (aN S8 b17) ∧ (∃ b18, fR S8 172 a = some b18 ∧ (vp_in x4_7 (aN S8 b18) ∧ (if aI S8 74 b17 (((6 : Int32) * p1) + x4_7).toNatClampNeg = aI S8 85 b18 (x4_7).toNatClampNeg then
 K104_13 1 S8
 else
 K104_13 0 S8)))))
 else
 K104_13 0 S8)))))
 else
 K104_13 0 S8))))))))
 → P23_5 x3_6 x4_7 S8) → P23_5 t2 0 S3)
 → K19_4 t2 S3) →
 (if aI S 66 b1 (p1).toNatClampNeg = p2 then
 (if p2 ≤ 0 then
 K19_4 0 S
 else
 K19_4 1 S)
 else
 K19_4 0 S))))
set_option maxRecDepth 100000 in
set_option maxHeartbeats 4000000 in
theorem c_X12_isLike {l : Launch} {E : EE} {A : Nat → Prop} {a : Nat} {p1 : Int32} {p2 : Int32} {S : PS} {Q : Int32 → PS → Prop} (r_a : Rf S a 9) (h : wp_X12_isLike a p1 p2 S Q) : MtI l yX12_isLike (.code yX12_isLike cX12_isLike 5 (some .boolean)) rm_X12_isLike E A [.ref a, .int p1, .int p2] S (fun r S1 => nz r ∧ Q r S1) := by
  refine MtI.of (by decide) (Nat.le_of_ble_eq_true rfl) (fun X F hQ hN => ?_)
  show VV X (0, 0) S [(0, .ref a), (1, .int p1), (2, .int p2)] [] 0
  unfold wp_X12_isLike at h
  refine v_aload_n F dX12_isLike_0 0 rfl rfl ?_
  refine g_X12_420 F r_a h dX12_isLike_1 (fun b1 r_b1 h => ?_)
  refine v_iload_n F dX12_isLike_4 1 rfl rfl ?_
  refine v_iald F r_b1 o_66 h dX12_isLike_5 (fun h => ?_)
  refine v_iload_n F dX12_isLike_6 2 rfl rfl ?_
  have h := h (fun (t2 : Int32) (S3 : PS) => Rf S3 a 9 → VV X (0, 0) S3 [(0, .ref a), (1, .int p1), (2, .int p2)] [.int t2] 19) (by
    intro t2 S3 h r_a
    refine v_istore_n (lv1 := [(3, .int t2), (0, .ref a), (1, .int p1), (2, .int p2)]) F dX12_isLike_19 rfl (by rw [hN]; decide) rfl ?_
    refine v_iconst (v := 0) F dX12_isLike_20 (by decide) ?_
    refine v_istore (lv1 := [(4, .int 0), (3, .int t2), (0, .ref a), (1, .int p1), (2, .int p2)]) F dX12_isLike_21 (by rw [hN]; decide) rfl ?_
    refine v_sub [2, 3, 4, 1, 0] rfl ?_
    refine h (fun (x3_6 : Int32) (x4_7 : Int32) (S8 : PS) => Rf S8 a 9 → VV X (0, 0) S8 [(0, .ref a), (1, .int p1), (2, .int p2), (3, .int x3_6), (4, .int x4_7)] [] 23) (fun x3_6 x4_7 S8 h r_a => ?_) r_a
    refine v_iload F dX12_isLike_23 4 rfl ?_
    refine v_iload_n F dX12_isLike_25 2 rfl rfl ?_
    refine v_icmp_ge (tgt := 111) F dX12_isLike_26 (by decide) h (fun h => ?_) (fun h => ?_)
    · refine v_iload_n F dX12_isLike_111 3 rfl rfl ?_
      exact v_zret F hQ h.1 h (by decide) dX12_isLike_112
    · refine v_iload_n F dX12_isLike_29 3 rfl rfl ?_
      refine v_if_eq (tgt := 111) F dX12_isLike_30 (by decide) h (fun h => ?_) (fun h => ?_)
      · refine v_iload_n F dX12_isLike_111 3 rfl rfl ?_
        exact v_zret F hQ h.1 h (by decide) dX12_isLike_112
      · refine v_aload_n F dX12_isLike_33 0 rfl rfl ?_
        refine g_X12_423 F r_a h dX12_isLike_34 (fun b9 r_b9 h => ?_)
        refine v_bipush (v := 6) F dX12_isLike_37 (by decide) ?_
        refine v_iload_n F dX12_isLike_39 1 rfl rfl ?_
        refine v_imul F dX12_isLike_40 ?_
        refine v_iload F dX12_isLike_41 4 rfl ?_
        refine v_iadd F dX12_isLike_43 ?_
        refine v_iald F r_b9 o_72 h dX12_isLike_44 (fun h => ?_)
        refine v_aload_n F dX12_isLike_45 0 rfl rfl ?_
        refine g_X12_399 F r_a h dX12_isLike_46 (fun b10 r_b10 h => ?_)
        refine v_iload F dX12_isLike_49 4 rfl ?_
        refine v_iald F r_b10 o_83 h dX12_isLike_51 (fun h => ?_)
        have h := h (fun (t11 : Int32) (S12 : PS) => Rf S12 a 9 → VV X (0, 0) S12 [(0, .ref a), (1, .int p1), (2, .int p2), (4, .int x4_7)] [.int t11] 104) (by
          intro t11 S12 h r_a
          refine v_istore_n (lv1 := [(3, .int t11), (0, .ref a), (1, .int p1), (2, .int p2), (4, .int x4_7)]) F dX12_isLike_104 rfl (by rw [hN]; decide) rfl ?_
          obtain ⟨v14, e_v14⟩ : ∃ y : Int32, y = x4_7 + 1 := ⟨_, rfl⟩
          have h := h v14 e_v14
          refine v_iinc (v := v14) (lv1 := [(4, .int v14), (3, .int t11), (0, .ref a), (1, .int p1), (2, .int p2)]) F dX12_isLike_105 (q := 4) rfl (by rw [e_v14]; rfl) (by rw [hN]; decide) rfl ?_
          refine v_goto (tgt := 23) F dX12_isLike_108 (by decide) ?_
          exact v_sub [2, 3, 4, 1, 0] rfl (h r_a))
        refine v_icmp_ne (tgt := 103) F dX12_isLike_52 (by decide) h (fun h => ?_) (fun h => ?_)
        · refine v_iconst (v := 0) F dX12_isLike_103 (by decide) ?_
          exact v_sub [0, 1, 2, 4] rfl (h r_a)
        · refine v_aload_n F dX12_isLike_55 0 rfl rfl ?_
          refine g_X12_426 F r_a h dX12_isLike_56 (fun b15 r_b15 h => ?_)
          refine v_bipush (v := 6) F dX12_isLike_59 (by decide) ?_
          refine v_iload_n F dX12_isLike_61 1 rfl rfl ?_
          refine v_imul F dX12_isLike_62 ?_
          refine v_iload F dX12_isLike_63 4 rfl ?_
          refine v_iadd F dX12_isLike_65 ?_
          refine v_iald F r_b15 o_73 h dX12_isLike_66 (fun h => ?_)
          refine v_aload_n F dX12_isLike_67 0 rfl rfl ?_
          refine g_X12_402 F r_a h dX12_isLike_68 (fun b16 r_b16 h => ?_)
          refine v_iload F dX12_isLike_71 4 rfl ?_
          refine v_iald F r_b16 o_84 h dX12_isLike_73 (fun h => ?_)
          refine v_icmp_ne (tgt := 103) F dX12_isLike_74 (by decide) h (fun h => ?_) (fun h => ?_)
          · refine v_iconst (v := 0) F dX12_isLike_103 (by decide) ?_
            exact v_sub [0, 1, 2, 4] rfl (h r_a)
          · refine v_aload_n F dX12_isLike_77 0 rfl rfl ?_
            refine g_X12_429 F r_a h dX12_isLike_78 (fun b17 r_b17 h => ?_)
            refine v_bipush (v := 6) F dX12_isLike_81 (by decide) ?_
            refine v_iload_n F dX12_isLike_83 1 rfl rfl ?_
            refine v_imul F dX12_isLike_84 ?_
            refine v_iload F dX12_isLike_85 4 rfl ?_
            refine v_iadd F dX12_isLike_87 ?_
            refine v_iald F r_b17 o_74 h dX12_isLike_88 (fun h => ?_)
            refine v_aload_n F dX12_isLike_89 0 rfl rfl ?_
            refine g_X12_396 F r_a h dX12_isLike_90 (fun b18 r_b18 h => ?_)
            refine v_iload F dX12_isLike_93 4 rfl ?_
            refine v_iald F r_b18 o_85 h dX12_isLike_95 (fun h => ?_)
            refine v_icmp_ne (tgt := 103) F dX12_isLike_96 (by decide) h (fun h => ?_) (fun h => ?_)
            · refine v_iconst (v := 0) F dX12_isLike_103 (by decide) ?_
              exact v_sub [0, 1, 2, 4] rfl (h r_a)
            · refine v_iconst (v := 1) F dX12_isLike_99 (by decide) ?_
              refine v_goto (tgt := 104) F dX12_isLike_100 (by decide) ?_
              exact v_sub [0, 1, 2, 4] rfl (h r_a))
  refine v_icmp_ne (tgt := 18) F dX12_isLike_7 (by decide) h (fun h => ?_) (fun h => ?_)
  · refine v_iconst (v := 0) F dX12_isLike_18 (by decide) ?_
    exact v_sub [0, 1, 2] rfl (h r_a)
  · refine v_iload_n F dX12_isLike_10 2 rfl rfl ?_
    refine v_if_le (tgt := 18) F dX12_isLike_11 (by decide) h (fun h => ?_) (fun h => ?_)
    · refine v_iconst (v := 0) F dX12_isLike_18 (by decide) ?_
      exact v_sub [0, 1, 2] rfl (h r_a)
    · refine v_iconst (v := 1) F dX12_isLike_14 (by decide) ?_
      refine v_goto (tgt := 19) F dX12_isLike_15 (by decide) ?_
      exact v_sub [0, 1, 2] rfl (h r_a)
theorem dX12_event_0 : decode cX12_event 0 = .ok (.aload_n 0, 1) := by decide +kernel
theorem dX12_event_1 : decode cX12_event 1 = .ok (.getfield 432, 3) := by decide +kernel
theorem dX12_event_4 : decode cX12_event 4 = .ok (.aload_n 0, 1) := by decide +kernel
theorem dX12_event_5 : decode cX12_event 5 = .ok (.getfield 344, 3) := by decide +kernel
theorem dX12_event_8 : decode cX12_event 8 = .ok (.iaload, 1) := by decide +kernel
theorem dX12_event_9 : decode cX12_event 9 = .ok (.istore 8, 2) := by decide +kernel
theorem dX12_event_11 : decode cX12_event 11 = .ok (.aload_n 0, 1) := by decide +kernel
theorem dX12_event_12 : decode cX12_event 12 = .ok (.getfield 23, 3) := by decide +kernel
theorem dX12_event_15 : decode cX12_event 15 = .ok (.ifCond .ne 32, 3) := by decide +kernel
theorem dX12_event_18 : decode cX12_event 18 = .ok (.iload 8, 2) := by decide +kernel
theorem dX12_event_20 : decode cX12_event 20 = .ok (.iconst (-1), 1) := by decide +kernel
theorem dX12_event_21 : decode cX12_event 21 = .ok (.if_icmp .eq 26, 3) := by decide +kernel
theorem dX12_event_24 : decode cX12_event 24 = .ok (.aload_n 0, 1) := by decide +kernel
theorem dX12_event_25 : decode cX12_event 25 = .ok (.iload 8, 2) := by decide +kernel
theorem dX12_event_27 : decode cX12_event 27 = .ok (.iload_n 2, 1) := by decide +kernel
theorem dX12_event_28 : decode cX12_event 28 = .ok (.invokevirtual 435, 3) := by decide +kernel
theorem dX12_event_31 : decode cX12_event 31 = .ok (.ifCond .ne 16, 3) := by decide +kernel
theorem dX12_event_34 : decode cX12_event 34 = .ok (.aload_n 0, 1) := by decide +kernel
theorem dX12_event_35 : decode cX12_event 35 = .ok (.bipush 6, 2) := by decide +kernel
theorem dX12_event_37 : decode cX12_event 37 = .ok (.aload_n 0, 1) := by decide +kernel
theorem dX12_event_38 : decode cX12_event 38 = .ok (.getfield 438, 3) := by decide +kernel
theorem dX12_event_41 : decode cX12_event 41 = .ok (.iload 8, 2) := by decide +kernel
theorem dX12_event_43 : decode cX12_event 43 = .ok (.iaload, 1) := by decide +kernel
theorem dX12_event_44 : decode cX12_event 44 = .ok (.invokevirtual 50, 3) := by decide +kernel
theorem dX12_event_47 : decode cX12_event 47 = .ok (.aload_n 0, 1) := by decide +kernel
theorem dX12_event_48 : decode cX12_event 48 = .ok (.getfield 23, 3) := by decide +kernel
theorem dX12_event_51 : decode cX12_event 51 = .ok (.ifCond .ne 34, 3) := by decide +kernel
theorem dX12_event_54 : decode cX12_event 54 = .ok (.lload_n 3, 1) := by decide +kernel
theorem dX12_event_55 : decode cX12_event 55 = .ok (.lload 5, 2) := by decide +kernel
theorem dX12_event_57 : decode cX12_event 57 = .ok (.lrem, 1) := by decide +kernel
theorem dX12_event_58 : decode cX12_event 58 = .ok (.lconst 0, 1) := by decide +kernel
theorem dX12_event_59 : decode cX12_event 59 = .ok (.lcmp, 1) := by decide +kernel
theorem dX12_event_60 : decode cX12_event 60 = .ok (.ifCond .ne 14, 3) := by decide +kernel
theorem dX12_event_63 : decode cX12_event 63 = .ok (.lload_n 3, 1) := by decide +kernel
theorem dX12_event_64 : decode cX12_event 64 = .ok (.lload 5, 2) := by decide +kernel
theorem dX12_event_66 : decode cX12_event 66 = .ok (.ldiv, 1) := by decide +kernel
theorem dX12_event_67 : decode cX12_event 67 = .ok (.ldc2_w 210, 3) := by decide +kernel
theorem dX12_event_70 : decode cX12_event 70 = .ok (.lcmp, 1) := by decide +kernel
theorem dX12_event_71 : decode cX12_event 71 = .ok (.ifCond .le 14, 3) := by decide +kernel
theorem dX12_event_74 : decode cX12_event 74 = .ok (.aload_n 0, 1) := by decide +kernel
theorem dX12_event_75 : decode cX12_event 75 = .ok (.iconst 2, 1) := by decide +kernel
theorem dX12_event_76 : decode cX12_event 76 = .ok (.aload_n 0, 1) := by decide +kernel
theorem dX12_event_77 : decode cX12_event 77 = .ok (.getfield 90, 3) := by decide +kernel
theorem dX12_event_80 : decode cX12_event 80 = .ok (.iload_n 1, 1) := by decide +kernel
theorem dX12_event_81 : decode cX12_event 81 = .ok (.iaload, 1) := by decide +kernel
theorem dX12_event_82 : decode cX12_event 82 = .ok (.invokevirtual 50, 3) := by decide +kernel
theorem dX12_event_85 : decode cX12_event 85 = .ok (.aload_n 0, 1) := by decide +kernel
theorem dX12_event_86 : decode cX12_event 86 = .ok (.getfield 23, 3) := by decide +kernel
theorem dX12_event_89 : decode cX12_event 89 = .ok (.ifCond .ne 40, 3) := by decide +kernel
theorem dX12_event_92 : decode cX12_event 92 = .ok (.aload_n 0, 1) := by decide +kernel
theorem dX12_event_93 : decode cX12_event 93 = .ok (.getfield 441, 3) := by decide +kernel
theorem dX12_event_96 : decode cX12_event 96 = .ok (.sipush 300, 3) := by decide +kernel
theorem dX12_event_99 : decode cX12_event 99 = .ok (.if_icmp .eq 19, 3) := by decide +kernel
theorem dX12_event_102 : decode cX12_event 102 = .ok (.aload_n 0, 1) := by decide +kernel
theorem dX12_event_103 : decode cX12_event 103 = .ok (.getfield 309, 3) := by decide +kernel
theorem dX12_event_106 : decode cX12_event 106 = .ok (.lload_n 3, 1) := by decide +kernel
theorem dX12_event_107 : decode cX12_event 107 = .ok (.lload 5, 2) := by decide +kernel
theorem dX12_event_109 : decode cX12_event 109 = .ok (.ldiv, 1) := by decide +kernel
theorem dX12_event_110 : decode cX12_event 110 = .ok (.ladd, 1) := by decide +kernel
theorem dX12_event_111 : decode cX12_event 111 = .ok (.ldc2_w 210, 3) := by decide +kernel
theorem dX12_event_114 : decode cX12_event 114 = .ok (.lcmp, 1) := by decide +kernel
theorem dX12_event_115 : decode cX12_event 115 = .ok (.ifCond .le 14, 3) := by decide +kernel
theorem dX12_event_118 : decode cX12_event 118 = .ok (.aload_n 0, 1) := by decide +kernel
theorem dX12_event_119 : decode cX12_event 119 = .ok (.iconst 5, 1) := by decide +kernel
theorem dX12_event_120 : decode cX12_event 120 = .ok (.aload_n 0, 1) := by decide +kernel
theorem dX12_event_121 : decode cX12_event 121 = .ok (.getfield 90, 3) := by decide +kernel
theorem dX12_event_124 : decode cX12_event 124 = .ok (.iload_n 1, 1) := by decide +kernel
theorem dX12_event_125 : decode cX12_event 125 = .ok (.iaload, 1) := by decide +kernel
theorem dX12_event_126 : decode cX12_event 126 = .ok (.invokevirtual 50, 3) := by decide +kernel
theorem dX12_event_129 : decode cX12_event 129 = .ok (.aload_n 0, 1) := by decide +kernel
theorem dX12_event_130 : decode cX12_event 130 = .ok (.getfield 23, 3) := by decide +kernel
theorem dX12_event_133 : decode cX12_event 133 = .ok (.ifCond .le 4, 3) := by decide +kernel
theorem dX12_event_136 : decode cX12_event 136 = .ok (.return_, 1) := by decide +kernel
theorem dX12_event_137 : decode cX12_event 137 = .ok (.aload_n 0, 1) := by decide +kernel
theorem dX12_event_138 : decode cX12_event 138 = .ok (.getfield 441, 3) := by decide +kernel
theorem dX12_event_141 : decode cX12_event 141 = .ok (.istore 9, 2) := by decide +kernel
theorem dX12_event_143 : decode cX12_event 143 = .ok (.aload_n 0, 1) := by decide +kernel
theorem dX12_event_144 : decode cX12_event 144 = .ok (.dup, 1) := by decide +kernel
theorem dX12_event_145 : decode cX12_event 145 = .ok (.getfield 441, 3) := by decide +kernel
theorem dX12_event_148 : decode cX12_event 148 = .ok (.iconst 1, 1) := by decide +kernel
theorem dX12_event_149 : decode cX12_event 149 = .ok (.iadd, 1) := by decide +kernel
theorem dX12_event_150 : decode cX12_event 150 = .ok (.putfield 441, 3) := by decide +kernel
theorem dX12_event_153 : decode cX12_event 153 = .ok (.aload_n 0, 1) := by decide +kernel
theorem dX12_event_154 : decode cX12_event 154 = .ok (.getfield 444, 3) := by decide +kernel
theorem dX12_event_157 : decode cX12_event 157 = .ok (.iload 9, 2) := by decide +kernel
theorem dX12_event_159 : decode cX12_event 159 = .ok (.aload_n 0, 1) := by decide +kernel
theorem dX12_event_160 : decode cX12_event 160 = .ok (.getfield 344, 3) := by decide +kernel
theorem dX12_event_163 : decode cX12_event 163 = .ok (.iastore, 1) := by decide +kernel
theorem dX12_event_164 : decode cX12_event 164 = .ok (.aload_n 0, 1) := by decide +kernel
theorem dX12_event_165 : decode cX12_event 165 = .ok (.getfield 420, 3) := by decide +kernel
theorem dX12_event_168 : decode cX12_event 168 = .ok (.iload 9, 2) := by decide +kernel
theorem dX12_event_170 : decode cX12_event 170 = .ok (.iload_n 2, 1) := by decide +kernel
theorem dX12_event_171 : decode cX12_event 171 = .ok (.iastore, 1) := by decide +kernel
theorem dX12_event_172 : decode cX12_event 172 = .ok (.aload_n 0, 1) := by decide +kernel
theorem dX12_event_173 : decode cX12_event 173 = .ok (.getfield 447, 3) := by decide +kernel
theorem dX12_event_176 : decode cX12_event 176 = .ok (.iload 9, 2) := by decide +kernel
theorem dX12_event_178 : decode cX12_event 178 = .ok (.iload 7, 2) := by decide +kernel
theorem dX12_event_180 : decode cX12_event 180 = .ok (.bastore, 1) := by decide +kernel
theorem dX12_event_181 : decode cX12_event 181 = .ok (.aload_n 0, 1) := by decide +kernel
theorem dX12_event_182 : decode cX12_event 182 = .ok (.getfield 450, 3) := by decide +kernel
theorem dX12_event_185 : decode cX12_event 185 = .ok (.iload 9, 2) := by decide +kernel
theorem dX12_event_187 : decode cX12_event 187 = .ok (.iload 8, 2) := by decide +kernel
theorem dX12_event_189 : decode cX12_event 189 = .ok (.iconst (-1), 1) := by decide +kernel
theorem dX12_event_190 : decode cX12_event 190 = .ok (.if_icmp .eq 7, 3) := by decide +kernel
theorem dX12_event_193 : decode cX12_event 193 = .ok (.iconst 1, 1) := by decide +kernel
theorem dX12_event_194 : decode cX12_event 194 = .ok (.goto 4, 3) := by decide +kernel
theorem dX12_event_197 : decode cX12_event 197 = .ok (.iconst 0, 1) := by decide +kernel
theorem dX12_event_198 : decode cX12_event 198 = .ok (.bastore, 1) := by decide +kernel
theorem dX12_event_199 : decode cX12_event 199 = .ok (.aload_n 0, 1) := by decide +kernel
theorem dX12_event_200 : decode cX12_event 200 = .ok (.getfield 453, 3) := by decide +kernel
theorem dX12_event_203 : decode cX12_event 203 = .ok (.iload 9, 2) := by decide +kernel
theorem dX12_event_205 : decode cX12_event 205 = .ok (.aload_n 0, 1) := by decide +kernel
theorem dX12_event_206 : decode cX12_event 206 = .ok (.getfield 309, 3) := by decide +kernel
theorem dX12_event_209 : decode cX12_event 209 = .ok (.lastore, 1) := by decide +kernel
theorem dX12_event_210 : decode cX12_event 210 = .ok (.aload_n 0, 1) := by decide +kernel
theorem dX12_event_211 : decode cX12_event 211 = .ok (.getfield 456, 3) := by decide +kernel
theorem dX12_event_214 : decode cX12_event 214 = .ok (.iload 9, 2) := by decide +kernel
theorem dX12_event_216 : decode cX12_event 216 = .ok (.lload_n 3, 1) := by decide +kernel
theorem dX12_event_217 : decode cX12_event 217 = .ok (.lload 5, 2) := by decide +kernel
theorem dX12_event_219 : decode cX12_event 219 = .ok (.ldiv, 1) := by decide +kernel
theorem dX12_event_220 : decode cX12_event 220 = .ok (.lastore, 1) := by decide +kernel
theorem dX12_event_221 : decode cX12_event 221 = .ok (.aload_n 0, 1) := by decide +kernel
theorem dX12_event_222 : decode cX12_event 222 = .ok (.getfield 438, 3) := by decide +kernel
theorem dX12_event_225 : decode cX12_event 225 = .ok (.iload 9, 2) := by decide +kernel
theorem dX12_event_227 : decode cX12_event 227 = .ok (.aload_n 0, 1) := by decide +kernel
theorem dX12_event_228 : decode cX12_event 228 = .ok (.getfield 90, 3) := by decide +kernel
theorem dX12_event_231 : decode cX12_event 231 = .ok (.iload_n 1, 1) := by decide +kernel
theorem dX12_event_232 : decode cX12_event 232 = .ok (.iaload, 1) := by decide +kernel
theorem dX12_event_233 : decode cX12_event 233 = .ok (.iastore, 1) := by decide +kernel
theorem dX12_event_234 : decode cX12_event 234 = .ok (.iconst 0, 1) := by decide +kernel
theorem dX12_event_235 : decode cX12_event 235 = .ok (.istore 10, 2) := by decide +kernel
theorem dX12_event_237 : decode cX12_event 237 = .ok (.iload 10, 2) := by decide +kernel
theorem dX12_event_239 : decode cX12_event 239 = .ok (.iload_n 2, 1) := by decide +kernel
theorem dX12_event_240 : decode cX12_event 240 = .ok (.if_icmp .ge 69, 3) := by decide +kernel
theorem dX12_event_243 : decode cX12_event 243 = .ok (.aload_n 0, 1) := by decide +kernel
theorem dX12_event_244 : decode cX12_event 244 = .ok (.getfield 423, 3) := by decide +kernel
theorem dX12_event_247 : decode cX12_event 247 = .ok (.bipush 6, 2) := by decide +kernel
theorem dX12_event_249 : decode cX12_event 249 = .ok (.iload 9, 2) := by decide +kernel
theorem dX12_event_251 : decode cX12_event 251 = .ok (.imul, 1) := by decide +kernel
theorem dX12_event_252 : decode cX12_event 252 = .ok (.iload 10, 2) := by decide +kernel
theorem dX12_event_254 : decode cX12_event 254 = .ok (.iadd, 1) := by decide +kernel
theorem dX12_event_255 : decode cX12_event 255 = .ok (.aload_n 0, 1) := by decide +kernel
theorem dX12_event_256 : decode cX12_event 256 = .ok (.getfield 399, 3) := by decide +kernel
theorem dX12_event_259 : decode cX12_event 259 = .ok (.iload 10, 2) := by decide +kernel
theorem dX12_event_261 : decode cX12_event 261 = .ok (.iaload, 1) := by decide +kernel
theorem dX12_event_262 : decode cX12_event 262 = .ok (.iastore, 1) := by decide +kernel
theorem dX12_event_263 : decode cX12_event 263 = .ok (.aload_n 0, 1) := by decide +kernel
theorem dX12_event_264 : decode cX12_event 264 = .ok (.getfield 426, 3) := by decide +kernel
theorem dX12_event_267 : decode cX12_event 267 = .ok (.bipush 6, 2) := by decide +kernel
theorem dX12_event_269 : decode cX12_event 269 = .ok (.iload 9, 2) := by decide +kernel
theorem dX12_event_271 : decode cX12_event 271 = .ok (.imul, 1) := by decide +kernel
theorem dX12_event_272 : decode cX12_event 272 = .ok (.iload 10, 2) := by decide +kernel
theorem dX12_event_274 : decode cX12_event 274 = .ok (.iadd, 1) := by decide +kernel
theorem dX12_event_275 : decode cX12_event 275 = .ok (.aload_n 0, 1) := by decide +kernel
theorem dX12_event_276 : decode cX12_event 276 = .ok (.getfield 402, 3) := by decide +kernel
theorem dX12_event_279 : decode cX12_event 279 = .ok (.iload 10, 2) := by decide +kernel
theorem dX12_event_281 : decode cX12_event 281 = .ok (.iaload, 1) := by decide +kernel
theorem dX12_event_282 : decode cX12_event 282 = .ok (.iastore, 1) := by decide +kernel
theorem dX12_event_283 : decode cX12_event 283 = .ok (.aload_n 0, 1) := by decide +kernel
theorem dX12_event_284 : decode cX12_event 284 = .ok (.getfield 429, 3) := by decide +kernel
theorem dX12_event_287 : decode cX12_event 287 = .ok (.bipush 6, 2) := by decide +kernel
theorem dX12_event_289 : decode cX12_event 289 = .ok (.iload 9, 2) := by decide +kernel
theorem dX12_event_291 : decode cX12_event 291 = .ok (.imul, 1) := by decide +kernel
theorem dX12_event_292 : decode cX12_event 292 = .ok (.iload 10, 2) := by decide +kernel
theorem dX12_event_294 : decode cX12_event 294 = .ok (.iadd, 1) := by decide +kernel
theorem dX12_event_295 : decode cX12_event 295 = .ok (.aload_n 0, 1) := by decide +kernel
theorem dX12_event_296 : decode cX12_event 296 = .ok (.getfield 396, 3) := by decide +kernel
theorem dX12_event_299 : decode cX12_event 299 = .ok (.iload 10, 2) := by decide +kernel
theorem dX12_event_301 : decode cX12_event 301 = .ok (.iaload, 1) := by decide +kernel
theorem dX12_event_302 : decode cX12_event 302 = .ok (.iastore, 1) := by decide +kernel
theorem dX12_event_303 : decode cX12_event 303 = .ok (.iinc 10 1, 3) := by decide +kernel
theorem dX12_event_306 : decode cX12_event 306 = .ok (.goto (-69), 3) := by decide +kernel
theorem dX12_event_309 : decode cX12_event 309 = .ok (.iconst 0, 1) := by decide +kernel
theorem dX12_event_310 : decode cX12_event 310 = .ok (.istore 10, 2) := by decide +kernel
theorem dX12_event_312 : decode cX12_event 312 = .ok (.iload 10, 2) := by decide +kernel
theorem dX12_event_314 : decode cX12_event 314 = .ok (.iconst 3, 1) := by decide +kernel
theorem dX12_event_315 : decode cX12_event 315 = .ok (.if_icmp .ge 22, 3) := by decide +kernel
theorem dX12_event_318 : decode cX12_event 318 = .ok (.aload_n 0, 1) := by decide +kernel
theorem dX12_event_319 : decode cX12_event 319 = .ok (.getfield 459, 3) := by decide +kernel
theorem dX12_event_322 : decode cX12_event 322 = .ok (.iconst 3, 1) := by decide +kernel
theorem dX12_event_323 : decode cX12_event 323 = .ok (.iload 9, 2) := by decide +kernel
theorem dX12_event_325 : decode cX12_event 325 = .ok (.imul, 1) := by decide +kernel
theorem dX12_event_326 : decode cX12_event 326 = .ok (.iload 10, 2) := by decide +kernel
theorem dX12_event_328 : decode cX12_event 328 = .ok (.iadd, 1) := by decide +kernel
theorem dX12_event_329 : decode cX12_event 329 = .ok (.iconst (-1), 1) := by decide +kernel
theorem dX12_event_330 : decode cX12_event 330 = .ok (.iastore, 1) := by decide +kernel
theorem dX12_event_331 : decode cX12_event 331 = .ok (.iinc 10 1, 3) := by decide +kernel
theorem dX12_event_334 : decode cX12_event 334 = .ok (.goto (-22), 3) := by decide +kernel
theorem dX12_event_337 : decode cX12_event 337 = .ok (.aload_n 0, 1) := by decide +kernel
theorem dX12_event_338 : decode cX12_event 338 = .ok (.getfield 432, 3) := by decide +kernel
theorem dX12_event_341 : decode cX12_event 341 = .ok (.aload_n 0, 1) := by decide +kernel
theorem dX12_event_342 : decode cX12_event 342 = .ok (.getfield 344, 3) := by decide +kernel
theorem dX12_event_345 : decode cX12_event 345 = .ok (.iload 7, 2) := by decide +kernel
theorem dX12_event_347 : decode cX12_event 347 = .ok (.ifCond .eq 8, 3) := by decide +kernel
theorem dX12_event_350 : decode cX12_event 350 = .ok (.iload 9, 2) := by decide +kernel
theorem dX12_event_352 : decode cX12_event 352 = .ok (.goto 4, 3) := by decide +kernel
theorem dX12_event_355 : decode cX12_event 355 = .ok (.iconst (-1), 1) := by decide +kernel
theorem dX12_event_356 : decode cX12_event 356 = .ok (.iastore, 1) := by decide +kernel
theorem dX12_event_357 : decode cX12_event 357 = .ok (.aload_n 0, 1) := by decide +kernel
theorem dX12_event_358 : decode cX12_event 358 = .ok (.dup, 1) := by decide +kernel
theorem dX12_event_359 : decode cX12_event 359 = .ok (.getfield 309, 3) := by decide +kernel
theorem dX12_event_362 : decode cX12_event 362 = .ok (.lload_n 3, 1) := by decide +kernel
theorem dX12_event_363 : decode cX12_event 363 = .ok (.lload 5, 2) := by decide +kernel
theorem dX12_event_365 : decode cX12_event 365 = .ok (.ldiv, 1) := by decide +kernel
theorem dX12_event_366 : decode cX12_event 366 = .ok (.ladd, 1) := by decide +kernel
theorem dX12_event_367 : decode cX12_event 367 = .ok (.putfield 309, 3) := by decide +kernel
theorem dX12_event_370 : decode cX12_event 370 = .ok (.return_, 1) := by decide +kernel
abbrev rm_X12_event : Room := { frames := 1, cells := 0, slots := 0, locals := 24 }
def wp_X12_event (a : Nat) (p1 : Int32) (p2 : Int32) (p3 : Int64) (p4 : Int64) (p5 : Int32) (S : PS) (Q : PS → Prop) : Prop :=
  (∃ b1, fR S 148 a = some b1 ∧ (vp_in (fI S 155 a) (aN S b1) ∧ (∀ v2, v2 = aI S 77 b1 (fI S 155 a).toNatClampNeg → (∀ K47_4 : PS → Prop, (∀ (S3 : PS),
 (∀ K85_6 : PS → Prop, (∀ (S5 : PS),
 (∀ K129_8 : PS → Prop, (∀ (S7 : PS),
 (if fI S7 102 a ≤ 0 then
 (∀ v9, v9 = fI S7 146 a → (∀ S10, S10 = sI S7 146 a ((fI S7 146 a) + 1) → (∃ b11, fR S10 135 a = some b11 ∧ (vp_in v9 (aN S10 b11) ∧ ∀ S12, S12 = wI S10 65 b11 (v9).toNatClampNeg (fI S10 155 a) → (∃ b13, fR S12 136 a = some b13 ∧ (vp_in v9 (aN S12 b13) ∧ ∀ S14, S14 = wI S12 66 b13 (v9).toNatClampNeg p2 → (∃ b15, fR S14 137 a = some b15 ∧ (vp_in v9 (aN S14 b15) ∧ ∀ S16, S16 = wI S14 67 b15 (v9).toNatClampNeg (vp_nar .boolean p5) → (∃ b17, fR S16 138 a = some b17 ∧ (∀ K198_22 : Nat → Int32 → Int32 → PS → Prop, (∀ (t18 : Nat) (t19 : Int32) (t20 : Int32) (S21 : PS),
 (vp_in t19 (aN S21 t18) ∧ ∀ S23, S23 = wI S21 68 t18 (t19).toNatClampNeg (vp_nar .boolean t20) → (∃ b24, fR S23 139 a = some b24 ∧ (vp_in v9 (aN S23 b24) ∧ ∀ S25, S25 = wL S23 69 b24 (v9).toNatClampNeg (fL S23 156 a) → (∃ b26, fR S25 140 a = some b26 ∧ (¬ p4 = 0 ∧ (vp_in v9 (aN S25 b26) ∧ ∀ S27, S27 = wL S25 70 b26 (v9).toNatClampNeg (p3 / p4) → (∃ b28, fR S27 141 a = some b28 ∧ (∃ b29, fR S27 106 a = some b29 ∧ (vp_in p1 (aN S27 b29) ∧ (vp_in v9 (aN S27 b28) ∧ ∀ S30, S30 = wI S27 71 b28 (v9).toNatClampNeg (aI S27 43 b29 (p1).toNatClampNeg) → (∀ P237_31 : Int32 → PS → Prop, (∀ (x10_32 : Int32) (S33 : PS),
 (if p2 ≤ x10_32 then
 (∀ P312_34 : Int32 → PS → Prop, (∀ (x10_35 : Int32) (S36 : PS),
 (if 3 ≤ x10_35 then
 (∃ b37, fR S36 148 a = some b37 ∧ (∀ K356_42 : Nat → Int32 → Int32 → PS → Prop, (∀ (t38 : Nat) (t39 : Int32) (t40 : Int32) (S41 : PS),
 (vp_in t39 (aN S41 t38) ∧ ∀ S43, S43 = wI S41 77 t38 (t39).toNatClampNeg t40 → (¬ p4 = 0 ∧ (∀ S44, S44 = sL S43 156 a ((fL S43 156 a) + (p3 / p4)) → Q S44)))
 → K356_42 t38 t39 t40 S41) →
 (if p5 = 0 then
 K356_42 b37 (fI S36 155 a) (-1) S36
 else
 K356_42 b37 (fI S36 155 a) v9 S36)))
 else
 (∃ b45, fR S36 145 a = some b45 ∧ (vp_in (((3 : Int32) * v9) + x10_35) (aN S36 b45) ∧ ∀ S46, S46 = wI S36 75 b45 (((3 : Int32) * v9) + x10_35).toNatClampNeg (-1) → (∀ v47, v47 = x10_35 + 1 → P312_34 v47 S46))))
 → P312_34 x10_35 S36) → P312_34 0 S33)
 else
 (∃ b48, fR S33 142 a = some b48 ∧ (∃ b49, fR S33 170 a = some b49 ∧ (vp_in x10_32 (aN S33 b49) ∧ (vp_in (((6 : Int32) * v9) + x10_32) (aN S33 b48) ∧ ∀ S50, S50 = wI S33 72 b48 (((6 : Int32) * v9) + x10_32).toNatClampNeg (aI S33 83 b49 (x10_32).toNatClampNeg) → (∃ b51, fR S50 143 a = some b51 ∧ (∃ b52, fR S50 171 a = some b52 ∧ (vp_in x10_32 (aN S50 b52) ∧ (vp_in (((6 : Int32) * v9) + x10_32) (aN S50 b51) ∧ ∀ S53, S53 = wI S50 73 b51 (((6 : Int32) * v9) + x10_32).toNatClampNeg (aI S50 84 b52 (x10_32).toNatClampNeg) → (∃ b54, fR S53 144 a = some b54 ∧ (∃ b55, fR S53 172 a = some b55 ∧ (vp_in x10_32 (aN S53 b55) ∧ (vp_in (((6 : Int32) * v9) + x10_32) (aN S53 b54) ∧ ∀ S56, S56 = wI S53 74 b54 (((6 : Int32) * v9) + x10_32).toNatClampNeg (aI S53 85 b55 (x10_32).toNatClampNeg) → (∀ v57, v57 = x10_32 + 1 → P237_31 v57 S56))))))))))))))
 → P237_31 x10_32 S33) → P237_31 0 S30)))))))))))
 → K198_22 t18 t19 t20 S21) →
 (if v2 = (-1) then
 K198_22 b17 v9 0 S16
 else
 K198_22 b17 v9 1 S16)))))))))))
 else
 Q S7)
 → K129_8 S7) →
 (if fI S5 102 a = 0 then
 (∀ K118_59 : PS → Prop, (∀ (S58 : PS),
 (∃ b60, fR S58 106 a = some b60 ∧ (vp_in p1 (aN S58 b60) ∧ wp_X12_bad a 5 (aI S58 43 b60 (p1).toNatClampNeg) S58 (fun (S61 : PS) => 
 K129_8 S61)))
 → K118_59 S58) →
 (if fI S5 146 a = 300 then
 K118_59 S5
 else
 (¬ p4 = 0 ∧ (if (fL S5 156 a) + (p3 / p4) ≤ 3870720000 then
 K129_8 S5
 else
 K118_59 S5))))
 else
 K129_8 S5))
 → K85_6 S5) →
 (if fI S3 102 a = 0 then
 (¬ p4 = 0 ∧ (∀ K74_63 : PS → Prop, (∀ (S62 : PS),
 (∃ b64, fR S62 106 a = some b64 ∧ (vp_in p1 (aN S62 b64) ∧ wp_X12_bad a 2 (aI S62 43 b64 (p1).toNatClampNeg) S62 (fun (S65 : PS) => 
 K85_6 S65)))
 → K74_63 S62) →
 (if p3 - p3 / p4 * p4 = 0 then
 (¬ p4 = 0 ∧ (if p3 / p4 ≤ 3870720000 then
 K85_6 S3
 else
 K74_63 S3))
 else
 K74_63 S3)))
 else
 K85_6 S3))
 → K47_4 S3) →
 (if fI S 102 a = 0 then
 (if v2 = (-1) then
 K47_4 S
 else
 wp_X12_isLike a v2 p2 S (fun (r67 : Int32) (S66 : PS) => 
 (if r67 = 0 then
 (∃ b68, fR S66 141 a = some b68 ∧ (vp_in v2 (aN S66 b68) ∧ wp_X12_bad a 6 (aI S66 71 b68 (v2).toNatClampNeg) S66 (fun (S69 : PS) => 
 K47_4 S69)))
 else
 K47_4 S66)))
 else
 K47_4 S)))))
set_option maxRecDepth 100000 in
set_option maxHeartbeats 4000000 in
theorem c_X12_event {l : Launch} {E : EE} {A : Nat → Prop} {a : Nat} {p1 : Int32} {p2 : Int32} {p3 : Int64} {p4 : Int64} {p5 : Int32} {S : PS} {Q : PS → Prop} (r_a : Rf S a 9) (h : wp_X12_event a p1 p2 p3 p4 p5 S Q) : MtV l yX12_event (.code yX12_event cX12_event 11 none) rm_X12_event E A [.ref a, .int p1, .int p2, .long p3, .long p4, .int p5] S Q := by
  refine MtV.of (by decide) (Nat.le_of_ble_eq_true rfl) (fun X F hQ hN => ?_)
  show VV X (0, 0) S [(0, .ref a), (1, .int p1), (2, .int p2), (3, .long p3), (5, .long p4), (7, .int p5)] [] 0
  unfold wp_X12_event at h
  refine v_aload_n F dX12_event_0 0 rfl rfl ?_
  refine g_X12_432 F r_a h dX12_event_1 (fun b1 r_b1 h => ?_)
  refine v_aload_n F dX12_event_4 0 rfl rfl ?_
  refine g_X12_344 F r_a dX12_event_5 ?_
  refine v_iald F r_b1 o_77 h dX12_event_8 (fun h => ?_)
  refine v_topi (fun v2 e_v2 => ?_)
  have h := h v2 e_v2
  refine v_istore (lv1 := [(8, .int v2), (0, .ref a), (1, .int p1), (2, .int p2), (3, .long p3), (5, .long p4), (7, .int p5)]) F dX12_event_9 (by rw [hN]; decide) rfl ?_
  refine v_aload_n F dX12_event_11 1 rfl rfl ?_
  refine g_X12_23 F r_a dX12_event_12 ?_
  have h := h (fun (S3 : PS) => Rf S3 a 9 → VV X (0, 0) S3 [(0, .ref a), (1, .int p1), (2, .int p2), (3, .long p3), (5, .long p4), (7, .int p5), (8, .int v2)] [] 47) (by
    intro S3 h r_a
    refine v_aload_n F dX12_event_47 0 rfl rfl ?_
    refine g_X12_23 F r_a dX12_event_48 ?_
    have h := h (fun (S5 : PS) => Rf S5 a 9 → VV X (0, 0) S5 [(0, .ref a), (1, .int p1), (2, .int p2), (3, .long p3), (5, .long p4), (7, .int p5), (8, .int v2)] [] 85) (by
      intro S5 h r_a
      refine v_aload_n F dX12_event_85 0 rfl rfl ?_
      refine g_X12_23 F r_a dX12_event_86 ?_
      have h := h (fun (S7 : PS) => Rf S7 a 9 → VV X (0, 0) S7 [(0, .ref a), (1, .int p1), (2, .int p2), (3, .long p3), (5, .long p4), (7, .int p5), (8, .int v2)] [] 129) (by
        intro S7 h r_a
        refine v_aload_n F dX12_event_129 0 rfl rfl ?_
        refine g_X12_23 F r_a dX12_event_130 ?_
        refine v_if_le (tgt := 137) F dX12_event_133 (by decide) h (fun h => ?_) (fun h => ?_)
        · refine v_aload_n F dX12_event_137 0 rfl rfl ?_
          refine g_X12_441 F r_a dX12_event_138 ?_
          refine v_topi (fun v9 e_v9 => ?_)
          have h := h v9 e_v9
          refine v_istore (lv1 := [(9, .int v9), (0, .ref a), (1, .int p1), (2, .int p2), (3, .long p3), (5, .long p4), (7, .int p5), (8, .int v2)]) F dX12_event_141 (by rw [hN]; decide) rfl ?_
          refine v_aload_n F dX12_event_143 1 rfl rfl ?_
          refine v_dup F dX12_event_144 rfl ?_
          refine g_X12_441 F r_a dX12_event_145 ?_
          refine v_iconst (v := 1) F dX12_event_148 (by decide) ?_
          refine v_iadd F dX12_event_149 ?_
          refine p_X12_441 F r_a h dX12_event_150 (fun S10 h hE => ?_)
          have r_a := r_a.tr hE
          refine v_aload_n F dX12_event_153 1 rfl rfl ?_
          refine g_X12_444 F r_a h dX12_event_154 (fun b11 r_b11 h => ?_)
          refine v_iload F dX12_event_157 0 rfl ?_
          refine v_aload_n F dX12_event_159 1 rfl rfl ?_
          refine g_X12_344 F r_a dX12_event_160 ?_
          refine v_iast F r_b11 o_65 h dX12_event_163 (fun S12 h hE => ?_)
          have r_a := r_a.tr hE
          refine v_aload_n F dX12_event_164 1 rfl rfl ?_
          refine g_X12_420 F r_a h dX12_event_165 (fun b13 r_b13 h => ?_)
          refine v_iload F dX12_event_168 0 rfl ?_
          refine v_iload_n F dX12_event_170 3 rfl rfl ?_
          refine v_iast F r_b13 o_66 h dX12_event_171 (fun S14 h hE => ?_)
          have r_a := r_a.tr hE
          refine v_aload_n F dX12_event_172 1 rfl rfl ?_
          refine g_X12_447 F r_a h dX12_event_173 (fun b15 r_b15 h => ?_)
          refine v_iload F dX12_event_176 0 rfl ?_
          refine v_iload F dX12_event_178 6 rfl ?_
          refine v_zast F r_b15 o_67 h dX12_event_180 (fun S16 h hE => ?_)
          have r_a := r_a.tr hE
          refine v_aload_n F dX12_event_181 1 rfl rfl ?_
          refine g_X12_450 F r_a h dX12_event_182 (fun b17 r_b17 h => ?_)
          refine v_iload F dX12_event_185 0 rfl ?_
          refine v_iload F dX12_event_187 7 rfl ?_
          refine v_iconst (v := (-1)) F dX12_event_189 (by decide) ?_
          have h := h (fun (t18 : Nat) (t19 : Int32) (t20 : Int32) (S21 : PS) => Rf S21 a 9 → Rf S21 t18 68 → VV X (0, 0) S21 [(0, .ref a), (1, .int p1), (2, .int p2), (3, .long p3), (5, .long p4), (7, .int p5), (9, .int v9)] [.int t20, .int t19, .ref t18] 198) (by
            intro t18 t19 t20 S21 h r_a r_t18
            refine v_zast F r_t18 o_68 h dX12_event_198 (fun S23 h hE => ?_)
            have r_a := r_a.tr hE
            refine v_aload_n F dX12_event_199 0 rfl rfl ?_
            refine g_X12_453 F r_a h dX12_event_200 (fun b24 r_b24 h => ?_)
            refine v_iload F dX12_event_203 6 rfl ?_
            refine v_aload_n F dX12_event_205 0 rfl rfl ?_
            refine g_X12_309 F r_a dX12_event_206 ?_
            refine v_last F r_b24 o_69 h dX12_event_209 (fun S25 h hE => ?_)
            have r_a := r_a.tr hE
            refine v_aload_n F dX12_event_210 0 rfl rfl ?_
            refine g_X12_456 F r_a h dX12_event_211 (fun b26 r_b26 h => ?_)
            refine v_iload F dX12_event_214 6 rfl ?_
            refine v_lload_n F dX12_event_216 3 rfl rfl ?_
            refine v_lload F dX12_event_217 4 rfl ?_
            refine v_ldiv F dX12_event_219 h.1 ?_
            have h := h.2
            refine v_last F r_b26 o_70 h dX12_event_220 (fun S27 h hE => ?_)
            have r_a := r_a.tr hE
            refine v_aload_n F dX12_event_221 0 rfl rfl ?_
            refine g_X12_438 F r_a h dX12_event_222 (fun b28 r_b28 h => ?_)
            refine v_iload F dX12_event_225 6 rfl ?_
            refine v_aload_n F dX12_event_227 0 rfl rfl ?_
            refine g_X12_90 F r_a h dX12_event_228 (fun b29 r_b29 h => ?_)
            refine v_iload_n F dX12_event_231 1 rfl rfl ?_
            refine v_iald F r_b29 o_43 h dX12_event_232 (fun h => ?_)
            refine v_iast F r_b28 o_71 h dX12_event_233 (fun S30 h hE => ?_)
            have r_a := r_a.tr hE
            refine v_iconst (v := 0) F dX12_event_234 (by decide) ?_
            refine v_istore (lv1 := [(10, .int 0), (0, .ref a), (1, .int p1), (2, .int p2), (3, .long p3), (5, .long p4), (7, .int p5), (9, .int v9)]) F dX12_event_235 (by rw [hN]; decide) rfl ?_
            refine v_sub [1, 3, 4, 5, 6, 7, 0] rfl ?_
            refine h (fun (x10_32 : Int32) (S33 : PS) => Rf S33 a 9 → VV X (0, 0) S33 [(0, .ref a), (2, .int p2), (3, .long p3), (5, .long p4), (7, .int p5), (9, .int v9), (10, .int x10_32)] [] 237) (fun x10_32 S33 h r_a => ?_) r_a
            refine v_iload F dX12_event_237 6 rfl ?_
            refine v_iload_n F dX12_event_239 1 rfl rfl ?_
            refine v_icmp_ge (tgt := 309) F dX12_event_240 (by decide) h (fun h => ?_) (fun h => ?_)
            · refine v_iconst (v := 0) F dX12_event_309 (by decide) ?_
              refine v_istore (lv1 := [(10, .int 0), (0, .ref a), (2, .int p2), (3, .long p3), (5, .long p4), (7, .int p5), (9, .int v9)]) F dX12_event_310 (by rw [hN]; decide) rfl ?_
              refine v_sub [1, 3, 4, 5, 6, 0] rfl ?_
              refine h (fun (x10_35 : Int32) (S36 : PS) => Rf S36 a 9 → VV X (0, 0) S36 [(0, .ref a), (3, .long p3), (5, .long p4), (7, .int p5), (9, .int v9), (10, .int x10_35)] [] 312) (fun x10_35 S36 h r_a => ?_) r_a
              refine v_iload F dX12_event_312 5 rfl ?_
              refine v_iconst (v := 3) F dX12_event_314 (by decide) ?_
              refine v_icmp_ge (tgt := 337) F dX12_event_315 (by decide) h (fun h => ?_) (fun h => ?_)
              · refine v_aload_n F dX12_event_337 0 rfl rfl ?_
                refine g_X12_432 F r_a h dX12_event_338 (fun b37 r_b37 h => ?_)
                refine v_aload_n F dX12_event_341 0 rfl rfl ?_
                refine g_X12_344 F r_a dX12_event_342 ?_
                refine v_iload F dX12_event_345 3 rfl ?_
                have h := h (fun (t38 : Nat) (t39 : Int32) (t40 : Int32) (S41 : PS) => Rf S41 a 9 → Rf S41 t38 77 → VV X (0, 0) S41 [(0, .ref a), (3, .long p3), (5, .long p4)] [.int t40, .int t39, .ref t38] 356) (by
                  intro t38 t39 t40 S41 h r_a r_t38
                  refine v_iast F r_t38 o_77 h dX12_event_356 (fun S43 h hE => ?_)
                  have r_a := r_a.tr hE
                  refine v_aload_n F dX12_event_357 0 rfl rfl ?_
                  refine v_dup F dX12_event_358 rfl ?_
                  refine g_X12_309 F r_a dX12_event_359 ?_
                  refine v_lload_n F dX12_event_362 1 rfl rfl ?_
                  refine v_lload F dX12_event_363 2 rfl ?_
                  refine v_ldiv F dX12_event_365 h.1 ?_
                  have h := h.2
                  refine v_ladd F dX12_event_366 ?_
                  refine p_X12_309 F r_a h dX12_event_367 (fun S44 h hE => ?_)
                  have r_a := r_a.tr hE
                  exact v_vret F hQ h (by decide) dX12_event_370)
                refine v_if_eq (tgt := 355) F dX12_event_347 (by decide) h (fun h => ?_) (fun h => ?_)
                · refine v_iconst (v := (-1)) F dX12_event_355 (by decide) ?_
                  exact v_sub [0, 1, 2] rfl (h r_a r_b37)
                · refine v_iload F dX12_event_350 4 rfl ?_
                  refine v_goto (tgt := 356) F dX12_event_352 (by decide) ?_
                  exact v_sub [0, 1, 2] rfl (h r_a r_b37)
              · refine v_aload_n F dX12_event_318 0 rfl rfl ?_
                refine g_X12_459 F r_a h dX12_event_319 (fun b45 r_b45 h => ?_)
                refine v_iconst (v := 3) F dX12_event_322 (by decide) ?_
                refine v_iload F dX12_event_323 4 rfl ?_
                refine v_imul F dX12_event_325 ?_
                refine v_iload F dX12_event_326 5 rfl ?_
                refine v_iadd F dX12_event_328 ?_
                refine v_iconst (v := (-1)) F dX12_event_329 (by decide) ?_
                refine v_iast F r_b45 o_75 h dX12_event_330 (fun S46 h hE => ?_)
                have r_a := r_a.tr hE
                obtain ⟨v47, e_v47⟩ : ∃ y : Int32, y = x10_35 + 1 := ⟨_, rfl⟩
                have h := h v47 e_v47
                refine v_iinc (v := v47) (lv1 := [(10, .int v47), (0, .ref a), (3, .long p3), (5, .long p4), (7, .int p5), (9, .int v9)]) F dX12_event_331 (q := 5) rfl (by rw [e_v47]; rfl) (by rw [hN]; decide) rfl ?_
                refine v_goto (tgt := 312) F dX12_event_334 (by decide) ?_
                exact v_sub [1, 2, 3, 4, 5, 0] rfl (h r_a)
            · refine v_aload_n F dX12_event_243 0 rfl rfl ?_
              refine g_X12_423 F r_a h dX12_event_244 (fun b48 r_b48 h => ?_)
              refine v_bipush (v := 6) F dX12_event_247 (by decide) ?_
              refine v_iload F dX12_event_249 5 rfl ?_
              refine v_imul F dX12_event_251 ?_
              refine v_iload F dX12_event_252 6 rfl ?_
              refine v_iadd F dX12_event_254 ?_
              refine v_aload_n F dX12_event_255 0 rfl rfl ?_
              refine g_X12_399 F r_a h dX12_event_256 (fun b49 r_b49 h => ?_)
              refine v_iload F dX12_event_259 6 rfl ?_
              refine v_iald F r_b49 o_83 h dX12_event_261 (fun h => ?_)
              refine v_iast F r_b48 o_72 h dX12_event_262 (fun S50 h hE => ?_)
              have r_a := r_a.tr hE
              refine v_aload_n F dX12_event_263 0 rfl rfl ?_
              refine g_X12_426 F r_a h dX12_event_264 (fun b51 r_b51 h => ?_)
              refine v_bipush (v := 6) F dX12_event_267 (by decide) ?_
              refine v_iload F dX12_event_269 5 rfl ?_
              refine v_imul F dX12_event_271 ?_
              refine v_iload F dX12_event_272 6 rfl ?_
              refine v_iadd F dX12_event_274 ?_
              refine v_aload_n F dX12_event_275 0 rfl rfl ?_
              refine g_X12_402 F r_a h dX12_event_276 (fun b52 r_b52 h => ?_)
              refine v_iload F dX12_event_279 6 rfl ?_
              refine v_iald F r_b52 o_84 h dX12_event_281 (fun h => ?_)
              refine v_iast F r_b51 o_73 h dX12_event_282 (fun S53 h hE => ?_)
              have r_a := r_a.tr hE
              refine v_aload_n F dX12_event_283 0 rfl rfl ?_
              refine g_X12_429 F r_a h dX12_event_284 (fun b54 r_b54 h => ?_)
              refine v_bipush (v := 6) F dX12_event_287 (by decide) ?_
              refine v_iload F dX12_event_289 5 rfl ?_
              refine v_imul F dX12_event_291 ?_
              refine v_iload F dX12_event_292 6 rfl ?_
              refine v_iadd F dX12_event_294 ?_
              refine v_aload_n F dX12_event_295 0 rfl rfl ?_
              refine g_X12_396 F r_a h dX12_event_296 (fun b55 r_b55 h => ?_)
              refine v_iload F dX12_event_299 6 rfl ?_
              refine v_iald F r_b55 o_85 h dX12_event_301 (fun h => ?_)
              refine v_iast F r_b54 o_74 h dX12_event_302 (fun S56 h hE => ?_)
              have r_a := r_a.tr hE
              obtain ⟨v57, e_v57⟩ : ∃ y : Int32, y = x10_32 + 1 := ⟨_, rfl⟩
              have h := h v57 e_v57
              refine v_iinc (v := v57) (lv1 := [(10, .int v57), (0, .ref a), (2, .int p2), (3, .long p3), (5, .long p4), (7, .int p5), (9, .int v9)]) F dX12_event_303 (q := 6) rfl (by rw [e_v57]; rfl) (by rw [hN]; decide) rfl ?_
              refine v_goto (tgt := 237) F dX12_event_306 (by decide) ?_
              exact v_sub [1, 2, 3, 4, 5, 6, 0] rfl (h r_a))
          refine v_icmp_eq (tgt := 197) F dX12_event_190 (by decide) h (fun h => ?_) (fun h => ?_)
          · refine v_iconst (v := 0) F dX12_event_197 (by decide) ?_
            exact v_sub [1, 2, 3, 4, 5, 6, 0] rfl (h r_a r_b17)
          · refine v_iconst (v := 1) F dX12_event_193 (by decide) ?_
            refine v_goto (tgt := 198) F dX12_event_194 (by decide) ?_
            exact v_sub [1, 2, 3, 4, 5, 6, 0] rfl (h r_a r_b17)
        · exact v_vret F hQ h (by decide) dX12_event_136)
      refine v_if_ne (tgt := 129) F dX12_event_89 (by decide) h (fun h => ?_) (fun h => ?_)
      · exact v_sub [0, 1, 2, 3, 4, 5, 6] rfl (h r_a)
      · refine v_aload_n F dX12_event_92 0 rfl rfl ?_
        refine g_X12_441 F r_a dX12_event_93 ?_
        refine v_sipush (v := 300) F dX12_event_96 (by decide) ?_
        have h := h (fun (S58 : PS) => Rf S58 a 9 → VV X (0, 0) S58 [(0, .ref a), (1, .int p1), (2, .int p2), (3, .long p3), (5, .long p4), (7, .int p5), (8, .int v2)] [] 118) (by
          intro S58 h r_a
          refine v_aload_n F dX12_event_118 0 rfl rfl ?_
          refine v_iconst (v := 5) F dX12_event_119 (by decide) ?_
          refine v_aload_n F dX12_event_120 0 rfl rfl ?_
          refine g_X12_90 F r_a h dX12_event_121 (fun b60 r_b60 h => ?_)
          refine v_iload_n F dX12_event_124 1 rfl rfl ?_
          refine v_iald F r_b60 o_43 h dX12_event_125 (fun h => ?_)
          refine v_cV0 (v_runV F k_X12_50 rfl (c_X12_bad r_a h) r_a rfl rfl (Nat.le_of_ble_eq_true rfl) (by decide) (by decide) dX12_event_126) ⟨rfl, rfl⟩ (fun  S61 h hE => ?_)
          have r_a := r_a.tr hE
          exact v_sub [0, 1, 2, 3, 4, 5, 6] rfl (h r_a))
        refine v_icmp_eq (tgt := 118) F dX12_event_99 (by decide) h (fun h => ?_) (fun h => ?_)
        · exact v_sub [0, 1, 2, 3, 4, 5, 6] rfl (h r_a)
        · refine v_aload_n F dX12_event_102 0 rfl rfl ?_
          refine g_X12_309 F r_a dX12_event_103 ?_
          refine v_lload_n F dX12_event_106 3 rfl rfl ?_
          refine v_lload F dX12_event_107 4 rfl ?_
          refine v_ldiv F dX12_event_109 h.1 ?_
          have h := h.2
          refine v_ladd F dX12_event_110 ?_
          refine v_ldc2 F kc_X12_210 dX12_event_111 ?_
          refine v_lcmp_le (tgt := 129) F dX12_event_114 dX12_event_115 (by decide) h (fun h => ?_) (fun h => ?_)
          · exact v_sub [0, 1, 2, 3, 4, 5, 6] rfl (h r_a)
          · exact v_sub [0, 1, 2, 3, 4, 5, 6] rfl (h r_a))
    refine v_if_ne (tgt := 85) F dX12_event_51 (by decide) h (fun h => ?_) (fun h => ?_)
    · exact v_sub [0, 1, 2, 3, 4, 5, 6] rfl (h r_a)
    · refine v_lload_n F dX12_event_54 3 rfl rfl ?_
      refine v_lload F dX12_event_55 4 rfl ?_
      refine v_lrem F dX12_event_57 h.1 ?_
      have h := h.2
      refine v_lconst (v := 0) F dX12_event_58 (by decide) ?_
      have h := h (fun (S62 : PS) => Rf S62 a 9 → VV X (0, 0) S62 [(0, .ref a), (1, .int p1), (2, .int p2), (3, .long p3), (5, .long p4), (7, .int p5), (8, .int v2)] [] 74) (by
        intro S62 h r_a
        refine v_aload_n F dX12_event_74 0 rfl rfl ?_
        refine v_iconst (v := 2) F dX12_event_75 (by decide) ?_
        refine v_aload_n F dX12_event_76 0 rfl rfl ?_
        refine g_X12_90 F r_a h dX12_event_77 (fun b64 r_b64 h => ?_)
        refine v_iload_n F dX12_event_80 1 rfl rfl ?_
        refine v_iald F r_b64 o_43 h dX12_event_81 (fun h => ?_)
        refine v_cV0 (v_runV F k_X12_50 rfl (c_X12_bad r_a h) r_a rfl rfl (Nat.le_of_ble_eq_true rfl) (by decide) (by decide) dX12_event_82) ⟨rfl, rfl⟩ (fun  S65 h hE => ?_)
        have r_a := r_a.tr hE
        exact v_sub [0, 1, 2, 3, 4, 5, 6] rfl (h r_a))
      refine v_lcmp_ne (tgt := 74) F dX12_event_59 dX12_event_60 (by decide) h (fun h => ?_) (fun h => ?_)
      · exact v_sub [0, 1, 2, 3, 4, 5, 6] rfl (h r_a)
      · refine v_lload_n F dX12_event_63 3 rfl rfl ?_
        refine v_lload F dX12_event_64 4 rfl ?_
        refine v_ldiv F dX12_event_66 h.1 ?_
        have h := h.2
        refine v_ldc2 F kc_X12_210 dX12_event_67 ?_
        refine v_lcmp_le (tgt := 85) F dX12_event_70 dX12_event_71 (by decide) h (fun h => ?_) (fun h => ?_)
        · exact v_sub [0, 1, 2, 3, 4, 5, 6] rfl (h r_a)
        · exact v_sub [0, 1, 2, 3, 4, 5, 6] rfl (h r_a))
  refine v_if_ne (tgt := 47) F dX12_event_15 (by decide) h (fun h => ?_) (fun h => ?_)
  · exact v_sub [1, 2, 3, 4, 5, 6, 0] rfl (h r_a)
  · refine v_iload F dX12_event_18 0 rfl ?_
    refine v_iconst (v := (-1)) F dX12_event_20 (by decide) ?_
    refine v_icmp_eq (tgt := 47) F dX12_event_21 (by decide) h (fun h => ?_) (fun h => ?_)
    · exact v_sub [1, 2, 3, 4, 5, 6, 0] rfl (h r_a)
    · refine v_aload_n F dX12_event_24 1 rfl rfl ?_
      refine v_iload F dX12_event_25 0 rfl ?_
      refine v_iload_n F dX12_event_27 3 rfl rfl ?_
      refine v_cI0 (v_runV F k_X12_435 rfl (c_X12_isLike r_a h) r_a rfl rfl (Nat.le_of_ble_eq_true rfl) (by decide) (by decide) dX12_event_28) ⟨rfl, rfl⟩ (fun r67 S66 h hE => ?_)
      obtain ⟨nz_r67, h⟩ := h
      have r_a := r_a.tr hE
      refine v_if_ne (tgt := 47) F dX12_event_31 (by decide) h (fun h => ?_) (fun h => ?_)
      · exact v_sub [1, 2, 3, 4, 5, 6, 0] rfl (h r_a)
      · refine v_aload_n F dX12_event_34 1 rfl rfl ?_
        refine v_bipush (v := 6) F dX12_event_35 (by decide) ?_
        refine v_aload_n F dX12_event_37 1 rfl rfl ?_
        refine g_X12_438 F r_a h dX12_event_38 (fun b68 r_b68 h => ?_)
        refine v_iload F dX12_event_41 0 rfl ?_
        refine v_iald F r_b68 o_71 h dX12_event_43 (fun h => ?_)
        refine v_cV0 (v_runV F k_X12_50 rfl (c_X12_bad r_a h) r_a rfl rfl (Nat.le_of_ble_eq_true rfl) (by decide) (by decide) dX12_event_44) ⟨rfl, rfl⟩ (fun  S69 h hE => ?_)
        have r_a := r_a.tr hE
        exact v_sub [1, 2, 3, 4, 5, 6, 0] rfl (h r_a)
theorem dX12_isGoingOn_0 : decode cX12_isGoingOn 0 = .ok (.aload_n 0, 1) := by decide +kernel
theorem dX12_isGoingOn_1 : decode cX12_isGoingOn 1 = .ok (.getfield 288, 3) := by decide +kernel
theorem dX12_isGoingOn_4 : decode cX12_isGoingOn 4 = .ok (.iload_n 1, 1) := by decide +kernel
theorem dX12_isGoingOn_5 : decode cX12_isGoingOn 5 = .ok (.iaload, 1) := by decide +kernel
theorem dX12_isGoingOn_6 : decode cX12_isGoingOn 6 = .ok (.istore_n 3, 1) := by decide +kernel
theorem dX12_isGoingOn_7 : decode cX12_isGoingOn 7 = .ok (.iload_n 3, 1) := by decide +kernel
theorem dX12_isGoingOn_8 : decode cX12_isGoingOn 8 = .ok (.aload_n 0, 1) := by decide +kernel
theorem dX12_isGoingOn_9 : decode cX12_isGoingOn 9 = .ok (.getfield 99, 3) := by decide +kernel
theorem dX12_isGoingOn_12 : decode cX12_isGoingOn 12 = .ok (.iload_n 2, 1) := by decide +kernel
theorem dX12_isGoingOn_13 : decode cX12_isGoingOn 13 = .ok (.iaload, 1) := by decide +kernel
theorem dX12_isGoingOn_14 : decode cX12_isGoingOn 14 = .ok (.if_icmp .ne 46, 3) := by decide +kernel
theorem dX12_isGoingOn_17 : decode cX12_isGoingOn 17 = .ok (.aload_n 0, 1) := by decide +kernel
theorem dX12_isGoingOn_18 : decode cX12_isGoingOn 18 = .ok (.getfield 478, 3) := by decide +kernel
theorem dX12_isGoingOn_21 : decode cX12_isGoingOn 21 = .ok (.iload_n 1, 1) := by decide +kernel
theorem dX12_isGoingOn_22 : decode cX12_isGoingOn 22 = .ok (.aload_n 0, 1) := by decide +kernel
theorem dX12_isGoingOn_23 : decode cX12_isGoingOn 23 = .ok (.getfield 309, 3) := by decide +kernel
theorem dX12_isGoingOn_26 : decode cX12_isGoingOn 26 = .ok (.lastore, 1) := by decide +kernel
theorem dX12_isGoingOn_27 : decode cX12_isGoingOn 27 = .ok (.aload_n 0, 1) := by decide +kernel
theorem dX12_isGoingOn_28 : decode cX12_isGoingOn 28 = .ok (.getfield 481, 3) := by decide +kernel
theorem dX12_isGoingOn_31 : decode cX12_isGoingOn 31 = .ok (.iload_n 1, 1) := by decide +kernel
theorem dX12_isGoingOn_32 : decode cX12_isGoingOn 32 = .ok (.aload_n 0, 1) := by decide +kernel
theorem dX12_isGoingOn_33 : decode cX12_isGoingOn 33 = .ok (.getfield 309, 3) := by decide +kernel
theorem dX12_isGoingOn_36 : decode cX12_isGoingOn 36 = .ok (.lastore, 1) := by decide +kernel
theorem dX12_isGoingOn_37 : decode cX12_isGoingOn 37 = .ok (.aload_n 0, 1) := by decide +kernel
theorem dX12_isGoingOn_38 : decode cX12_isGoingOn 38 = .ok (.getfield 484, 3) := by decide +kernel
theorem dX12_isGoingOn_41 : decode cX12_isGoingOn 41 = .ok (.iload_n 1, 1) := by decide +kernel
theorem dX12_isGoingOn_42 : decode cX12_isGoingOn 42 = .ok (.aload_n 0, 1) := by decide +kernel
theorem dX12_isGoingOn_43 : decode cX12_isGoingOn 43 = .ok (.getfield 353, 3) := by decide +kernel
theorem dX12_isGoingOn_46 : decode cX12_isGoingOn 46 = .ok (.lastore, 1) := by decide +kernel
theorem dX12_isGoingOn_47 : decode cX12_isGoingOn 47 = .ok (.aload_n 0, 1) := by decide +kernel
theorem dX12_isGoingOn_48 : decode cX12_isGoingOn 48 = .ok (.getfield 487, 3) := by decide +kernel
theorem dX12_isGoingOn_51 : decode cX12_isGoingOn 51 = .ok (.iload_n 1, 1) := by decide +kernel
theorem dX12_isGoingOn_52 : decode cX12_isGoingOn 52 = .ok (.aload_n 0, 1) := by decide +kernel
theorem dX12_isGoingOn_53 : decode cX12_isGoingOn 53 = .ok (.getfield 323, 3) := by decide +kernel
theorem dX12_isGoingOn_56 : decode cX12_isGoingOn 56 = .ok (.iastore, 1) := by decide +kernel
theorem dX12_isGoingOn_57 : decode cX12_isGoingOn 57 = .ok (.goto 40, 3) := by decide +kernel
theorem dX12_isGoingOn_60 : decode cX12_isGoingOn 60 = .ok (.aload_n 0, 1) := by decide +kernel
theorem dX12_isGoingOn_61 : decode cX12_isGoingOn 61 = .ok (.invokevirtual 365, 3) := by decide +kernel
theorem dX12_isGoingOn_64 : decode cX12_isGoingOn 64 = .ok (.aload_n 0, 1) := by decide +kernel
theorem dX12_isGoingOn_65 : decode cX12_isGoingOn 65 = .ok (.getfield 481, 3) := by decide +kernel
theorem dX12_isGoingOn_68 : decode cX12_isGoingOn 68 = .ok (.iload_n 1, 1) := by decide +kernel
theorem dX12_isGoingOn_69 : decode cX12_isGoingOn 69 = .ok (.aload_n 0, 1) := by decide +kernel
theorem dX12_isGoingOn_70 : decode cX12_isGoingOn 70 = .ok (.getfield 309, 3) := by decide +kernel
theorem dX12_isGoingOn_73 : decode cX12_isGoingOn 73 = .ok (.aload_n 0, 1) := by decide +kernel
theorem dX12_isGoingOn_74 : decode cX12_isGoingOn 74 = .ok (.getfield 481, 3) := by decide +kernel
theorem dX12_isGoingOn_77 : decode cX12_isGoingOn 77 = .ok (.iload_n 1, 1) := by decide +kernel
theorem dX12_isGoingOn_78 : decode cX12_isGoingOn 78 = .ok (.laload, 1) := by decide +kernel
theorem dX12_isGoingOn_79 : decode cX12_isGoingOn 79 = .ok (.lcmp, 1) := by decide +kernel
theorem dX12_isGoingOn_80 : decode cX12_isGoingOn 80 = .ok (.ifCond .le 10, 3) := by decide +kernel
theorem dX12_isGoingOn_83 : decode cX12_isGoingOn 83 = .ok (.aload_n 0, 1) := by decide +kernel
theorem dX12_isGoingOn_84 : decode cX12_isGoingOn 84 = .ok (.getfield 309, 3) := by decide +kernel
theorem dX12_isGoingOn_87 : decode cX12_isGoingOn 87 = .ok (.goto 9, 3) := by decide +kernel
theorem dX12_isGoingOn_90 : decode cX12_isGoingOn 90 = .ok (.aload_n 0, 1) := by decide +kernel
theorem dX12_isGoingOn_91 : decode cX12_isGoingOn 91 = .ok (.getfield 481, 3) := by decide +kernel
theorem dX12_isGoingOn_94 : decode cX12_isGoingOn 94 = .ok (.iload_n 1, 1) := by decide +kernel
theorem dX12_isGoingOn_95 : decode cX12_isGoingOn 95 = .ok (.laload, 1) := by decide +kernel
theorem dX12_isGoingOn_96 : decode cX12_isGoingOn 96 = .ok (.lastore, 1) := by decide +kernel
theorem dX12_isGoingOn_97 : decode cX12_isGoingOn 97 = .ok (.aload_n 0, 1) := by decide +kernel
theorem dX12_isGoingOn_98 : decode cX12_isGoingOn 98 = .ok (.getfield 102, 3) := by decide +kernel
theorem dX12_isGoingOn_101 : decode cX12_isGoingOn 101 = .ok (.iload_n 3, 1) := by decide +kernel
theorem dX12_isGoingOn_102 : decode cX12_isGoingOn 102 = .ok (.iaload, 1) := by decide +kernel
theorem dX12_isGoingOn_103 : decode cX12_isGoingOn 103 = .ok (.istore 4, 2) := by decide +kernel
theorem dX12_isGoingOn_105 : decode cX12_isGoingOn 105 = .ok (.aload_n 0, 1) := by decide +kernel
theorem dX12_isGoingOn_106 : decode cX12_isGoingOn 106 = .ok (.getfield 23, 3) := by decide +kernel
theorem dX12_isGoingOn_109 : decode cX12_isGoingOn 109 = .ok (.ifCond .ne 29, 3) := by decide +kernel
theorem dX12_isGoingOn_112 : decode cX12_isGoingOn 112 = .ok (.iload 4, 2) := by decide +kernel
theorem dX12_isGoingOn_114 : decode cX12_isGoingOn 114 = .ok (.iconst (-1), 1) := by decide +kernel
theorem dX12_isGoingOn_115 : decode cX12_isGoingOn 115 = .ok (.if_icmp .eq 23, 3) := by decide +kernel
theorem dX12_isGoingOn_118 : decode cX12_isGoingOn 118 = .ok (.aload_n 0, 1) := by decide +kernel
theorem dX12_isGoingOn_119 : decode cX12_isGoingOn 119 = .ok (.getfield 490, 3) := by decide +kernel
theorem dX12_isGoingOn_122 : decode cX12_isGoingOn 122 = .ok (.bipush 12, 2) := by decide +kernel
theorem dX12_isGoingOn_124 : decode cX12_isGoingOn 124 = .ok (.if_icmp .ne 14, 3) := by decide +kernel
theorem dX12_isGoingOn_127 : decode cX12_isGoingOn 127 = .ok (.aload_n 0, 1) := by decide +kernel
theorem dX12_isGoingOn_128 : decode cX12_isGoingOn 128 = .ok (.iconst 5, 1) := by decide +kernel
theorem dX12_isGoingOn_129 : decode cX12_isGoingOn 129 = .ok (.aload_n 0, 1) := by decide +kernel
theorem dX12_isGoingOn_130 : decode cX12_isGoingOn 130 = .ok (.getfield 90, 3) := by decide +kernel
theorem dX12_isGoingOn_133 : decode cX12_isGoingOn 133 = .ok (.iload_n 2, 1) := by decide +kernel
theorem dX12_isGoingOn_134 : decode cX12_isGoingOn 134 = .ok (.iaload, 1) := by decide +kernel
theorem dX12_isGoingOn_135 : decode cX12_isGoingOn 135 = .ok (.invokevirtual 50, 3) := by decide +kernel
theorem dX12_isGoingOn_138 : decode cX12_isGoingOn 138 = .ok (.aload_n 0, 1) := by decide +kernel
theorem dX12_isGoingOn_139 : decode cX12_isGoingOn 139 = .ok (.getfield 23, 3) := by decide +kernel
theorem dX12_isGoingOn_142 : decode cX12_isGoingOn 142 = .ok (.ifCond .le 5, 3) := by decide +kernel
theorem dX12_isGoingOn_145 : decode cX12_isGoingOn 145 = .ok (.iconst 1, 1) := by decide +kernel
theorem dX12_isGoingOn_146 : decode cX12_isGoingOn 146 = .ok (.ireturn, 1) := by decide +kernel
theorem dX12_isGoingOn_147 : decode cX12_isGoingOn 147 = .ok (.iload 4, 2) := by decide +kernel
theorem dX12_isGoingOn_149 : decode cX12_isGoingOn 149 = .ok (.iconst (-1), 1) := by decide +kernel
theorem dX12_isGoingOn_150 : decode cX12_isGoingOn 150 = .ok (.if_icmp .eq 99, 3) := by decide +kernel
theorem dX12_isGoingOn_153 : decode cX12_isGoingOn 153 = .ok (.aload_n 0, 1) := by decide +kernel
theorem dX12_isGoingOn_154 : decode cX12_isGoingOn 154 = .ok (.aload_n 0, 1) := by decide +kernel
theorem dX12_isGoingOn_155 : decode cX12_isGoingOn 155 = .ok (.getfield 490, 3) := by decide +kernel
theorem dX12_isGoingOn_158 : decode cX12_isGoingOn 158 = .ok (.putfield 344, 3) := by decide +kernel
theorem dX12_isGoingOn_161 : decode cX12_isGoingOn 161 = .ok (.aload_n 0, 1) := by decide +kernel
theorem dX12_isGoingOn_162 : decode cX12_isGoingOn 162 = .ok (.dup, 1) := by decide +kernel
theorem dX12_isGoingOn_163 : decode cX12_isGoingOn 163 = .ok (.getfield 490, 3) := by decide +kernel
theorem dX12_isGoingOn_166 : decode cX12_isGoingOn 166 = .ok (.iconst 1, 1) := by decide +kernel
theorem dX12_isGoingOn_167 : decode cX12_isGoingOn 167 = .ok (.iadd, 1) := by decide +kernel
theorem dX12_isGoingOn_168 : decode cX12_isGoingOn 168 = .ok (.putfield 490, 3) := by decide +kernel
theorem dX12_isGoingOn_171 : decode cX12_isGoingOn 171 = .ok (.aload_n 0, 1) := by decide +kernel
theorem dX12_isGoingOn_172 : decode cX12_isGoingOn 172 = .ok (.getfield 493, 3) := by decide +kernel
theorem dX12_isGoingOn_175 : decode cX12_isGoingOn 175 = .ok (.aload_n 0, 1) := by decide +kernel
theorem dX12_isGoingOn_176 : decode cX12_isGoingOn 176 = .ok (.getfield 344, 3) := by decide +kernel
theorem dX12_isGoingOn_179 : decode cX12_isGoingOn 179 = .ok (.aload_n 0, 1) := by decide +kernel
theorem dX12_isGoingOn_180 : decode cX12_isGoingOn 180 = .ok (.getfield 347, 3) := by decide +kernel
theorem dX12_isGoingOn_183 : decode cX12_isGoingOn 183 = .ok (.iload_n 1, 1) := by decide +kernel
theorem dX12_isGoingOn_184 : decode cX12_isGoingOn 184 = .ok (.laload, 1) := by decide +kernel
theorem dX12_isGoingOn_185 : decode cX12_isGoingOn 185 = .ok (.lastore, 1) := by decide +kernel
theorem dX12_isGoingOn_186 : decode cX12_isGoingOn 186 = .ok (.aload_n 0, 1) := by decide +kernel
theorem dX12_isGoingOn_187 : decode cX12_isGoingOn 187 = .ok (.getfield 432, 3) := by decide +kernel
theorem dX12_isGoingOn_190 : decode cX12_isGoingOn 190 = .ok (.aload_n 0, 1) := by decide +kernel
theorem dX12_isGoingOn_191 : decode cX12_isGoingOn 191 = .ok (.getfield 344, 3) := by decide +kernel
theorem dX12_isGoingOn_194 : decode cX12_isGoingOn 194 = .ok (.iconst (-1), 1) := by decide +kernel
theorem dX12_isGoingOn_195 : decode cX12_isGoingOn 195 = .ok (.iastore, 1) := by decide +kernel
theorem dX12_isGoingOn_196 : decode cX12_isGoingOn 196 = .ok (.aload_n 0, 1) := by decide +kernel
theorem dX12_isGoingOn_197 : decode cX12_isGoingOn 197 = .ok (.aload_n 0, 1) := by decide +kernel
theorem dX12_isGoingOn_198 : decode cX12_isGoingOn 198 = .ok (.getfield 347, 3) := by decide +kernel
theorem dX12_isGoingOn_201 : decode cX12_isGoingOn 201 = .ok (.iload_n 1, 1) := by decide +kernel
theorem dX12_isGoingOn_202 : decode cX12_isGoingOn 202 = .ok (.laload, 1) := by decide +kernel
theorem dX12_isGoingOn_203 : decode cX12_isGoingOn 203 = .ok (.putfield 309, 3) := by decide +kernel
theorem dX12_isGoingOn_206 : decode cX12_isGoingOn 206 = .ok (.aload_n 0, 1) := by decide +kernel
theorem dX12_isGoingOn_207 : decode cX12_isGoingOn 207 = .ok (.aload_n 0, 1) := by decide +kernel
theorem dX12_isGoingOn_208 : decode cX12_isGoingOn 208 = .ok (.getfield 350, 3) := by decide +kernel
theorem dX12_isGoingOn_211 : decode cX12_isGoingOn 211 = .ok (.iload_n 1, 1) := by decide +kernel
theorem dX12_isGoingOn_212 : decode cX12_isGoingOn 212 = .ok (.laload, 1) := by decide +kernel
theorem dX12_isGoingOn_213 : decode cX12_isGoingOn 213 = .ok (.putfield 353, 3) := by decide +kernel
theorem dX12_isGoingOn_216 : decode cX12_isGoingOn 216 = .ok (.aload_n 0, 1) := by decide +kernel
theorem dX12_isGoingOn_217 : decode cX12_isGoingOn 217 = .ok (.aload_n 0, 1) := by decide +kernel
theorem dX12_isGoingOn_218 : decode cX12_isGoingOn 218 = .ok (.getfield 320, 3) := by decide +kernel
theorem dX12_isGoingOn_221 : decode cX12_isGoingOn 221 = .ok (.iload_n 1, 1) := by decide +kernel
theorem dX12_isGoingOn_222 : decode cX12_isGoingOn 222 = .ok (.iaload, 1) := by decide +kernel
theorem dX12_isGoingOn_223 : decode cX12_isGoingOn 223 = .ok (.putfield 323, 3) := by decide +kernel
theorem dX12_isGoingOn_226 : decode cX12_isGoingOn 226 = .ok (.aload_n 0, 1) := by decide +kernel
theorem dX12_isGoingOn_227 : decode cX12_isGoingOn 227 = .ok (.getfield 288, 3) := by decide +kernel
theorem dX12_isGoingOn_230 : decode cX12_isGoingOn 230 = .ok (.iload_n 1, 1) := by decide +kernel
theorem dX12_isGoingOn_231 : decode cX12_isGoingOn 231 = .ok (.iload 4, 2) := by decide +kernel
theorem dX12_isGoingOn_233 : decode cX12_isGoingOn 233 = .ok (.iastore, 1) := by decide +kernel
theorem dX12_isGoingOn_234 : decode cX12_isGoingOn 234 = .ok (.aload_n 0, 1) := by decide +kernel
theorem dX12_isGoingOn_235 : decode cX12_isGoingOn 235 = .ok (.getfield 285, 3) := by decide +kernel
theorem dX12_isGoingOn_238 : decode cX12_isGoingOn 238 = .ok (.iload_n 1, 1) := by decide +kernel
theorem dX12_isGoingOn_239 : decode cX12_isGoingOn 239 = .ok (.aload_n 0, 1) := by decide +kernel
theorem dX12_isGoingOn_240 : decode cX12_isGoingOn 240 = .ok (.getfield 99, 3) := by decide +kernel
theorem dX12_isGoingOn_243 : decode cX12_isGoingOn 243 = .ok (.iload 4, 2) := by decide +kernel
theorem dX12_isGoingOn_245 : decode cX12_isGoingOn 245 = .ok (.iaload, 1) := by decide +kernel
theorem dX12_isGoingOn_246 : decode cX12_isGoingOn 246 = .ok (.iastore, 1) := by decide +kernel
theorem dX12_isGoingOn_247 : decode cX12_isGoingOn 247 = .ok (.iconst 1, 1) := by decide +kernel
theorem dX12_isGoingOn_248 : decode cX12_isGoingOn 248 = .ok (.ireturn, 1) := by decide +kernel
theorem dX12_isGoingOn_249 : decode cX12_isGoingOn 249 = .ok (.aload_n 0, 1) := by decide +kernel
theorem dX12_isGoingOn_250 : decode cX12_isGoingOn 250 = .ok (.dup, 1) := by decide +kernel
theorem dX12_isGoingOn_251 : decode cX12_isGoingOn 251 = .ok (.getfield 356, 3) := by decide +kernel
theorem dX12_isGoingOn_254 : decode cX12_isGoingOn 254 = .ok (.iconst 1, 1) := by decide +kernel
theorem dX12_isGoingOn_255 : decode cX12_isGoingOn 255 = .ok (.isub, 1) := by decide +kernel
theorem dX12_isGoingOn_256 : decode cX12_isGoingOn 256 = .ok (.putfield 356, 3) := by decide +kernel
theorem dX12_isGoingOn_259 : decode cX12_isGoingOn 259 = .ok (.aload_n 0, 1) := by decide +kernel
theorem dX12_isGoingOn_260 : decode cX12_isGoingOn 260 = .ok (.aload_n 0, 1) := by decide +kernel
theorem dX12_isGoingOn_261 : decode cX12_isGoingOn 261 = .ok (.getfield 341, 3) := by decide +kernel
theorem dX12_isGoingOn_264 : decode cX12_isGoingOn 264 = .ok (.iload_n 1, 1) := by decide +kernel
theorem dX12_isGoingOn_265 : decode cX12_isGoingOn 265 = .ok (.iaload, 1) := by decide +kernel
theorem dX12_isGoingOn_266 : decode cX12_isGoingOn 266 = .ok (.putfield 344, 3) := by decide +kernel
theorem dX12_isGoingOn_269 : decode cX12_isGoingOn 269 = .ok (.aload_n 0, 1) := by decide +kernel
theorem dX12_isGoingOn_270 : decode cX12_isGoingOn 270 = .ok (.aload_n 0, 1) := by decide +kernel
theorem dX12_isGoingOn_271 : decode cX12_isGoingOn 271 = .ok (.getfield 484, 3) := by decide +kernel
theorem dX12_isGoingOn_274 : decode cX12_isGoingOn 274 = .ok (.iload_n 1, 1) := by decide +kernel
theorem dX12_isGoingOn_275 : decode cX12_isGoingOn 275 = .ok (.laload, 1) := by decide +kernel
theorem dX12_isGoingOn_276 : decode cX12_isGoingOn 276 = .ok (.putfield 353, 3) := by decide +kernel
theorem dX12_isGoingOn_279 : decode cX12_isGoingOn 279 = .ok (.aload_n 0, 1) := by decide +kernel
theorem dX12_isGoingOn_280 : decode cX12_isGoingOn 280 = .ok (.aload_n 0, 1) := by decide +kernel
theorem dX12_isGoingOn_281 : decode cX12_isGoingOn 281 = .ok (.getfield 487, 3) := by decide +kernel
theorem dX12_isGoingOn_284 : decode cX12_isGoingOn 284 = .ok (.iload_n 1, 1) := by decide +kernel
theorem dX12_isGoingOn_285 : decode cX12_isGoingOn 285 = .ok (.iaload, 1) := by decide +kernel
theorem dX12_isGoingOn_286 : decode cX12_isGoingOn 286 = .ok (.putfield 323, 3) := by decide +kernel
theorem dX12_isGoingOn_289 : decode cX12_isGoingOn 289 = .ok (.aload_n 0, 1) := by decide +kernel
theorem dX12_isGoingOn_290 : decode cX12_isGoingOn 290 = .ok (.aload_n 0, 1) := by decide +kernel
theorem dX12_isGoingOn_291 : decode cX12_isGoingOn 291 = .ok (.getfield 478, 3) := by decide +kernel
theorem dX12_isGoingOn_294 : decode cX12_isGoingOn 294 = .ok (.iload_n 1, 1) := by decide +kernel
theorem dX12_isGoingOn_295 : decode cX12_isGoingOn 295 = .ok (.laload, 1) := by decide +kernel
theorem dX12_isGoingOn_296 : decode cX12_isGoingOn 296 = .ok (.putfield 309, 3) := by decide +kernel
theorem dX12_isGoingOn_299 : decode cX12_isGoingOn 299 = .ok (.aload_n 0, 1) := by decide +kernel
theorem dX12_isGoingOn_300 : decode cX12_isGoingOn 300 = .ok (.getfield 478, 3) := by decide +kernel
theorem dX12_isGoingOn_303 : decode cX12_isGoingOn 303 = .ok (.iload_n 1, 1) := by decide +kernel
theorem dX12_isGoingOn_304 : decode cX12_isGoingOn 304 = .ok (.laload, 1) := by decide +kernel
theorem dX12_isGoingOn_305 : decode cX12_isGoingOn 305 = .ok (.aload_n 0, 1) := by decide +kernel
theorem dX12_isGoingOn_306 : decode cX12_isGoingOn 306 = .ok (.getfield 481, 3) := by decide +kernel
theorem dX12_isGoingOn_309 : decode cX12_isGoingOn 309 = .ok (.iload_n 1, 1) := by decide +kernel
theorem dX12_isGoingOn_310 : decode cX12_isGoingOn 310 = .ok (.laload, 1) := by decide +kernel
theorem dX12_isGoingOn_311 : decode cX12_isGoingOn 311 = .ok (.lcmp, 1) := by decide +kernel
theorem dX12_isGoingOn_312 : decode cX12_isGoingOn 312 = .ok (.ifCond .ge 24, 3) := by decide +kernel
theorem dX12_isGoingOn_315 : decode cX12_isGoingOn 315 = .ok (.aload_n 0, 1) := by decide +kernel
theorem dX12_isGoingOn_316 : decode cX12_isGoingOn 316 = .ok (.iload_n 2, 1) := by decide +kernel
theorem dX12_isGoingOn_317 : decode cX12_isGoingOn 317 = .ok (.iconst 0, 1) := by decide +kernel
theorem dX12_isGoingOn_318 : decode cX12_isGoingOn 318 = .ok (.aload_n 0, 1) := by decide +kernel
theorem dX12_isGoingOn_319 : decode cX12_isGoingOn 319 = .ok (.getfield 481, 3) := by decide +kernel
theorem dX12_isGoingOn_322 : decode cX12_isGoingOn 322 = .ok (.iload_n 1, 1) := by decide +kernel
theorem dX12_isGoingOn_323 : decode cX12_isGoingOn 323 = .ok (.laload, 1) := by decide +kernel
theorem dX12_isGoingOn_324 : decode cX12_isGoingOn 324 = .ok (.aload_n 0, 1) := by decide +kernel
theorem dX12_isGoingOn_325 : decode cX12_isGoingOn 325 = .ok (.getfield 478, 3) := by decide +kernel
theorem dX12_isGoingOn_328 : decode cX12_isGoingOn 328 = .ok (.iload_n 1, 1) := by decide +kernel
theorem dX12_isGoingOn_329 : decode cX12_isGoingOn 329 = .ok (.laload, 1) := by decide +kernel
theorem dX12_isGoingOn_330 : decode cX12_isGoingOn 330 = .ok (.lsub, 1) := by decide +kernel
theorem dX12_isGoingOn_331 : decode cX12_isGoingOn 331 = .ok (.lconst 1, 1) := by decide +kernel
theorem dX12_isGoingOn_332 : decode cX12_isGoingOn 332 = .ok (.iconst 0, 1) := by decide +kernel
theorem dX12_isGoingOn_333 : decode cX12_isGoingOn 333 = .ok (.invokevirtual 416, 3) := by decide +kernel
theorem dX12_isGoingOn_336 : decode cX12_isGoingOn 336 = .ok (.iconst 0, 1) := by decide +kernel
theorem dX12_isGoingOn_337 : decode cX12_isGoingOn 337 = .ok (.ireturn, 1) := by decide +kernel
abbrev rm_X12_isGoingOn : Room := { frames := 2, cells := 0, slots := 0, locals := 54 }
def wp_X12_isGoingOn (a : Nat) (p1 : Int32) (p2 : Int32) (S : PS) (Q : Int32 → PS → Prop) : Prop :=
  (∃ b1, fR S 179 a = some b1 ∧ (vp_in p1 (aN S b1) ∧ (∀ v2, v2 = aI S 92 b1 (p1).toNatClampNeg → (∃ b3, fR S 109 a = some b3 ∧ (vp_in p2 (aN S b3) ∧ (∀ K97_5 : PS → Prop, (∀ (S4 : PS),
 (∃ b6, fR S4 110 a = some b6 ∧ (vp_in v2 (aN S4 b6) ∧ (∀ v7, v7 = aI S4 47 b6 (v2).toNatClampNeg → (∀ K138_9 : PS → Prop, (∀ (S8 : PS),
 (if fI S8 102 a ≤ 0 then
 (if v7 = (-1) then
 (∀ S10, S10 = sI S8 165 a ((fI S8 165 a) - 1) → (∃ b11, fR S10 178 a = some b11 ∧ (vp_in p1 (aN S10 b11) ∧ (∀ S12, S12 = sI S10 155 a (aI S10 91 b11 (p1).toNatClampNeg) → (∃ b13, fR S12 185 a = some b13 ∧ (vp_in p1 (aN S12 b13) ∧ (∀ S14, S14 = sL S12 157 a (aL S12 98 b13 (p1).toNatClampNeg) → (∃ b15, fR S14 180 a = some b15 ∧ (vp_in p1 (aN S14 b15) ∧ (∀ S16, S16 = sI S14 158 a (aI S14 93 b15 (p1).toNatClampNeg) → (∃ b17, fR S16 186 a = some b17 ∧ (vp_in p1 (aN S16 b17) ∧ (∀ S18, S18 = sL S16 156 a (aL S16 99 b17 (p1).toNatClampNeg) → (∃ b19, fR S18 186 a = some b19 ∧ (vp_in p1 (aN S18 b19) ∧ (∃ b20, fR S18 187 a = some b20 ∧ (vp_in p1 (aN S18 b20) ∧ (if aL S18 100 b20 (p1).toNatClampNeg ≤ aL S18 99 b19 (p1).toNatClampNeg then
 Q 0 S18
 else
 (∃ b21, fR S18 187 a = some b21 ∧ (vp_in p1 (aN S18 b21) ∧ (∃ b22, fR S18 186 a = some b22 ∧ (vp_in p1 (aN S18 b22) ∧ wp_X12_event a p2 0 ((aL S18 100 b21 (p1).toNatClampNeg) - (aL S18 99 b22 (p1).toNatClampNeg)) 1 0 S18 (fun (S23 : PS) => 
 Q 0 S23)))))))))))))))))))))))
 else
 (∀ S24, S24 = sI S8 155 a (fI S8 149 a) → (∀ S25, S25 = sI S24 149 a ((fI S24 149 a) + 1) → (∃ b26, fR S25 147 a = some b26 ∧ (∃ b27, fR S25 183 a = some b27 ∧ (vp_in p1 (aN S25 b27) ∧ (vp_in (fI S25 155 a) (aN S25 b26) ∧ ∀ S28, S28 = wL S25 76 b26 (fI S25 155 a).toNatClampNeg (aL S25 96 b27 (p1).toNatClampNeg) → (∃ b29, fR S28 148 a = some b29 ∧ (vp_in (fI S28 155 a) (aN S28 b29) ∧ ∀ S30, S30 = wI S28 77 b29 (fI S28 155 a).toNatClampNeg (-1) → (∃ b31, fR S30 183 a = some b31 ∧ (vp_in p1 (aN S30 b31) ∧ (∀ S32, S32 = sL S30 156 a (aL S30 96 b31 (p1).toNatClampNeg) → (∃ b33, fR S32 184 a = some b33 ∧ (vp_in p1 (aN S32 b33) ∧ (∀ S34, S34 = sL S32 157 a (aL S32 97 b33 (p1).toNatClampNeg) → (∃ b35, fR S34 177 a = some b35 ∧ (vp_in p1 (aN S34 b35) ∧ (∀ S36, S36 = sI S34 158 a (aI S34 90 b35 (p1).toNatClampNeg) → (∃ b37, fR S36 179 a = some b37 ∧ (vp_in p1 (aN S36 b37) ∧ ∀ S38, S38 = wI S36 92 b37 (p1).toNatClampNeg v7 → (∃ b39, fR S38 173 a = some b39 ∧ (∃ b40, fR S38 109 a = some b40 ∧ (vp_in v7 (aN S38 b40) ∧ (vp_in p1 (aN S38 b39) ∧ ∀ S41, S41 = wI S38 86 b39 (p1).toNatClampNeg (aI S38 46 b40 (v7).toNatClampNeg) → Q 1 S41))))))))))))))))))))))))
 else
 Q 1 S8)
 → K138_9 S8) →
 (if fI S4 102 a = 0 then
 (if v7 = (-1) then
 K138_9 S4
 else
 (if fI S4 149 a = 12 then
 (∃ b42, fR S4 106 a = some b42 ∧ (vp_in p2 (aN S4 b42) ∧ wp_X12_bad a 5 (aI S4 43 b42 (p2).toNatClampNeg) S4 (fun (S43 : PS) => 
 K138_9 S43)))
 else
 K138_9 S4))
 else
 K138_9 S4)))))
 → K97_5 S4) →
 (if v2 = aI S 46 b3 (p2).toNatClampNeg then
 (∃ b54, fR S 186 a = some b54 ∧ (vp_in p1 (aN S b54) ∧ ∀ S55, S55 = wL S 99 b54 (p1).toNatClampNeg (fL S 156 a) → (∃ b56, fR S55 187 a = some b56 ∧ (vp_in p1 (aN S55 b56) ∧ ∀ S57, S57 = wL S55 100 b56 (p1).toNatClampNeg (fL S55 156 a) → (∃ b58, fR S57 185 a = some b58 ∧ (vp_in p1 (aN S57 b58) ∧ ∀ S59, S59 = wL S57 98 b58 (p1).toNatClampNeg (fL S57 157 a) → (∃ b60, fR S59 180 a = some b60 ∧ (vp_in p1 (aN S59 b60) ∧ ∀ S61, S61 = wI S59 93 b60 (p1).toNatClampNeg (fI S59 158 a) → K97_5 S61))))))))
 else
 wp_X12_endOfVoice a S (fun (S44 : PS) => 
 (∃ b45, fR S44 187 a = some b45 ∧ (∃ b46, fR S44 187 a = some b46 ∧ (vp_in p1 (aN S44 b46) ∧ (∀ K96_51 : Nat → Int32 → Int64 → PS → Prop, (∀ (t47 : Nat) (t48 : Int32) (t49 : Int64) (S50 : PS),
 (vp_in t48 (aN S50 t47) ∧ ∀ S52, S52 = wL S50 100 t47 (t48).toNatClampNeg t49 → K97_5 S52)
 → K96_51 t47 t48 t49 S50) →
 (if fL S44 156 a ≤ aL S44 100 b46 (p1).toNatClampNeg then
 (∃ b53, fR S44 187 a = some b53 ∧ (vp_in p1 (aN S44 b53) ∧ K96_51 b45 p1 (aL S44 100 b53 (p1).toNatClampNeg) S44))
 else
 K96_51 b45 p1 (fL S44 156 a) S44)))))))))))))
set_option maxRecDepth 100000 in
set_option maxHeartbeats 4000000 in
theorem c_X12_isGoingOn {l : Launch} {E : EE} {A : Nat → Prop} {a : Nat} {p1 : Int32} {p2 : Int32} {S : PS} {Q : Int32 → PS → Prop} (r_a : Rf S a 9) (h : wp_X12_isGoingOn a p1 p2 S Q) : MtI l yX12_isGoingOn (.code yX12_isGoingOn cX12_isGoingOn 5 (some .boolean)) rm_X12_isGoingOn E A [.ref a, .int p1, .int p2] S (fun r S1 => nz r ∧ Q r S1) := by
  refine MtI.of (by decide) (Nat.le_of_ble_eq_true rfl) (fun X F hQ hN => ?_)
  show VV X (0, 0) S [(0, .ref a), (1, .int p1), (2, .int p2)] [] 0
  unfold wp_X12_isGoingOn at h
  refine v_aload_n F dX12_isGoingOn_0 0 rfl rfl ?_
  refine g_X12_288 F r_a h dX12_isGoingOn_1 (fun b1 r_b1 h => ?_)
  refine v_iload_n F dX12_isGoingOn_4 1 rfl rfl ?_
  refine v_iald F r_b1 o_92 h dX12_isGoingOn_5 (fun h => ?_)
  refine v_topi (fun v2 e_v2 => ?_)
  have h := h v2 e_v2
  refine v_istore_n (lv1 := [(3, .int v2), (0, .ref a), (1, .int p1), (2, .int p2)]) F dX12_isGoingOn_6 rfl (by rw [hN]; decide) rfl ?_
  refine v_iload_n F dX12_isGoingOn_7 0 rfl rfl ?_
  refine v_aload_n F dX12_isGoingOn_8 1 rfl rfl ?_
  refine g_X12_99 F r_a h dX12_isGoingOn_9 (fun b3 r_b3 h => ?_)
  refine v_iload_n F dX12_isGoingOn_12 3 rfl rfl ?_
  refine v_iald F r_b3 o_46 h dX12_isGoingOn_13 (fun h => ?_)
  have h := h (fun (S4 : PS) => Rf S4 a 9 → VV X (0, 0) S4 [(0, .ref a), (1, .int p1), (2, .int p2), (3, .int v2)] [] 97) (by
    intro S4 h r_a
    refine v_aload_n F dX12_isGoingOn_97 0 rfl rfl ?_
    refine g_X12_102 F r_a h dX12_isGoingOn_98 (fun b6 r_b6 h => ?_)
    refine v_iload_n F dX12_isGoingOn_101 3 rfl rfl ?_
    refine v_iald F r_b6 o_47 h dX12_isGoingOn_102 (fun h => ?_)
    refine v_topi (fun v7 e_v7 => ?_)
    have h := h v7 e_v7
    refine v_istore (lv1 := [(4, .int v7), (0, .ref a), (1, .int p1), (2, .int p2), (3, .int v2)]) F dX12_isGoingOn_103 (by rw [hN]; decide) rfl ?_
    refine v_aload_n F dX12_isGoingOn_105 1 rfl rfl ?_
    refine g_X12_23 F r_a dX12_isGoingOn_106 ?_
    have h := h (fun (S8 : PS) => Rf S8 a 9 → VV X (0, 0) S8 [(0, .ref a), (1, .int p1), (2, .int p2), (4, .int v7)] [] 138) (by
      intro S8 h r_a
      refine v_aload_n F dX12_isGoingOn_138 0 rfl rfl ?_
      refine g_X12_23 F r_a dX12_isGoingOn_139 ?_
      refine v_if_le (tgt := 147) F dX12_isGoingOn_142 (by decide) h (fun h => ?_) (fun h => ?_)
      · refine v_iload F dX12_isGoingOn_147 3 rfl ?_
        refine v_iconst (v := (-1)) F dX12_isGoingOn_149 (by decide) ?_
        refine v_icmp_eq (tgt := 249) F dX12_isGoingOn_150 (by decide) h (fun h => ?_) (fun h => ?_)
        · refine v_aload_n F dX12_isGoingOn_249 0 rfl rfl ?_
          refine v_dup F dX12_isGoingOn_250 rfl ?_
          refine g_X12_356 F r_a dX12_isGoingOn_251 ?_
          refine v_iconst (v := 1) F dX12_isGoingOn_254 (by decide) ?_
          refine v_isub F dX12_isGoingOn_255 ?_
          refine p_X12_356 F r_a h dX12_isGoingOn_256 (fun S10 h hE => ?_)
          have r_a := r_a.tr hE
          refine v_aload_n F dX12_isGoingOn_259 0 rfl rfl ?_
          refine v_aload_n F dX12_isGoingOn_260 0 rfl rfl ?_
          refine g_X12_341 F r_a h dX12_isGoingOn_261 (fun b11 r_b11 h => ?_)
          refine v_iload_n F dX12_isGoingOn_264 1 rfl rfl ?_
          refine v_iald F r_b11 o_91 h dX12_isGoingOn_265 (fun h => ?_)
          refine p_X12_344 F r_a h dX12_isGoingOn_266 (fun S12 h hE => ?_)
          have r_a := r_a.tr hE
          refine v_aload_n F dX12_isGoingOn_269 0 rfl rfl ?_
          refine v_aload_n F dX12_isGoingOn_270 0 rfl rfl ?_
          refine g_X12_484 F r_a h dX12_isGoingOn_271 (fun b13 r_b13 h => ?_)
          refine v_iload_n F dX12_isGoingOn_274 1 rfl rfl ?_
          refine v_lald F r_b13 o_98 h dX12_isGoingOn_275 (fun h => ?_)
          refine p_X12_353 F r_a h dX12_isGoingOn_276 (fun S14 h hE => ?_)
          have r_a := r_a.tr hE
          refine v_aload_n F dX12_isGoingOn_279 0 rfl rfl ?_
          refine v_aload_n F dX12_isGoingOn_280 0 rfl rfl ?_
          refine g_X12_487 F r_a h dX12_isGoingOn_281 (fun b15 r_b15 h => ?_)
          refine v_iload_n F dX12_isGoingOn_284 1 rfl rfl ?_
          refine v_iald F r_b15 o_93 h dX12_isGoingOn_285 (fun h => ?_)
          refine p_X12_323 F r_a h dX12_isGoingOn_286 (fun S16 h hE => ?_)
          have r_a := r_a.tr hE
          refine v_aload_n F dX12_isGoingOn_289 0 rfl rfl ?_
          refine v_aload_n F dX12_isGoingOn_290 0 rfl rfl ?_
          refine g_X12_478 F r_a h dX12_isGoingOn_291 (fun b17 r_b17 h => ?_)
          refine v_iload_n F dX12_isGoingOn_294 1 rfl rfl ?_
          refine v_lald F r_b17 o_99 h dX12_isGoingOn_295 (fun h => ?_)
          refine p_X12_309 F r_a h dX12_isGoingOn_296 (fun S18 h hE => ?_)
          have r_a := r_a.tr hE
          refine v_aload_n F dX12_isGoingOn_299 0 rfl rfl ?_
          refine g_X12_478 F r_a h dX12_isGoingOn_300 (fun b19 r_b19 h => ?_)
          refine v_iload_n F dX12_isGoingOn_303 1 rfl rfl ?_
          refine v_lald F r_b19 o_99 h dX12_isGoingOn_304 (fun h => ?_)
          refine v_aload_n F dX12_isGoingOn_305 0 rfl rfl ?_
          refine g_X12_481 F r_a h dX12_isGoingOn_306 (fun b20 r_b20 h => ?_)
          refine v_iload_n F dX12_isGoingOn_309 1 rfl rfl ?_
          refine v_lald F r_b20 o_100 h dX12_isGoingOn_310 (fun h => ?_)
          refine v_lcmp_ge (tgt := 336) F dX12_isGoingOn_311 dX12_isGoingOn_312 (by decide) h (fun h => ?_) (fun h => ?_)
          · refine v_iconst (v := 0) F dX12_isGoingOn_336 (by decide) ?_
            exact v_zret F hQ (by decide) ⟨nz0, h⟩ (by decide) dX12_isGoingOn_337
          · refine v_aload_n F dX12_isGoingOn_315 0 rfl rfl ?_
            refine v_iload_n F dX12_isGoingOn_316 2 rfl rfl ?_
            refine v_iconst (v := 0) F dX12_isGoingOn_317 (by decide) ?_
            refine v_aload_n F dX12_isGoingOn_318 0 rfl rfl ?_
            refine g_X12_481 F r_a h dX12_isGoingOn_319 (fun b21 r_b21 h => ?_)
            refine v_iload_n F dX12_isGoingOn_322 1 rfl rfl ?_
            refine v_lald F r_b21 o_100 h dX12_isGoingOn_323 (fun h => ?_)
            refine v_aload_n F dX12_isGoingOn_324 0 rfl rfl ?_
            refine g_X12_478 F r_a h dX12_isGoingOn_325 (fun b22 r_b22 h => ?_)
            refine v_iload_n F dX12_isGoingOn_328 1 rfl rfl ?_
            refine v_lald F r_b22 o_99 h dX12_isGoingOn_329 (fun h => ?_)
            refine v_lsub F dX12_isGoingOn_330 ?_
            refine v_lconst (v := 1) F dX12_isGoingOn_331 (by decide) ?_
            refine v_iconst (v := 0) F dX12_isGoingOn_332 (by decide) ?_
            refine v_cV0 (v_runV F k_X12_416 rfl (c_X12_event r_a h) r_a rfl rfl (Nat.le_of_ble_eq_true rfl) (by decide) (by decide) dX12_isGoingOn_333) ⟨rfl, rfl⟩ (fun  S23 h hE => ?_)
            have r_a := r_a.tr hE
            refine v_iconst (v := 0) F dX12_isGoingOn_336 (by decide) ?_
            exact v_zret F hQ (by decide) ⟨nz0, h⟩ (by decide) dX12_isGoingOn_337
        · refine v_aload_n F dX12_isGoingOn_153 0 rfl rfl ?_
          refine v_aload_n F dX12_isGoingOn_154 0 rfl rfl ?_
          refine g_X12_490 F r_a dX12_isGoingOn_155 ?_
          refine p_X12_344 F r_a h dX12_isGoingOn_158 (fun S24 h hE => ?_)
          have r_a := r_a.tr hE
          refine v_aload_n F dX12_isGoingOn_161 0 rfl rfl ?_
          refine v_dup F dX12_isGoingOn_162 rfl ?_
          refine g_X12_490 F r_a dX12_isGoingOn_163 ?_
          refine v_iconst (v := 1) F dX12_isGoingOn_166 (by decide) ?_
          refine v_iadd F dX12_isGoingOn_167 ?_
          refine p_X12_490 F r_a h dX12_isGoingOn_168 (fun S25 h hE => ?_)
          have r_a := r_a.tr hE
          refine v_aload_n F dX12_isGoingOn_171 0 rfl rfl ?_
          refine g_X12_493 F r_a h dX12_isGoingOn_172 (fun b26 r_b26 h => ?_)
          refine v_aload_n F dX12_isGoingOn_175 0 rfl rfl ?_
          refine g_X12_344 F r_a dX12_isGoingOn_176 ?_
          refine v_aload_n F dX12_isGoingOn_179 0 rfl rfl ?_
          refine g_X12_347 F r_a h dX12_isGoingOn_180 (fun b27 r_b27 h => ?_)
          refine v_iload_n F dX12_isGoingOn_183 1 rfl rfl ?_
          refine v_lald F r_b27 o_96 h dX12_isGoingOn_184 (fun h => ?_)
          refine v_last F r_b26 o_76 h dX12_isGoingOn_185 (fun S28 h hE => ?_)
          have r_a := r_a.tr hE
          refine v_aload_n F dX12_isGoingOn_186 0 rfl rfl ?_
          refine g_X12_432 F r_a h dX12_isGoingOn_187 (fun b29 r_b29 h => ?_)
          refine v_aload_n F dX12_isGoingOn_190 0 rfl rfl ?_
          refine g_X12_344 F r_a dX12_isGoingOn_191 ?_
          refine v_iconst (v := (-1)) F dX12_isGoingOn_194 (by decide) ?_
          refine v_iast F r_b29 o_77 h dX12_isGoingOn_195 (fun S30 h hE => ?_)
          have r_a := r_a.tr hE
          refine v_aload_n F dX12_isGoingOn_196 0 rfl rfl ?_
          refine v_aload_n F dX12_isGoingOn_197 0 rfl rfl ?_
          refine g_X12_347 F r_a h dX12_isGoingOn_198 (fun b31 r_b31 h => ?_)
          refine v_iload_n F dX12_isGoingOn_201 1 rfl rfl ?_
          refine v_lald F r_b31 o_96 h dX12_isGoingOn_202 (fun h => ?_)
          refine p_X12_309 F r_a h dX12_isGoingOn_203 (fun S32 h hE => ?_)
          have r_a := r_a.tr hE
          refine v_aload_n F dX12_isGoingOn_206 0 rfl rfl ?_
          refine v_aload_n F dX12_isGoingOn_207 0 rfl rfl ?_
          refine g_X12_350 F r_a h dX12_isGoingOn_208 (fun b33 r_b33 h => ?_)
          refine v_iload_n F dX12_isGoingOn_211 1 rfl rfl ?_
          refine v_lald F r_b33 o_97 h dX12_isGoingOn_212 (fun h => ?_)
          refine p_X12_353 F r_a h dX12_isGoingOn_213 (fun S34 h hE => ?_)
          have r_a := r_a.tr hE
          refine v_aload_n F dX12_isGoingOn_216 0 rfl rfl ?_
          refine v_aload_n F dX12_isGoingOn_217 0 rfl rfl ?_
          refine g_X12_320 F r_a h dX12_isGoingOn_218 (fun b35 r_b35 h => ?_)
          refine v_iload_n F dX12_isGoingOn_221 1 rfl rfl ?_
          refine v_iald F r_b35 o_90 h dX12_isGoingOn_222 (fun h => ?_)
          refine p_X12_323 F r_a h dX12_isGoingOn_223 (fun S36 h hE => ?_)
          have r_a := r_a.tr hE
          refine v_aload_n F dX12_isGoingOn_226 0 rfl rfl ?_
          refine g_X12_288 F r_a h dX12_isGoingOn_227 (fun b37 r_b37 h => ?_)
          refine v_iload_n F dX12_isGoingOn_230 1 rfl rfl ?_
          refine v_iload F dX12_isGoingOn_231 3 rfl ?_
          refine v_iast F r_b37 o_92 h dX12_isGoingOn_233 (fun S38 h hE => ?_)
          have r_a := r_a.tr hE
          refine v_aload_n F dX12_isGoingOn_234 0 rfl rfl ?_
          refine g_X12_285 F r_a h dX12_isGoingOn_235 (fun b39 r_b39 h => ?_)
          refine v_iload_n F dX12_isGoingOn_238 1 rfl rfl ?_
          refine v_aload_n F dX12_isGoingOn_239 0 rfl rfl ?_
          refine g_X12_99 F r_a h dX12_isGoingOn_240 (fun b40 r_b40 h => ?_)
          refine v_iload F dX12_isGoingOn_243 3 rfl ?_
          refine v_iald F r_b40 o_46 h dX12_isGoingOn_245 (fun h => ?_)
          refine v_iast F r_b39 o_86 h dX12_isGoingOn_246 (fun S41 h hE => ?_)
          have r_a := r_a.tr hE
          refine v_iconst (v := 1) F dX12_isGoingOn_247 (by decide) ?_
          exact v_zret F hQ (by decide) ⟨nz1, h⟩ (by decide) dX12_isGoingOn_248
      · refine v_iconst (v := 1) F dX12_isGoingOn_145 (by decide) ?_
        exact v_zret F hQ (by decide) ⟨nz1, h⟩ (by decide) dX12_isGoingOn_146)
    refine v_if_ne (tgt := 138) F dX12_isGoingOn_109 (by decide) h (fun h => ?_) (fun h => ?_)
    · exact v_sub [1, 2, 3, 0] rfl (h r_a)
    · refine v_iload F dX12_isGoingOn_112 0 rfl ?_
      refine v_iconst (v := (-1)) F dX12_isGoingOn_114 (by decide) ?_
      refine v_icmp_eq (tgt := 138) F dX12_isGoingOn_115 (by decide) h (fun h => ?_) (fun h => ?_)
      · exact v_sub [1, 2, 3, 0] rfl (h r_a)
      · refine v_aload_n F dX12_isGoingOn_118 1 rfl rfl ?_
        refine g_X12_490 F r_a dX12_isGoingOn_119 ?_
        refine v_bipush (v := 12) F dX12_isGoingOn_122 (by decide) ?_
        refine v_icmp_ne (tgt := 138) F dX12_isGoingOn_124 (by decide) h (fun h => ?_) (fun h => ?_)
        · exact v_sub [1, 2, 3, 0] rfl (h r_a)
        · refine v_aload_n F dX12_isGoingOn_127 1 rfl rfl ?_
          refine v_iconst (v := 5) F dX12_isGoingOn_128 (by decide) ?_
          refine v_aload_n F dX12_isGoingOn_129 1 rfl rfl ?_
          refine g_X12_90 F r_a h dX12_isGoingOn_130 (fun b42 r_b42 h => ?_)
          refine v_iload_n F dX12_isGoingOn_133 3 rfl rfl ?_
          refine v_iald F r_b42 o_43 h dX12_isGoingOn_134 (fun h => ?_)
          refine v_cV0 (v_runV F k_X12_50 rfl (c_X12_bad r_a h) r_a rfl rfl (Nat.le_of_ble_eq_true rfl) (by decide) (by decide) dX12_isGoingOn_135) ⟨rfl, rfl⟩ (fun  S43 h hE => ?_)
          have r_a := r_a.tr hE
          exact v_sub [1, 2, 3, 0] rfl (h r_a))
  refine v_icmp_ne (tgt := 60) F dX12_isGoingOn_14 (by decide) h (fun h => ?_) (fun h => ?_)
  · refine v_aload_n F dX12_isGoingOn_60 1 rfl rfl ?_
    refine v_cV0 (v_runV F k_X12_365 rfl (c_X12_endOfVoice r_a h) r_a rfl rfl (Nat.le_of_ble_eq_true rfl) (by decide) (by decide) dX12_isGoingOn_61) ⟨rfl, rfl⟩ (fun  S44 h hE => ?_)
    have r_a := r_a.tr hE
    refine v_aload_n F dX12_isGoingOn_64 1 rfl rfl ?_
    refine g_X12_481 F r_a h dX12_isGoingOn_65 (fun b45 r_b45 h => ?_)
    refine v_iload_n F dX12_isGoingOn_68 2 rfl rfl ?_
    refine v_aload_n F dX12_isGoingOn_69 1 rfl rfl ?_
    refine g_X12_309 F r_a dX12_isGoingOn_70 ?_
    refine v_aload_n F dX12_isGoingOn_73 1 rfl rfl ?_
    refine g_X12_481 F r_a h dX12_isGoingOn_74 (fun b46 r_b46 h => ?_)
    refine v_iload_n F dX12_isGoingOn_77 2 rfl rfl ?_
    refine v_lald F r_b46 o_100 h dX12_isGoingOn_78 (fun h => ?_)
    have h := h (fun (t47 : Nat) (t48 : Int32) (t49 : Int64) (S50 : PS) => Rf S50 a 9 → Rf S50 t47 100 → VV X (0, 0) S50 [(0, .ref a), (1, .int p1), (2, .int p2), (3, .int v2)] [.long t49, .int t48, .ref t47] 96) (by
      intro t47 t48 t49 S50 h r_a r_t47
      refine v_last F r_t47 o_100 h dX12_isGoingOn_96 (fun S52 h hE => ?_)
      have r_a := r_a.tr hE
      exact v_sub [0, 1, 2, 3] rfl (h r_a))
    refine v_lcmp_le (tgt := 90) F dX12_isGoingOn_79 dX12_isGoingOn_80 (by decide) h (fun h => ?_) (fun h => ?_)
    · refine v_aload_n F dX12_isGoingOn_90 1 rfl rfl ?_
      refine g_X12_481 F r_a h dX12_isGoingOn_91 (fun b53 r_b53 h => ?_)
      refine v_iload_n F dX12_isGoingOn_94 2 rfl rfl ?_
      refine v_lald F r_b53 o_100 h dX12_isGoingOn_95 (fun h => ?_)
      exact v_sub [1, 2, 3, 0] rfl (h r_a r_b45)
    · refine v_aload_n F dX12_isGoingOn_83 1 rfl rfl ?_
      refine g_X12_309 F r_a dX12_isGoingOn_84 ?_
      refine v_goto (tgt := 96) F dX12_isGoingOn_87 (by decide) ?_
      exact v_sub [1, 2, 3, 0] rfl (h r_a r_b45)
  · refine v_aload_n F dX12_isGoingOn_17 1 rfl rfl ?_
    refine g_X12_478 F r_a h dX12_isGoingOn_18 (fun b54 r_b54 h => ?_)
    refine v_iload_n F dX12_isGoingOn_21 2 rfl rfl ?_
    refine v_aload_n F dX12_isGoingOn_22 1 rfl rfl ?_
    refine g_X12_309 F r_a dX12_isGoingOn_23 ?_
    refine v_last F r_b54 o_99 h dX12_isGoingOn_26 (fun S55 h hE => ?_)
    have r_a := r_a.tr hE
    refine v_aload_n F dX12_isGoingOn_27 1 rfl rfl ?_
    refine g_X12_481 F r_a h dX12_isGoingOn_28 (fun b56 r_b56 h => ?_)
    refine v_iload_n F dX12_isGoingOn_31 2 rfl rfl ?_
    refine v_aload_n F dX12_isGoingOn_32 1 rfl rfl ?_
    refine g_X12_309 F r_a dX12_isGoingOn_33 ?_
    refine v_last F r_b56 o_100 h dX12_isGoingOn_36 (fun S57 h hE => ?_)
    have r_a := r_a.tr hE
    refine v_aload_n F dX12_isGoingOn_37 1 rfl rfl ?_
    refine g_X12_484 F r_a h dX12_isGoingOn_38 (fun b58 r_b58 h => ?_)
    refine v_iload_n F dX12_isGoingOn_41 2 rfl rfl ?_
    refine v_aload_n F dX12_isGoingOn_42 1 rfl rfl ?_
    refine g_X12_353 F r_a dX12_isGoingOn_43 ?_
    refine v_last F r_b58 o_98 h dX12_isGoingOn_46 (fun S59 h hE => ?_)
    have r_a := r_a.tr hE
    refine v_aload_n F dX12_isGoingOn_47 1 rfl rfl ?_
    refine g_X12_487 F r_a h dX12_isGoingOn_48 (fun b60 r_b60 h => ?_)
    refine v_iload_n F dX12_isGoingOn_51 2 rfl rfl ?_
    refine v_aload_n F dX12_isGoingOn_52 1 rfl rfl ?_
    refine g_X12_323 F r_a dX12_isGoingOn_53 ?_
    refine v_iast F r_b60 o_93 h dX12_isGoingOn_56 (fun S61 h hE => ?_)
    have r_a := r_a.tr hE
    refine v_goto (tgt := 97) F dX12_isGoingOn_57 (by decide) ?_
    exact v_sub [1, 2, 3, 0] rfl (h r_a)
