theorem dX12_printed_0 : decode cX12_printed 0 = .ok (.aload_n 0, 1) := by decide +kernel
theorem dX12_printed_1 : decode cX12_printed 1 = .ok (.iconst 0, 1) := by decide +kernel
theorem dX12_printed_2 : decode cX12_printed 2 = .ok (.putfield 1, 3) := by decide +kernel
theorem dX12_printed_5 : decode cX12_printed 5 = .ok (.iload_n 1, 1) := by decide +kernel
theorem dX12_printed_6 : decode cX12_printed 6 = .ok (.i2l, 1) := by decide +kernel
theorem dX12_printed_7 : decode cX12_printed 7 = .ok (.lconst 0, 1) := by decide +kernel
theorem dX12_printed_8 : decode cX12_printed 8 = .ok (.aload_n 0, 1) := by decide +kernel
theorem dX12_printed_9 : decode cX12_printed 9 = .ok (.getfield 607, 3) := by decide +kernel
theorem dX12_printed_12 : decode cX12_printed 12 = .ok (.iconst 1, 1) := by decide +kernel
theorem dX12_printed_13 : decode cX12_printed 13 = .ok (.isub, 1) := by decide +kernel
theorem dX12_printed_14 : decode cX12_printed 14 = .ok (.i2l, 1) := by decide +kernel
theorem dX12_printed_15 : decode cX12_printed 15 = .ok (.invokestatic 9, 3) := by decide +kernel
theorem dX12_printed_18 : decode cX12_printed 18 = .ok (.ifCond .eq 12, 3) := by decide +kernel
theorem dX12_printed_21 : decode cX12_printed 21 = .ok (.aload_n 0, 1) := by decide +kernel
theorem dX12_printed_22 : decode cX12_printed 22 = .ok (.getfield 565, 3) := by decide +kernel
theorem dX12_printed_25 : decode cX12_printed 25 = .ok (.iload_n 1, 1) := by decide +kernel
theorem dX12_printed_26 : decode cX12_printed 26 = .ok (.baload, 1) := by decide +kernel
theorem dX12_printed_27 : decode cX12_printed 27 = .ok (.goto 4, 3) := by decide +kernel
theorem dX12_printed_30 : decode cX12_printed 30 = .ok (.iconst (-1), 1) := by decide +kernel
theorem dX12_printed_31 : decode cX12_printed 31 = .ok (.ireturn, 1) := by decide +kernel
abbrev rm_X12_printed : Room := { frames := 1, cells := 0, slots := 0, locals := 25 }
def wp_X12_printed (a : Nat) (p1 : Int32) (S : PS) (Q : Int32 → PS → Prop) : Prop :=
  (∀ S1, S1 = sI S 96 a 0 → wp_X12_in (p1.toInt64) 0 (((fI S1 213 a) - 1).toInt64) S1 (fun (r3 : Int32) (S2 : PS) => 
 (if r3 = 0 then
 Q (-1) S2
 else
 (∃ b4, fR S2 212 a = some b4 ∧ (vp_in p1 (aN S2 b4) ∧ Q (aI S2 118 b4 (p1).toNatClampNeg) S2)))))
set_option maxRecDepth 100000 in
set_option maxHeartbeats 4000000 in
theorem c_X12_printed {l : Launch} {E : EE} {A : Nat → Prop} {a : Nat} {p1 : Int32} {S : PS} {Q : Int32 → PS → Prop} (r_a : Rf S a 9) (h : wp_X12_printed a p1 S Q) : MtI l yX12_printed (.code yX12_printed cX12_printed 2 (some .int)) rm_X12_printed E A [.ref a, .int p1] S Q := by
  refine MtI.of (by decide) (Nat.le_of_ble_eq_true rfl) (fun X F hQ hN => ?_)
  show VV X (0, 0) S [(0, .ref a), (1, .int p1)] [] 0
  unfold wp_X12_printed at h
  refine v_aload_n F dX12_printed_0 0 rfl rfl ?_
  refine v_iconst (v := 0) F dX12_printed_1 (by decide) ?_
  refine p_X12_1 F r_a h dX12_printed_2 (fun S1 h hE => ?_)
  have r_a := r_a.tr hE
  refine v_iload_n F dX12_printed_5 1 rfl rfl ?_
  refine v_i2l F dX12_printed_6 ?_
  refine v_lconst (v := 0) F dX12_printed_7 (by decide) ?_
  refine v_aload_n F dX12_printed_8 0 rfl rfl ?_
  refine g_X12_607 F r_a dX12_printed_9 ?_
  refine v_iconst (v := 1) F dX12_printed_12 (by decide) ?_
  refine v_isub F dX12_printed_13 ?_
  refine v_i2l F dX12_printed_14 ?_
  refine v_cI0 (v_runS F k_X12_9 (c_X12_in h) rfl rfl (Nat.le_of_ble_eq_true rfl) (by decide) (by decide) dX12_printed_15) ⟨rfl, rfl⟩ (fun r3 S2 h hE => ?_)
  obtain ⟨nz_r3, h⟩ := h
  have r_a := r_a.tr hE
  refine v_if_eq (tgt := 30) F dX12_printed_18 (by decide) h (fun h => ?_) (fun h => ?_)
  · refine v_iconst (v := (-1)) F dX12_printed_30 (by decide) ?_
    exact v_iret F hQ h (by decide) dX12_printed_31
  · refine v_aload_n F dX12_printed_21 0 rfl rfl ?_
    refine g_X12_565 F r_a h dX12_printed_22 (fun b4 r_b4 h => ?_)
    refine v_iload_n F dX12_printed_25 1 rfl rfl ?_
    refine v_bald F r_b4 o_118 h dX12_printed_26 (fun h => ?_)
    refine v_goto (tgt := 31) F dX12_printed_27 (by decide) ?_
    exact v_iret F hQ h (by decide) dX12_printed_31
