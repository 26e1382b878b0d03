theorem dX5_byteAt_0 : decode cX5_byteAt 0 = .ok (.iload_n 1, 1) := by decide +kernel
theorem dX5_byteAt_1 : decode cX5_byteAt 1 = .ok (.ifCond .lt 33, 3) := by decide +kernel
theorem dX5_byteAt_4 : decode cX5_byteAt 4 = .ok (.iload_n 1, 1) := by decide +kernel
theorem dX5_byteAt_5 : decode cX5_byteAt 5 = .ok (.aload_n 0, 1) := by decide +kernel
theorem dX5_byteAt_6 : decode cX5_byteAt 6 = .ok (.getfield 18, 3) := by decide +kernel
theorem dX5_byteAt_9 : decode cX5_byteAt 9 = .ok (.if_icmp .ge 25, 3) := by decide +kernel
theorem dX5_byteAt_12 : decode cX5_byteAt 12 = .ok (.iload_n 1, 1) := by decide +kernel
theorem dX5_byteAt_13 : decode cX5_byteAt 13 = .ok (.aload_n 0, 1) := by decide +kernel
theorem dX5_byteAt_14 : decode cX5_byteAt 14 = .ok (.getfield 11, 3) := by decide +kernel
theorem dX5_byteAt_17 : decode cX5_byteAt 17 = .ok (.arraylength, 1) := by decide +kernel
theorem dX5_byteAt_18 : decode cX5_byteAt 18 = .ok (.if_icmp .ge 16, 3) := by decide +kernel
theorem dX5_byteAt_21 : decode cX5_byteAt 21 = .ok (.aload_n 0, 1) := by decide +kernel
theorem dX5_byteAt_22 : decode cX5_byteAt 22 = .ok (.getfield 11, 3) := by decide +kernel
theorem dX5_byteAt_25 : decode cX5_byteAt 25 = .ok (.iload_n 1, 1) := by decide +kernel
theorem dX5_byteAt_26 : decode cX5_byteAt 26 = .ok (.baload, 1) := by decide +kernel
theorem dX5_byteAt_27 : decode cX5_byteAt 27 = .ok (.sipush 255, 3) := by decide +kernel
theorem dX5_byteAt_30 : decode cX5_byteAt 30 = .ok (.iand, 1) := by decide +kernel
theorem dX5_byteAt_31 : decode cX5_byteAt 31 = .ok (.goto 4, 3) := by decide +kernel
theorem dX5_byteAt_34 : decode cX5_byteAt 34 = .ok (.iconst (-1), 1) := by decide +kernel
theorem dX5_byteAt_35 : decode cX5_byteAt 35 = .ok (.ireturn, 1) := by decide +kernel
abbrev rm_X5_byteAt : Room := { frames := 0, cells := 0, slots := 0, locals := 0 }
def wp_X5_byteAt (a : Nat) (p1 : Int32) (S : PS) (Q : Int32 → PS → Prop) : Prop :=
  (if p1 < 0 then
 Q (-1) S
 else
 (if fI S 41 a ≤ p1 then
 Q (-1) S
 else
 (∃ b1, fR S 40 a = some b1 ∧ (if nI (aN S b1) ≤ p1 then
 Q (-1) S
 else
 (∃ b2, fR S 40 a = some b2 ∧ (vp_in p1 (aN S b2) ∧ Q ((aI S 14 b2 (p1).toNatClampNeg) &&& 255) S))))))
set_option maxRecDepth 100000 in
set_option maxHeartbeats 4000000 in
theorem c_X5_byteAt {l : Launch} {E : EE} {A : Nat → Prop} {a : Nat} {p1 : Int32} {S : PS} {Q : Int32 → PS → Prop} (r_a : Rf S a 4) (h : wp_X5_byteAt a p1 S Q) : MtI l yX5_byteAt (.code yX5_byteAt cX5_byteAt 2 (some .int)) rm_X5_byteAt E A [.ref a, .int p1] S Q := by
  refine MtI.of (by decide) (Nat.le_of_ble_eq_true rfl) (fun X F hQ hN => ?_)
  show VV X (0, 0) S [(0, .ref a), (1, .int p1)] [] 0
  unfold wp_X5_byteAt at h
  refine v_iload_n F dX5_byteAt_0 1 rfl rfl ?_
  refine v_if_lt (tgt := 34) F dX5_byteAt_1 (by decide) h (fun h => ?_) (fun h => ?_)
  · refine v_iconst (v := (-1)) F dX5_byteAt_34 (by decide) ?_
    exact v_iret F hQ h (by decide) dX5_byteAt_35
  · refine v_iload_n F dX5_byteAt_4 1 rfl rfl ?_
    refine v_aload_n F dX5_byteAt_5 0 rfl rfl ?_
    refine g_X5_18 F r_a dX5_byteAt_6 ?_
    refine v_icmp_ge (tgt := 34) F dX5_byteAt_9 (by decide) h (fun h => ?_) (fun h => ?_)
    · refine v_iconst (v := (-1)) F dX5_byteAt_34 (by decide) ?_
      exact v_iret F hQ h (by decide) dX5_byteAt_35
    · refine v_iload_n F dX5_byteAt_12 1 rfl rfl ?_
      refine v_aload_n F dX5_byteAt_13 0 rfl rfl ?_
      refine g_X5_11 F r_a h dX5_byteAt_14 (fun b1 r_b1 h => ?_)
      refine v_alen F r_b1 (by decide) dX5_byteAt_17 ?_
      refine v_icmp_ge (tgt := 34) F dX5_byteAt_18 (by decide) h (fun h => ?_) (fun h => ?_)
      · refine v_iconst (v := (-1)) F dX5_byteAt_34 (by decide) ?_
        exact v_iret F hQ h (by decide) dX5_byteAt_35
      · refine v_aload_n F dX5_byteAt_21 0 rfl rfl ?_
        refine g_X5_11 F r_a h dX5_byteAt_22 (fun b2 r_b2 h => ?_)
        refine v_iload_n F dX5_byteAt_25 1 rfl rfl ?_
        refine v_bald F r_b2 o_14 h dX5_byteAt_26 (fun h => ?_)
        refine v_sipush (v := 255) F dX5_byteAt_27 (by decide) ?_
        refine v_iand F dX5_byteAt_30 ?_
        refine v_goto (tgt := 35) F dX5_byteAt_31 (by decide) ?_
        exact v_iret F hQ h (by decide) dX5_byteAt_35
