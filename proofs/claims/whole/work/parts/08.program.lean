theorem dX6_holds_0 : decode cX6_holds 0 = .ok (.iload_n 1, 1) := by decide +kernel
theorem dX6_holds_1 : decode cX6_holds 1 = .ok (.ifCond .lt 22, 3) := by decide +kernel
theorem dX6_holds_4 : decode cX6_holds 4 = .ok (.iload_n 1, 1) := by decide +kernel
theorem dX6_holds_5 : decode cX6_holds 5 = .ok (.aload_n 0, 1) := by decide +kernel
theorem dX6_holds_6 : decode cX6_holds 6 = .ok (.getfield 51, 3) := by decide +kernel
theorem dX6_holds_9 : decode cX6_holds 9 = .ok (.if_icmp .ge 14, 3) := by decide +kernel
theorem dX6_holds_12 : decode cX6_holds 12 = .ok (.iload_n 1, 1) := by decide +kernel
theorem dX6_holds_13 : decode cX6_holds 13 = .ok (.sipush 1508, 3) := by decide +kernel
theorem dX6_holds_16 : decode cX6_holds 16 = .ok (.if_icmp .ge 7, 3) := by decide +kernel
theorem dX6_holds_19 : decode cX6_holds 19 = .ok (.iconst 1, 1) := by decide +kernel
theorem dX6_holds_20 : decode cX6_holds 20 = .ok (.goto 4, 3) := by decide +kernel
theorem dX6_holds_23 : decode cX6_holds 23 = .ok (.iconst 0, 1) := by decide +kernel
theorem dX6_holds_24 : decode cX6_holds 24 = .ok (.ireturn, 1) := by decide +kernel
abbrev rm_X6_holds : Room := { frames := 0, cells := 0, slots := 0, locals := 0 }
def wp_X6_holds (a : Nat) (p1 : Int32) (S : PS) (Q : Int32 → PS → Prop) : Prop :=
  (if p1 < 0 then
 Q 0 S
 else
 (if fI S 45 a ≤ p1 then
 Q 0 S
 else
 (if 1508 ≤ p1 then
 Q 0 S
 else
 Q 1 S)))
set_option maxRecDepth 100000 in
set_option maxHeartbeats 4000000 in
theorem c_X6_holds {l : Launch} {E : EE} {A : Nat → Prop} {a : Nat} {p1 : Int32} {S : PS} {Q : Int32 → PS → Prop} (r_a : Rf S a 5) (h : wp_X6_holds a p1 S Q) : MtI l yX6_holds (.code yX6_holds cX6_holds 2 (some .boolean)) rm_X6_holds E A [.ref a, .int p1] S (fun r S1 => nz r ∧ Q r S1) := by
  refine MtI.of (by decide) (Nat.le_of_ble_eq_true rfl) (fun X F hQ hN => ?_)
  show VV X (0, 0) S [(0, .ref a), (1, .int p1)] [] 0
  unfold wp_X6_holds at h
  refine v_iload_n F dX6_holds_0 1 rfl rfl ?_
  refine v_if_lt (tgt := 23) F dX6_holds_1 (by decide) h (fun h => ?_) (fun h => ?_)
  · refine v_iconst (v := 0) F dX6_holds_23 (by decide) ?_
    exact v_zret F hQ (by decide) ⟨nz0, h⟩ (by decide) dX6_holds_24
  · refine v_iload_n F dX6_holds_4 1 rfl rfl ?_
    refine v_aload_n F dX6_holds_5 0 rfl rfl ?_
    refine g_X6_51 F r_a dX6_holds_6 ?_
    refine v_icmp_ge (tgt := 23) F dX6_holds_9 (by decide) h (fun h => ?_) (fun h => ?_)
    · refine v_iconst (v := 0) F dX6_holds_23 (by decide) ?_
      exact v_zret F hQ (by decide) ⟨nz0, h⟩ (by decide) dX6_holds_24
    · refine v_iload_n F dX6_holds_12 1 rfl rfl ?_
      refine v_sipush (v := 1508) F dX6_holds_13 (by decide) ?_
      refine v_icmp_ge (tgt := 23) F dX6_holds_16 (by decide) h (fun h => ?_) (fun h => ?_)
      · refine v_iconst (v := 0) F dX6_holds_23 (by decide) ?_
        exact v_zret F hQ (by decide) ⟨nz0, h⟩ (by decide) dX6_holds_24
      · refine v_iconst (v := 1) F dX6_holds_19 (by decide) ?_
        refine v_goto (tgt := 24) F dX6_holds_20 (by decide) ?_
        exact v_zret F hQ (by decide) ⟨nz1, h⟩ (by decide) dX6_holds_24
theorem dX6_placeOf_0 : decode cX6_placeOf 0 = .ok (.aload_n 0, 1) := by decide +kernel
theorem dX6_placeOf_1 : decode cX6_placeOf 1 = .ok (.iload_n 1, 1) := by decide +kernel
theorem dX6_placeOf_2 : decode cX6_placeOf 2 = .ok (.invokevirtual 60, 3) := by decide +kernel
theorem dX6_placeOf_5 : decode cX6_placeOf 5 = .ok (.ifCond .eq 12, 3) := by decide +kernel
theorem dX6_placeOf_8 : decode cX6_placeOf 8 = .ok (.aload_n 0, 1) := by decide +kernel
theorem dX6_placeOf_9 : decode cX6_placeOf 9 = .ok (.getfield 15, 3) := by decide +kernel
theorem dX6_placeOf_12 : decode cX6_placeOf 12 = .ok (.iload_n 1, 1) := by decide +kernel
theorem dX6_placeOf_13 : decode cX6_placeOf 13 = .ok (.iaload, 1) := by decide +kernel
theorem dX6_placeOf_14 : decode cX6_placeOf 14 = .ok (.goto 4, 3) := by decide +kernel
theorem dX6_placeOf_17 : decode cX6_placeOf 17 = .ok (.iconst 0, 1) := by decide +kernel
theorem dX6_placeOf_18 : decode cX6_placeOf 18 = .ok (.ireturn, 1) := by decide +kernel
abbrev rm_X6_placeOf : Room := { frames := 1, cells := 0, slots := 0, locals := 21 }
def wp_X6_placeOf (a : Nat) (p1 : Int32) (S : PS) (Q : Int32 → PS → Prop) : Prop :=
  wp_X6_holds a p1 S (fun (r2 : Int32) (S1 : PS) => 
 (if r2 = 0 then
 Q 0 S1
 else
 (∃ b3, fR S1 46 a = some b3 ∧ (vp_in p1 (aN S1 b3) ∧ Q (aI S1 16 b3 (p1).toNatClampNeg) S1))))
set_option maxRecDepth 100000 in
set_option maxHeartbeats 4000000 in
theorem c_X6_placeOf {l : Launch} {E : EE} {A : Nat → Prop} {a : Nat} {p1 : Int32} {S : PS} {Q : Int32 → PS → Prop} (r_a : Rf S a 5) (h : wp_X6_placeOf a p1 S Q) : MtI l yX6_placeOf (.code yX6_placeOf cX6_placeOf 2 (some .int)) rm_X6_placeOf E A [.ref a, .int p1] S Q := by
  refine MtI.of (by decide) (Nat.le_of_ble_eq_true rfl) (fun X F hQ hN => ?_)
  show VV X (0, 0) S [(0, .ref a), (1, .int p1)] [] 0
  unfold wp_X6_placeOf at h
  refine v_aload_n F dX6_placeOf_0 0 rfl rfl ?_
  refine v_iload_n F dX6_placeOf_1 1 rfl rfl ?_
  refine v_cI0 (v_runV F k_X6_60 rfl (c_X6_holds r_a h) r_a rfl rfl (Nat.le_of_ble_eq_true rfl) (by decide) (by decide) dX6_placeOf_2) ⟨rfl, rfl⟩ (fun r2 S1 h hE => ?_)
  obtain ⟨nz_r2, h⟩ := h
  have r_a := r_a.tr hE
  refine v_if_eq (tgt := 17) F dX6_placeOf_5 (by decide) h (fun h => ?_) (fun h => ?_)
  · refine v_iconst (v := 0) F dX6_placeOf_17 (by decide) ?_
    exact v_iret F hQ h (by decide) dX6_placeOf_18
  · refine v_aload_n F dX6_placeOf_8 0 rfl rfl ?_
    refine g_X6_15 F r_a h dX6_placeOf_9 (fun b3 r_b3 h => ?_)
    refine v_iload_n F dX6_placeOf_12 1 rfl rfl ?_
    refine v_iald F r_b3 o_16 h dX6_placeOf_13 (fun h => ?_)
    refine v_goto (tgt := 18) F dX6_placeOf_14 (by decide) ?_
    exact v_iret F hQ h (by decide) dX6_placeOf_18
theorem dX6_byteAt_0 : decode cX6_byteAt 0 = .ok (.iload_n 1, 1) := by decide +kernel
theorem dX6_byteAt_1 : decode cX6_byteAt 1 = .ok (.ifCond .lt 24, 3) := by decide +kernel
theorem dX6_byteAt_4 : decode cX6_byteAt 4 = .ok (.iload_n 1, 1) := by decide +kernel
theorem dX6_byteAt_5 : decode cX6_byteAt 5 = .ok (.aload_n 0, 1) := by decide +kernel
theorem dX6_byteAt_6 : decode cX6_byteAt 6 = .ok (.getfield 47, 3) := by decide +kernel
theorem dX6_byteAt_9 : decode cX6_byteAt 9 = .ok (.if_icmp .ge 16, 3) := by decide +kernel
theorem dX6_byteAt_12 : decode cX6_byteAt 12 = .ok (.iload_n 1, 1) := by decide +kernel
theorem dX6_byteAt_13 : decode cX6_byteAt 13 = .ok (.aload_n 0, 1) := by decide +kernel
theorem dX6_byteAt_14 : decode cX6_byteAt 14 = .ok (.getfield 9, 3) := by decide +kernel
theorem dX6_byteAt_17 : decode cX6_byteAt 17 = .ok (.arraylength, 1) := by decide +kernel
theorem dX6_byteAt_18 : decode cX6_byteAt 18 = .ok (.if_icmp .ge 7, 3) := by decide +kernel
theorem dX6_byteAt_21 : decode cX6_byteAt 21 = .ok (.iconst 1, 1) := by decide +kernel
theorem dX6_byteAt_22 : decode cX6_byteAt 22 = .ok (.goto 4, 3) := by decide +kernel
theorem dX6_byteAt_25 : decode cX6_byteAt 25 = .ok (.iconst 0, 1) := by decide +kernel
theorem dX6_byteAt_26 : decode cX6_byteAt 26 = .ok (.istore_n 2, 1) := by decide +kernel
theorem dX6_byteAt_27 : decode cX6_byteAt 27 = .ok (.iload_n 2, 1) := by decide +kernel
theorem dX6_byteAt_28 : decode cX6_byteAt 28 = .ok (.ifCond .eq 16, 3) := by decide +kernel
theorem dX6_byteAt_31 : decode cX6_byteAt 31 = .ok (.aload_n 0, 1) := by decide +kernel
theorem dX6_byteAt_32 : decode cX6_byteAt 32 = .ok (.getfield 9, 3) := by decide +kernel
theorem dX6_byteAt_35 : decode cX6_byteAt 35 = .ok (.iload_n 1, 1) := by decide +kernel
theorem dX6_byteAt_36 : decode cX6_byteAt 36 = .ok (.baload, 1) := by decide +kernel
theorem dX6_byteAt_37 : decode cX6_byteAt 37 = .ok (.sipush 255, 3) := by decide +kernel
theorem dX6_byteAt_40 : decode cX6_byteAt 40 = .ok (.iand, 1) := by decide +kernel
theorem dX6_byteAt_41 : decode cX6_byteAt 41 = .ok (.goto 4, 3) := by decide +kernel
theorem dX6_byteAt_44 : decode cX6_byteAt 44 = .ok (.iconst (-1), 1) := by decide +kernel
theorem dX6_byteAt_45 : decode cX6_byteAt 45 = .ok (.ireturn, 1) := by decide +kernel
abbrev rm_X6_byteAt : Room := { frames := 0, cells := 0, slots := 0, locals := 0 }
def wp_X6_byteAt (a : Nat) (p1 : Int32) (S : PS) (Q : Int32 → PS → Prop) : Prop :=
  (∀ K26_3 : Int32 → PS → Prop, (∀ (t1 : Int32) (S2 : PS),
 (if t1 = 0 then
 Q (-1) S2
 else
 (∃ b4, fR S2 43 a = some b4 ∧ (vp_in p1 (aN S2 b4) ∧ Q ((aI S2 27 b4 (p1).toNatClampNeg) &&& 255) S2)))
 → K26_3 t1 S2) →
 (if p1 < 0 then
 K26_3 0 S
 else
 (if fI S 44 a ≤ p1 then
 K26_3 0 S
 else
 (∃ b5, fR S 43 a = some b5 ∧ (if nI (aN S b5) ≤ p1 then
 K26_3 0 S
 else
 K26_3 1 S)))))
set_option maxRecDepth 100000 in
set_option maxHeartbeats 4000000 in
theorem c_X6_byteAt {l : Launch} {E : EE} {A : Nat → Prop} {a : Nat} {p1 : Int32} {S : PS} {Q : Int32 → PS → Prop} (r_a : Rf S a 5) (h : wp_X6_byteAt a p1 S Q) : MtI l yX6_byteAt (.code yX6_byteAt cX6_byteAt 3 (some .int)) rm_X6_byteAt E A [.ref a, .int p1] S Q := by
  refine MtI.of (by decide) (Nat.le_of_ble_eq_true rfl) (fun X F hQ hN => ?_)
  show VV X (0, 0) S [(0, .ref a), (1, .int p1)] [] 0
  unfold wp_X6_byteAt at h
  refine v_iload_n F dX6_byteAt_0 1 rfl rfl ?_
  have h := h (fun (t1 : Int32) (S2 : PS) => Rf S2 a 5 → VV X (0, 0) S2 [(0, .ref a), (1, .int p1)] [.int t1] 26) (by
    intro t1 S2 h r_a
    refine v_istore_n (lv1 := [(2, .int t1), (0, .ref a), (1, .int p1)]) F dX6_byteAt_26 rfl (by rw [hN]; decide) rfl ?_
    refine v_iload_n F dX6_byteAt_27 0 rfl rfl ?_
    refine v_if_eq (tgt := 44) F dX6_byteAt_28 (by decide) h (fun h => ?_) (fun h => ?_)
    · refine v_iconst (v := (-1)) F dX6_byteAt_44 (by decide) ?_
      exact v_iret F hQ h (by decide) dX6_byteAt_45
    · refine v_aload_n F dX6_byteAt_31 1 rfl rfl ?_
      refine g_X6_9 F r_a h dX6_byteAt_32 (fun b4 r_b4 h => ?_)
      refine v_iload_n F dX6_byteAt_35 2 rfl rfl ?_
      refine v_bald F r_b4 o_27 h dX6_byteAt_36 (fun h => ?_)
      refine v_sipush (v := 255) F dX6_byteAt_37 (by decide) ?_
      refine v_iand F dX6_byteAt_40 ?_
      refine v_goto (tgt := 45) F dX6_byteAt_41 (by decide) ?_
      exact v_iret F hQ h (by decide) dX6_byteAt_45)
  refine v_if_lt (tgt := 25) F dX6_byteAt_1 (by decide) h (fun h => ?_) (fun h => ?_)
  · refine v_iconst (v := 0) F dX6_byteAt_25 (by decide) ?_
    exact v_sub [0, 1] rfl (h r_a)
  · refine v_iload_n F dX6_byteAt_4 1 rfl rfl ?_
    refine v_aload_n F dX6_byteAt_5 0 rfl rfl ?_
    refine g_X6_47 F r_a dX6_byteAt_6 ?_
    refine v_icmp_ge (tgt := 25) F dX6_byteAt_9 (by decide) h (fun h => ?_) (fun h => ?_)
    · refine v_iconst (v := 0) F dX6_byteAt_25 (by decide) ?_
      exact v_sub [0, 1] rfl (h r_a)
    · refine v_iload_n F dX6_byteAt_12 1 rfl rfl ?_
      refine v_aload_n F dX6_byteAt_13 0 rfl rfl ?_
      refine g_X6_9 F r_a h dX6_byteAt_14 (fun b5 r_b5 h => ?_)
      refine v_alen F r_b5 (by decide) dX6_byteAt_17 ?_
      refine v_icmp_ge (tgt := 25) F dX6_byteAt_18 (by decide) h (fun h => ?_) (fun h => ?_)
      · refine v_iconst (v := 0) F dX6_byteAt_25 (by decide) ?_
        exact v_sub [0, 1] rfl (h r_a)
      · refine v_iconst (v := 1) F dX6_byteAt_21 (by decide) ?_
        refine v_goto (tgt := 26) F dX6_byteAt_22 (by decide) ?_
        exact v_sub [0, 1] rfl (h r_a)
theorem dX6_kindOf_0 : decode cX6_kindOf 0 = .ok (.aload_n 0, 1) := by decide +kernel
theorem dX6_kindOf_1 : decode cX6_kindOf 1 = .ok (.iload_n 1, 1) := by decide +kernel
theorem dX6_kindOf_2 : decode cX6_kindOf 2 = .ok (.invokevirtual 60, 3) := by decide +kernel
theorem dX6_kindOf_5 : decode cX6_kindOf 5 = .ok (.ifCond .eq 16, 3) := by decide +kernel
theorem dX6_kindOf_8 : decode cX6_kindOf 8 = .ok (.aload_n 0, 1) := by decide +kernel
theorem dX6_kindOf_9 : decode cX6_kindOf 9 = .ok (.aload_n 0, 1) := by decide +kernel
theorem dX6_kindOf_10 : decode cX6_kindOf 10 = .ok (.getfield 15, 3) := by decide +kernel
theorem dX6_kindOf_13 : decode cX6_kindOf 13 = .ok (.iload_n 1, 1) := by decide +kernel
theorem dX6_kindOf_14 : decode cX6_kindOf 14 = .ok (.iaload, 1) := by decide +kernel
theorem dX6_kindOf_15 : decode cX6_kindOf 15 = .ok (.invokevirtual 64, 3) := by decide +kernel
theorem dX6_kindOf_18 : decode cX6_kindOf 18 = .ok (.goto 4, 3) := by decide +kernel
theorem dX6_kindOf_21 : decode cX6_kindOf 21 = .ok (.iconst (-1), 1) := by decide +kernel
theorem dX6_kindOf_22 : decode cX6_kindOf 22 = .ok (.ireturn, 1) := by decide +kernel
abbrev rm_X6_kindOf : Room := { frames := 1, cells := 0, slots := 0, locals := 22 }
def wp_X6_kindOf (a : Nat) (p1 : Int32) (S : PS) (Q : Int32 → PS → Prop) : Prop :=
  wp_X6_holds a p1 S (fun (r2 : Int32) (S1 : PS) => 
 (if r2 = 0 then
 Q (-1) S1
 else
 (∃ b3, fR S1 46 a = some b3 ∧ (vp_in p1 (aN S1 b3) ∧ wp_X6_byteAt a (aI S1 16 b3 (p1).toNatClampNeg) S1 (fun (r5 : Int32) (S4 : PS) => 
 Q r5 S4)))))
set_option maxRecDepth 100000 in
set_option maxHeartbeats 4000000 in
theorem c_X6_kindOf {l : Launch} {E : EE} {A : Nat → Prop} {a : Nat} {p1 : Int32} {S : PS} {Q : Int32 → PS → Prop} (r_a : Rf S a 5) (h : wp_X6_kindOf a p1 S Q) : MtI l yX6_kindOf (.code yX6_kindOf cX6_kindOf 2 (some .int)) rm_X6_kindOf E A [.ref a, .int p1] S Q := by
  refine MtI.of (by decide) (Nat.le_of_ble_eq_true rfl) (fun X F hQ hN => ?_)
  show VV X (0, 0) S [(0, .ref a), (1, .int p1)] [] 0
  unfold wp_X6_kindOf at h
  refine v_aload_n F dX6_kindOf_0 0 rfl rfl ?_
  refine v_iload_n F dX6_kindOf_1 1 rfl rfl ?_
  refine v_cI0 (v_runV F k_X6_60 rfl (c_X6_holds r_a h) r_a rfl rfl (Nat.le_of_ble_eq_true rfl) (by decide) (by decide) dX6_kindOf_2) ⟨rfl, rfl⟩ (fun r2 S1 h hE => ?_)
  obtain ⟨nz_r2, h⟩ := h
  have r_a := r_a.tr hE
  refine v_if_eq (tgt := 21) F dX6_kindOf_5 (by decide) h (fun h => ?_) (fun h => ?_)
  · refine v_iconst (v := (-1)) F dX6_kindOf_21 (by decide) ?_
    exact v_iret F hQ h (by decide) dX6_kindOf_22
  · refine v_aload_n F dX6_kindOf_8 0 rfl rfl ?_
    refine v_aload_n F dX6_kindOf_9 0 rfl rfl ?_
    refine g_X6_15 F r_a h dX6_kindOf_10 (fun b3 r_b3 h => ?_)
    refine v_iload_n F dX6_kindOf_13 1 rfl rfl ?_
    refine v_iald F r_b3 o_16 h dX6_kindOf_14 (fun h => ?_)
    refine v_cI0 (v_runV F k_X6_64 rfl (c_X6_byteAt r_a h) r_a rfl rfl (Nat.le_of_ble_eq_true rfl) (by decide) (by decide) dX6_kindOf_15) ⟨rfl, rfl⟩ (fun r5 S4 h hE => ?_)
    have r_a := r_a.tr hE
    refine v_goto (tgt := 22) F dX6_kindOf_18 (by decide) ?_
    exact v_iret F hQ h (by decide) dX6_kindOf_22
theorem dX6_behind_0 : decode cX6_behind 0 = .ok (.aload_n 0, 1) := by decide +kernel
theorem dX6_behind_1 : decode cX6_behind 1 = .ok (.iload_n 1, 1) := by decide +kernel
theorem dX6_behind_2 : decode cX6_behind 2 = .ok (.invokevirtual 60, 3) := by decide +kernel
theorem dX6_behind_5 : decode cX6_behind 5 = .ok (.ifCond .eq 12, 3) := by decide +kernel
theorem dX6_behind_8 : decode cX6_behind 8 = .ok (.aload_n 0, 1) := by decide +kernel
theorem dX6_behind_9 : decode cX6_behind 9 = .ok (.getfield 19, 3) := by decide +kernel
theorem dX6_behind_12 : decode cX6_behind 12 = .ok (.iload_n 1, 1) := by decide +kernel
theorem dX6_behind_13 : decode cX6_behind 13 = .ok (.iaload, 1) := by decide +kernel
theorem dX6_behind_14 : decode cX6_behind 14 = .ok (.goto 7, 3) := by decide +kernel
theorem dX6_behind_17 : decode cX6_behind 17 = .ok (.aload_n 0, 1) := by decide +kernel
theorem dX6_behind_18 : decode cX6_behind 18 = .ok (.getfield 51, 3) := by decide +kernel
theorem dX6_behind_21 : decode cX6_behind 21 = .ok (.ireturn, 1) := by decide +kernel
abbrev rm_X6_behind : Room := { frames := 1, cells := 0, slots := 0, locals := 21 }
def wp_X6_behind (a : Nat) (p1 : Int32) (S : PS) (Q : Int32 → PS → Prop) : Prop :=
  wp_X6_holds a p1 S (fun (r2 : Int32) (S1 : PS) => 
 (if r2 = 0 then
 Q (fI S1 45 a) S1
 else
 (∃ b3, fR S1 47 a = some b3 ∧ (vp_in p1 (aN S1 b3) ∧ Q (aI S1 17 b3 (p1).toNatClampNeg) S1))))
set_option maxRecDepth 100000 in
set_option maxHeartbeats 4000000 in
theorem c_X6_behind {l : Launch} {E : EE} {A : Nat → Prop} {a : Nat} {p1 : Int32} {S : PS} {Q : Int32 → PS → Prop} (r_a : Rf S a 5) (h : wp_X6_behind a p1 S Q) : MtI l yX6_behind (.code yX6_behind cX6_behind 2 (some .int)) rm_X6_behind E A [.ref a, .int p1] S Q := by
  refine MtI.of (by decide) (Nat.le_of_ble_eq_true rfl) (fun X F hQ hN => ?_)
  show VV X (0, 0) S [(0, .ref a), (1, .int p1)] [] 0
  unfold wp_X6_behind at h
  refine v_aload_n F dX6_behind_0 0 rfl rfl ?_
  refine v_iload_n F dX6_behind_1 1 rfl rfl ?_
  refine v_cI0 (v_runV F k_X6_60 rfl (c_X6_holds r_a h) r_a rfl rfl (Nat.le_of_ble_eq_true rfl) (by decide) (by decide) dX6_behind_2) ⟨rfl, rfl⟩ (fun r2 S1 h hE => ?_)
  obtain ⟨nz_r2, h⟩ := h
  have r_a := r_a.tr hE
  refine v_if_eq (tgt := 17) F dX6_behind_5 (by decide) h (fun h => ?_) (fun h => ?_)
  · refine v_aload_n F dX6_behind_17 0 rfl rfl ?_
    refine g_X6_51 F r_a dX6_behind_18 ?_
    exact v_iret F hQ h (by decide) dX6_behind_21
  · refine v_aload_n F dX6_behind_8 0 rfl rfl ?_
    refine g_X6_19 F r_a h dX6_behind_9 (fun b3 r_b3 h => ?_)
    refine v_iload_n F dX6_behind_12 1 rfl rfl ?_
    refine v_iald F r_b3 o_17 h dX6_behind_13 (fun h => ?_)
    refine v_goto (tgt := 21) F dX6_behind_14 (by decide) ?_
    exact v_iret F hQ h (by decide) dX6_behind_21
theorem dX6_one_0 : decode cX6_one 0 = .ok (.aload_n 0, 1) := by decide +kernel
theorem dX6_one_1 : decode cX6_one 1 = .ok (.iload_n 1, 1) := by decide +kernel
theorem dX6_one_2 : decode cX6_one 2 = .ok (.invokevirtual 60, 3) := by decide +kernel
theorem dX6_one_5 : decode cX6_one 5 = .ok (.ifCond .eq 12, 3) := by decide +kernel
theorem dX6_one_8 : decode cX6_one 8 = .ok (.aload_n 0, 1) := by decide +kernel
theorem dX6_one_9 : decode cX6_one 9 = .ok (.getfield 22, 3) := by decide +kernel
theorem dX6_one_12 : decode cX6_one 12 = .ok (.iload_n 1, 1) := by decide +kernel
theorem dX6_one_13 : decode cX6_one 13 = .ok (.iaload, 1) := by decide +kernel
theorem dX6_one_14 : decode cX6_one 14 = .ok (.goto 4, 3) := by decide +kernel
theorem dX6_one_17 : decode cX6_one 17 = .ok (.iconst 0, 1) := by decide +kernel
theorem dX6_one_18 : decode cX6_one 18 = .ok (.ireturn, 1) := by decide +kernel
abbrev rm_X6_one : Room := { frames := 1, cells := 0, slots := 0, locals := 21 }
def wp_X6_one (a : Nat) (p1 : Int32) (S : PS) (Q : Int32 → PS → Prop) : Prop :=
  wp_X6_holds a p1 S (fun (r2 : Int32) (S1 : PS) => 
 (if r2 = 0 then
 Q 0 S1
 else
 (∃ b3, fR S1 48 a = some b3 ∧ (vp_in p1 (aN S1 b3) ∧ Q (aI S1 18 b3 (p1).toNatClampNeg) S1))))
set_option maxRecDepth 100000 in
set_option maxHeartbeats 4000000 in
theorem c_X6_one {l : Launch} {E : EE} {A : Nat → Prop} {a : Nat} {p1 : Int32} {S : PS} {Q : Int32 → PS → Prop} (r_a : Rf S a 5) (h : wp_X6_one a p1 S Q) : MtI l yX6_one (.code yX6_one cX6_one 2 (some .int)) rm_X6_one E A [.ref a, .int p1] S Q := by
  refine MtI.of (by decide) (Nat.le_of_ble_eq_true rfl) (fun X F hQ hN => ?_)
  show VV X (0, 0) S [(0, .ref a), (1, .int p1)] [] 0
  unfold wp_X6_one at h
  refine v_aload_n F dX6_one_0 0 rfl rfl ?_
  refine v_iload_n F dX6_one_1 1 rfl rfl ?_
  refine v_cI0 (v_runV F k_X6_60 rfl (c_X6_holds r_a h) r_a rfl rfl (Nat.le_of_ble_eq_true rfl) (by decide) (by decide) dX6_one_2) ⟨rfl, rfl⟩ (fun r2 S1 h hE => ?_)
  obtain ⟨nz_r2, h⟩ := h
  have r_a := r_a.tr hE
  refine v_if_eq (tgt := 17) F dX6_one_5 (by decide) h (fun h => ?_) (fun h => ?_)
  · refine v_iconst (v := 0) F dX6_one_17 (by decide) ?_
    exact v_iret F hQ h (by decide) dX6_one_18
  · refine v_aload_n F dX6_one_8 0 rfl rfl ?_
    refine g_X6_22 F r_a h dX6_one_9 (fun b3 r_b3 h => ?_)
    refine v_iload_n F dX6_one_12 1 rfl rfl ?_
    refine v_iald F r_b3 o_18 h dX6_one_13 (fun h => ?_)
    refine v_goto (tgt := 18) F dX6_one_14 (by decide) ?_
    exact v_iret F hQ h (by decide) dX6_one_18
theorem dX6_two_0 : decode cX6_two 0 = .ok (.aload_n 0, 1) := by decide +kernel
theorem dX6_two_1 : decode cX6_two 1 = .ok (.iload_n 1, 1) := by decide +kernel
theorem dX6_two_2 : decode cX6_two 2 = .ok (.invokevirtual 60, 3) := by decide +kernel
theorem dX6_two_5 : decode cX6_two 5 = .ok (.ifCond .eq 12, 3) := by decide +kernel
theorem dX6_two_8 : decode cX6_two 8 = .ok (.aload_n 0, 1) := by decide +kernel
theorem dX6_two_9 : decode cX6_two 9 = .ok (.getfield 25, 3) := by decide +kernel
theorem dX6_two_12 : decode cX6_two 12 = .ok (.iload_n 1, 1) := by decide +kernel
theorem dX6_two_13 : decode cX6_two 13 = .ok (.iaload, 1) := by decide +kernel
theorem dX6_two_14 : decode cX6_two 14 = .ok (.goto 4, 3) := by decide +kernel
theorem dX6_two_17 : decode cX6_two 17 = .ok (.iconst 0, 1) := by decide +kernel
theorem dX6_two_18 : decode cX6_two 18 = .ok (.ireturn, 1) := by decide +kernel
abbrev rm_X6_two : Room := { frames := 1, cells := 0, slots := 0, locals := 21 }
def wp_X6_two (a : Nat) (p1 : Int32) (S : PS) (Q : Int32 → PS → Prop) : Prop :=
  wp_X6_holds a p1 S (fun (r2 : Int32) (S1 : PS) => 
 (if r2 = 0 then
 Q 0 S1
 else
 (∃ b3, fR S1 49 a = some b3 ∧ (vp_in p1 (aN S1 b3) ∧ Q (aI S1 19 b3 (p1).toNatClampNeg) S1))))
set_option maxRecDepth 100000 in
set_option maxHeartbeats 4000000 in
theorem c_X6_two {l : Launch} {E : EE} {A : Nat → Prop} {a : Nat} {p1 : Int32} {S : PS} {Q : Int32 → PS → Prop} (r_a : Rf S a 5) (h : wp_X6_two a p1 S Q) : MtI l yX6_two (.code yX6_two cX6_two 2 (some .int)) rm_X6_two E A [.ref a, .int p1] S Q := by
  refine MtI.of (by decide) (Nat.le_of_ble_eq_true rfl) (fun X F hQ hN => ?_)
  show VV X (0, 0) S [(0, .ref a), (1, .int p1)] [] 0
  unfold wp_X6_two at h
  refine v_aload_n F dX6_two_0 0 rfl rfl ?_
  refine v_iload_n F dX6_two_1 1 rfl rfl ?_
  refine v_cI0 (v_runV F k_X6_60 rfl (c_X6_holds r_a h) r_a rfl rfl (Nat.le_of_ble_eq_true rfl) (by decide) (by decide) dX6_two_2) ⟨rfl, rfl⟩ (fun r2 S1 h hE => ?_)
  obtain ⟨nz_r2, h⟩ := h
  have r_a := r_a.tr hE
  refine v_if_eq (tgt := 17) F dX6_two_5 (by decide) h (fun h => ?_) (fun h => ?_)
  · refine v_iconst (v := 0) F dX6_two_17 (by decide) ?_
    exact v_iret F hQ h (by decide) dX6_two_18
  · refine v_aload_n F dX6_two_8 0 rfl rfl ?_
    refine g_X6_25 F r_a h dX6_two_9 (fun b3 r_b3 h => ?_)
    refine v_iload_n F dX6_two_12 1 rfl rfl ?_
    refine v_iald F r_b3 o_19 h dX6_two_13 (fun h => ?_)
    refine v_goto (tgt := 18) F dX6_two_14 (by decide) ?_
    exact v_iret F hQ h (by decide) dX6_two_18
theorem dX6_partOf_0 : decode cX6_partOf 0 = .ok (.aload_n 0, 1) := by decide +kernel
theorem dX6_partOf_1 : decode cX6_partOf 1 = .ok (.iload_n 1, 1) := by decide +kernel
theorem dX6_partOf_2 : decode cX6_partOf 2 = .ok (.invokevirtual 60, 3) := by decide +kernel
theorem dX6_partOf_5 : decode cX6_partOf 5 = .ok (.ifCond .eq 14, 3) := by decide +kernel
theorem dX6_partOf_8 : decode cX6_partOf 8 = .ok (.aload_n 0, 1) := by decide +kernel
theorem dX6_partOf_9 : decode cX6_partOf 9 = .ok (.getfield 32, 3) := by decide +kernel
theorem dX6_partOf_12 : decode cX6_partOf 12 = .ok (.iload_n 1, 1) := by decide +kernel
theorem dX6_partOf_13 : decode cX6_partOf 13 = .ok (.iaload, 1) := by decide +kernel
theorem dX6_partOf_14 : decode cX6_partOf 14 = .ok (.iload_n 2, 1) := by decide +kernel
theorem dX6_partOf_15 : decode cX6_partOf 15 = .ok (.iadd, 1) := by decide +kernel
theorem dX6_partOf_16 : decode cX6_partOf 16 = .ok (.goto 4, 3) := by decide +kernel
theorem dX6_partOf_19 : decode cX6_partOf 19 = .ok (.iconst (-1), 1) := by decide +kernel
theorem dX6_partOf_20 : decode cX6_partOf 20 = .ok (.istore_n 3, 1) := by decide +kernel
theorem dX6_partOf_21 : decode cX6_partOf 21 = .ok (.iload_n 3, 1) := by decide +kernel
theorem dX6_partOf_22 : decode cX6_partOf 22 = .ok (.ifCond .lt 20, 3) := by decide +kernel
theorem dX6_partOf_25 : decode cX6_partOf 25 = .ok (.iload_n 3, 1) := by decide +kernel
theorem dX6_partOf_26 : decode cX6_partOf 26 = .ok (.aload_n 0, 1) := by decide +kernel
theorem dX6_partOf_27 : decode cX6_partOf 27 = .ok (.getfield 54, 3) := by decide +kernel
theorem dX6_partOf_30 : decode cX6_partOf 30 = .ok (.if_icmp .ge 12, 3) := by decide +kernel
theorem dX6_partOf_33 : decode cX6_partOf 33 = .ok (.aload_n 0, 1) := by decide +kernel
theorem dX6_partOf_34 : decode cX6_partOf 34 = .ok (.getfield 35, 3) := by decide +kernel
theorem dX6_partOf_37 : decode cX6_partOf 37 = .ok (.iload_n 3, 1) := by decide +kernel
theorem dX6_partOf_38 : decode cX6_partOf 38 = .ok (.iaload, 1) := by decide +kernel
theorem dX6_partOf_39 : decode cX6_partOf 39 = .ok (.goto 4, 3) := by decide +kernel
theorem dX6_partOf_42 : decode cX6_partOf 42 = .ok (.iconst 0, 1) := by decide +kernel
theorem dX6_partOf_43 : decode cX6_partOf 43 = .ok (.ireturn, 1) := by decide +kernel
abbrev rm_X6_partOf : Room := { frames := 1, cells := 0, slots := 0, locals := 21 }
def wp_X6_partOf (a : Nat) (p1 : Int32) (p2 : Int32) (S : PS) (Q : Int32 → PS → Prop) : Prop :=
  wp_X6_holds a p1 S (fun (r2 : Int32) (S1 : PS) => 
 (∀ K20_5 : Int32 → PS → Prop, (∀ (t3 : Int32) (S4 : PS),
 (if t3 < 0 then
 Q 0 S4
 else
 (if fI S4 53 a ≤ t3 then
 Q 0 S4
 else
 (∃ b6, fR S4 52 a = some b6 ∧ (vp_in t3 (aN S4 b6) ∧ Q (aI S4 22 b6 (t3).toNatClampNeg) S4))))
 → K20_5 t3 S4) →
 (if r2 = 0 then
 K20_5 (-1) S1
 else
 (∃ b7, fR S1 51 a = some b7 ∧ (vp_in p1 (aN S1 b7) ∧ K20_5 ((aI S1 21 b7 (p1).toNatClampNeg) + p2) S1)))))
set_option maxRecDepth 100000 in
set_option maxHeartbeats 4000000 in
theorem c_X6_partOf {l : Launch} {E : EE} {A : Nat → Prop} {a : Nat} {p1 : Int32} {p2 : Int32} {S : PS} {Q : Int32 → PS → Prop} (r_a : Rf S a 5) (h : wp_X6_partOf a p1 p2 S Q) : MtI l yX6_partOf (.code yX6_partOf cX6_partOf 4 (some .int)) rm_X6_partOf E A [.ref a, .int p1, .int p2] S Q := by
  refine MtI.of (by decide) (Nat.le_of_ble_eq_true rfl) (fun X F hQ hN => ?_)
  show VV X (0, 0) S [(0, .ref a), (1, .int p1), (2, .int p2)] [] 0
  unfold wp_X6_partOf at h
  refine v_aload_n F dX6_partOf_0 0 rfl rfl ?_
  refine v_iload_n F dX6_partOf_1 1 rfl rfl ?_
  refine v_cI0 (v_runV F k_X6_60 rfl (c_X6_holds r_a h) r_a rfl rfl (Nat.le_of_ble_eq_true rfl) (by decide) (by decide) dX6_partOf_2) ⟨rfl, rfl⟩ (fun r2 S1 h hE => ?_)
  obtain ⟨nz_r2, h⟩ := h
  have r_a := r_a.tr hE
  have h := h (fun (t3 : Int32) (S4 : PS) => Rf S4 a 5 → VV X (0, 0) S4 [(0, .ref a)] [.int t3] 20) (by
    intro t3 S4 h r_a
    refine v_istore_n (lv1 := [(3, .int t3), (0, .ref a)]) F dX6_partOf_20 rfl (by rw [hN]; decide) rfl ?_
    refine v_iload_n F dX6_partOf_21 0 rfl rfl ?_
    refine v_if_lt (tgt := 42) F dX6_partOf_22 (by decide) h (fun h => ?_) (fun h => ?_)
    · refine v_iconst (v := 0) F dX6_partOf_42 (by decide) ?_
      exact v_iret F hQ h (by decide) dX6_partOf_43
    · refine v_iload_n F dX6_partOf_25 0 rfl rfl ?_
      refine v_aload_n F dX6_partOf_26 1 rfl rfl ?_
      refine g_X6_54 F r_a dX6_partOf_27 ?_
      refine v_icmp_ge (tgt := 42) F dX6_partOf_30 (by decide) h (fun h => ?_) (fun h => ?_)
      · refine v_iconst (v := 0) F dX6_partOf_42 (by decide) ?_
        exact v_iret F hQ h (by decide) dX6_partOf_43
      · refine v_aload_n F dX6_partOf_33 1 rfl rfl ?_
        refine g_X6_35 F r_a h dX6_partOf_34 (fun b6 r_b6 h => ?_)
        refine v_iload_n F dX6_partOf_37 0 rfl rfl ?_
        refine v_iald F r_b6 o_22 h dX6_partOf_38 (fun h => ?_)
        refine v_goto (tgt := 43) F dX6_partOf_39 (by decide) ?_
        exact v_iret F hQ h (by decide) dX6_partOf_43)
  refine v_if_eq (tgt := 19) F dX6_partOf_5 (by decide) h (fun h => ?_) (fun h => ?_)
  · refine v_iconst (v := (-1)) F dX6_partOf_19 (by decide) ?_
    exact v_sub [0] rfl (h r_a)
  · refine v_aload_n F dX6_partOf_8 0 rfl rfl ?_
    refine g_X6_32 F r_a h dX6_partOf_9 (fun b7 r_b7 h => ?_)
    refine v_iload_n F dX6_partOf_12 1 rfl rfl ?_
    refine v_iald F r_b7 o_21 h dX6_partOf_13 (fun h => ?_)
    refine v_iload_n F dX6_partOf_14 2 rfl rfl ?_
    refine v_iadd F dX6_partOf_15 ?_
    refine v_goto (tgt := 20) F dX6_partOf_16 (by decide) ?_
    exact v_sub [0] rfl (h r_a)
theorem dX6_clear_0 : decode cX6_clear 0 = .ok (.aload_n 0, 1) := by decide +kernel
theorem dX6_clear_1 : decode cX6_clear 1 = .ok (.aload_n 1, 1) := by decide +kernel
theorem dX6_clear_2 : decode cX6_clear 2 = .ok (.putfield 9, 3) := by decide +kernel
theorem dX6_clear_5 : decode cX6_clear 5 = .ok (.aload_n 0, 1) := by decide +kernel
theorem dX6_clear_6 : decode cX6_clear 6 = .ok (.iload_n 2, 1) := by decide +kernel
theorem dX6_clear_7 : decode cX6_clear 7 = .ok (.putfield 47, 3) := by decide +kernel
theorem dX6_clear_10 : decode cX6_clear 10 = .ok (.aload_n 0, 1) := by decide +kernel
theorem dX6_clear_11 : decode cX6_clear 11 = .ok (.iconst 0, 1) := by decide +kernel
theorem dX6_clear_12 : decode cX6_clear 12 = .ok (.putfield 51, 3) := by decide +kernel
theorem dX6_clear_15 : decode cX6_clear 15 = .ok (.aload_n 0, 1) := by decide +kernel
theorem dX6_clear_16 : decode cX6_clear 16 = .ok (.iconst 0, 1) := by decide +kernel
theorem dX6_clear_17 : decode cX6_clear 17 = .ok (.putfield 54, 3) := by decide +kernel
theorem dX6_clear_20 : decode cX6_clear 20 = .ok (.aload_n 0, 1) := by decide +kernel
theorem dX6_clear_21 : decode cX6_clear 21 = .ok (.iconst 0, 1) := by decide +kernel
theorem dX6_clear_22 : decode cX6_clear 22 = .ok (.putfield 57, 3) := by decide +kernel
theorem dX6_clear_25 : decode cX6_clear 25 = .ok (.return_, 1) := by decide +kernel
abbrev rm_X6_clear : Room := { frames := 0, cells := 0, slots := 0, locals := 0 }
def wp_X6_clear (a : Nat) (p1 : Nat) (p2 : Int32) (S : PS) (Q : PS → Prop) : Prop :=
  (∀ S1, S1 = sR S 43 a (some p1) → (∀ S2, S2 = sI S1 44 a p2 → (∀ S3, S3 = sI S2 45 a 0 → (∀ S4, S4 = sI S3 53 a 0 → (∀ S5, S5 = sI S4 54 a 0 → Q S5)))))
set_option maxRecDepth 100000 in
set_option maxHeartbeats 4000000 in
theorem c_X6_clear {l : Launch} {E : EE} {A : Nat → Prop} {a : Nat} {p1 : Nat} {p2 : Int32} {S : PS} {Q : PS → Prop} (r_a : Rf S a 5) (r_p1 : Rf S p1 27) (h : wp_X6_clear a p1 p2 S Q) : MtV l yX6_clear (.code yX6_clear cX6_clear 3 none) rm_X6_clear E A [.ref a, .ref p1, .int p2] S Q := by
  refine MtV.of (by decide) (Nat.le_of_ble_eq_true rfl) (fun X F hQ hN => ?_)
  show VV X (0, 0) S [(0, .ref a), (1, .ref p1), (2, .int p2)] [] 0
  unfold wp_X6_clear at h
  refine v_aload_n F dX6_clear_0 0 rfl rfl ?_
  refine v_aload_n F dX6_clear_1 1 rfl rfl ?_
  refine p_X6_9 F r_a r_p1 h dX6_clear_2 (fun S1 h hE => ?_)
  have r_a := r_a.tr hE
  have r_p1 := r_p1.tr hE
  refine v_aload_n F dX6_clear_5 0 rfl rfl ?_
  refine v_iload_n F dX6_clear_6 2 rfl rfl ?_
  refine p_X6_47 F r_a h dX6_clear_7 (fun S2 h hE => ?_)
  have r_a := r_a.tr hE
  have r_p1 := r_p1.tr hE
  refine v_aload_n F dX6_clear_10 0 rfl rfl ?_
  refine v_iconst (v := 0) F dX6_clear_11 (by decide) ?_
  refine p_X6_51 F r_a h dX6_clear_12 (fun S3 h hE => ?_)
  have r_a := r_a.tr hE
  have r_p1 := r_p1.tr hE
  refine v_aload_n F dX6_clear_15 0 rfl rfl ?_
  refine v_iconst (v := 0) F dX6_clear_16 (by decide) ?_
  refine p_X6_54 F r_a h dX6_clear_17 (fun S4 h hE => ?_)
  have r_a := r_a.tr hE
  have r_p1 := r_p1.tr hE
  refine v_aload_n F dX6_clear_20 0 rfl rfl ?_
  refine v_iconst (v := 0) F dX6_clear_21 (by decide) ?_
  refine p_X6_57 F r_a h dX6_clear_22 (fun S5 h hE => ?_)
  have r_a := r_a.tr hE
  have r_p1 := r_p1.tr hE
  exact v_vret F hQ h (by decide) dX6_clear_25
theorem dX6_open_0 : decode cX6_open 0 = .ok (.aload_n 0, 1) := by decide +kernel
theorem dX6_open_1 : decode cX6_open 1 = .ok (.getfield 51, 3) := by decide +kernel
theorem dX6_open_4 : decode cX6_open 4 = .ok (.istore_n 2, 1) := by decide +kernel
theorem dX6_open_5 : decode cX6_open 5 = .ok (.iload_n 2, 1) := by decide +kernel
theorem dX6_open_6 : decode cX6_open 6 = .ok (.sipush 1508, 3) := by decide +kernel
theorem dX6_open_9 : decode cX6_open 9 = .ok (.if_icmp .ge 61, 3) := by decide +kernel
theorem dX6_open_12 : decode cX6_open 12 = .ok (.aload_n 0, 1) := by decide +kernel
theorem dX6_open_13 : decode cX6_open 13 = .ok (.dup, 1) := by decide +kernel
theorem dX6_open_14 : decode cX6_open 14 = .ok (.getfield 51, 3) := by decide +kernel
theorem dX6_open_17 : decode cX6_open 17 = .ok (.iconst 1, 1) := by decide +kernel
theorem dX6_open_18 : decode cX6_open 18 = .ok (.iadd, 1) := by decide +kernel
theorem dX6_open_19 : decode cX6_open 19 = .ok (.putfield 51, 3) := by decide +kernel
theorem dX6_open_22 : decode cX6_open 22 = .ok (.aload_n 0, 1) := by decide +kernel
theorem dX6_open_23 : decode cX6_open 23 = .ok (.getfield 15, 3) := by decide +kernel
theorem dX6_open_26 : decode cX6_open 26 = .ok (.iload_n 2, 1) := by decide +kernel
theorem dX6_open_27 : decode cX6_open 27 = .ok (.iload_n 1, 1) := by decide +kernel
theorem dX6_open_28 : decode cX6_open 28 = .ok (.iastore, 1) := by decide +kernel
theorem dX6_open_29 : decode cX6_open 29 = .ok (.aload_n 0, 1) := by decide +kernel
theorem dX6_open_30 : decode cX6_open 30 = .ok (.getfield 19, 3) := by decide +kernel
theorem dX6_open_33 : decode cX6_open 33 = .ok (.iload_n 2, 1) := by decide +kernel
theorem dX6_open_34 : decode cX6_open 34 = .ok (.aload_n 0, 1) := by decide +kernel
theorem dX6_open_35 : decode cX6_open 35 = .ok (.getfield 51, 3) := by decide +kernel
theorem dX6_open_38 : decode cX6_open 38 = .ok (.iastore, 1) := by decide +kernel
theorem dX6_open_39 : decode cX6_open 39 = .ok (.aload_n 0, 1) := by decide +kernel
theorem dX6_open_40 : decode cX6_open 40 = .ok (.getfield 22, 3) := by decide +kernel
theorem dX6_open_43 : decode cX6_open 43 = .ok (.iload_n 2, 1) := by decide +kernel
theorem dX6_open_44 : decode cX6_open 44 = .ok (.iconst 0, 1) := by decide +kernel
theorem dX6_open_45 : decode cX6_open 45 = .ok (.iastore, 1) := by decide +kernel
theorem dX6_open_46 : decode cX6_open 46 = .ok (.aload_n 0, 1) := by decide +kernel
theorem dX6_open_47 : decode cX6_open 47 = .ok (.getfield 25, 3) := by decide +kernel
theorem dX6_open_50 : decode cX6_open 50 = .ok (.iload_n 2, 1) := by decide +kernel
theorem dX6_open_51 : decode cX6_open 51 = .ok (.iconst 0, 1) := by decide +kernel
theorem dX6_open_52 : decode cX6_open 52 = .ok (.iastore, 1) := by decide +kernel
theorem dX6_open_53 : decode cX6_open 53 = .ok (.aload_n 0, 1) := by decide +kernel
theorem dX6_open_54 : decode cX6_open 54 = .ok (.getfield 28, 3) := by decide +kernel
theorem dX6_open_57 : decode cX6_open 57 = .ok (.iload_n 2, 1) := by decide +kernel
theorem dX6_open_58 : decode cX6_open 58 = .ok (.lconst 0, 1) := by decide +kernel
theorem dX6_open_59 : decode cX6_open 59 = .ok (.lastore, 1) := by decide +kernel
theorem dX6_open_60 : decode cX6_open 60 = .ok (.aload_n 0, 1) := by decide +kernel
theorem dX6_open_61 : decode cX6_open 61 = .ok (.getfield 32, 3) := by decide +kernel
theorem dX6_open_64 : decode cX6_open 64 = .ok (.iload_n 2, 1) := by decide +kernel
theorem dX6_open_65 : decode cX6_open 65 = .ok (.aload_n 0, 1) := by decide +kernel
theorem dX6_open_66 : decode cX6_open 66 = .ok (.getfield 54, 3) := by decide +kernel
theorem dX6_open_69 : decode cX6_open 69 = .ok (.iastore, 1) := by decide +kernel
theorem dX6_open_70 : decode cX6_open 70 = .ok (.iload_n 2, 1) := by decide +kernel
theorem dX6_open_71 : decode cX6_open 71 = .ok (.ireturn, 1) := by decide +kernel
abbrev rm_X6_open : Room := { frames := 0, cells := 0, slots := 0, locals := 0 }
def wp_X6_open (a : Nat) (p1 : Int32) (S : PS) (Q : Int32 → PS → Prop) : Prop :=
  (∀ v1, v1 = fI S 45 a → (if 1508 ≤ v1 then
 Q v1 S
 else
 (∀ S2, S2 = sI S 45 a ((fI S 45 a) + 1) → (∃ b3, fR S2 46 a = some b3 ∧ (vp_in v1 (aN S2 b3) ∧ ∀ S4, S4 = wI S2 16 b3 (v1).toNatClampNeg p1 → (∃ b5, fR S4 47 a = some b5 ∧ (vp_in v1 (aN S4 b5) ∧ ∀ S6, S6 = wI S4 17 b5 (v1).toNatClampNeg (fI S4 45 a) → (∃ b7, fR S6 48 a = some b7 ∧ (vp_in v1 (aN S6 b7) ∧ ∀ S8, S8 = wI S6 18 b7 (v1).toNatClampNeg 0 → (∃ b9, fR S8 49 a = some b9 ∧ (vp_in v1 (aN S8 b9) ∧ ∀ S10, S10 = wI S8 19 b9 (v1).toNatClampNeg 0 → (∃ b11, fR S10 50 a = some b11 ∧ (vp_in v1 (aN S10 b11) ∧ ∀ S12, S12 = wL S10 20 b11 (v1).toNatClampNeg 0 → (∃ b13, fR S12 51 a = some b13 ∧ (vp_in v1 (aN S12 b13) ∧ ∀ S14, S14 = wI S12 21 b13 (v1).toNatClampNeg (fI S12 53 a) → Q v1 S14)))))))))))))))
set_option maxRecDepth 100000 in
set_option maxHeartbeats 4000000 in
theorem c_X6_open {l : Launch} {E : EE} {A : Nat → Prop} {a : Nat} {p1 : Int32} {S : PS} {Q : Int32 → PS → Prop} (r_a : Rf S a 5) (h : wp_X6_open a p1 S Q) : MtI l yX6_open (.code yX6_open cX6_open 3 (some .int)) rm_X6_open E A [.ref a, .int p1] S Q := by
  refine MtI.of (by decide) (Nat.le_of_ble_eq_true rfl) (fun X F hQ hN => ?_)
  show VV X (0, 0) S [(0, .ref a), (1, .int p1)] [] 0
  unfold wp_X6_open at h
  refine v_aload_n F dX6_open_0 0 rfl rfl ?_
  refine g_X6_51 F r_a dX6_open_1 ?_
  refine v_topi (fun v1 e_v1 => ?_)
  have h := h v1 e_v1
  refine v_istore_n (lv1 := [(2, .int v1), (0, .ref a), (1, .int p1)]) F dX6_open_4 rfl (by rw [hN]; decide) rfl ?_
  refine v_iload_n F dX6_open_5 0 rfl rfl ?_
  refine v_sipush (v := 1508) F dX6_open_6 (by decide) ?_
  refine v_icmp_ge (tgt := 70) F dX6_open_9 (by decide) h (fun h => ?_) (fun h => ?_)
  · refine v_iload_n F dX6_open_70 0 rfl rfl ?_
    exact v_iret F hQ h (by decide) dX6_open_71
  · refine v_aload_n F dX6_open_12 1 rfl rfl ?_
    refine v_dup F dX6_open_13 rfl ?_
    refine g_X6_51 F r_a dX6_open_14 ?_
    refine v_iconst (v := 1) F dX6_open_17 (by decide) ?_
    refine v_iadd F dX6_open_18 ?_
    refine p_X6_51 F r_a h dX6_open_19 (fun S2 h hE => ?_)
    have r_a := r_a.tr hE
    refine v_aload_n F dX6_open_22 1 rfl rfl ?_
    refine g_X6_15 F r_a h dX6_open_23 (fun b3 r_b3 h => ?_)
    refine v_iload_n F dX6_open_26 0 rfl rfl ?_
    refine v_iload_n F dX6_open_27 2 rfl rfl ?_
    refine v_iast F r_b3 o_16 h dX6_open_28 (fun S4 h hE => ?_)
    have r_a := r_a.tr hE
    refine v_aload_n F dX6_open_29 1 rfl rfl ?_
    refine g_X6_19 F r_a h dX6_open_30 (fun b5 r_b5 h => ?_)
    refine v_iload_n F dX6_open_33 0 rfl rfl ?_
    refine v_aload_n F dX6_open_34 1 rfl rfl ?_
    refine g_X6_51 F r_a dX6_open_35 ?_
    refine v_iast F r_b5 o_17 h dX6_open_38 (fun S6 h hE => ?_)
    have r_a := r_a.tr hE
    refine v_aload_n F dX6_open_39 1 rfl rfl ?_
    refine g_X6_22 F r_a h dX6_open_40 (fun b7 r_b7 h => ?_)
    refine v_iload_n F dX6_open_43 0 rfl rfl ?_
    refine v_iconst (v := 0) F dX6_open_44 (by decide) ?_
    refine v_iast F r_b7 o_18 h dX6_open_45 (fun S8 h hE => ?_)
    have r_a := r_a.tr hE
    refine v_aload_n F dX6_open_46 1 rfl rfl ?_
    refine g_X6_25 F r_a h dX6_open_47 (fun b9 r_b9 h => ?_)
    refine v_iload_n F dX6_open_50 0 rfl rfl ?_
    refine v_iconst (v := 0) F dX6_open_51 (by decide) ?_
    refine v_iast F r_b9 o_19 h dX6_open_52 (fun S10 h hE => ?_)
    have r_a := r_a.tr hE
    refine v_aload_n F dX6_open_53 1 rfl rfl ?_
    refine g_X6_28 F r_a h dX6_open_54 (fun b11 r_b11 h => ?_)
    refine v_iload_n F dX6_open_57 0 rfl rfl ?_
    refine v_lconst (v := 0) F dX6_open_58 (by decide) ?_
    refine v_last F r_b11 o_20 h dX6_open_59 (fun S12 h hE => ?_)
    have r_a := r_a.tr hE
    refine v_aload_n F dX6_open_60 1 rfl rfl ?_
    refine g_X6_32 F r_a h dX6_open_61 (fun b13 r_b13 h => ?_)
    refine v_iload_n F dX6_open_64 0 rfl rfl ?_
    refine v_aload_n F dX6_open_65 1 rfl rfl ?_
    refine g_X6_54 F r_a dX6_open_66 ?_
    refine v_iast F r_b13 o_21 h dX6_open_69 (fun S14 h hE => ?_)
    have r_a := r_a.tr hE
    refine v_iload_n F dX6_open_70 0 rfl rfl ?_
    exact v_iret F hQ h (by decide) dX6_open_71
theorem dX6_close_0 : decode cX6_close 0 = .ok (.aload_n 0, 1) := by decide +kernel
theorem dX6_close_1 : decode cX6_close 1 = .ok (.iload_n 1, 1) := by decide +kernel
theorem dX6_close_2 : decode cX6_close 2 = .ok (.invokevirtual 60, 3) := by decide +kernel
theorem dX6_close_5 : decode cX6_close 5 = .ok (.ifCond .eq 13, 3) := by decide +kernel
theorem dX6_close_8 : decode cX6_close 8 = .ok (.aload_n 0, 1) := by decide +kernel
theorem dX6_close_9 : decode cX6_close 9 = .ok (.getfield 19, 3) := by decide +kernel
theorem dX6_close_12 : decode cX6_close 12 = .ok (.iload_n 1, 1) := by decide +kernel
theorem dX6_close_13 : decode cX6_close 13 = .ok (.aload_n 0, 1) := by decide +kernel
theorem dX6_close_14 : decode cX6_close 14 = .ok (.getfield 51, 3) := by decide +kernel
theorem dX6_close_17 : decode cX6_close 17 = .ok (.iastore, 1) := by decide +kernel
theorem dX6_close_18 : decode cX6_close 18 = .ok (.return_, 1) := by decide +kernel
abbrev rm_X6_close : Room := { frames := 1, cells := 0, slots := 0, locals := 21 }
def wp_X6_close (a : Nat) (p1 : Int32) (S : PS) (Q : PS → Prop) : Prop :=
  wp_X6_holds a p1 S (fun (r2 : Int32) (S1 : PS) => 
 (if r2 = 0 then
 Q S1
 else
 (∃ b3, fR S1 47 a = some b3 ∧ (vp_in p1 (aN S1 b3) ∧ ∀ S4, S4 = wI S1 17 b3 (p1).toNatClampNeg (fI S1 45 a) → Q S4))))
set_option maxRecDepth 100000 in
set_option maxHeartbeats 4000000 in
theorem c_X6_close {l : Launch} {E : EE} {A : Nat → Prop} {a : Nat} {p1 : Int32} {S : PS} {Q : PS → Prop} (r_a : Rf S a 5) (h : wp_X6_close a p1 S Q) : MtV l yX6_close (.code yX6_close cX6_close 2 none) rm_X6_close E A [.ref a, .int p1] S Q := by
  refine MtV.of (by decide) (Nat.le_of_ble_eq_true rfl) (fun X F hQ hN => ?_)
  show VV X (0, 0) S [(0, .ref a), (1, .int p1)] [] 0
  unfold wp_X6_close at h
  refine v_aload_n F dX6_close_0 0 rfl rfl ?_
  refine v_iload_n F dX6_close_1 1 rfl rfl ?_
  refine v_cI0 (v_runV F k_X6_60 rfl (c_X6_holds r_a h) r_a rfl rfl (Nat.le_of_ble_eq_true rfl) (by decide) (by decide) dX6_close_2) ⟨rfl, rfl⟩ (fun r2 S1 h hE => ?_)
  obtain ⟨nz_r2, h⟩ := h
  have r_a := r_a.tr hE
  refine v_if_eq (tgt := 18) F dX6_close_5 (by decide) h (fun h => ?_) (fun h => ?_)
  · exact v_vret F hQ h (by decide) dX6_close_18
  · refine v_aload_n F dX6_close_8 0 rfl rfl ?_
    refine g_X6_19 F r_a h dX6_close_9 (fun b3 r_b3 h => ?_)
    refine v_iload_n F dX6_close_12 1 rfl rfl ?_
    refine v_aload_n F dX6_close_13 0 rfl rfl ?_
    refine g_X6_51 F r_a dX6_close_14 ?_
    refine v_iast F r_b3 o_17 h dX6_close_17 (fun S4 h hE => ?_)
    have r_a := r_a.tr hE
    exact v_vret F hQ h (by decide) dX6_close_18
theorem dX6_setNumbers_0 : decode cX6_setNumbers 0 = .ok (.aload_n 0, 1) := by decide +kernel
theorem dX6_setNumbers_1 : decode cX6_setNumbers 1 = .ok (.iload_n 1, 1) := by decide +kernel
theorem dX6_setNumbers_2 : decode cX6_setNumbers 2 = .ok (.invokevirtual 60, 3) := by decide +kernel
theorem dX6_setNumbers_5 : decode cX6_setNumbers 5 = .ok (.ifCond .eq 17, 3) := by decide +kernel
theorem dX6_setNumbers_8 : decode cX6_setNumbers 8 = .ok (.aload_n 0, 1) := by decide +kernel
theorem dX6_setNumbers_9 : decode cX6_setNumbers 9 = .ok (.getfield 22, 3) := by decide +kernel
theorem dX6_setNumbers_12 : decode cX6_setNumbers 12 = .ok (.iload_n 1, 1) := by decide +kernel
theorem dX6_setNumbers_13 : decode cX6_setNumbers 13 = .ok (.iload_n 2, 1) := by decide +kernel
theorem dX6_setNumbers_14 : decode cX6_setNumbers 14 = .ok (.iastore, 1) := by decide +kernel
theorem dX6_setNumbers_15 : decode cX6_setNumbers 15 = .ok (.aload_n 0, 1) := by decide +kernel
theorem dX6_setNumbers_16 : decode cX6_setNumbers 16 = .ok (.getfield 25, 3) := by decide +kernel
theorem dX6_setNumbers_19 : decode cX6_setNumbers 19 = .ok (.iload_n 1, 1) := by decide +kernel
theorem dX6_setNumbers_20 : decode cX6_setNumbers 20 = .ok (.iload_n 3, 1) := by decide +kernel
theorem dX6_setNumbers_21 : decode cX6_setNumbers 21 = .ok (.iastore, 1) := by decide +kernel
theorem dX6_setNumbers_22 : decode cX6_setNumbers 22 = .ok (.return_, 1) := by decide +kernel
abbrev rm_X6_setNumbers : Room := { frames := 1, cells := 0, slots := 0, locals := 21 }
def wp_X6_setNumbers (a : Nat) (p1 : Int32) (p2 : Int32) (p3 : Int32) (S : PS) (Q : PS → Prop) : Prop :=
  wp_X6_holds a p1 S (fun (r2 : Int32) (S1 : PS) => 
 (if r2 = 0 then
 Q S1
 else
 (∃ b3, fR S1 48 a = some b3 ∧ (vp_in p1 (aN S1 b3) ∧ ∀ S4, S4 = wI S1 18 b3 (p1).toNatClampNeg p2 → (∃ b5, fR S4 49 a = some b5 ∧ (vp_in p1 (aN S4 b5) ∧ ∀ S6, S6 = wI S4 19 b5 (p1).toNatClampNeg p3 → Q S6))))))
set_option maxRecDepth 100000 in
set_option maxHeartbeats 4000000 in
theorem c_X6_setNumbers {l : Launch} {E : EE} {A : Nat → Prop} {a : Nat} {p1 : Int32} {p2 : Int32} {p3 : Int32} {S : PS} {Q : PS → Prop} (r_a : Rf S a 5) (h : wp_X6_setNumbers a p1 p2 p3 S Q) : MtV l yX6_setNumbers (.code yX6_setNumbers cX6_setNumbers 4 none) rm_X6_setNumbers E A [.ref a, .int p1, .int p2, .int p3] S Q := by
  refine MtV.of (by decide) (Nat.le_of_ble_eq_true rfl) (fun X F hQ hN => ?_)
  show VV X (0, 0) S [(0, .ref a), (1, .int p1), (2, .int p2), (3, .int p3)] [] 0
  unfold wp_X6_setNumbers at h
  refine v_aload_n F dX6_setNumbers_0 0 rfl rfl ?_
  refine v_iload_n F dX6_setNumbers_1 1 rfl rfl ?_
  refine v_cI0 (v_runV F k_X6_60 rfl (c_X6_holds r_a h) r_a rfl rfl (Nat.le_of_ble_eq_true rfl) (by decide) (by decide) dX6_setNumbers_2) ⟨rfl, rfl⟩ (fun r2 S1 h hE => ?_)
  obtain ⟨nz_r2, h⟩ := h
  have r_a := r_a.tr hE
  refine v_if_eq (tgt := 22) F dX6_setNumbers_5 (by decide) h (fun h => ?_) (fun h => ?_)
  · exact v_vret F hQ h (by decide) dX6_setNumbers_22
  · refine v_aload_n F dX6_setNumbers_8 0 rfl rfl ?_
    refine g_X6_22 F r_a h dX6_setNumbers_9 (fun b3 r_b3 h => ?_)
    refine v_iload_n F dX6_setNumbers_12 1 rfl rfl ?_
    refine v_iload_n F dX6_setNumbers_13 2 rfl rfl ?_
    refine v_iast F r_b3 o_18 h dX6_setNumbers_14 (fun S4 h hE => ?_)
    have r_a := r_a.tr hE
    refine v_aload_n F dX6_setNumbers_15 0 rfl rfl ?_
    refine g_X6_25 F r_a h dX6_setNumbers_16 (fun b5 r_b5 h => ?_)
    refine v_iload_n F dX6_setNumbers_19 1 rfl rfl ?_
    refine v_iload_n F dX6_setNumbers_20 3 rfl rfl ?_
    refine v_iast F r_b5 o_19 h dX6_setNumbers_21 (fun S6 h hE => ?_)
    have r_a := r_a.tr hE
    exact v_vret F hQ h (by decide) dX6_setNumbers_22
theorem dX6_setTicks_0 : decode cX6_setTicks 0 = .ok (.aload_n 0, 1) := by decide +kernel
theorem dX6_setTicks_1 : decode cX6_setTicks 1 = .ok (.iload_n 1, 1) := by decide +kernel
theorem dX6_setTicks_2 : decode cX6_setTicks 2 = .ok (.invokevirtual 60, 3) := by decide +kernel
theorem dX6_setTicks_5 : decode cX6_setTicks 5 = .ok (.ifCond .eq 10, 3) := by decide +kernel
theorem dX6_setTicks_8 : decode cX6_setTicks 8 = .ok (.aload_n 0, 1) := by decide +kernel
theorem dX6_setTicks_9 : decode cX6_setTicks 9 = .ok (.getfield 28, 3) := by decide +kernel
theorem dX6_setTicks_12 : decode cX6_setTicks 12 = .ok (.iload_n 1, 1) := by decide +kernel
theorem dX6_setTicks_13 : decode cX6_setTicks 13 = .ok (.lload_n 2, 1) := by decide +kernel
theorem dX6_setTicks_14 : decode cX6_setTicks 14 = .ok (.lastore, 1) := by decide +kernel
theorem dX6_setTicks_15 : decode cX6_setTicks 15 = .ok (.return_, 1) := by decide +kernel
abbrev rm_X6_setTicks : Room := { frames := 1, cells := 0, slots := 0, locals := 21 }
def wp_X6_setTicks (a : Nat) (p1 : Int32) (p2 : Int64) (S : PS) (Q : PS → Prop) : Prop :=
  wp_X6_holds a p1 S (fun (r2 : Int32) (S1 : PS) => 
 (if r2 = 0 then
 Q S1
 else
 (∃ b3, fR S1 50 a = some b3 ∧ (vp_in p1 (aN S1 b3) ∧ ∀ S4, S4 = wL S1 20 b3 (p1).toNatClampNeg p2 → Q S4))))
set_option maxRecDepth 100000 in
set_option maxHeartbeats 4000000 in
theorem c_X6_setTicks {l : Launch} {E : EE} {A : Nat → Prop} {a : Nat} {p1 : Int32} {p2 : Int64} {S : PS} {Q : PS → Prop} (r_a : Rf S a 5) (h : wp_X6_setTicks a p1 p2 S Q) : MtV l yX6_setTicks (.code yX6_setTicks cX6_setTicks 4 none) rm_X6_setTicks E A [.ref a, .int p1, .long p2] S Q := by
  refine MtV.of (by decide) (Nat.le_of_ble_eq_true rfl) (fun X F hQ hN => ?_)
  show VV X (0, 0) S [(0, .ref a), (1, .int p1), (2, .long p2)] [] 0
  unfold wp_X6_setTicks at h
  refine v_aload_n F dX6_setTicks_0 0 rfl rfl ?_
  refine v_iload_n F dX6_setTicks_1 1 rfl rfl ?_
  refine v_cI0 (v_runV F k_X6_60 rfl (c_X6_holds r_a h) r_a rfl rfl (Nat.le_of_ble_eq_true rfl) (by decide) (by decide) dX6_setTicks_2) ⟨rfl, rfl⟩ (fun r2 S1 h hE => ?_)
  obtain ⟨nz_r2, h⟩ := h
  have r_a := r_a.tr hE
  refine v_if_eq (tgt := 15) F dX6_setTicks_5 (by decide) h (fun h => ?_) (fun h => ?_)
  · exact v_vret F hQ h (by decide) dX6_setTicks_15
  · refine v_aload_n F dX6_setTicks_8 0 rfl rfl ?_
    refine g_X6_28 F r_a h dX6_setTicks_9 (fun b3 r_b3 h => ?_)
    refine v_iload_n F dX6_setTicks_12 1 rfl rfl ?_
    refine v_lload_n F dX6_setTicks_13 2 rfl rfl ?_
    refine v_last F r_b3 o_20 h dX6_setTicks_14 (fun S4 h hE => ?_)
    have r_a := r_a.tr hE
    exact v_vret F hQ h (by decide) dX6_setTicks_15
theorem dX6_addPart_0 : decode cX6_addPart 0 = .ok (.aload_n 0, 1) := by decide +kernel
theorem dX6_addPart_1 : decode cX6_addPart 1 = .ok (.getfield 54, 3) := by decide +kernel
theorem dX6_addPart_4 : decode cX6_addPart 4 = .ok (.sipush 1500, 3) := by decide +kernel
theorem dX6_addPart_7 : decode cX6_addPart 7 = .ok (.if_icmp .ge 23, 3) := by decide +kernel
theorem dX6_addPart_10 : decode cX6_addPart 10 = .ok (.aload_n 0, 1) := by decide +kernel
theorem dX6_addPart_11 : decode cX6_addPart 11 = .ok (.getfield 35, 3) := by decide +kernel
theorem dX6_addPart_14 : decode cX6_addPart 14 = .ok (.aload_n 0, 1) := by decide +kernel
theorem dX6_addPart_15 : decode cX6_addPart 15 = .ok (.getfield 54, 3) := by decide +kernel
theorem dX6_addPart_18 : decode cX6_addPart 18 = .ok (.iload_n 1, 1) := by decide +kernel
theorem dX6_addPart_19 : decode cX6_addPart 19 = .ok (.iastore, 1) := by decide +kernel
theorem dX6_addPart_20 : decode cX6_addPart 20 = .ok (.aload_n 0, 1) := by decide +kernel
theorem dX6_addPart_21 : decode cX6_addPart 21 = .ok (.dup, 1) := by decide +kernel
theorem dX6_addPart_22 : decode cX6_addPart 22 = .ok (.getfield 54, 3) := by decide +kernel
theorem dX6_addPart_25 : decode cX6_addPart 25 = .ok (.iconst 1, 1) := by decide +kernel
theorem dX6_addPart_26 : decode cX6_addPart 26 = .ok (.iadd, 1) := by decide +kernel
theorem dX6_addPart_27 : decode cX6_addPart 27 = .ok (.putfield 54, 3) := by decide +kernel
theorem dX6_addPart_30 : decode cX6_addPart 30 = .ok (.return_, 1) := by decide +kernel
abbrev rm_X6_addPart : Room := { frames := 0, cells := 0, slots := 0, locals := 0 }
def wp_X6_addPart (a : Nat) (p1 : Int32) (S : PS) (Q : PS → Prop) : Prop :=
  (if 1500 ≤ fI S 53 a then
 Q S
 else
 (∃ b1, fR S 52 a = some b1 ∧ (vp_in (fI S 53 a) (aN S b1) ∧ ∀ S2, S2 = wI S 22 b1 (fI S 53 a).toNatClampNeg p1 → (∀ S3, S3 = sI S2 53 a ((fI S2 53 a) + 1) → Q S3))))
set_option maxRecDepth 100000 in
set_option maxHeartbeats 4000000 in
theorem c_X6_addPart {l : Launch} {E : EE} {A : Nat → Prop} {a : Nat} {p1 : Int32} {S : PS} {Q : PS → Prop} (r_a : Rf S a 5) (h : wp_X6_addPart a p1 S Q) : MtV l yX6_addPart (.code yX6_addPart cX6_addPart 2 none) rm_X6_addPart E A [.ref a, .int p1] S Q := by
  refine MtV.of (by decide) (Nat.le_of_ble_eq_true rfl) (fun X F hQ hN => ?_)
  show VV X (0, 0) S [(0, .ref a), (1, .int p1)] [] 0
  unfold wp_X6_addPart at h
  refine v_aload_n F dX6_addPart_0 0 rfl rfl ?_
  refine g_X6_54 F r_a dX6_addPart_1 ?_
  refine v_sipush (v := 1500) F dX6_addPart_4 (by decide) ?_
  refine v_icmp_ge (tgt := 30) F dX6_addPart_7 (by decide) h (fun h => ?_) (fun h => ?_)
  · exact v_vret F hQ h (by decide) dX6_addPart_30
  · refine v_aload_n F dX6_addPart_10 0 rfl rfl ?_
    refine g_X6_35 F r_a h dX6_addPart_11 (fun b1 r_b1 h => ?_)
    refine v_aload_n F dX6_addPart_14 0 rfl rfl ?_
    refine g_X6_54 F r_a dX6_addPart_15 ?_
    refine v_iload_n F dX6_addPart_18 1 rfl rfl ?_
    refine v_iast F r_b1 o_22 h dX6_addPart_19 (fun S2 h hE => ?_)
    have r_a := r_a.tr hE
    refine v_aload_n F dX6_addPart_20 0 rfl rfl ?_
    refine v_dup F dX6_addPart_21 rfl ?_
    refine g_X6_54 F r_a dX6_addPart_22 ?_
    refine v_iconst (v := 1) F dX6_addPart_25 (by decide) ?_
    refine v_iadd F dX6_addPart_26 ?_
    refine p_X6_54 F r_a h dX6_addPart_27 (fun S3 h hE => ?_)
    have r_a := r_a.tr hE
    exact v_vret F hQ h (by decide) dX6_addPart_30
theorem dX6_addName_0 : decode cX6_addName 0 = .ok (.aload_n 0, 1) := by decide +kernel
theorem dX6_addName_1 : decode cX6_addName 1 = .ok (.getfield 57, 3) := by decide +kernel
theorem dX6_addName_4 : decode cX6_addName 4 = .ok (.bipush 20, 2) := by decide +kernel
theorem dX6_addName_6 : decode cX6_addName 6 = .ok (.if_icmp .ge 43, 3) := by decide +kernel
theorem dX6_addName_9 : decode cX6_addName 9 = .ok (.aload_n 0, 1) := by decide +kernel
theorem dX6_addName_10 : decode cX6_addName 10 = .ok (.getfield 38, 3) := by decide +kernel
theorem dX6_addName_13 : decode cX6_addName 13 = .ok (.aload_n 0, 1) := by decide +kernel
theorem dX6_addName_14 : decode cX6_addName 14 = .ok (.getfield 57, 3) := by decide +kernel
theorem dX6_addName_17 : decode cX6_addName 17 = .ok (.iload_n 1, 1) := by decide +kernel
theorem dX6_addName_18 : decode cX6_addName 18 = .ok (.iastore, 1) := by decide +kernel
theorem dX6_addName_19 : decode cX6_addName 19 = .ok (.aload_n 0, 1) := by decide +kernel
theorem dX6_addName_20 : decode cX6_addName 20 = .ok (.getfield 41, 3) := by decide +kernel
theorem dX6_addName_23 : decode cX6_addName 23 = .ok (.aload_n 0, 1) := by decide +kernel
theorem dX6_addName_24 : decode cX6_addName 24 = .ok (.getfield 57, 3) := by decide +kernel
theorem dX6_addName_27 : decode cX6_addName 27 = .ok (.iload_n 2, 1) := by decide +kernel
theorem dX6_addName_28 : decode cX6_addName 28 = .ok (.iastore, 1) := by decide +kernel
theorem dX6_addName_29 : decode cX6_addName 29 = .ok (.aload_n 0, 1) := by decide +kernel
theorem dX6_addName_30 : decode cX6_addName 30 = .ok (.getfield 44, 3) := by decide +kernel
theorem dX6_addName_33 : decode cX6_addName 33 = .ok (.aload_n 0, 1) := by decide +kernel
theorem dX6_addName_34 : decode cX6_addName 34 = .ok (.getfield 57, 3) := by decide +kernel
theorem dX6_addName_37 : decode cX6_addName 37 = .ok (.iload_n 3, 1) := by decide +kernel
theorem dX6_addName_38 : decode cX6_addName 38 = .ok (.iastore, 1) := by decide +kernel
theorem dX6_addName_39 : decode cX6_addName 39 = .ok (.aload_n 0, 1) := by decide +kernel
theorem dX6_addName_40 : decode cX6_addName 40 = .ok (.dup, 1) := by decide +kernel
theorem dX6_addName_41 : decode cX6_addName 41 = .ok (.getfield 57, 3) := by decide +kernel
theorem dX6_addName_44 : decode cX6_addName 44 = .ok (.iconst 1, 1) := by decide +kernel
theorem dX6_addName_45 : decode cX6_addName 45 = .ok (.iadd, 1) := by decide +kernel
theorem dX6_addName_46 : decode cX6_addName 46 = .ok (.putfield 57, 3) := by decide +kernel
theorem dX6_addName_49 : decode cX6_addName 49 = .ok (.return_, 1) := by decide +kernel
abbrev rm_X6_addName : Room := { frames := 0, cells := 0, slots := 0, locals := 0 }
def wp_X6_addName (a : Nat) (p1 : Int32) (p2 : Int32) (p3 : Int32) (S : PS) (Q : PS → Prop) : Prop :=
  (if 20 ≤ fI S 54 a then
 Q S
 else
 (∃ b1, fR S 55 a = some b1 ∧ (vp_in (fI S 54 a) (aN S b1) ∧ ∀ S2, S2 = wI S 23 b1 (fI S 54 a).toNatClampNeg p1 → (∃ b3, fR S2 56 a = some b3 ∧ (vp_in (fI S2 54 a) (aN S2 b3) ∧ ∀ S4, S4 = wI S2 24 b3 (fI S2 54 a).toNatClampNeg p2 → (∃ b5, fR S4 57 a = some b5 ∧ (vp_in (fI S4 54 a) (aN S4 b5) ∧ ∀ S6, S6 = wI S4 25 b5 (fI S4 54 a).toNatClampNeg p3 → (∀ S7, S7 = sI S6 54 a ((fI S6 54 a) + 1) → Q S7))))))))
set_option maxRecDepth 100000 in
set_option maxHeartbeats 4000000 in
theorem c_X6_addName {l : Launch} {E : EE} {A : Nat → Prop} {a : Nat} {p1 : Int32} {p2 : Int32} {p3 : Int32} {S : PS} {Q : PS → Prop} (r_a : Rf S a 5) (h : wp_X6_addName a p1 p2 p3 S Q) : MtV l yX6_addName (.code yX6_addName cX6_addName 4 none) rm_X6_addName E A [.ref a, .int p1, .int p2, .int p3] S Q := by
  refine MtV.of (by decide) (Nat.le_of_ble_eq_true rfl) (fun X F hQ hN => ?_)
  show VV X (0, 0) S [(0, .ref a), (1, .int p1), (2, .int p2), (3, .int p3)] [] 0
  unfold wp_X6_addName at h
  refine v_aload_n F dX6_addName_0 0 rfl rfl ?_
  refine g_X6_57 F r_a dX6_addName_1 ?_
  refine v_bipush (v := 20) F dX6_addName_4 (by decide) ?_
  refine v_icmp_ge (tgt := 49) F dX6_addName_6 (by decide) h (fun h => ?_) (fun h => ?_)
  · exact v_vret F hQ h (by decide) dX6_addName_49
  · refine v_aload_n F dX6_addName_9 0 rfl rfl ?_
    refine g_X6_38 F r_a h dX6_addName_10 (fun b1 r_b1 h => ?_)
    refine v_aload_n F dX6_addName_13 0 rfl rfl ?_
    refine g_X6_57 F r_a dX6_addName_14 ?_
    refine v_iload_n F dX6_addName_17 1 rfl rfl ?_
    refine v_iast F r_b1 o_23 h dX6_addName_18 (fun S2 h hE => ?_)
    have r_a := r_a.tr hE
    refine v_aload_n F dX6_addName_19 0 rfl rfl ?_
    refine g_X6_41 F r_a h dX6_addName_20 (fun b3 r_b3 h => ?_)
    refine v_aload_n F dX6_addName_23 0 rfl rfl ?_
    refine g_X6_57 F r_a dX6_addName_24 ?_
    refine v_iload_n F dX6_addName_27 2 rfl rfl ?_
    refine v_iast F r_b3 o_24 h dX6_addName_28 (fun S4 h hE => ?_)
    have r_a := r_a.tr hE
    refine v_aload_n F dX6_addName_29 0 rfl rfl ?_
    refine g_X6_44 F r_a h dX6_addName_30 (fun b5 r_b5 h => ?_)
    refine v_aload_n F dX6_addName_33 0 rfl rfl ?_
    refine g_X6_57 F r_a dX6_addName_34 ?_
    refine v_iload_n F dX6_addName_37 3 rfl rfl ?_
    refine v_iast F r_b5 o_25 h dX6_addName_38 (fun S6 h hE => ?_)
    have r_a := r_a.tr hE
    refine v_aload_n F dX6_addName_39 0 rfl rfl ?_
    refine v_dup F dX6_addName_40 rfl ?_
    refine g_X6_57 F r_a dX6_addName_41 ?_
    refine v_iconst (v := 1) F dX6_addName_44 (by decide) ?_
    refine v_iadd F dX6_addName_45 ?_
    refine p_X6_57 F r_a h dX6_addName_46 (fun S7 h hE => ?_)
    have r_a := r_a.tr hE
    exact v_vret F hQ h (by decide) dX6_addName_49
theorem dX6_indexOfName_0 : decode cX6_indexOfName 0 = .ok (.iconst 0, 1) := by decide +kernel
theorem dX6_indexOfName_1 : decode cX6_indexOfName 1 = .ok (.istore_n 2, 1) := by decide +kernel
theorem dX6_indexOfName_2 : decode cX6_indexOfName 2 = .ok (.iload_n 2, 1) := by decide +kernel
theorem dX6_indexOfName_3 : decode cX6_indexOfName 3 = .ok (.aload_n 0, 1) := by decide +kernel
theorem dX6_indexOfName_4 : decode cX6_indexOfName 4 = .ok (.getfield 57, 3) := by decide +kernel
theorem dX6_indexOfName_7 : decode cX6_indexOfName 7 = .ok (.if_icmp .ge 21, 3) := by decide +kernel
theorem dX6_indexOfName_10 : decode cX6_indexOfName 10 = .ok (.aload_n 0, 1) := by decide +kernel
theorem dX6_indexOfName_11 : decode cX6_indexOfName 11 = .ok (.getfield 38, 3) := by decide +kernel
theorem dX6_indexOfName_14 : decode cX6_indexOfName 14 = .ok (.iload_n 2, 1) := by decide +kernel
theorem dX6_indexOfName_15 : decode cX6_indexOfName 15 = .ok (.iaload, 1) := by decide +kernel
theorem dX6_indexOfName_16 : decode cX6_indexOfName 16 = .ok (.iload_n 1, 1) := by decide +kernel
theorem dX6_indexOfName_17 : decode cX6_indexOfName 17 = .ok (.if_icmp .ne 5, 3) := by decide +kernel
theorem dX6_indexOfName_20 : decode cX6_indexOfName 20 = .ok (.iload_n 2, 1) := by decide +kernel
theorem dX6_indexOfName_21 : decode cX6_indexOfName 21 = .ok (.ireturn, 1) := by decide +kernel
theorem dX6_indexOfName_22 : decode cX6_indexOfName 22 = .ok (.iinc 2 1, 3) := by decide +kernel
theorem dX6_indexOfName_25 : decode cX6_indexOfName 25 = .ok (.goto (-23), 3) := by decide +kernel
theorem dX6_indexOfName_28 : decode cX6_indexOfName 28 = .ok (.iconst (-1), 1) := by decide +kernel
theorem dX6_indexOfName_29 : decode cX6_indexOfName 29 = .ok (.ireturn, 1) := by decide +kernel
abbrev rm_X6_indexOfName : Room := { frames := 0, cells := 0, slots := 0, locals := 0 }
def wp_X6_indexOfName (a : Nat) (p1 : Int32) (S : PS) (Q : Int32 → PS → Prop) : Prop :=
  (∀ P2_1 : Int32 → PS → Prop, (∀ (x2_2 : Int32) (S3 : PS),
 (if fI S3 54 a ≤ x2_2 then
 Q (-1) S3
 else
 (∃ b4, fR S3 55 a = some b4 ∧ (vp_in x2_2 (aN S3 b4) ∧ (if aI S3 23 b4 (x2_2).toNatClampNeg = p1 then
 Q x2_2 S3
 else
 (∀ v5, v5 = x2_2 + 1 → P2_1 v5 S3)))))
 → P2_1 x2_2 S3) → P2_1 0 S)
set_option maxRecDepth 100000 in
set_option maxHeartbeats 4000000 in
theorem c_X6_indexOfName {l : Launch} {E : EE} {A : Nat → Prop} {a : Nat} {p1 : Int32} {S : PS} {Q : Int32 → PS → Prop} (r_a : Rf S a 5) (h : wp_X6_indexOfName a p1 S Q) : MtI l yX6_indexOfName (.code yX6_indexOfName cX6_indexOfName 3 (some .int)) rm_X6_indexOfName E A [.ref a, .int p1] S Q := by
  refine MtI.of (by decide) (Nat.le_of_ble_eq_true rfl) (fun X F hQ hN => ?_)
  show VV X (0, 0) S [(0, .ref a), (1, .int p1)] [] 0
  unfold wp_X6_indexOfName at h
  refine v_iconst (v := 0) F dX6_indexOfName_0 (by decide) ?_
  refine v_istore_n (lv1 := [(2, .int 0), (0, .ref a), (1, .int p1)]) F dX6_indexOfName_1 rfl (by rw [hN]; decide) rfl ?_
  refine v_sub [1, 2, 0] rfl ?_
  refine h (fun (x2_2 : Int32) (S3 : PS) => Rf S3 a 5 → VV X (0, 0) S3 [(0, .ref a), (1, .int p1), (2, .int x2_2)] [] 2) (fun x2_2 S3 h r_a => ?_) r_a
  refine v_iload_n F dX6_indexOfName_2 2 rfl rfl ?_
  refine v_aload_n F dX6_indexOfName_3 0 rfl rfl ?_
  refine g_X6_57 F r_a dX6_indexOfName_4 ?_
  refine v_icmp_ge (tgt := 28) F dX6_indexOfName_7 (by decide) h (fun h => ?_) (fun h => ?_)
  · refine v_iconst (v := (-1)) F dX6_indexOfName_28 (by decide) ?_
    exact v_iret F hQ h (by decide) dX6_indexOfName_29
  · refine v_aload_n F dX6_indexOfName_10 0 rfl rfl ?_
    refine g_X6_38 F r_a h dX6_indexOfName_11 (fun b4 r_b4 h => ?_)
    refine v_iload_n F dX6_indexOfName_14 2 rfl rfl ?_
    refine v_iald F r_b4 o_23 h dX6_indexOfName_15 (fun h => ?_)
    refine v_iload_n F dX6_indexOfName_16 1 rfl rfl ?_
    refine v_icmp_ne (tgt := 22) F dX6_indexOfName_17 (by decide) h (fun h => ?_) (fun h => ?_)
    · obtain ⟨v5, e_v5⟩ : ∃ y : Int32, y = x2_2 + 1 := ⟨_, rfl⟩
      have h := h v5 e_v5
      refine v_iinc (v := v5) (lv1 := [(2, .int v5), (0, .ref a), (1, .int p1)]) F dX6_indexOfName_22 (q := 2) rfl (by rw [e_v5]; rfl) (by rw [hN]; decide) rfl ?_
      refine v_goto (tgt := 2) F dX6_indexOfName_25 (by decide) ?_
      exact v_sub [1, 2, 0] rfl (h r_a)
    · refine v_iload_n F dX6_indexOfName_20 2 rfl rfl ?_
      exact v_iret F hQ h (by decide) dX6_indexOfName_21
theorem dX6_ticksOf_0 : decode cX6_ticksOf 0 = .ok (.aload_n 0, 1) := by decide +kernel
theorem dX6_ticksOf_1 : decode cX6_ticksOf 1 = .ok (.iload_n 1, 1) := by decide +kernel
theorem dX6_ticksOf_2 : decode cX6_ticksOf 2 = .ok (.invokevirtual 60, 3) := by decide +kernel
theorem dX6_ticksOf_5 : decode cX6_ticksOf 5 = .ok (.ifCond .eq 12, 3) := by decide +kernel
theorem dX6_ticksOf_8 : decode cX6_ticksOf 8 = .ok (.aload_n 0, 1) := by decide +kernel
theorem dX6_ticksOf_9 : decode cX6_ticksOf 9 = .ok (.getfield 28, 3) := by decide +kernel
theorem dX6_ticksOf_12 : decode cX6_ticksOf 12 = .ok (.iload_n 1, 1) := by decide +kernel
theorem dX6_ticksOf_13 : decode cX6_ticksOf 13 = .ok (.laload, 1) := by decide +kernel
theorem dX6_ticksOf_14 : decode cX6_ticksOf 14 = .ok (.goto 4, 3) := by decide +kernel
theorem dX6_ticksOf_17 : decode cX6_ticksOf 17 = .ok (.lconst 0, 1) := by decide +kernel
theorem dX6_ticksOf_18 : decode cX6_ticksOf 18 = .ok (.lreturn, 1) := by decide +kernel
abbrev rm_X6_ticksOf : Room := { frames := 1, cells := 0, slots := 0, locals := 21 }
def wp_X6_ticksOf (a : Nat) (p1 : Int32) (S : PS) (Q : Int64 → PS → Prop) : Prop :=
  wp_X6_holds a p1 S (fun (r2 : Int32) (S1 : PS) => 
 (if r2 = 0 then
 Q 0 S1
 else
 (∃ b3, fR S1 50 a = some b3 ∧ (vp_in p1 (aN S1 b3) ∧ Q (aL S1 20 b3 (p1).toNatClampNeg) S1))))
set_option maxRecDepth 100000 in
set_option maxHeartbeats 4000000 in
theorem c_X6_ticksOf {l : Launch} {E : EE} {A : Nat → Prop} {a : Nat} {p1 : Int32} {S : PS} {Q : Int64 → PS → Prop} (r_a : Rf S a 5) (h : wp_X6_ticksOf a p1 S Q) : MtL l yX6_ticksOf (.code yX6_ticksOf cX6_ticksOf 2 (some .long)) rm_X6_ticksOf E A [.ref a, .int p1] S Q := by
  refine MtL.of (by decide) (Nat.le_of_ble_eq_true rfl) (fun X F hQ hN => ?_)
  show VV X (0, 0) S [(0, .ref a), (1, .int p1)] [] 0
  unfold wp_X6_ticksOf at h
  refine v_aload_n F dX6_ticksOf_0 0 rfl rfl ?_
  refine v_iload_n F dX6_ticksOf_1 1 rfl rfl ?_
  refine v_cI0 (v_runV F k_X6_60 rfl (c_X6_holds r_a h) r_a rfl rfl (Nat.le_of_ble_eq_true rfl) (by decide) (by decide) dX6_ticksOf_2) ⟨rfl, rfl⟩ (fun r2 S1 h hE => ?_)
  obtain ⟨nz_r2, h⟩ := h
  have r_a := r_a.tr hE
  refine v_if_eq (tgt := 17) F dX6_ticksOf_5 (by decide) h (fun h => ?_) (fun h => ?_)
  · refine v_lconst (v := 0) F dX6_ticksOf_17 (by decide) ?_
    exact v_lret F hQ h (by decide) dX6_ticksOf_18
  · refine v_aload_n F dX6_ticksOf_8 0 rfl rfl ?_
    refine g_X6_28 F r_a h dX6_ticksOf_9 (fun b3 r_b3 h => ?_)
    refine v_iload_n F dX6_ticksOf_12 1 rfl rfl ?_
    refine v_lald F r_b3 o_20 h dX6_ticksOf_13 (fun h => ?_)
    refine v_goto (tgt := 18) F dX6_ticksOf_14 (by decide) ?_
    exact v_lret F hQ h (by decide) dX6_ticksOf_18
theorem dX6_namedEntry_0 : decode cX6_namedEntry 0 = .ok (.iload_n 1, 1) := by decide +kernel
theorem dX6_namedEntry_1 : decode cX6_namedEntry 1 = .ok (.ifCond .lt 20, 3) := by decide +kernel
theorem dX6_namedEntry_4 : decode cX6_namedEntry 4 = .ok (.iload_n 1, 1) := by decide +kernel
theorem dX6_namedEntry_5 : decode cX6_namedEntry 5 = .ok (.aload_n 0, 1) := by decide +kernel
theorem dX6_namedEntry_6 : decode cX6_namedEntry 6 = .ok (.getfield 57, 3) := by decide +kernel
theorem dX6_namedEntry_9 : decode cX6_namedEntry 9 = .ok (.if_icmp .ge 12, 3) := by decide +kernel
theorem dX6_namedEntry_12 : decode cX6_namedEntry 12 = .ok (.aload_n 0, 1) := by decide +kernel
theorem dX6_namedEntry_13 : decode cX6_namedEntry 13 = .ok (.getfield 41, 3) := by decide +kernel
theorem dX6_namedEntry_16 : decode cX6_namedEntry 16 = .ok (.iload_n 1, 1) := by decide +kernel
theorem dX6_namedEntry_17 : decode cX6_namedEntry 17 = .ok (.iaload, 1) := by decide +kernel
theorem dX6_namedEntry_18 : decode cX6_namedEntry 18 = .ok (.goto 4, 3) := by decide +kernel
theorem dX6_namedEntry_21 : decode cX6_namedEntry 21 = .ok (.iconst (-1), 1) := by decide +kernel
theorem dX6_namedEntry_22 : decode cX6_namedEntry 22 = .ok (.ireturn, 1) := by decide +kernel
abbrev rm_X6_namedEntry : Room := { frames := 0, cells := 0, slots := 0, locals := 0 }
def wp_X6_namedEntry (a : Nat) (p1 : Int32) (S : PS) (Q : Int32 → PS → Prop) : Prop :=
  (if p1 < 0 then
 Q (-1) S
 else
 (if fI S 54 a ≤ p1 then
 Q (-1) S
 else
 (∃ b1, fR S 56 a = some b1 ∧ (vp_in p1 (aN S b1) ∧ Q (aI S 24 b1 (p1).toNatClampNeg) S))))
set_option maxRecDepth 100000 in
set_option maxHeartbeats 4000000 in
theorem c_X6_namedEntry {l : Launch} {E : EE} {A : Nat → Prop} {a : Nat} {p1 : Int32} {S : PS} {Q : Int32 → PS → Prop} (r_a : Rf S a 5) (h : wp_X6_namedEntry a p1 S Q) : MtI l yX6_namedEntry (.code yX6_namedEntry cX6_namedEntry 2 (some .int)) rm_X6_namedEntry E A [.ref a, .int p1] S Q := by
  refine MtI.of (by decide) (Nat.le_of_ble_eq_true rfl) (fun X F hQ hN => ?_)
  show VV X (0, 0) S [(0, .ref a), (1, .int p1)] [] 0
  unfold wp_X6_namedEntry at h
  refine v_iload_n F dX6_namedEntry_0 1 rfl rfl ?_
  refine v_if_lt (tgt := 21) F dX6_namedEntry_1 (by decide) h (fun h => ?_) (fun h => ?_)
  · refine v_iconst (v := (-1)) F dX6_namedEntry_21 (by decide) ?_
    exact v_iret F hQ h (by decide) dX6_namedEntry_22
  · refine v_iload_n F dX6_namedEntry_4 1 rfl rfl ?_
    refine v_aload_n F dX6_namedEntry_5 0 rfl rfl ?_
    refine g_X6_57 F r_a dX6_namedEntry_6 ?_
    refine v_icmp_ge (tgt := 21) F dX6_namedEntry_9 (by decide) h (fun h => ?_) (fun h => ?_)
    · refine v_iconst (v := (-1)) F dX6_namedEntry_21 (by decide) ?_
      exact v_iret F hQ h (by decide) dX6_namedEntry_22
    · refine v_aload_n F dX6_namedEntry_12 0 rfl rfl ?_
      refine g_X6_41 F r_a h dX6_namedEntry_13 (fun b1 r_b1 h => ?_)
      refine v_iload_n F dX6_namedEntry_16 1 rfl rfl ?_
      refine v_iald F r_b1 o_24 h dX6_namedEntry_17 (fun h => ?_)
      refine v_goto (tgt := 22) F dX6_namedEntry_18 (by decide) ?_
      exact v_iret F hQ h (by decide) dX6_namedEntry_22
theorem dX6_parametersOf_0 : decode cX6_parametersOf 0 = .ok (.iload_n 1, 1) := by decide +kernel
theorem dX6_parametersOf_1 : decode cX6_parametersOf 1 = .ok (.ifCond .lt 20, 3) := by decide +kernel
theorem dX6_parametersOf_4 : decode cX6_parametersOf 4 = .ok (.iload_n 1, 1) := by decide +kernel
theorem dX6_parametersOf_5 : decode cX6_parametersOf 5 = .ok (.aload_n 0, 1) := by decide +kernel
theorem dX6_parametersOf_6 : decode cX6_parametersOf 6 = .ok (.getfield 57, 3) := by decide +kernel
theorem dX6_parametersOf_9 : decode cX6_parametersOf 9 = .ok (.if_icmp .ge 12, 3) := by decide +kernel
theorem dX6_parametersOf_12 : decode cX6_parametersOf 12 = .ok (.aload_n 0, 1) := by decide +kernel
theorem dX6_parametersOf_13 : decode cX6_parametersOf 13 = .ok (.getfield 44, 3) := by decide +kernel
theorem dX6_parametersOf_16 : decode cX6_parametersOf 16 = .ok (.iload_n 1, 1) := by decide +kernel
theorem dX6_parametersOf_17 : decode cX6_parametersOf 17 = .ok (.iaload, 1) := by decide +kernel
theorem dX6_parametersOf_18 : decode cX6_parametersOf 18 = .ok (.goto 4, 3) := by decide +kernel
theorem dX6_parametersOf_21 : decode cX6_parametersOf 21 = .ok (.iconst 0, 1) := by decide +kernel
theorem dX6_parametersOf_22 : decode cX6_parametersOf 22 = .ok (.ireturn, 1) := by decide +kernel
abbrev rm_X6_parametersOf : Room := { frames := 0, cells := 0, slots := 0, locals := 0 }
def wp_X6_parametersOf (a : Nat) (p1 : Int32) (S : PS) (Q : Int32 → PS → Prop) : Prop :=
  (if p1 < 0 then
 Q 0 S
 else
 (if fI S 54 a ≤ p1 then
 Q 0 S
 else
 (∃ b1, fR S 57 a = some b1 ∧ (vp_in p1 (aN S b1) ∧ Q (aI S 25 b1 (p1).toNatClampNeg) S))))
set_option maxRecDepth 100000 in
set_option maxHeartbeats 4000000 in
theorem c_X6_parametersOf {l : Launch} {E : EE} {A : Nat → Prop} {a : Nat} {p1 : Int32} {S : PS} {Q : Int32 → PS → Prop} (r_a : Rf S a 5) (h : wp_X6_parametersOf a p1 S Q) : MtI l yX6_parametersOf (.code yX6_parametersOf cX6_parametersOf 2 (some .int)) rm_X6_parametersOf E A [.ref a, .int p1] S Q := by
  refine MtI.of (by decide) (Nat.le_of_ble_eq_true rfl) (fun X F hQ hN => ?_)
  show VV X (0, 0) S [(0, .ref a), (1, .int p1)] [] 0
  unfold wp_X6_parametersOf at h
  refine v_iload_n F dX6_parametersOf_0 1 rfl rfl ?_
  refine v_if_lt (tgt := 21) F dX6_parametersOf_1 (by decide) h (fun h => ?_) (fun h => ?_)
  · refine v_iconst (v := 0) F dX6_parametersOf_21 (by decide) ?_
    exact v_iret F hQ h (by decide) dX6_parametersOf_22
  · refine v_iload_n F dX6_parametersOf_4 1 rfl rfl ?_
    refine v_aload_n F dX6_parametersOf_5 0 rfl rfl ?_
    refine g_X6_57 F r_a dX6_parametersOf_6 ?_
    refine v_icmp_ge (tgt := 21) F dX6_parametersOf_9 (by decide) h (fun h => ?_) (fun h => ?_)
    · refine v_iconst (v := 0) F dX6_parametersOf_21 (by decide) ?_
      exact v_iret F hQ h (by decide) dX6_parametersOf_22
    · refine v_aload_n F dX6_parametersOf_12 0 rfl rfl ?_
      refine g_X6_44 F r_a h dX6_parametersOf_13 (fun b1 r_b1 h => ?_)
      refine v_iload_n F dX6_parametersOf_16 1 rfl rfl ?_
      refine v_iald F r_b1 o_25 h dX6_parametersOf_17 (fun h => ?_)
      refine v_goto (tgt := 22) F dX6_parametersOf_18 (by decide) ?_
      exact v_iret F hQ h (by decide) dX6_parametersOf_22
