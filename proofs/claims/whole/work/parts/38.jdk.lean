theorem dJ1_canEncode_9a6ad_0 : decode cJ1_canEncode_9a6ad 0 = .ok (.iload_n 0, 1) := by decide +kernel
theorem dJ1_canEncode_9a6ad_1 : decode cJ1_canEncode_9a6ad 1 = .ok (.ifCond .lt 14, 3) := by decide +kernel
theorem dJ1_canEncode_9a6ad_4 : decode cJ1_canEncode_9a6ad 4 = .ok (.iload_n 0, 1) := by decide +kernel
theorem dJ1_canEncode_9a6ad_5 : decode cJ1_canEncode_9a6ad 5 = .ok (.sipush 255, 3) := by decide +kernel
theorem dJ1_canEncode_9a6ad_8 : decode cJ1_canEncode_9a6ad 8 = .ok (.if_icmp .gt 7, 3) := by decide +kernel
theorem dJ1_canEncode_9a6ad_11 : decode cJ1_canEncode_9a6ad 11 = .ok (.iconst 1, 1) := by decide +kernel
theorem dJ1_canEncode_9a6ad_12 : decode cJ1_canEncode_9a6ad 12 = .ok (.goto 4, 3) := by decide +kernel
theorem dJ1_canEncode_9a6ad_15 : decode cJ1_canEncode_9a6ad 15 = .ok (.iconst 0, 1) := by decide +kernel
theorem dJ1_canEncode_9a6ad_16 : decode cJ1_canEncode_9a6ad 16 = .ok (.ireturn, 1) := by decide +kernel
abbrev rm_J1_canEncode_9a6ad : Room := { frames := 0, cells := 0, slots := 0, locals := 0 }
def wp_J1_canEncode_9a6ad (p1 : Int32) (S : PS) (Q : Int32 → PS → Prop) : Prop :=
  (if p1 < 0 then
 Q 0 S
 else
 (if 255 < p1 then
 Q 0 S
 else
 Q 1 S))
set_option maxRecDepth 100000 in
set_option maxHeartbeats 4000000 in
theorem c_J1_canEncode_9a6ad {l : Launch} {E : EE} {A : Nat → Prop} {p1 : Int32} {S : PS} {Q : Int32 → PS → Prop} (h : wp_J1_canEncode_9a6ad p1 S Q) : MtI l yJ1_canEncode_9a6ad (.code yJ1_canEncode_9a6ad cJ1_canEncode_9a6ad 1 (some .boolean)) rm_J1_canEncode_9a6ad E A [.int p1] S (fun r S1 => nz r ∧ Q r S1) := by
  refine MtI.ofJ (by decide +kernel) (Nat.le_of_ble_eq_true rfl) (fun X F hQ hN => ?_)
  show VV X (0, 0) S [(0, .int p1)] [] 0
  unfold wp_J1_canEncode_9a6ad at h
  refine v_iload_n F dJ1_canEncode_9a6ad_0 0 rfl rfl ?_
  refine v_if_lt (tgt := 15) F dJ1_canEncode_9a6ad_1 (by decide) h (fun h => ?_) (fun h => ?_)
  · refine v_iconst (v := 0) F dJ1_canEncode_9a6ad_15 (by decide) ?_
    exact v_zret F hQ (by decide) ⟨nz0, h⟩ (by decide) dJ1_canEncode_9a6ad_16
  · refine v_iload_n F dJ1_canEncode_9a6ad_4 0 rfl rfl ?_
    refine v_sipush (v := 255) F dJ1_canEncode_9a6ad_5 (by decide) ?_
    refine v_icmp_gt (tgt := 15) F dJ1_canEncode_9a6ad_8 (by decide) h (fun h => ?_) (fun h => ?_)
    · refine v_iconst (v := 0) F dJ1_canEncode_9a6ad_15 (by decide) ?_
      exact v_zret F hQ (by decide) ⟨nz0, h⟩ (by decide) dJ1_canEncode_9a6ad_16
    · refine v_iconst (v := 1) F dJ1_canEncode_9a6ad_11 (by decide) ?_
      refine v_goto (tgt := 16) F dJ1_canEncode_9a6ad_12 (by decide) ?_
      exact v_zret F hQ (by decide) ⟨nz1, h⟩ (by decide) dJ1_canEncode_9a6ad_16
theorem dJ1_indexOfChar_4cfef_0 : decode cJ1_indexOfChar_4cfef 0 = .ok (.iload_n 1, 1) := by decide +kernel
theorem dJ1_indexOfChar_4cfef_1 : decode cJ1_indexOfChar_4cfef 1 = .ok (.i2b, 1) := by decide +kernel
theorem dJ1_indexOfChar_4cfef_2 : decode cJ1_indexOfChar_4cfef 2 = .ok (.istore 4, 2) := by decide +kernel
theorem dJ1_indexOfChar_4cfef_4 : decode cJ1_indexOfChar_4cfef 4 = .ok (.iload_n 2, 1) := by decide +kernel
theorem dJ1_indexOfChar_4cfef_5 : decode cJ1_indexOfChar_4cfef 5 = .ok (.istore 5, 2) := by decide +kernel
theorem dJ1_indexOfChar_4cfef_7 : decode cJ1_indexOfChar_4cfef 7 = .ok (.iload 5, 2) := by decide +kernel
theorem dJ1_indexOfChar_4cfef_9 : decode cJ1_indexOfChar_4cfef 9 = .ok (.iload_n 3, 1) := by decide +kernel
theorem dJ1_indexOfChar_4cfef_10 : decode cJ1_indexOfChar_4cfef 10 = .ok (.if_icmp .ge 21, 3) := by decide +kernel
theorem dJ1_indexOfChar_4cfef_13 : decode cJ1_indexOfChar_4cfef 13 = .ok (.aload_n 0, 1) := by decide +kernel
theorem dJ1_indexOfChar_4cfef_14 : decode cJ1_indexOfChar_4cfef 14 = .ok (.iload 5, 2) := by decide +kernel
theorem dJ1_indexOfChar_4cfef_16 : decode cJ1_indexOfChar_4cfef 16 = .ok (.baload, 1) := by decide +kernel
theorem dJ1_indexOfChar_4cfef_17 : decode cJ1_indexOfChar_4cfef 17 = .ok (.iload 4, 2) := by decide +kernel
theorem dJ1_indexOfChar_4cfef_19 : decode cJ1_indexOfChar_4cfef 19 = .ok (.if_icmp .ne 6, 3) := by decide +kernel
theorem dJ1_indexOfChar_4cfef_22 : decode cJ1_indexOfChar_4cfef 22 = .ok (.iload 5, 2) := by decide +kernel
theorem dJ1_indexOfChar_4cfef_24 : decode cJ1_indexOfChar_4cfef 24 = .ok (.ireturn, 1) := by decide +kernel
theorem dJ1_indexOfChar_4cfef_25 : decode cJ1_indexOfChar_4cfef 25 = .ok (.iinc 5 1, 3) := by decide +kernel
theorem dJ1_indexOfChar_4cfef_28 : decode cJ1_indexOfChar_4cfef 28 = .ok (.goto (-21), 3) := by decide +kernel
theorem dJ1_indexOfChar_4cfef_31 : decode cJ1_indexOfChar_4cfef 31 = .ok (.iconst (-1), 1) := by decide +kernel
theorem dJ1_indexOfChar_4cfef_32 : decode cJ1_indexOfChar_4cfef 32 = .ok (.ireturn, 1) := by decide +kernel
abbrev rm_J1_indexOfChar_4cfef : Room := { frames := 0, cells := 0, slots := 0, locals := 0 }
def wp_J1_indexOfChar_4cfef (p1 : Nat) (p2 : Int32) (p3 : Int32) (p4 : Int32) (S : PS) (Q : Int32 → PS → Prop) : Prop :=
  (∀ v1, v1 = p2.toInt8.toInt32 → (∀ P7_2 : Int32 → PS → Prop, (∀ (x5_3 : Int32) (S4 : PS),
 (if p4 ≤ x5_3 then
 Q (-1) S4
 else
 (vp_in x5_3 (lenS.getD p1 0) ∧ (if (bytS.getD p1 []).getD (x5_3).toNatClampNeg 0 = v1 then
 Q x5_3 S4
 else
 (∀ v5, v5 = x5_3 + 1 → P7_2 v5 S4))))
 → P7_2 x5_3 S4) → P7_2 p3 S))
set_option maxRecDepth 100000 in
set_option maxHeartbeats 4000000 in
theorem c_J1_indexOfChar_4cfef {l : Launch} {E : EE} {A : Nat → Prop} {p1 : Nat} {p2 : Int32} {p3 : Int32} {p4 : Int32} {S : PS} {Q : Int32 → PS → Prop} {adK adV : Nat → Nat} (hS : hasStr E adK adV) (i_p1 : p1 < 16) (h : wp_J1_indexOfChar_4cfef p1 p2 p3 p4 S Q) : MtI l yJ1_indexOfChar_4cfef (.code yJ1_indexOfChar_4cfef cJ1_indexOfChar_4cfef 6 (some .int)) rm_J1_indexOfChar_4cfef E A [.ref (adV p1), .int p2, .int p3, .int p4] S Q := by
  refine MtI.ofJ2 (by decide +kernel) (Nat.le_of_ble_eq_true rfl) (fun X F hQ hX => ?_)
  show VV X (0, 0) S [(0, .ref (adV p1)), (1, .int p2), (2, .int p3), (3, .int p4)] [] 0
  obtain ⟨hXl, hXE, hXA, hN, hnm⟩ := hX
  subst hXE
  subst hXA
  subst hXl
  unfold wp_J1_indexOfChar_4cfef at h
  refine v_iload_n F dJ1_indexOfChar_4cfef_0 1 rfl rfl ?_
  refine v_i2b F dJ1_indexOfChar_4cfef_1 ?_
  refine v_topi (fun v1 e_v1 => ?_)
  have h := h v1 e_v1
  refine v_istore (lv1 := [(4, .int v1), (0, .ref (adV p1)), (1, .int p2), (2, .int p3), (3, .int p4)]) F dJ1_indexOfChar_4cfef_2 (by rw [hN]; decide) rfl ?_
  refine v_iload_n F dJ1_indexOfChar_4cfef_4 3 rfl rfl ?_
  refine v_istore (lv1 := [(5, .int p3), (4, .int v1), (0, .ref (adV p1)), (1, .int p2), (2, .int p3), (3, .int p4)]) F dJ1_indexOfChar_4cfef_5 (by rw [hN]; decide) rfl ?_
  refine v_sub [2, 5, 1, 0] rfl ?_
  refine h (fun (x5_3 : Int32) (S4 : PS) => VV X (0, 0) S4 [(0, .ref (adV p1)), (3, .int p4), (4, .int v1), (5, .int x5_3)] [] 7) (fun x5_3 S4 h => ?_)
  refine v_iload F dJ1_indexOfChar_4cfef_7 3 rfl ?_
  refine v_iload_n F dJ1_indexOfChar_4cfef_9 1 rfl rfl ?_
  refine v_icmp_ge (tgt := 31) F dJ1_indexOfChar_4cfef_10 (by decide) h (fun h => ?_) (fun h => ?_)
  · refine v_iconst (v := (-1)) F dJ1_indexOfChar_4cfef_31 (by decide) ?_
    exact v_iret F hQ h (by decide) dJ1_indexOfChar_4cfef_32
  · refine v_aload_n F dJ1_indexOfChar_4cfef_13 0 rfl rfl ?_
    refine v_iload F dJ1_indexOfChar_4cfef_14 3 rfl ?_
    refine v_sbald F hS i_p1 h dJ1_indexOfChar_4cfef_16 (fun h => ?_)
    refine v_iload F dJ1_indexOfChar_4cfef_17 2 rfl ?_
    refine v_icmp_ne (tgt := 25) F dJ1_indexOfChar_4cfef_19 (by decide) h (fun h => ?_) (fun h => ?_)
    · obtain ⟨v5, e_v5⟩ : ∃ y : Int32, y = x5_3 + 1 := ⟨_, rfl⟩
      have h := h v5 e_v5
      refine v_iinc (v := v5) (lv1 := [(5, .int v5), (0, .ref (adV p1)), (3, .int p4), (4, .int v1)]) F dJ1_indexOfChar_4cfef_25 (q := 3) rfl (by rw [e_v5]; rfl) (by rw [hN]; decide) rfl ?_
      refine v_goto (tgt := 7) F dJ1_indexOfChar_4cfef_28 (by decide) ?_
      exact v_sub [1, 2, 3, 0] rfl (h)
    · refine v_iload F dJ1_indexOfChar_4cfef_22 3 rfl ?_
      exact v_iret F hQ h (by decide) dJ1_indexOfChar_4cfef_24
theorem dJ1_indexOf_4cfef_0 : decode cJ1_indexOf_4cfef 0 = .ok (.iload_n 1, 1) := by decide +kernel
theorem dJ1_indexOf_4cfef_1 : decode cJ1_indexOf_4cfef 1 = .ok (.invokestatic 88, 3) := by decide +kernel
theorem dJ1_indexOf_4cfef_4 : decode cJ1_indexOf_4cfef 4 = .ok (.ifCond .ne 5, 3) := by decide +kernel
theorem dJ1_indexOf_4cfef_7 : decode cJ1_indexOf_4cfef 7 = .ok (.iconst (-1), 1) := by decide +kernel
theorem dJ1_indexOf_4cfef_8 : decode cJ1_indexOf_4cfef 8 = .ok (.ireturn, 1) := by decide +kernel
theorem dJ1_indexOf_4cfef_9 : decode cJ1_indexOf_4cfef 9 = .ok (.iload_n 2, 1) := by decide +kernel
theorem dJ1_indexOf_4cfef_10 : decode cJ1_indexOf_4cfef 10 = .ok (.iconst 0, 1) := by decide +kernel
theorem dJ1_indexOf_4cfef_11 : decode cJ1_indexOf_4cfef 11 = .ok (.invokestatic 92, 3) := by decide +kernel
theorem dJ1_indexOf_4cfef_14 : decode cJ1_indexOf_4cfef 14 = .ok (.istore_n 2, 1) := by decide +kernel
theorem dJ1_indexOf_4cfef_15 : decode cJ1_indexOf_4cfef 15 = .ok (.iload_n 3, 1) := by decide +kernel
theorem dJ1_indexOf_4cfef_16 : decode cJ1_indexOf_4cfef 16 = .ok (.aload_n 0, 1) := by decide +kernel
theorem dJ1_indexOf_4cfef_17 : decode cJ1_indexOf_4cfef 17 = .ok (.arraylength, 1) := by decide +kernel
theorem dJ1_indexOf_4cfef_18 : decode cJ1_indexOf_4cfef 18 = .ok (.invokestatic 38, 3) := by decide +kernel
theorem dJ1_indexOf_4cfef_21 : decode cJ1_indexOf_4cfef 21 = .ok (.istore_n 3, 1) := by decide +kernel
theorem dJ1_indexOf_4cfef_22 : decode cJ1_indexOf_4cfef 22 = .ok (.iload_n 2, 1) := by decide +kernel
theorem dJ1_indexOf_4cfef_23 : decode cJ1_indexOf_4cfef 23 = .ok (.iload_n 3, 1) := by decide +kernel
theorem dJ1_indexOf_4cfef_24 : decode cJ1_indexOf_4cfef 24 = .ok (.if_icmp .lt 5, 3) := by decide +kernel
theorem dJ1_indexOf_4cfef_27 : decode cJ1_indexOf_4cfef 27 = .ok (.iconst (-1), 1) := by decide +kernel
theorem dJ1_indexOf_4cfef_28 : decode cJ1_indexOf_4cfef 28 = .ok (.ireturn, 1) := by decide +kernel
theorem dJ1_indexOf_4cfef_29 : decode cJ1_indexOf_4cfef 29 = .ok (.aload_n 0, 1) := by decide +kernel
theorem dJ1_indexOf_4cfef_30 : decode cJ1_indexOf_4cfef 30 = .ok (.iload_n 1, 1) := by decide +kernel
theorem dJ1_indexOf_4cfef_31 : decode cJ1_indexOf_4cfef 31 = .ok (.iload_n 2, 1) := by decide +kernel
theorem dJ1_indexOf_4cfef_32 : decode cJ1_indexOf_4cfef 32 = .ok (.iload_n 3, 1) := by decide +kernel
theorem dJ1_indexOf_4cfef_33 : decode cJ1_indexOf_4cfef 33 = .ok (.invokestatic 95, 3) := by decide +kernel
theorem dJ1_indexOf_4cfef_36 : decode cJ1_indexOf_4cfef 36 = .ok (.ireturn, 1) := by decide +kernel
abbrev rm_J1_indexOf_4cfef : Room := { frames := 1, cells := 0, slots := 0, locals := 60 }
def wp_J1_indexOf_4cfef (p1 : Nat) (p2 : Int32) (p3 : Int32) (p4 : Int32) (S : PS) (Q : Int32 → PS → Prop) : Prop :=
  wp_J1_canEncode_9a6ad p2 S (fun (r2 : Int32) (S1 : PS) => 
 (if r2 = 0 then
 Q (-1) S1
 else
 (∀ v3, v3 = (if p3 < 0 then 0 else p3) → (∀ v4, v4 = (if nI (lenS.getD p1 0) < p4 then nI (lenS.getD p1 0) else p4) → (if v3 < v4 then
 wp_J1_indexOfChar_4cfef p1 p2 v3 v4 S1 (fun (r6 : Int32) (S5 : PS) => 
 Q r6 S5)
 else
 Q (-1) S1)))))
set_option maxRecDepth 100000 in
set_option maxHeartbeats 4000000 in
theorem c_J1_indexOf_4cfef {l : Launch} {E : EE} {A : Nat → Prop} {p1 : Nat} {p2 : Int32} {p3 : Int32} {p4 : Int32} {S : PS} {Q : Int32 → PS → Prop} {adK adV : Nat → Nat} (hS : hasStr E adK adV) (i_p1 : p1 < 16) (h : wp_J1_indexOf_4cfef p1 p2 p3 p4 S Q) : MtI l yJ1_indexOf_4cfef (.code yJ1_indexOf_4cfef cJ1_indexOf_4cfef 4 (some .int)) rm_J1_indexOf_4cfef E A [.ref (adV p1), .int p2, .int p3, .int p4] S Q := by
  refine MtI.ofJ2 (by decide +kernel) (Nat.le_of_ble_eq_true rfl) (fun X F hQ hX => ?_)
  show VV X (0, 0) S [(0, .ref (adV p1)), (1, .int p2), (2, .int p3), (3, .int p4)] [] 0
  obtain ⟨hXl, hXE, hXA, hN, hnm⟩ := hX
  subst hXE
  subst hXA
  subst hXl
  unfold wp_J1_indexOf_4cfef at h
  refine v_iload_n F dJ1_indexOf_4cfef_0 1 rfl rfl ?_
  refine v_cI0 (v_runS F k_J1_88 (c_J1_canEncode_9a6ad h) rfl rfl (Nat.le_of_ble_eq_true rfl) (by decide) (by decide) dJ1_indexOf_4cfef_1) ⟨rfl, rfl⟩ (fun r2 S1 h hE => ?_)
  obtain ⟨nz_r2, h⟩ := h
  refine v_if_ne (tgt := 9) F dJ1_indexOf_4cfef_4 (by decide) h (fun h => ?_) (fun h => ?_)
  · refine v_iload_n F dJ1_indexOf_4cfef_9 2 rfl rfl ?_
    refine v_iconst (v := 0) F dJ1_indexOf_4cfef_10 (by decide) ?_
    refine v_mmax F k_J1_92 (by decide) (Nat.le_of_ble_eq_true rfl) dJ1_indexOf_4cfef_11 ?_
    refine v_topi (fun v3 e_v3 => ?_)
    have h := h v3 e_v3
    refine v_istore_n (lv1 := [(2, .int v3), (0, .ref (adV p1)), (1, .int p2), (3, .int p4)]) F dJ1_indexOf_4cfef_14 rfl (by rw [hN]; decide) rfl ?_
    refine v_iload_n F dJ1_indexOf_4cfef_15 3 rfl rfl ?_
    refine v_aload_n F dJ1_indexOf_4cfef_16 1 rfl rfl ?_
    refine v_slen F hS i_p1 dJ1_indexOf_4cfef_17 ?_
    refine v_mmin F k_J1_38 (by decide) (Nat.le_of_ble_eq_true rfl) dJ1_indexOf_4cfef_18 ?_
    refine v_topi (fun v4 e_v4 => ?_)
    have h := h v4 e_v4
    refine v_istore_n (lv1 := [(3, .int v4), (2, .int v3), (0, .ref (adV p1)), (1, .int p2)]) F dJ1_indexOf_4cfef_21 rfl (by rw [hN]; decide) rfl ?_
    refine v_iload_n F dJ1_indexOf_4cfef_22 1 rfl rfl ?_
    refine v_iload_n F dJ1_indexOf_4cfef_23 0 rfl rfl ?_
    refine v_icmp_lt (tgt := 29) F dJ1_indexOf_4cfef_24 (by decide) h (fun h => ?_) (fun h => ?_)
    · refine v_aload_n F dJ1_indexOf_4cfef_29 2 rfl rfl ?_
      refine v_iload_n F dJ1_indexOf_4cfef_30 3 rfl rfl ?_
      refine v_iload_n F dJ1_indexOf_4cfef_31 1 rfl rfl ?_
      refine v_iload_n F dJ1_indexOf_4cfef_32 0 rfl rfl ?_
      refine v_cI0 (v_runS F k_J1_95 (c_J1_indexOfChar_4cfef hS i_p1 h) rfl rfl (Nat.le_of_ble_eq_true rfl) (by decide) (by decide) dJ1_indexOf_4cfef_33) ⟨rfl, rfl⟩ (fun r6 S5 h hE => ?_)
      exact v_iret F hQ h (by decide) dJ1_indexOf_4cfef_36
    · refine v_iconst (v := (-1)) F dJ1_indexOf_4cfef_27 (by decide) ?_
      exact v_iret F hQ h (by decide) dJ1_indexOf_4cfef_28
  · refine v_iconst (v := (-1)) F dJ1_indexOf_4cfef_7 (by decide) ?_
    exact v_iret F hQ h (by decide) dJ1_indexOf_4cfef_8
theorem dJ0_isLatin1_aae02_0 : decode cJ0_isLatin1_aae02 0 = .ok (.getstatic 38, 3) := by decide +kernel
theorem dJ0_isLatin1_aae02_3 : decode cJ0_isLatin1_aae02 3 = .ok (.ifCond .eq 14, 3) := by decide +kernel
theorem dJ0_isLatin1_aae02_6 : decode cJ0_isLatin1_aae02 6 = .ok (.aload_n 0, 1) := by decide +kernel
theorem dJ0_isLatin1_aae02_7 : decode cJ0_isLatin1_aae02 7 = .ok (.getfield 15, 3) := by decide +kernel
theorem dJ0_isLatin1_aae02_10 : decode cJ0_isLatin1_aae02 10 = .ok (.ifCond .ne 7, 3) := by decide +kernel
theorem dJ0_isLatin1_aae02_13 : decode cJ0_isLatin1_aae02 13 = .ok (.iconst 1, 1) := by decide +kernel
theorem dJ0_isLatin1_aae02_14 : decode cJ0_isLatin1_aae02 14 = .ok (.goto 4, 3) := by decide +kernel
theorem dJ0_isLatin1_aae02_17 : decode cJ0_isLatin1_aae02 17 = .ok (.iconst 0, 1) := by decide +kernel
theorem dJ0_isLatin1_aae02_18 : decode cJ0_isLatin1_aae02 18 = .ok (.ireturn, 1) := by decide +kernel
abbrev rm_J0_isLatin1_aae02 : Room := { frames := 0, cells := 0, slots := 0, locals := 0 }
def wp_J0_isLatin1_aae02 (a : Nat) (S : PS) (Q : Int32 → PS → Prop) : Prop :=
  (if (1 : Int32) = 0 then
 Q 0 S
 else
 (if (0 : Int32) = 0 then
 Q 1 S
 else
 Q 0 S))
set_option maxRecDepth 100000 in
set_option maxHeartbeats 4000000 in
theorem c_J0_isLatin1_aae02 {l : Launch} {E : EE} {A : Nat → Prop} {a : Nat} {S : PS} {Q : Int32 → PS → Prop} {adK adV : Nat → Nat} (hS : hasStr E adK adV) (i_a : a < 16) (h : wp_J0_isLatin1_aae02 a S Q) : MtI l yJ0_isLatin1_aae02 (.code yJ0_isLatin1_aae02 cJ0_isLatin1_aae02 1 (some .boolean)) rm_J0_isLatin1_aae02 E A [.ref (adK a)] S (fun r S1 => nz r ∧ Q r S1) := by
  refine MtI.ofJ2 (by decide +kernel) (Nat.le_of_ble_eq_true rfl) (fun X F hQ hX => ?_)
  show VV X (0, 0) S [(0, .ref (adK a))] [] 0
  obtain ⟨hXl, hXE, hXA, hN, hnm⟩ := hX
  subst hXE
  subst hXA
  subst hXl
  unfold wp_J0_isLatin1_aae02 at h
  refine v_gCS F hS kf_J0_38 dJ0_isLatin1_aae02_0 ?_
  refine v_if_eq (tgt := 17) F dJ0_isLatin1_aae02_3 (by decide) h (fun h => ?_) (fun h => ?_)
  · refine v_iconst (v := 0) F dJ0_isLatin1_aae02_17 (by decide) ?_
    exact v_zret F hQ (by decide) ⟨nz0, h⟩ (by decide) dJ0_isLatin1_aae02_18
  · refine v_aload_n F dJ0_isLatin1_aae02_6 0 rfl rfl ?_
    refine v_sgC F hS i_a kf_J0_15 dJ0_isLatin1_aae02_7 ?_
    refine v_if_ne (tgt := 17) F dJ0_isLatin1_aae02_10 (by decide) h (fun h => ?_) (fun h => ?_)
    · refine v_iconst (v := 0) F dJ0_isLatin1_aae02_17 (by decide) ?_
      exact v_zret F hQ (by decide) ⟨nz0, h⟩ (by decide) dJ0_isLatin1_aae02_18
    · refine v_iconst (v := 1) F dJ0_isLatin1_aae02_13 (by decide) ?_
      refine v_goto (tgt := 18) F dJ0_isLatin1_aae02_14 (by decide) ?_
      exact v_zret F hQ (by decide) ⟨nz1, h⟩ (by decide) dJ0_isLatin1_aae02_18
theorem dJ0_coder_7d493_0 : decode cJ0_coder_7d493 0 = .ok (.getstatic 38, 3) := by decide +kernel
theorem dJ0_coder_7d493_3 : decode cJ0_coder_7d493 3 = .ok (.ifCond .eq 10, 3) := by decide +kernel
theorem dJ0_coder_7d493_6 : decode cJ0_coder_7d493 6 = .ok (.aload_n 0, 1) := by decide +kernel
theorem dJ0_coder_7d493_7 : decode cJ0_coder_7d493 7 = .ok (.getfield 15, 3) := by decide +kernel
theorem dJ0_coder_7d493_10 : decode cJ0_coder_7d493 10 = .ok (.goto 4, 3) := by decide +kernel
theorem dJ0_coder_7d493_13 : decode cJ0_coder_7d493 13 = .ok (.iconst 1, 1) := by decide +kernel
theorem dJ0_coder_7d493_14 : decode cJ0_coder_7d493 14 = .ok (.ireturn, 1) := by decide +kernel
abbrev rm_J0_coder_7d493 : Room := { frames := 0, cells := 0, slots := 0, locals := 0 }
def wp_J0_coder_7d493 (a : Nat) (S : PS) (Q : Int32 → PS → Prop) : Prop :=
  (if (1 : Int32) = 0 then
 Q 1 S
 else
 Q 0 S)
set_option maxRecDepth 100000 in
set_option maxHeartbeats 4000000 in
theorem c_J0_coder_7d493 {l : Launch} {E : EE} {A : Nat → Prop} {a : Nat} {S : PS} {Q : Int32 → PS → Prop} {adK adV : Nat → Nat} (hS : hasStr E adK adV) (i_a : a < 16) (h : wp_J0_coder_7d493 a S Q) : MtI l yJ0_coder_7d493 (.code yJ0_coder_7d493 cJ0_coder_7d493 1 (some .byte)) rm_J0_coder_7d493 E A [.ref (adK a)] S (fun r S1 => narrow .byte (.int r) = .int r ∧ Q r S1) := by
  refine MtI.ofJ2 (by decide +kernel) (Nat.le_of_ble_eq_true rfl) (fun X F hQ hX => ?_)
  show VV X (0, 0) S [(0, .ref (adK a))] [] 0
  obtain ⟨hXl, hXE, hXA, hN, hnm⟩ := hX
  subst hXE
  subst hXA
  subst hXl
  unfold wp_J0_coder_7d493 at h
  refine v_gCS F hS kf_J0_38 dJ0_coder_7d493_0 ?_
  refine v_if_eq (tgt := 13) F dJ0_coder_7d493_3 (by decide) h (fun h => ?_) (fun h => ?_)
  · refine v_iconst (v := 1) F dJ0_coder_7d493_13 (by decide) ?_
    exact v_zret F hQ rfl ⟨rfl, h⟩ (by decide) dJ0_coder_7d493_14
  · refine v_aload_n F dJ0_coder_7d493_6 0 rfl rfl ?_
    refine v_sgC F hS i_a kf_J0_15 dJ0_coder_7d493_7 ?_
    refine v_goto (tgt := 14) F dJ0_coder_7d493_10 (by decide) ?_
    exact v_zret F hQ rfl ⟨rfl, h⟩ (by decide) dJ0_coder_7d493_14
theorem dJ0_length_8abf5_0 : decode cJ0_length_8abf5 0 = .ok (.aload_n 0, 1) := by decide +kernel
theorem dJ0_length_8abf5_1 : decode cJ0_length_8abf5 1 = .ok (.getfield 9, 3) := by decide +kernel
theorem dJ0_length_8abf5_4 : decode cJ0_length_8abf5 4 = .ok (.arraylength, 1) := by decide +kernel
theorem dJ0_length_8abf5_5 : decode cJ0_length_8abf5 5 = .ok (.aload_n 0, 1) := by decide +kernel
theorem dJ0_length_8abf5_6 : decode cJ0_length_8abf5 6 = .ok (.invokevirtual 335, 3) := by decide +kernel
theorem dJ0_length_8abf5_9 : decode cJ0_length_8abf5 9 = .ok (.ishr, 1) := by decide +kernel
theorem dJ0_length_8abf5_10 : decode cJ0_length_8abf5 10 = .ok (.ireturn, 1) := by decide +kernel
abbrev rm_J0_length_8abf5 : Room := { frames := 1, cells := 0, slots := 0, locals := 20 }
def wp_J0_length_8abf5 (a : Nat) (S : PS) (Q : Int32 → PS → Prop) : Prop :=
  wp_J0_coder_7d493 a S (fun (r2 : Int32) (S1 : PS) => 
 Q ((nI (lenS.getD a 0)) >>> (r2 &&& 31)) S1)
set_option maxRecDepth 100000 in
set_option maxHeartbeats 4000000 in
theorem c_J0_length_8abf5 {l : Launch} {E : EE} {A : Nat → Prop} {a : Nat} {S : PS} {Q : Int32 → PS → Prop} {adK adV : Nat → Nat} (hS : hasStr E adK adV) (i_a : a < 16) (h : wp_J0_length_8abf5 a S Q) : MtI l yJ0_length_8abf5 (.code yJ0_length_8abf5 cJ0_length_8abf5 1 (some .int)) rm_J0_length_8abf5 E A [.ref (adK a)] S Q := by
  refine MtI.ofJ2 (by decide +kernel) (Nat.le_of_ble_eq_true rfl) (fun X F hQ hX => ?_)
  show VV X (0, 0) S [(0, .ref (adK a))] [] 0
  obtain ⟨hXl, hXE, hXA, hN, hnm⟩ := hX
  subst hXE
  subst hXA
  subst hXl
  unfold wp_J0_length_8abf5 at h
  refine v_aload_n F dJ0_length_8abf5_0 0 rfl rfl ?_
  refine v_sgV F hS i_a kf_J0_9 dJ0_length_8abf5_1 ?_
  refine v_slen F hS i_a dJ0_length_8abf5_4 ?_
  refine v_aload_n F dJ0_length_8abf5_5 0 rfl rfl ?_
  refine v_cI0 (v_runVS F hS i_a k_J0_335 rfl (c_J0_coder_7d493 hS i_a h) rfl rfl (Nat.le_of_ble_eq_true rfl) (by decide) (by decide) dJ0_length_8abf5_6) ⟨rfl, rfl⟩ (fun r2 S1 h hE => ?_)
  obtain ⟨nz_r2, h⟩ := h
  refine v_ishr F dJ0_length_8abf5_9 ?_
  exact v_iret F hQ h (by decide) dJ0_length_8abf5_10
theorem dJ0_indexOf_7cf53_0 : decode cJ0_indexOf_7cf53 0 = .ok (.aload_n 0, 1) := by decide +kernel
theorem dJ0_indexOf_7cf53_1 : decode cJ0_indexOf_7cf53 1 = .ok (.invokevirtual 492, 3) := by decide +kernel
theorem dJ0_indexOf_7cf53_4 : decode cJ0_indexOf_7cf53 4 = .ok (.ifCond .eq 19, 3) := by decide +kernel
theorem dJ0_indexOf_7cf53_7 : decode cJ0_indexOf_7cf53 7 = .ok (.aload_n 0, 1) := by decide +kernel
theorem dJ0_indexOf_7cf53_8 : decode cJ0_indexOf_7cf53 8 = .ok (.getfield 9, 3) := by decide +kernel
theorem dJ0_indexOf_7cf53_11 : decode cJ0_indexOf_7cf53 11 = .ok (.iload_n 1, 1) := by decide +kernel
theorem dJ0_indexOf_7cf53_12 : decode cJ0_indexOf_7cf53 12 = .ok (.iload_n 2, 1) := by decide +kernel
theorem dJ0_indexOf_7cf53_13 : decode cJ0_indexOf_7cf53 13 = .ok (.aload_n 0, 1) := by decide +kernel
theorem dJ0_indexOf_7cf53_14 : decode cJ0_indexOf_7cf53 14 = .ok (.invokevirtual 505, 3) := by decide +kernel
theorem dJ0_indexOf_7cf53_17 : decode cJ0_indexOf_7cf53 17 = .ok (.invokestatic 637, 3) := by decide +kernel
theorem dJ0_indexOf_7cf53_20 : decode cJ0_indexOf_7cf53 20 = .ok (.goto 16, 3) := by decide +kernel
theorem dJ0_indexOf_7cf53_23 : decode cJ0_indexOf_7cf53 23 = .ok (.aload_n 0, 1) := by decide +kernel
theorem dJ0_indexOf_7cf53_24 : decode cJ0_indexOf_7cf53 24 = .ok (.getfield 9, 3) := by decide +kernel
theorem dJ0_indexOf_7cf53_27 : decode cJ0_indexOf_7cf53 27 = .ok (.iload_n 1, 1) := by decide +kernel
theorem dJ0_indexOf_7cf53_28 : decode cJ0_indexOf_7cf53 28 = .ok (.iload_n 2, 1) := by decide +kernel
theorem dJ0_indexOf_7cf53_29 : decode cJ0_indexOf_7cf53 29 = .ok (.aload_n 0, 1) := by decide +kernel
theorem dJ0_indexOf_7cf53_30 : decode cJ0_indexOf_7cf53 30 = .ok (.invokevirtual 505, 3) := by decide +kernel
theorem dJ0_indexOf_7cf53_33 : decode cJ0_indexOf_7cf53 33 = .ok (.invokestatic 640, 3) := by decide +kernel
theorem dJ0_indexOf_7cf53_36 : decode cJ0_indexOf_7cf53 36 = .ok (.ireturn, 1) := by decide +kernel
abbrev rm_J0_indexOf_7cf53 : Room := { frames := 2, cells := 0, slots := 0, locals := 83 }
def wp_J0_indexOf_7cf53 (a : Nat) (p1 : Int32) (p2 : Int32) (S : PS) (Q : Int32 → PS → Prop) : Prop :=
  wp_J0_isLatin1_aae02 a S (fun (r2 : Int32) (S1 : PS) => 
 (if r2 = 0 then
 wp_J0_length_8abf5 a S1 (fun (r4 : Int32) (S3 : PS) => 
 False)
 else
 wp_J0_length_8abf5 a S1 (fun (r6 : Int32) (S5 : PS) => 
 wp_J1_indexOf_4cfef a p1 p2 r6 S5 (fun (r8 : Int32) (S7 : PS) => 
 Q r8 S7))))
set_option maxRecDepth 100000 in
set_option maxHeartbeats 4000000 in
theorem c_J0_indexOf_7cf53 {l : Launch} {E : EE} {A : Nat → Prop} {a : Nat} {p1 : Int32} {p2 : Int32} {S : PS} {Q : Int32 → PS → Prop} {adK adV : Nat → Nat} (hS : hasStr E adK adV) (i_a : a < 16) (h : wp_J0_indexOf_7cf53 a p1 p2 S Q) : MtI l yJ0_indexOf_7cf53 (.code yJ0_indexOf_7cf53 cJ0_indexOf_7cf53 3 (some .int)) rm_J0_indexOf_7cf53 E A [.ref (adK a), .int p1, .int p2] S Q := by
  refine MtI.ofJ2 (by decide +kernel) (Nat.le_of_ble_eq_true rfl) (fun X F hQ hX => ?_)
  show VV X (0, 0) S [(0, .ref (adK a)), (1, .int p1), (2, .int p2)] [] 0
  obtain ⟨hXl, hXE, hXA, hN, hnm⟩ := hX
  subst hXE
  subst hXA
  subst hXl
  unfold wp_J0_indexOf_7cf53 at h
  refine v_aload_n F dJ0_indexOf_7cf53_0 0 rfl rfl ?_
  refine v_cI0 (v_runVS F hS i_a k_J0_492 rfl (c_J0_isLatin1_aae02 hS i_a h) rfl rfl (Nat.le_of_ble_eq_true rfl) (by decide) (by decide) dJ0_indexOf_7cf53_1) ⟨rfl, rfl⟩ (fun r2 S1 h hE => ?_)
  obtain ⟨nz_r2, h⟩ := h
  refine v_if_eq (tgt := 23) F dJ0_indexOf_7cf53_4 (by decide) h (fun h => ?_) (fun h => ?_)
  · refine v_aload_n F dJ0_indexOf_7cf53_23 0 rfl rfl ?_
    refine v_sgV F hS i_a kf_J0_9 dJ0_indexOf_7cf53_24 ?_
    refine v_iload_n F dJ0_indexOf_7cf53_27 1 rfl rfl ?_
    refine v_iload_n F dJ0_indexOf_7cf53_28 2 rfl rfl ?_
    refine v_aload_n F dJ0_indexOf_7cf53_29 0 rfl rfl ?_
    refine v_cI0 (v_runVS F hS i_a k_J0_505 rfl (c_J0_length_8abf5 hS i_a h) rfl rfl (Nat.le_of_ble_eq_true rfl) (by decide) (by decide) dJ0_indexOf_7cf53_30) ⟨rfl, rfl⟩ (fun r4 S3 h hE => ?_)
    exact h.elim
  · refine v_aload_n F dJ0_indexOf_7cf53_7 0 rfl rfl ?_
    refine v_sgV F hS i_a kf_J0_9 dJ0_indexOf_7cf53_8 ?_
    refine v_iload_n F dJ0_indexOf_7cf53_11 1 rfl rfl ?_
    refine v_iload_n F dJ0_indexOf_7cf53_12 2 rfl rfl ?_
    refine v_aload_n F dJ0_indexOf_7cf53_13 0 rfl rfl ?_
    refine v_cI0 (v_runVS F hS i_a k_J0_505 rfl (c_J0_length_8abf5 hS i_a h) rfl rfl (Nat.le_of_ble_eq_true rfl) (by decide) (by decide) dJ0_indexOf_7cf53_14) ⟨rfl, rfl⟩ (fun r6 S5 h hE => ?_)
    refine v_cI0 (v_runS F k_J0_637 (c_J1_indexOf_4cfef hS i_a h) rfl rfl (Nat.le_of_ble_eq_true rfl) (by decide) (by decide) dJ0_indexOf_7cf53_17) ⟨rfl, rfl⟩ (fun r8 S7 h hE => ?_)
    refine v_goto (tgt := 36) F dJ0_indexOf_7cf53_20 (by decide) ?_
    exact v_iret F hQ h (by decide) dJ0_indexOf_7cf53_36
theorem dJ0_indexOf_0f7a4_0 : decode cJ0_indexOf_0f7a4 0 = .ok (.aload_n 0, 1) := by decide +kernel
theorem dJ0_indexOf_0f7a4_1 : decode cJ0_indexOf_0f7a4 1 = .ok (.iload_n 1, 1) := by decide +kernel
theorem dJ0_indexOf_0f7a4_2 : decode cJ0_indexOf_0f7a4 2 = .ok (.iconst 0, 1) := by decide +kernel
theorem dJ0_indexOf_0f7a4_3 : decode cJ0_indexOf_0f7a4 3 = .ok (.invokevirtual 633, 3) := by decide +kernel
theorem dJ0_indexOf_0f7a4_6 : decode cJ0_indexOf_0f7a4 6 = .ok (.ireturn, 1) := by decide +kernel
abbrev rm_J0_indexOf_0f7a4 : Room := { frames := 3, cells := 0, slots := 0, locals := 105 }
def wp_J0_indexOf_0f7a4 (a : Nat) (p1 : Int32) (S : PS) (Q : Int32 → PS → Prop) : Prop :=
  wp_J0_indexOf_7cf53 a p1 0 S (fun (r2 : Int32) (S1 : PS) => 
 Q r2 S1)
set_option maxRecDepth 100000 in
set_option maxHeartbeats 4000000 in
theorem c_J0_indexOf_0f7a4 {l : Launch} {E : EE} {A : Nat → Prop} {a : Nat} {p1 : Int32} {S : PS} {Q : Int32 → PS → Prop} {adK adV : Nat → Nat} (hS : hasStr E adK adV) (i_a : a < 16) (h : wp_J0_indexOf_0f7a4 a p1 S Q) : MtI l yJ0_indexOf_0f7a4 (.code yJ0_indexOf_0f7a4 cJ0_indexOf_0f7a4 2 (some .int)) rm_J0_indexOf_0f7a4 E A [.ref (adK a), .int p1] S Q := by
  refine MtI.ofJ2 (by decide +kernel) (Nat.le_of_ble_eq_true rfl) (fun X F hQ hX => ?_)
  show VV X (0, 0) S [(0, .ref (adK a)), (1, .int p1)] [] 0
  obtain ⟨hXl, hXE, hXA, hN, hnm⟩ := hX
  subst hXE
  subst hXA
  subst hXl
  unfold wp_J0_indexOf_0f7a4 at h
  refine v_aload_n F dJ0_indexOf_0f7a4_0 0 rfl rfl ?_
  refine v_iload_n F dJ0_indexOf_0f7a4_1 1 rfl rfl ?_
  refine v_iconst (v := 0) F dJ0_indexOf_0f7a4_2 (by decide) ?_
  refine v_cI0 (v_runVS F hS i_a k_J0_633 rfl (c_J0_indexOf_7cf53 hS i_a h) rfl rfl (Nat.le_of_ble_eq_true rfl) (by decide) (by decide) dJ0_indexOf_0f7a4_3) ⟨rfl, rfl⟩ (fun r2 S1 h hE => ?_)
  exact v_iret F hQ h (by decide) dJ0_indexOf_0f7a4_6
theorem dJ3_checkIndex_8e157_0 : decode cJ3_checkIndex_8e157 0 = .ok (.iload_n 0, 1) := by decide +kernel
theorem dJ3_checkIndex_8e157_1 : decode cJ3_checkIndex_8e157 1 = .ok (.ifCond .lt 8, 3) := by decide +kernel
theorem dJ3_checkIndex_8e157_4 : decode cJ3_checkIndex_8e157 4 = .ok (.iload_n 0, 1) := by decide +kernel
theorem dJ3_checkIndex_8e157_5 : decode cJ3_checkIndex_8e157 5 = .ok (.iload_n 1, 1) := by decide +kernel
theorem dJ3_checkIndex_8e157_6 : decode cJ3_checkIndex_8e157 6 = .ok (.if_icmp .lt 10, 3) := by decide +kernel
theorem dJ3_checkIndex_8e157_9 : decode cJ3_checkIndex_8e157 9 = .ok (.aload_n 2, 1) := by decide +kernel
theorem dJ3_checkIndex_8e157_10 : decode cJ3_checkIndex_8e157 10 = .ok (.iload_n 0, 1) := by decide +kernel
theorem dJ3_checkIndex_8e157_11 : decode cJ3_checkIndex_8e157 11 = .ok (.iload_n 1, 1) := by decide +kernel
theorem dJ3_checkIndex_8e157_12 : decode cJ3_checkIndex_8e157 12 = .ok (.invokestatic 95, 3) := by decide +kernel
theorem dJ3_checkIndex_8e157_15 : decode cJ3_checkIndex_8e157 15 = .ok (.athrow, 1) := by decide +kernel
theorem dJ3_checkIndex_8e157_16 : decode cJ3_checkIndex_8e157 16 = .ok (.iload_n 0, 1) := by decide +kernel
theorem dJ3_checkIndex_8e157_17 : decode cJ3_checkIndex_8e157 17 = .ok (.ireturn, 1) := by decide +kernel
abbrev rm_J3_checkIndex_8e157n : Room := { frames := 0, cells := 0, slots := 0, locals := 0 }
def wp_J3_checkIndex_8e157n (p1 : Int32) (p2 : Int32) (S : PS) (Q : Int32 → PS → Prop) : Prop :=
  (∀ K9_2 : PS → Prop, (∀ (S1 : PS),
 False
 → K9_2 S1) →
 (if p1 < 0 then
 False
 else
 (if p1 < p2 then
 Q p1 S
 else
 False)))
set_option maxRecDepth 100000 in
set_option maxHeartbeats 4000000 in
theorem c_J3_checkIndex_8e157n {l : Launch} {E : EE} {A : Nat → Prop} {p1 : Int32} {p2 : Int32} {S : PS} {Q : Int32 → PS → Prop} (h : wp_J3_checkIndex_8e157n p1 p2 S Q) : MtI l yJ3_checkIndex_8e157 (.code yJ3_checkIndex_8e157 cJ3_checkIndex_8e157 3 (some .int)) rm_J3_checkIndex_8e157n E A [.int p1, .int p2, .null] S Q := by
  refine MtI.ofJ (by decide +kernel) (Nat.le_of_ble_eq_true rfl) (fun X F hQ hN => ?_)
  show VV X (0, 0) S [(0, .int p1), (1, .int p2), (2, .null)] [] 0
  unfold wp_J3_checkIndex_8e157n at h
  refine v_iload_n F dJ3_checkIndex_8e157_0 0 rfl rfl ?_
  have h := h (fun (S1 : PS) => VV X (0, 0) S1 [(0, .int p1), (1, .int p2), (2, .null)] [] 9) (by
    intro S1 h
    refine v_aload_nN F dJ3_checkIndex_8e157_9 2 rfl rfl ?_
    refine v_iload_n F dJ3_checkIndex_8e157_10 0 rfl rfl ?_
    refine v_iload_n F dJ3_checkIndex_8e157_11 1 rfl rfl ?_
    exact h.elim)
  refine v_if_lt (tgt := 9) F dJ3_checkIndex_8e157_1 (by decide) h (fun h => ?_) (fun h => ?_)
  · refine v_aload_nN F dJ3_checkIndex_8e157_9 2 rfl rfl ?_
    refine v_iload_n F dJ3_checkIndex_8e157_10 0 rfl rfl ?_
    refine v_iload_n F dJ3_checkIndex_8e157_11 1 rfl rfl ?_
    exact h.elim
  · refine v_iload_n F dJ3_checkIndex_8e157_4 0 rfl rfl ?_
    refine v_iload_n F dJ3_checkIndex_8e157_5 1 rfl rfl ?_
    refine v_icmp_lt (tgt := 16) F dJ3_checkIndex_8e157_6 (by decide) h (fun h => ?_) (fun h => ?_)
    · refine v_iload_n F dJ3_checkIndex_8e157_16 0 rfl rfl ?_
      exact v_iret F hQ h (by decide) dJ3_checkIndex_8e157_17
    · refine v_aload_nN F dJ3_checkIndex_8e157_9 2 rfl rfl ?_
      refine v_iload_n F dJ3_checkIndex_8e157_10 0 rfl rfl ?_
      refine v_iload_n F dJ3_checkIndex_8e157_11 1 rfl rfl ?_
      exact h.elim
abbrev rm_J3_checkIndex_8e157r : Room := { frames := 0, cells := 0, slots := 0, locals := 0 }
def wp_J3_checkIndex_8e157r (p1 : Int32) (p2 : Int32) (p3 : Nat) (S : PS) (Q : Int32 → PS → Prop) : Prop :=
  (∀ K9_2 : PS → Prop, (∀ (S1 : PS),
 False
 → K9_2 S1) →
 (if p1 < 0 then
 K9_2 S
 else
 (if p1 < p2 then
 Q p1 S
 else
 K9_2 S)))
set_option maxRecDepth 100000 in
set_option maxHeartbeats 4000000 in
theorem c_J3_checkIndex_8e157r {l : Launch} {E : EE} {A : Nat → Prop} {p1 : Int32} {p2 : Int32} {p3 : Nat} {S : PS} {Q : Int32 → PS → Prop} (h : wp_J3_checkIndex_8e157r p1 p2 p3 S Q) : MtI l yJ3_checkIndex_8e157 (.code yJ3_checkIndex_8e157 cJ3_checkIndex_8e157 3 (some .int)) rm_J3_checkIndex_8e157r E A [.int p1, .int p2, .ref p3] S Q := by
  refine MtI.ofJ (by decide +kernel) (Nat.le_of_ble_eq_true rfl) (fun X F hQ hN => ?_)
  show VV X (0, 0) S [(0, .int p1), (1, .int p2), (2, .ref p3)] [] 0
  unfold wp_J3_checkIndex_8e157r at h
  refine v_iload_n F dJ3_checkIndex_8e157_0 0 rfl rfl ?_
  have h := h (fun (S1 : PS) => VV X (0, 0) S1 [(0, .int p1), (1, .int p2), (2, .ref p3)] [] 9) (by
    intro S1 h
    refine v_aload_n F dJ3_checkIndex_8e157_9 2 rfl rfl ?_
    refine v_iload_n F dJ3_checkIndex_8e157_10 0 rfl rfl ?_
    refine v_iload_n F dJ3_checkIndex_8e157_11 1 rfl rfl ?_
    exact h.elim)
  refine v_if_lt (tgt := 9) F dJ3_checkIndex_8e157_1 (by decide) h (fun h => ?_) (fun h => ?_)
  · exact v_sub [0, 1, 2] rfl (h)
  · refine v_iload_n F dJ3_checkIndex_8e157_4 0 rfl rfl ?_
    refine v_iload_n F dJ3_checkIndex_8e157_5 1 rfl rfl ?_
    refine v_icmp_lt (tgt := 16) F dJ3_checkIndex_8e157_6 (by decide) h (fun h => ?_) (fun h => ?_)
    · refine v_iload_n F dJ3_checkIndex_8e157_16 0 rfl rfl ?_
      exact v_iret F hQ h (by decide) dJ3_checkIndex_8e157_17
    · exact v_sub [0, 1, 2] rfl (h)
theorem dJ0_checkIndex_df160_0 : decode cJ0_checkIndex_df160 0 = .ok (.iload_n 0, 1) := by decide +kernel
theorem dJ0_checkIndex_df160_1 : decode cJ0_checkIndex_df160 1 = .ok (.iload_n 1, 1) := by decide +kernel
theorem dJ0_checkIndex_df160_2 : decode cJ0_checkIndex_df160 2 = .ok (.getstatic 1053, 3) := by decide +kernel
theorem dJ0_checkIndex_df160_5 : decode cJ0_checkIndex_df160 5 = .ok (.invokestatic 1059, 3) := by decide +kernel
theorem dJ0_checkIndex_df160_8 : decode cJ0_checkIndex_df160 8 = .ok (.pop, 1) := by decide +kernel
theorem dJ0_checkIndex_df160_9 : decode cJ0_checkIndex_df160 9 = .ok (.return_, 1) := by decide +kernel
abbrev rm_J0_checkIndex_df160 : Room := { frames := 1, cells := 0, slots := 0, locals := 22 }
def wp_J0_checkIndex_df160 (p1 : Int32) (p2 : Int32) (S : PS) (Q : PS → Prop) : Prop :=
  (wp_J3_checkIndex_8e157n p1 p2 S (fun (r3 : Int32) (S2 : PS) => 
 Q S2) ∧ ∀ w1 : Nat, wp_J3_checkIndex_8e157r p1 p2 w1 S (fun (r5 : Int32) (S4 : PS) => 
 Q S4))
set_option maxRecDepth 100000 in
set_option maxHeartbeats 4000000 in
theorem c_J0_checkIndex_df160 {l : Launch} {E : EE} {A : Nat → Prop} {p1 : Int32} {p2 : Int32} {S : PS} {Q : PS → Prop} {adK adV : Nat → Nat} (hS : hasStr E adK adV) (h : wp_J0_checkIndex_df160 p1 p2 S Q) : MtV l yJ0_checkIndex_df160 (.code yJ0_checkIndex_df160 cJ0_checkIndex_df160 2 none) rm_J0_checkIndex_df160 E A [.int p1, .int p2] S Q := by
  refine MtV.ofJ2 (by decide +kernel) (Nat.le_of_ble_eq_true rfl) (fun X F hQ hX => ?_)
  show VV X (0, 0) S [(0, .int p1), (1, .int p2)] [] 0
  obtain ⟨hXl, hXE, hXA, hN, hnm⟩ := hX
  subst hXE
  subst hXA
  subst hXl
  unfold wp_J0_checkIndex_df160 at h
  refine v_iload_n F dJ0_checkIndex_df160_0 0 rfl rfl ?_
  refine v_iload_n F dJ0_checkIndex_df160_1 1 rfl rfl ?_
  refine v_gFo F hS kf_J0_1053 dJ0_checkIndex_df160_2 ?_ (fun w1 => ?_)
  · have h := h.1
    refine v_cI0 (v_runS F k_J0_1059 (c_J3_checkIndex_8e157n h) rfl rfl (Nat.le_of_ble_eq_true rfl) (by decide) (by decide) dJ0_checkIndex_df160_5) ⟨rfl, rfl⟩ (fun r3 S2 h hE => ?_)
    refine v_pop F dJ0_checkIndex_df160_8 rfl ?_
    exact v_vret F hQ h (by decide) dJ0_checkIndex_df160_9
  · have h := h.2 w1
    refine v_cI0 (v_runS F k_J0_1059 (c_J3_checkIndex_8e157r h) rfl rfl (Nat.le_of_ble_eq_true rfl) (by decide) (by decide) dJ0_checkIndex_df160_5) ⟨rfl, rfl⟩ (fun r5 S4 h hE => ?_)
    refine v_pop F dJ0_checkIndex_df160_8 rfl ?_
    exact v_vret F hQ h (by decide) dJ0_checkIndex_df160_9
theorem dJ1_charAt_3b067_0 : decode cJ1_charAt_3b067 0 = .ok (.iload_n 1, 1) := by decide +kernel
theorem dJ1_charAt_3b067_1 : decode cJ1_charAt_3b067 1 = .ok (.aload_n 0, 1) := by decide +kernel
theorem dJ1_charAt_3b067_2 : decode cJ1_charAt_3b067 2 = .ok (.arraylength, 1) := by decide +kernel
theorem dJ1_charAt_3b067_3 : decode cJ1_charAt_3b067 3 = .ok (.invokestatic 9, 3) := by decide +kernel
theorem dJ1_charAt_3b067_6 : decode cJ1_charAt_3b067 6 = .ok (.aload_n 0, 1) := by decide +kernel
theorem dJ1_charAt_3b067_7 : decode cJ1_charAt_3b067 7 = .ok (.iload_n 1, 1) := by decide +kernel
theorem dJ1_charAt_3b067_8 : decode cJ1_charAt_3b067 8 = .ok (.baload, 1) := by decide +kernel
theorem dJ1_charAt_3b067_9 : decode cJ1_charAt_3b067 9 = .ok (.sipush 255, 3) := by decide +kernel
theorem dJ1_charAt_3b067_12 : decode cJ1_charAt_3b067 12 = .ok (.iand, 1) := by decide +kernel
theorem dJ1_charAt_3b067_13 : decode cJ1_charAt_3b067 13 = .ok (.i2c, 1) := by decide +kernel
theorem dJ1_charAt_3b067_14 : decode cJ1_charAt_3b067 14 = .ok (.ireturn, 1) := by decide +kernel
abbrev rm_J1_charAt_3b067 : Room := { frames := 2, cells := 0, slots := 0, locals := 43 }
def wp_J1_charAt_3b067 (p1 : Nat) (p2 : Int32) (S : PS) (Q : Int32 → PS → Prop) : Prop :=
  wp_J0_checkIndex_df160 p2 (nI (lenS.getD p1 0)) S (fun (S1 : PS) => 
 (vp_in p2 (lenS.getD p1 0) ∧ Q (((((bytS.getD p1 []).getD (p2).toNatClampNeg 0) &&& 255).toUInt32 % 65536).toInt32) S1))
set_option maxRecDepth 100000 in
set_option maxHeartbeats 4000000 in
theorem c_J1_charAt_3b067 {l : Launch} {E : EE} {A : Nat → Prop} {p1 : Nat} {p2 : Int32} {S : PS} {Q : Int32 → PS → Prop} {adK adV : Nat → Nat} (hS : hasStr E adK adV) (i_p1 : p1 < 16) (h : wp_J1_charAt_3b067 p1 p2 S Q) : MtI l yJ1_charAt_3b067 (.code yJ1_charAt_3b067 cJ1_charAt_3b067 2 (some .char)) rm_J1_charAt_3b067 E A [.ref (adV p1), .int p2] S (fun r S1 => narrow .char (.int r) = .int r ∧ Q r S1) := by
  refine MtI.ofJ2 (by decide +kernel) (Nat.le_of_ble_eq_true rfl) (fun X F hQ hX => ?_)
  show VV X (0, 0) S [(0, .ref (adV p1)), (1, .int p2)] [] 0
  obtain ⟨hXl, hXE, hXA, hN, hnm⟩ := hX
  subst hXE
  subst hXA
  subst hXl
  unfold wp_J1_charAt_3b067 at h
  refine v_iload_n F dJ1_charAt_3b067_0 1 rfl rfl ?_
  refine v_aload_n F dJ1_charAt_3b067_1 0 rfl rfl ?_
  refine v_slen F hS i_p1 dJ1_charAt_3b067_2 ?_
  refine v_cV0 (v_runS F k_J1_9 (c_J0_checkIndex_df160 hS h) rfl rfl (Nat.le_of_ble_eq_true rfl) (by decide) (by decide) dJ1_charAt_3b067_3) ⟨rfl, rfl⟩ (fun  S1 h hE => ?_)
  refine v_aload_n F dJ1_charAt_3b067_6 0 rfl rfl ?_
  refine v_iload_n F dJ1_charAt_3b067_7 1 rfl rfl ?_
  refine v_sbald F hS i_p1 h dJ1_charAt_3b067_8 (fun h => ?_)
  refine v_sipush (v := 255) F dJ1_charAt_3b067_9 (by decide) ?_
  refine v_iand F dJ1_charAt_3b067_12 ?_
  refine v_i2c F dJ1_charAt_3b067_13 ?_
  exact v_zret F hQ (pk_nc _) ⟨pk_nc _, h⟩ (by decide) dJ1_charAt_3b067_14
theorem dJ0_charAt_5068e_0 : decode cJ0_charAt_5068e 0 = .ok (.aload_n 0, 1) := by decide +kernel
theorem dJ0_charAt_5068e_1 : decode cJ0_charAt_5068e 1 = .ok (.invokevirtual 492, 3) := by decide +kernel
theorem dJ0_charAt_5068e_4 : decode cJ0_charAt_5068e 4 = .ok (.ifCond .eq 12, 3) := by decide +kernel
theorem dJ0_charAt_5068e_7 : decode cJ0_charAt_5068e 7 = .ok (.aload_n 0, 1) := by decide +kernel
theorem dJ0_charAt_5068e_8 : decode cJ0_charAt_5068e 8 = .ok (.getfield 9, 3) := by decide +kernel
theorem dJ0_charAt_5068e_11 : decode cJ0_charAt_5068e 11 = .ok (.iload_n 1, 1) := by decide +kernel
theorem dJ0_charAt_5068e_12 : decode cJ0_charAt_5068e 12 = .ok (.invokestatic 495, 3) := by decide +kernel
theorem dJ0_charAt_5068e_15 : decode cJ0_charAt_5068e 15 = .ok (.ireturn, 1) := by decide +kernel
theorem dJ0_charAt_5068e_16 : decode cJ0_charAt_5068e 16 = .ok (.aload_n 0, 1) := by decide +kernel
theorem dJ0_charAt_5068e_17 : decode cJ0_charAt_5068e 17 = .ok (.getfield 9, 3) := by decide +kernel
theorem dJ0_charAt_5068e_20 : decode cJ0_charAt_5068e 20 = .ok (.iload_n 1, 1) := by decide +kernel
theorem dJ0_charAt_5068e_21 : decode cJ0_charAt_5068e 21 = .ok (.invokestatic 498, 3) := by decide +kernel
theorem dJ0_charAt_5068e_24 : decode cJ0_charAt_5068e 24 = .ok (.ireturn, 1) := by decide +kernel
abbrev rm_J0_charAt_5068e : Room := { frames := 3, cells := 0, slots := 0, locals := 64 }
def wp_J0_charAt_5068e (a : Nat) (p1 : Int32) (S : PS) (Q : Int32 → PS → Prop) : Prop :=
  wp_J0_isLatin1_aae02 a S (fun (r2 : Int32) (S1 : PS) => 
 (if r2 = 0 then
 False
 else
 wp_J1_charAt_3b067 a p1 S1 (fun (r4 : Int32) (S3 : PS) => 
 Q r4 S3)))
set_option maxRecDepth 100000 in
set_option maxHeartbeats 4000000 in
theorem c_J0_charAt_5068e {l : Launch} {E : EE} {A : Nat → Prop} {a : Nat} {p1 : Int32} {S : PS} {Q : Int32 → PS → Prop} {adK adV : Nat → Nat} (hS : hasStr E adK adV) (i_a : a < 16) (h : wp_J0_charAt_5068e a p1 S Q) : MtI l yJ0_charAt_5068e (.code yJ0_charAt_5068e cJ0_charAt_5068e 2 (some .char)) rm_J0_charAt_5068e E A [.ref (adK a), .int p1] S (fun r S1 => narrow .char (.int r) = .int r ∧ Q r S1) := by
  refine MtI.ofJ2 (by decide +kernel) (Nat.le_of_ble_eq_true rfl) (fun X F hQ hX => ?_)
  show VV X (0, 0) S [(0, .ref (adK a)), (1, .int p1)] [] 0
  obtain ⟨hXl, hXE, hXA, hN, hnm⟩ := hX
  subst hXE
  subst hXA
  subst hXl
  unfold wp_J0_charAt_5068e at h
  refine v_aload_n F dJ0_charAt_5068e_0 0 rfl rfl ?_
  refine v_cI0 (v_runVS F hS i_a k_J0_492 rfl (c_J0_isLatin1_aae02 hS i_a h) rfl rfl (Nat.le_of_ble_eq_true rfl) (by decide) (by decide) dJ0_charAt_5068e_1) ⟨rfl, rfl⟩ (fun r2 S1 h hE => ?_)
  obtain ⟨nz_r2, h⟩ := h
  refine v_if_eq (tgt := 16) F dJ0_charAt_5068e_4 (by decide) h (fun h => ?_) (fun h => ?_)
  · refine v_aload_n F dJ0_charAt_5068e_16 0 rfl rfl ?_
    refine v_sgV F hS i_a kf_J0_9 dJ0_charAt_5068e_17 ?_
    refine v_iload_n F dJ0_charAt_5068e_20 1 rfl rfl ?_
    exact h.elim
  · refine v_aload_n F dJ0_charAt_5068e_7 0 rfl rfl ?_
    refine v_sgV F hS i_a kf_J0_9 dJ0_charAt_5068e_8 ?_
    refine v_iload_n F dJ0_charAt_5068e_11 1 rfl rfl ?_
    refine v_cI0 (v_runS F k_J0_495 (c_J1_charAt_3b067 hS i_a h) rfl rfl (Nat.le_of_ble_eq_true rfl) (by decide) (by decide) dJ0_charAt_5068e_12) ⟨rfl, rfl⟩ (fun r4 S3 h hE => ?_)
    obtain ⟨nz_r4, h⟩ := h
    exact v_zret F hQ nz_r4 ⟨nz_r4, h⟩ (by decide) dJ0_charAt_5068e_15
