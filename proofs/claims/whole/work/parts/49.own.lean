theorem dX11_requireEvent_0 : decode cX11_requireEvent 0 = .ok (.iload_n 1, 1) := by decide +kernel
theorem dX11_requireEvent_1 : decode cX11_requireEvent 1 = .ok (.ifCond .lt 21, 3) := by decide +kernel
theorem dX11_requireEvent_4 : decode cX11_requireEvent 4 = .ok (.iload_n 1, 1) := by decide +kernel
theorem dX11_requireEvent_5 : decode cX11_requireEvent 5 = .ok (.aload_n 0, 1) := by decide +kernel
theorem dX11_requireEvent_6 : decode cX11_requireEvent 6 = .ok (.getfield 57, 3) := by decide +kernel
theorem dX11_requireEvent_9 : decode cX11_requireEvent 9 = .ok (.getfield 95, 3) := by decide +kernel
theorem dX11_requireEvent_12 : decode cX11_requireEvent 12 = .ok (.if_icmp .ge 10, 3) := by decide +kernel
theorem dX11_requireEvent_15 : decode cX11_requireEvent 15 = .ok (.iload_n 1, 1) := by decide +kernel
theorem dX11_requireEvent_16 : decode cX11_requireEvent 16 = .ok (.sipush 300, 3) := by decide +kernel
theorem dX11_requireEvent_19 : decode cX11_requireEvent 19 = .ok (.if_icmp .lt 13, 3) := by decide +kernel
theorem dX11_requireEvent_22 : decode cX11_requireEvent 22 = .ok (.new 163, 3) := by decide +kernel
theorem dX11_requireEvent_25 : decode cX11_requireEvent 25 = .ok (.dup, 1) := by decide +kernel
theorem dX11_requireEvent_26 : decode cX11_requireEvent 26 = .ok (.ldc 241, 2) := by decide +kernel
theorem dX11_requireEvent_28 : decode cX11_requireEvent 28 = .ok (.invokespecial 167, 3) := by decide +kernel
theorem dX11_requireEvent_31 : decode cX11_requireEvent 31 = .ok (.athrow, 1) := by decide +kernel
theorem dX11_requireEvent_32 : decode cX11_requireEvent 32 = .ok (.return_, 1) := by decide +kernel
abbrev rm_X11_requireEvent : Room := { frames := 6, cells := 1, slots := 6, locals := 100 }
def wp_X11_requireEvent (a : Nat) (p1 : Int32) (S : PS) (Q : PS → Prop) (QX : String → PS → Prop) : Prop :=
  (∀ K22_2 : PS → Prop, (∀ (S1 : PS),
 QX "java/lang/IndexOutOfBoundsException" S1
 → K22_2 S1) →
 (if p1 < 0 then
 K22_2 S
 else
 (∃ b3, fR S 94 a = some b3 ∧ (if fI S 70 b3 ≤ p1 then
 K22_2 S
 else
 (if p1 < 300 then
 Q S
 else
 K22_2 S)))))
set_option maxRecDepth 100000 in
set_option maxHeartbeats 4000000 in
theorem c_X11_requireEvent {l : Launch} {E : EE} {A : Nat → Prop} {a : Nat} {p1 : Int32} {S : PS} {Q : PS → Prop} {QX : String → PS → Prop} {adK adV : Nat → Nat} (hS : hasStr E adK adV) (hZ : hasEx E) (hl0 : l.stackTraces = false) (r_a : Rf S a 8) (h : wp_X11_requireEvent a p1 S Q QX) : XtV l yX11_requireEvent (.code yX11_requireEvent cX11_requireEvent 2 none) rm_X11_requireEvent E A [.ref a, .int p1] S Q QX := by
  refine XtV.of (by decide) (Nat.le_of_ble_eq_true rfl) (fun X F hQ hX hET => ?_)
  show VV X (0, 0) S [(0, .ref a), (1, .int p1)] [] 0
  obtain ⟨hXl, hXE, hXA, hN, hnm⟩ := hX
  subst hXE
  subst hXA
  subst hXl
  unfold wp_X11_requireEvent at h
  refine v_iload_n F dX11_requireEvent_0 1 rfl rfl ?_
  have h := h (fun (S1 : PS) => VV X (0, 0) S1 [] [] 22) (by
    intro S1 h
    exact v_thr F hS hZ hl0 hQ hET T_X11_163 (i := 9) (by decide) ⟨rfl, rfl⟩ h (by decide) (Nat.le_of_ble_eq_true rfl) (by decide) dX11_requireEvent_22 dX11_requireEvent_25 dX11_requireEvent_26 dX11_requireEvent_28 dX11_requireEvent_31)
  refine v_if_lt (tgt := 22) F dX11_requireEvent_1 (by decide) h (fun h => ?_) (fun h => ?_)
  · exact v_sub [] rfl (h)
  · refine v_iload_n F dX11_requireEvent_4 1 rfl rfl ?_
    refine v_aload_n F dX11_requireEvent_5 0 rfl rfl ?_
    refine g_X11_57 F r_a h dX11_requireEvent_6 (fun b3 r_b3 h => ?_)
    refine g_X11_95 F r_b3 dX11_requireEvent_9 ?_
    refine v_icmp_ge (tgt := 22) F dX11_requireEvent_12 (by decide) h (fun h => ?_) (fun h => ?_)
    · exact v_sub [] rfl (h)
    · refine v_iload_n F dX11_requireEvent_15 1 rfl rfl ?_
      refine v_sipush (v := 300) F dX11_requireEvent_16 (by decide) ?_
      refine v_icmp_lt (tgt := 32) F dX11_requireEvent_19 (by decide) h (fun h => ?_) (fun h => ?_)
      · exact x_vret F hQ h (by decide) dX11_requireEvent_32
      · exact v_sub [] rfl (h)
theorem dX11_feed_0 : decode cX11_feed 0 = .ok (.iload_n 3, 1) := by decide +kernel
theorem dX11_feed_1 : decode cX11_feed 1 = .ok (.iconst 1, 1) := by decide +kernel
theorem dX11_feed_2 : decode cX11_feed 2 = .ok (.if_icmp .lt 9, 3) := by decide +kernel
theorem dX11_feed_5 : decode cX11_feed 5 = .ok (.iload_n 3, 1) := by decide +kernel
theorem dX11_feed_6 : decode cX11_feed 6 = .ok (.bipush 8, 2) := by decide +kernel
theorem dX11_feed_8 : decode cX11_feed 8 = .ok (.if_icmp .le 13, 3) := by decide +kernel
theorem dX11_feed_11 : decode cX11_feed 11 = .ok (.new 64, 3) := by decide +kernel
theorem dX11_feed_14 : decode cX11_feed 14 = .ok (.dup, 1) := by decide +kernel
theorem dX11_feed_15 : decode cX11_feed 15 = .ok (.ldc 66, 2) := by decide +kernel
theorem dX11_feed_17 : decode cX11_feed 17 = .ok (.invokespecial 68, 3) := by decide +kernel
theorem dX11_feed_20 : decode cX11_feed 20 = .ok (.athrow, 1) := by decide +kernel
theorem dX11_feed_21 : decode cX11_feed 21 = .ok (.aload_n 0, 1) := by decide +kernel
theorem dX11_feed_22 : decode cX11_feed 22 = .ok (.getfield 13, 3) := by decide +kernel
theorem dX11_feed_25 : decode cX11_feed 25 = .ok (.iload_n 3, 1) := by decide +kernel
theorem dX11_feed_26 : decode cX11_feed 26 = .ok (.iadd, 1) := by decide +kernel
theorem dX11_feed_27 : decode cX11_feed 27 = .ok (.sipush 1500, 3) := by decide +kernel
theorem dX11_feed_30 : decode cX11_feed 30 = .ok (.if_icmp .le 13, 3) := by decide +kernel
theorem dX11_feed_33 : decode cX11_feed 33 = .ok (.new 71, 3) := by decide +kernel
theorem dX11_feed_36 : decode cX11_feed 36 = .ok (.dup, 1) := by decide +kernel
theorem dX11_feed_37 : decode cX11_feed 37 = .ok (.ldc 73, 2) := by decide +kernel
theorem dX11_feed_39 : decode cX11_feed 39 = .ok (.invokespecial 75, 3) := by decide +kernel
theorem dX11_feed_42 : decode cX11_feed 42 = .ok (.athrow, 1) := by decide +kernel
theorem dX11_feed_43 : decode cX11_feed 43 = .ok (.iload_n 3, 1) := by decide +kernel
theorem dX11_feed_44 : decode cX11_feed 44 = .ok (.iconst 1, 1) := by decide +kernel
theorem dX11_feed_45 : decode cX11_feed 45 = .ok (.isub, 1) := by decide +kernel
theorem dX11_feed_46 : decode cX11_feed 46 = .ok (.istore 4, 2) := by decide +kernel
theorem dX11_feed_48 : decode cX11_feed 48 = .ok (.iload 4, 2) := by decide +kernel
theorem dX11_feed_50 : decode cX11_feed 50 = .ok (.ifCond .lt 37, 3) := by decide +kernel
theorem dX11_feed_53 : decode cX11_feed 53 = .ok (.aload_n 0, 1) := by decide +kernel
theorem dX11_feed_54 : decode cX11_feed 54 = .ok (.getfield 9, 3) := by decide +kernel
theorem dX11_feed_57 : decode cX11_feed 57 = .ok (.aload_n 0, 1) := by decide +kernel
theorem dX11_feed_58 : decode cX11_feed 58 = .ok (.getfield 13, 3) := by decide +kernel
theorem dX11_feed_61 : decode cX11_feed 61 = .ok (.lload_n 1, 1) := by decide +kernel
theorem dX11_feed_62 : decode cX11_feed 62 = .ok (.bipush 8, 2) := by decide +kernel
theorem dX11_feed_64 : decode cX11_feed 64 = .ok (.iload 4, 2) := by decide +kernel
theorem dX11_feed_66 : decode cX11_feed 66 = .ok (.imul, 1) := by decide +kernel
theorem dX11_feed_67 : decode cX11_feed 67 = .ok (.lushr, 1) := by decide +kernel
theorem dX11_feed_68 : decode cX11_feed 68 = .ok (.l2i, 1) := by decide +kernel
theorem dX11_feed_69 : decode cX11_feed 69 = .ok (.i2b, 1) := by decide +kernel
theorem dX11_feed_70 : decode cX11_feed 70 = .ok (.bastore, 1) := by decide +kernel
theorem dX11_feed_71 : decode cX11_feed 71 = .ok (.aload_n 0, 1) := by decide +kernel
theorem dX11_feed_72 : decode cX11_feed 72 = .ok (.dup, 1) := by decide +kernel
theorem dX11_feed_73 : decode cX11_feed 73 = .ok (.getfield 13, 3) := by decide +kernel
theorem dX11_feed_76 : decode cX11_feed 76 = .ok (.iconst 1, 1) := by decide +kernel
theorem dX11_feed_77 : decode cX11_feed 77 = .ok (.iadd, 1) := by decide +kernel
theorem dX11_feed_78 : decode cX11_feed 78 = .ok (.putfield 13, 3) := by decide +kernel
theorem dX11_feed_81 : decode cX11_feed 81 = .ok (.iinc 4 (-1), 3) := by decide +kernel
theorem dX11_feed_84 : decode cX11_feed 84 = .ok (.goto (-36), 3) := by decide +kernel
theorem dX11_feed_87 : decode cX11_feed 87 = .ok (.aload_n 0, 1) := by decide +kernel
theorem dX11_feed_88 : decode cX11_feed 88 = .ok (.getfield 13, 3) := by decide +kernel
theorem dX11_feed_91 : decode cX11_feed 91 = .ok (.ireturn, 1) := by decide +kernel
abbrev rm_X11_feed : Room := { frames := 6, cells := 1, slots := 6, locals := 100 }
def wp_X11_feed (a : Nat) (p1 : Int64) (p2 : Int32) (S : PS) (Q : Int32 → PS → Prop) (QX : String → PS → Prop) : Prop :=
  (∀ K11_2 : PS → Prop, (∀ (S1 : PS),
 QX "java/lang/IllegalArgumentException" S1
 → K11_2 S1) →
 (if p2 < 1 then
 K11_2 S
 else
 (if p2 ≤ 8 then
 (if (fI S 88 a) + p2 ≤ 1500 then
 (∀ v3, v3 = p2 - 1 → (∀ P48_4 : Int32 → PS → Prop, (∀ (x4_5 : Int32) (S6 : PS),
 (if x4_5 < 0 then
 Q (fI S6 88 a) S6
 else
 (∃ b7, fR S6 87 a = some b7 ∧ (vp_in (fI S6 88 a) (aN S6 b7) ∧ ∀ S8, S8 = wI S6 39 b7 (fI S6 88 a).toNatClampNeg (vp_nar .byte (((((p1).toUInt64 >>> ((((8 : Int32) * x4_5) : Int32).toInt64.toUInt64 &&& Int64.toUInt64 63)).toInt64).toInt32).toInt8.toInt32)) → (∀ S9, S9 = sI S8 88 a ((fI S8 88 a) + 1) → (∀ v10, v10 = x4_5 + (-1) → P48_4 v10 S9)))))
 → P48_4 x4_5 S6) → P48_4 v3 S))
 else
 QX "java/lang/IllegalStateException" S)
 else
 K11_2 S)))
set_option maxRecDepth 100000 in
set_option maxHeartbeats 4000000 in
theorem c_X11_feed {l : Launch} {E : EE} {A : Nat → Prop} {a : Nat} {p1 : Int64} {p2 : Int32} {S : PS} {Q : Int32 → PS → Prop} {QX : String → PS → Prop} {adK adV : Nat → Nat} (hS : hasStr E adK adV) (hZ : hasEx E) (hl0 : l.stackTraces = false) (r_a : Rf S a 8) (h : wp_X11_feed a p1 p2 S Q QX) : XtI l yX11_feed (.code yX11_feed cX11_feed 5 (some .int)) rm_X11_feed E A [.ref a, .long p1, .int p2] S Q QX := by
  refine XtI.of (by decide) (Nat.le_of_ble_eq_true rfl) (fun X F hQ hX hET => ?_)
  show VV X (0, 0) S [(0, .ref a), (1, .long p1), (3, .int p2)] [] 0
  obtain ⟨hXl, hXE, hXA, hN, hnm⟩ := hX
  subst hXE
  subst hXA
  subst hXl
  unfold wp_X11_feed at h
  refine v_iload_n F dX11_feed_0 2 rfl rfl ?_
  refine v_iconst (v := 1) F dX11_feed_1 (by decide) ?_
  have h := h (fun (S1 : PS) => VV X (0, 0) S1 [] [] 11) (by
    intro S1 h
    exact v_thr F hS hZ hl0 hQ hET T_X11_64 (i := 6) (by decide) ⟨rfl, rfl⟩ h (by decide) (Nat.le_of_ble_eq_true rfl) (by decide) dX11_feed_11 dX11_feed_14 dX11_feed_15 dX11_feed_17 dX11_feed_20)
  refine v_icmp_lt (tgt := 11) F dX11_feed_2 (by decide) h (fun h => ?_) (fun h => ?_)
  · exact v_sub [] rfl (h)
  · refine v_iload_n F dX11_feed_5 2 rfl rfl ?_
    refine v_bipush (v := 8) F dX11_feed_6 (by decide) ?_
    refine v_icmp_le (tgt := 21) F dX11_feed_8 (by decide) h (fun h => ?_) (fun h => ?_)
    · refine v_aload_n F dX11_feed_21 0 rfl rfl ?_
      refine g_X11_13 F r_a dX11_feed_22 ?_
      refine v_iload_n F dX11_feed_25 2 rfl rfl ?_
      refine v_iadd F dX11_feed_26 ?_
      refine v_sipush (v := 1500) F dX11_feed_27 (by decide) ?_
      refine v_icmp_le (tgt := 43) F dX11_feed_30 (by decide) h (fun h => ?_) (fun h => ?_)
      · refine v_iload_n F dX11_feed_43 2 rfl rfl ?_
        refine v_iconst (v := 1) F dX11_feed_44 (by decide) ?_
        refine v_isub F dX11_feed_45 ?_
        refine v_topi (fun v3 e_v3 => ?_)
        have h := h v3 e_v3
        refine v_istore (lv1 := [(4, .int v3), (0, .ref a), (1, .long p1), (3, .int p2)]) F dX11_feed_46 (by rw [hN]; decide) rfl ?_
        refine v_sub [1, 2, 0] rfl ?_
        refine h (fun (x4_5 : Int32) (S6 : PS) => Rf S6 a 8 → VV X (0, 0) S6 [(0, .ref a), (1, .long p1), (4, .int x4_5)] [] 48) (fun x4_5 S6 h r_a => ?_) r_a
        refine v_iload F dX11_feed_48 2 rfl ?_
        refine v_if_lt (tgt := 87) F dX11_feed_50 (by decide) h (fun h => ?_) (fun h => ?_)
        · refine v_aload_n F dX11_feed_87 0 rfl rfl ?_
          refine g_X11_13 F r_a dX11_feed_88 ?_
          exact x_iret F hQ h (by decide) dX11_feed_91
        · refine v_aload_n F dX11_feed_53 0 rfl rfl ?_
          refine g_X11_9 F r_a h dX11_feed_54 (fun b7 r_b7 h => ?_)
          refine v_aload_n F dX11_feed_57 0 rfl rfl ?_
          refine g_X11_13 F r_a dX11_feed_58 ?_
          refine v_lload_n F dX11_feed_61 1 rfl rfl ?_
          refine v_bipush (v := 8) F dX11_feed_62 (by decide) ?_
          refine v_iload F dX11_feed_64 2 rfl ?_
          refine v_imul F dX11_feed_66 ?_
          refine v_lushr F dX11_feed_67 ?_
          refine v_l2i F dX11_feed_68 ?_
          refine v_i2b F dX11_feed_69 ?_
          refine v_bast F r_b7 o_39 h dX11_feed_70 (fun S8 h hE => ?_)
          have r_a := r_a.tr hE
          refine v_aload_n F dX11_feed_71 0 rfl rfl ?_
          refine v_dup F dX11_feed_72 rfl ?_
          refine g_X11_13 F r_a dX11_feed_73 ?_
          refine v_iconst (v := 1) F dX11_feed_76 (by decide) ?_
          refine v_iadd F dX11_feed_77 ?_
          refine p_X11_13 F r_a h dX11_feed_78 (fun S9 h hE => ?_)
          have r_a := r_a.tr hE
          obtain ⟨v10, e_v10⟩ : ∃ y : Int32, y = x4_5 + (-1) := ⟨_, rfl⟩
          have h := h v10 e_v10
          refine v_iinc (v := v10) (lv1 := [(4, .int v10), (0, .ref a), (1, .long p1)]) F dX11_feed_81 (q := 2) rfl (by rw [e_v10]; rfl) (by rw [hN]; decide) rfl ?_
          refine v_goto (tgt := 48) F dX11_feed_84 (by decide) ?_
          exact v_sub [1, 2, 0] rfl (h r_a)
      · exact v_thr F hS hZ hl0 hQ hET T_X11_71 (i := 7) (by decide) ⟨rfl, rfl⟩ h (by decide) (Nat.le_of_ble_eq_true rfl) (by decide) dX11_feed_33 dX11_feed_36 dX11_feed_37 dX11_feed_39 dX11_feed_42
    · exact v_sub [] rfl (h)
theorem dX11_count_0 : decode cX11_count 0 = .ok (.iload_n 1, 1) := by decide +kernel
theorem dX11_count_1 : decode cX11_count 1 = .ok (.tableswitch 112 0 6 #[43, 51, 59, 67, 75, 83, 94], 43) := by decide +kernel
theorem dX11_count_44 : decode cX11_count 44 = .ok (.aload_n 0, 1) := by decide +kernel
theorem dX11_count_45 : decode cX11_count 45 = .ok (.getfield 57, 3) := by decide +kernel
theorem dX11_count_48 : decode cX11_count 48 = .ok (.getfield 95, 3) := by decide +kernel
theorem dX11_count_51 : decode cX11_count 51 = .ok (.ireturn, 1) := by decide +kernel
theorem dX11_count_52 : decode cX11_count 52 = .ok (.aload_n 0, 1) := by decide +kernel
theorem dX11_count_53 : decode cX11_count 53 = .ok (.getfield 57, 3) := by decide +kernel
theorem dX11_count_56 : decode cX11_count 56 = .ok (.getfield 101, 3) := by decide +kernel
theorem dX11_count_59 : decode cX11_count 59 = .ok (.ireturn, 1) := by decide +kernel
theorem dX11_count_60 : decode cX11_count 60 = .ok (.aload_n 0, 1) := by decide +kernel
theorem dX11_count_61 : decode cX11_count 61 = .ok (.getfield 57, 3) := by decide +kernel
theorem dX11_count_64 : decode cX11_count 64 = .ok (.invokevirtual 104, 3) := by decide +kernel
theorem dX11_count_67 : decode cX11_count 67 = .ok (.ireturn, 1) := by decide +kernel
theorem dX11_count_68 : decode cX11_count 68 = .ok (.aload_n 0, 1) := by decide +kernel
theorem dX11_count_69 : decode cX11_count 69 = .ok (.getfield 57, 3) := by decide +kernel
theorem dX11_count_72 : decode cX11_count 72 = .ok (.getfield 108, 3) := by decide +kernel
theorem dX11_count_75 : decode cX11_count 75 = .ok (.ireturn, 1) := by decide +kernel
theorem dX11_count_76 : decode cX11_count 76 = .ok (.aload_n 0, 1) := by decide +kernel
theorem dX11_count_77 : decode cX11_count 77 = .ok (.getfield 57, 3) := by decide +kernel
theorem dX11_count_80 : decode cX11_count 80 = .ok (.getfield 111, 3) := by decide +kernel
theorem dX11_count_83 : decode cX11_count 83 = .ok (.ireturn, 1) := by decide +kernel
theorem dX11_count_84 : decode cX11_count 84 = .ok (.aload_n 0, 1) := by decide +kernel
theorem dX11_count_85 : decode cX11_count 85 = .ok (.getfield 57, 3) := by decide +kernel
theorem dX11_count_88 : decode cX11_count 88 = .ok (.getfield 114, 3) := by decide +kernel
theorem dX11_count_91 : decode cX11_count 91 = .ok (.getfield 118, 3) := by decide +kernel
theorem dX11_count_94 : decode cX11_count 94 = .ok (.ireturn, 1) := by decide +kernel
theorem dX11_count_95 : decode cX11_count 95 = .ok (.aload_n 0, 1) := by decide +kernel
theorem dX11_count_96 : decode cX11_count 96 = .ok (.getfield 57, 3) := by decide +kernel
theorem dX11_count_99 : decode cX11_count 99 = .ok (.getfield 114, 3) := by decide +kernel
theorem dX11_count_102 : decode cX11_count 102 = .ok (.aload_n 0, 1) := by decide +kernel
theorem dX11_count_103 : decode cX11_count 103 = .ok (.getfield 57, 3) := by decide +kernel
theorem dX11_count_106 : decode cX11_count 106 = .ok (.getfield 123, 3) := by decide +kernel
theorem dX11_count_109 : decode cX11_count 109 = .ok (.invokevirtual 127, 3) := by decide +kernel
theorem dX11_count_112 : decode cX11_count 112 = .ok (.ireturn, 1) := by decide +kernel
theorem dX11_count_113 : decode cX11_count 113 = .ok (.new 64, 3) := by decide +kernel
theorem dX11_count_116 : decode cX11_count 116 = .ok (.dup, 1) := by decide +kernel
theorem dX11_count_117 : decode cX11_count 117 = .ok (.ldc 131, 2) := by decide +kernel
theorem dX11_count_119 : decode cX11_count 119 = .ok (.invokespecial 68, 3) := by decide +kernel
theorem dX11_count_122 : decode cX11_count 122 = .ok (.athrow, 1) := by decide +kernel
abbrev rm_X11_count : Room := { frames := 6, cells := 1, slots := 6, locals := 152 }
def wp_X11_count (a : Nat) (p1 : Int32) (S : PS) (Q : Int32 → PS → Prop) (QX : String → PS → Prop) : Prop :=
  (if p1 = 0 then
 (∃ b1, fR S 94 a = some b1 ∧ Q (fI S 70 b1) S)
 else (if p1 = 1 then
 (∃ b3, fR S 94 a = some b3 ∧ Q (fI S 79 b3) S)
 else (if p1 = 2 then
 (∃ b5, fR S 94 a = some b5 ∧ wp_X8_countRests b5 S (fun (r7 : Int32) (S6 : PS) => 
 Q r7 S6))
 else (if p1 = 3 then
 (∃ b9, fR S 94 a = some b9 ∧ Q (fI S 84 b9) S)
 else (if p1 = 4 then
 (∃ b11, fR S 94 a = some b11 ∧ Q (fI S 85 b11) S)
 else (if p1 = 5 then
 (∃ b13, fR S 94 a = some b13 ∧ (∃ b14, fR S 83 b13 = some b14 ∧ Q (fI S 17 b14) S))
 else (if p1 = 6 then
 (∃ b16, fR S 94 a = some b16 ∧ (∃ b17, fR S 83 b16 = some b17 ∧ (∃ b18, fR S 94 a = some b18 ∧ wp_X2_barsAhead b17 (fL S 86 b18) S (fun (r20 : Int32) (S19 : PS) => 
 Q r20 S19))))
 else QX "java/lang/IllegalArgumentException" S)))))))
set_option maxRecDepth 100000 in
set_option maxHeartbeats 4000000 in
theorem c_X11_count {l : Launch} {E : EE} {A : Nat → Prop} {a : Nat} {p1 : Int32} {S : PS} {Q : Int32 → PS → Prop} {QX : String → PS → Prop} {adK adV : Nat → Nat} (hS : hasStr E adK adV) (hZ : hasEx E) (hl0 : l.stackTraces = false) (r_a : Rf S a 8) (h : wp_X11_count a p1 S Q QX) : XtI l yX11_count (.code yX11_count cX11_count 2 (some .int)) rm_X11_count E A [.ref a, .int p1] S Q QX := by
  refine XtI.of (by decide) (Nat.le_of_ble_eq_true rfl) (fun X F hQ hX hET => ?_)
  show VV X (0, 0) S [(0, .ref a), (1, .int p1)] [] 0
  obtain ⟨hXl, hXE, hXA, hN, hnm⟩ := hX
  subst hXE
  subst hXA
  subst hXl
  unfold wp_X11_count at h
  refine v_iload_n F dX11_count_0 1 rfl rfl ?_
  refine v_case h (fun e2 h => ?_) (fun e2 h => ?_)
  · refine v_tableIn (tgt := 44) F dX11_count_1 (by rw [e2]; decide) (by rw [e2]; decide) (by rw [e2]; rfl) (by decide) ?_
    refine v_aload_n F dX11_count_44 0 rfl rfl ?_
    refine g_X11_57 F r_a h dX11_count_45 (fun b1 r_b1 h => ?_)
    refine g_X11_95 F r_b1 dX11_count_48 ?_
    exact x_iret F hQ h (by decide) dX11_count_51
  refine v_case h (fun e4 h => ?_) (fun e4 h => ?_)
  · refine v_tableIn (tgt := 52) F dX11_count_1 (by rw [e4]; decide) (by rw [e4]; decide) (by rw [e4]; rfl) (by decide) ?_
    refine v_aload_n F dX11_count_52 0 rfl rfl ?_
    refine g_X11_57 F r_a h dX11_count_53 (fun b3 r_b3 h => ?_)
    refine g_X11_101 F r_b3 dX11_count_56 ?_
    exact x_iret F hQ h (by decide) dX11_count_59
  refine v_case h (fun e8 h => ?_) (fun e8 h => ?_)
  · refine v_tableIn (tgt := 60) F dX11_count_1 (by rw [e8]; decide) (by rw [e8]; decide) (by rw [e8]; rfl) (by decide) ?_
    refine v_aload_n F dX11_count_60 0 rfl rfl ?_
    refine g_X11_57 F r_a h dX11_count_61 (fun b5 r_b5 h => ?_)
    refine v_cI0 (v_runV F k_X11_104 rfl (c_X8_countRests r_b5 h) r_b5 rfl rfl (Nat.le_of_ble_eq_true rfl) (by decide) (by decide) dX11_count_64) ⟨rfl, rfl⟩ (fun r7 S6 h hE => ?_)
    have r_a := r_a.tr hE
    exact x_iret F hQ h (by decide) dX11_count_67
  refine v_case h (fun e10 h => ?_) (fun e10 h => ?_)
  · refine v_tableIn (tgt := 68) F dX11_count_1 (by rw [e10]; decide) (by rw [e10]; decide) (by rw [e10]; rfl) (by decide) ?_
    refine v_aload_n F dX11_count_68 0 rfl rfl ?_
    refine g_X11_57 F r_a h dX11_count_69 (fun b9 r_b9 h => ?_)
    refine g_X11_108 F r_b9 dX11_count_72 ?_
    exact x_iret F hQ h (by decide) dX11_count_75
  refine v_case h (fun e12 h => ?_) (fun e12 h => ?_)
  · refine v_tableIn (tgt := 76) F dX11_count_1 (by rw [e12]; decide) (by rw [e12]; decide) (by rw [e12]; rfl) (by decide) ?_
    refine v_aload_n F dX11_count_76 0 rfl rfl ?_
    refine g_X11_57 F r_a h dX11_count_77 (fun b11 r_b11 h => ?_)
    refine g_X11_111 F r_b11 dX11_count_80 ?_
    exact x_iret F hQ h (by decide) dX11_count_83
  refine v_case h (fun e15 h => ?_) (fun e15 h => ?_)
  · refine v_tableIn (tgt := 84) F dX11_count_1 (by rw [e15]; decide) (by rw [e15]; decide) (by rw [e15]; rfl) (by decide) ?_
    refine v_aload_n F dX11_count_84 0 rfl rfl ?_
    refine g_X11_57 F r_a h dX11_count_85 (fun b13 r_b13 h => ?_)
    refine g_X11_114 F r_b13 h dX11_count_88 (fun b14 r_b14 h => ?_)
    refine g_X11_118 F r_b14 dX11_count_91 ?_
    exact x_iret F hQ h (by decide) dX11_count_94
  refine v_case h (fun e21 h => ?_) (fun e21 h => ?_)
  · refine v_tableIn (tgt := 95) F dX11_count_1 (by rw [e21]; decide) (by rw [e21]; decide) (by rw [e21]; rfl) (by decide) ?_
    refine v_aload_n F dX11_count_95 0 rfl rfl ?_
    refine g_X11_57 F r_a h dX11_count_96 (fun b16 r_b16 h => ?_)
    refine g_X11_114 F r_b16 h dX11_count_99 (fun b17 r_b17 h => ?_)
    refine v_aload_n F dX11_count_102 0 rfl rfl ?_
    refine g_X11_57 F r_a h dX11_count_103 (fun b18 r_b18 h => ?_)
    refine g_X11_123 F r_b18 dX11_count_106 ?_
    refine v_cI0 (v_runV F k_X11_127 rfl (c_X2_barsAhead r_b17 h) r_b17 rfl rfl (Nat.le_of_ble_eq_true rfl) (by decide) (by decide) dX11_count_109) ⟨rfl, rfl⟩ (fun r20 S19 h hE => ?_)
    have r_a := r_a.tr hE
    exact x_iret F hQ h (by decide) dX11_count_112
  refine v_tableOut (tgt := 113) F dX11_count_1 (by have q0 := lv_neT (a := 0) e2 rfl; have q1 := lv_neT (a := 1) e4 rfl; have q2 := lv_neT (a := 2) e8 rfl; have q3 := lv_neT (a := 3) e10 rfl; have q4 := lv_neT (a := 4) e12 rfl; have q5 := lv_neT (a := 5) e15 rfl; have q6 := lv_neT (a := 6) e21 rfl; omega) (by decide) ?_
  exact v_thr F hS hZ hl0 hQ hET T_X11_64 (i := 8) (by decide) ⟨rfl, rfl⟩ h (by decide) (Nat.le_of_ble_eq_true rfl) (by decide) dX11_count_113 dX11_count_116 dX11_count_117 dX11_count_119 dX11_count_122
theorem dX11_event_0 : decode cX11_event 0 = .ok (.aload_n 0, 1) := by decide +kernel
theorem dX11_event_1 : decode cX11_event 1 = .ok (.iload_n 1, 1) := by decide +kernel
theorem dX11_event_2 : decode cX11_event 2 = .ok (.invokevirtual 133, 3) := by decide +kernel
theorem dX11_event_5 : decode cX11_event 5 = .ok (.iload_n 2, 1) := by decide +kernel
theorem dX11_event_6 : decode cX11_event 6 = .ok (.tableswitch 128 0 6 #[42, 53, 63, 81, 99, 109, 119], 42) := by decide +kernel
theorem dX11_event_48 : decode cX11_event 48 = .ok (.aload_n 0, 1) := by decide +kernel
theorem dX11_event_49 : decode cX11_event 49 = .ok (.getfield 57, 3) := by decide +kernel
theorem dX11_event_52 : decode cX11_event 52 = .ok (.getfield 137, 3) := by decide +kernel
theorem dX11_event_55 : decode cX11_event 55 = .ok (.iload_n 1, 1) := by decide +kernel
theorem dX11_event_56 : decode cX11_event 56 = .ok (.iaload, 1) := by decide +kernel
theorem dX11_event_57 : decode cX11_event 57 = .ok (.i2l, 1) := by decide +kernel
theorem dX11_event_58 : decode cX11_event 58 = .ok (.lreturn, 1) := by decide +kernel
theorem dX11_event_59 : decode cX11_event 59 = .ok (.aload_n 0, 1) := by decide +kernel
theorem dX11_event_60 : decode cX11_event 60 = .ok (.getfield 57, 3) := by decide +kernel
theorem dX11_event_63 : decode cX11_event 63 = .ok (.iload_n 1, 1) := by decide +kernel
theorem dX11_event_64 : decode cX11_event 64 = .ok (.invokevirtual 141, 3) := by decide +kernel
theorem dX11_event_67 : decode cX11_event 67 = .ok (.i2l, 1) := by decide +kernel
theorem dX11_event_68 : decode cX11_event 68 = .ok (.lreturn, 1) := by decide +kernel
theorem dX11_event_69 : decode cX11_event 69 = .ok (.aload_n 0, 1) := by decide +kernel
theorem dX11_event_70 : decode cX11_event 70 = .ok (.getfield 57, 3) := by decide +kernel
theorem dX11_event_73 : decode cX11_event 73 = .ok (.getfield 145, 3) := by decide +kernel
theorem dX11_event_76 : decode cX11_event 76 = .ok (.iload_n 1, 1) := by decide +kernel
theorem dX11_event_77 : decode cX11_event 77 = .ok (.baload, 1) := by decide +kernel
theorem dX11_event_78 : decode cX11_event 78 = .ok (.ifCond .eq 7, 3) := by decide +kernel
theorem dX11_event_81 : decode cX11_event 81 = .ok (.lconst 1, 1) := by decide +kernel
theorem dX11_event_82 : decode cX11_event 82 = .ok (.goto 4, 3) := by decide +kernel
theorem dX11_event_85 : decode cX11_event 85 = .ok (.lconst 0, 1) := by decide +kernel
theorem dX11_event_86 : decode cX11_event 86 = .ok (.lreturn, 1) := by decide +kernel
theorem dX11_event_87 : decode cX11_event 87 = .ok (.aload_n 0, 1) := by decide +kernel
theorem dX11_event_88 : decode cX11_event 88 = .ok (.getfield 57, 3) := by decide +kernel
theorem dX11_event_91 : decode cX11_event 91 = .ok (.getfield 149, 3) := by decide +kernel
theorem dX11_event_94 : decode cX11_event 94 = .ok (.iload_n 1, 1) := by decide +kernel
theorem dX11_event_95 : decode cX11_event 95 = .ok (.baload, 1) := by decide +kernel
theorem dX11_event_96 : decode cX11_event 96 = .ok (.ifCond .eq 7, 3) := by decide +kernel
theorem dX11_event_99 : decode cX11_event 99 = .ok (.lconst 1, 1) := by decide +kernel
theorem dX11_event_100 : decode cX11_event 100 = .ok (.goto 4, 3) := by decide +kernel
theorem dX11_event_103 : decode cX11_event 103 = .ok (.lconst 0, 1) := by decide +kernel
theorem dX11_event_104 : decode cX11_event 104 = .ok (.lreturn, 1) := by decide +kernel
theorem dX11_event_105 : decode cX11_event 105 = .ok (.aload_n 0, 1) := by decide +kernel
theorem dX11_event_106 : decode cX11_event 106 = .ok (.getfield 57, 3) := by decide +kernel
theorem dX11_event_109 : decode cX11_event 109 = .ok (.getfield 152, 3) := by decide +kernel
theorem dX11_event_112 : decode cX11_event 112 = .ok (.iload_n 1, 1) := by decide +kernel
theorem dX11_event_113 : decode cX11_event 113 = .ok (.laload, 1) := by decide +kernel
theorem dX11_event_114 : decode cX11_event 114 = .ok (.lreturn, 1) := by decide +kernel
theorem dX11_event_115 : decode cX11_event 115 = .ok (.aload_n 0, 1) := by decide +kernel
theorem dX11_event_116 : decode cX11_event 116 = .ok (.getfield 57, 3) := by decide +kernel
theorem dX11_event_119 : decode cX11_event 119 = .ok (.getfield 156, 3) := by decide +kernel
theorem dX11_event_122 : decode cX11_event 122 = .ok (.iload_n 1, 1) := by decide +kernel
theorem dX11_event_123 : decode cX11_event 123 = .ok (.laload, 1) := by decide +kernel
theorem dX11_event_124 : decode cX11_event 124 = .ok (.lreturn, 1) := by decide +kernel
theorem dX11_event_125 : decode cX11_event 125 = .ok (.aload_n 0, 1) := by decide +kernel
theorem dX11_event_126 : decode cX11_event 126 = .ok (.getfield 57, 3) := by decide +kernel
theorem dX11_event_129 : decode cX11_event 129 = .ok (.iload_n 1, 1) := by decide +kernel
theorem dX11_event_130 : decode cX11_event 130 = .ok (.invokevirtual 159, 3) := by decide +kernel
theorem dX11_event_133 : decode cX11_event 133 = .ok (.lreturn, 1) := by decide +kernel
theorem dX11_event_134 : decode cX11_event 134 = .ok (.new 64, 3) := by decide +kernel
theorem dX11_event_137 : decode cX11_event 137 = .ok (.dup, 1) := by decide +kernel
theorem dX11_event_138 : decode cX11_event 138 = .ok (.ldc 131, 2) := by decide +kernel
theorem dX11_event_140 : decode cX11_event 140 = .ok (.invokespecial 68, 3) := by decide +kernel
theorem dX11_event_143 : decode cX11_event 143 = .ok (.athrow, 1) := by decide +kernel
abbrev rm_X11_event : Room := { frames := 7, cells := 2, slots := 12, locals := 121 }
def wp_X11_event (a : Nat) (p1 : Int32) (p2 : Int32) (S : PS) (Q : Int64 → PS → Prop) (QX : String → PS → Prop) : Prop :=
  wp_X11_requireEvent a p1 S (fun (S1 : PS) =>
 (if p2 = 0 then
 (∃ b2, fR S1 94 a = some b2 ∧ (∃ b3, fR S1 71 b2 = some b3 ∧ (vp_in p1 (aN S1 b3) ∧ Q ((aI S1 28 b3 (p1).toNatClampNeg).toInt64) S1)))
 else (if p2 = 1 then
 (∃ b5, fR S1 94 a = some b5 ∧ wp_X8_pitchesIn b5 p1 S1 (fun (r7 : Int32) (S6 : PS) => 
 Q (r7.toInt64) S6))
 else (if p2 = 2 then
 (∃ b9, fR S1 94 a = some b9 ∧ (∃ b10, fR S1 75 b9 = some b10 ∧ (vp_in p1 (aN S1 b10) ∧ (if aI S1 32 b10 (p1).toNatClampNeg = 0 then
 Q 0 S1
 else
 Q 1 S1))))
 else (if p2 = 3 then
 (∃ b12, fR S1 94 a = some b12 ∧ (∃ b13, fR S1 76 b12 = some b13 ∧ (vp_in p1 (aN S1 b13) ∧ (if aI S1 33 b13 (p1).toNatClampNeg = 0 then
 Q 0 S1
 else
 Q 1 S1))))
 else (if p2 = 4 then
 (∃ b15, fR S1 94 a = some b15 ∧ (∃ b16, fR S1 72 b15 = some b16 ∧ (vp_in p1 (aN S1 b16) ∧ Q (aL S1 29 b16 (p1).toNatClampNeg) S1)))
 else (if p2 = 5 then
 (∃ b18, fR S1 94 a = some b18 ∧ (∃ b19, fR S1 73 b18 = some b19 ∧ (vp_in p1 (aN S1 b19) ∧ Q (aL S1 30 b19 (p1).toNatClampNeg) S1)))
 else (if p2 = 6 then
 (∃ b21, fR S1 94 a = some b21 ∧ wp_X8_tiedLength b21 p1 S1 (fun (r23 : Int64) (S22 : PS) => 
 Q r23 S22))
 else QX "java/lang/IllegalArgumentException" S1)))))))) QX
set_option maxRecDepth 100000 in
set_option maxHeartbeats 4000000 in
theorem c_X11_event {l : Launch} {E : EE} {A : Nat → Prop} {a : Nat} {p1 : Int32} {p2 : Int32} {S : PS} {Q : Int64 → PS → Prop} {QX : String → PS → Prop} {adK adV : Nat → Nat} (hS : hasStr E adK adV) (hZ : hasEx E) (hl0 : l.stackTraces = false) (r_a : Rf S a 8) (h : wp_X11_event a p1 p2 S Q QX) : XtL l yX11_event (.code yX11_event cX11_event 3 (some .long)) rm_X11_event E A [.ref a, .int p1, .int p2] S Q QX := by
  refine XtL.of (by decide) (Nat.le_of_ble_eq_true rfl) (fun X F hQ hX hET => ?_)
  show VV X (0, 0) S [(0, .ref a), (1, .int p1), (2, .int p2)] [] 0
  obtain ⟨hXl, hXE, hXA, hN, hnm⟩ := hX
  subst hXE
  subst hXA
  subst hXl
  unfold wp_X11_event at h
  refine v_aload_n F dX11_event_0 0 rfl rfl ?_
  refine v_iload_n F dX11_event_1 1 rfl rfl ?_
  refine x_cV F hQ hET (x_runV F k_X11_133 rfl (c_X11_requireEvent hS hZ hl0 r_a h) r_a rfl rfl (Nat.le_of_ble_eq_true rfl) (by decide) (by decide) dX11_event_2) (by decide) (fun _ _ h => h) (fun S1 h hE => v_widen (k := (1, 6)) (by decide) ?_)
  have r_a := r_a.tr hE
  refine v_iload_n F dX11_event_5 2 rfl rfl ?_
  refine v_case h (fun e4 h => ?_) (fun e4 h => ?_)
  · refine v_tableIn (tgt := 48) F dX11_event_6 (by rw [e4]; decide) (by rw [e4]; decide) (by rw [e4]; rfl) (by decide) ?_
    refine v_aload_n F dX11_event_48 0 rfl rfl ?_
    refine g_X11_57 F r_a h dX11_event_49 (fun b2 r_b2 h => ?_)
    refine g_X11_137 F r_b2 h dX11_event_52 (fun b3 r_b3 h => ?_)
    refine v_iload_n F dX11_event_55 1 rfl rfl ?_
    refine v_iald F r_b3 o_28 h dX11_event_56 (fun h => ?_)
    refine v_i2l F dX11_event_57 ?_
    exact x_lret F hQ h (by decide) dX11_event_58
  refine v_case h (fun e8 h => ?_) (fun e8 h => ?_)
  · refine v_tableIn (tgt := 59) F dX11_event_6 (by rw [e8]; decide) (by rw [e8]; decide) (by rw [e8]; rfl) (by decide) ?_
    refine v_aload_n F dX11_event_59 0 rfl rfl ?_
    refine g_X11_57 F r_a h dX11_event_60 (fun b5 r_b5 h => ?_)
    refine v_iload_n F dX11_event_63 1 rfl rfl ?_
    refine v_cI0 (v_runV F k_X11_141 rfl (c_X8_pitchesIn r_b5 h) r_b5 rfl rfl (Nat.le_of_ble_eq_true rfl) (by decide) (by decide) dX11_event_64) ⟨rfl, rfl⟩ (fun r7 S6 h hE => ?_)
    have r_a := r_a.tr hE
    refine v_i2l F dX11_event_67 ?_
    exact x_lret F hQ h (by decide) dX11_event_68
  refine v_case h (fun e11 h => ?_) (fun e11 h => ?_)
  · refine v_tableIn (tgt := 69) F dX11_event_6 (by rw [e11]; decide) (by rw [e11]; decide) (by rw [e11]; rfl) (by decide) ?_
    refine v_aload_n F dX11_event_69 0 rfl rfl ?_
    refine g_X11_57 F r_a h dX11_event_70 (fun b9 r_b9 h => ?_)
    refine g_X11_145 F r_b9 h dX11_event_73 (fun b10 r_b10 h => ?_)
    refine v_iload_n F dX11_event_76 1 rfl rfl ?_
    refine v_zald F r_b10 o_32 h dX11_event_77 (fun h => ?_)
    refine v_if_eq (tgt := 85) F dX11_event_78 (by decide) h (fun h => ?_) (fun h => ?_)
    · refine v_lconst (v := 0) F dX11_event_85 (by decide) ?_
      exact x_lret F hQ h (by decide) dX11_event_86
    · refine v_lconst (v := 1) F dX11_event_81 (by decide) ?_
      refine v_goto (tgt := 86) F dX11_event_82 (by decide) ?_
      exact x_lret F hQ h (by decide) dX11_event_86
  refine v_case h (fun e14 h => ?_) (fun e14 h => ?_)
  · refine v_tableIn (tgt := 87) F dX11_event_6 (by rw [e14]; decide) (by rw [e14]; decide) (by rw [e14]; rfl) (by decide) ?_
    refine v_aload_n F dX11_event_87 0 rfl rfl ?_
    refine g_X11_57 F r_a h dX11_event_88 (fun b12 r_b12 h => ?_)
    refine g_X11_149 F r_b12 h dX11_event_91 (fun b13 r_b13 h => ?_)
    refine v_iload_n F dX11_event_94 1 rfl rfl ?_
    refine v_zald F r_b13 o_33 h dX11_event_95 (fun h => ?_)
    refine v_if_eq (tgt := 103) F dX11_event_96 (by decide) h (fun h => ?_) (fun h => ?_)
    · refine v_lconst (v := 0) F dX11_event_103 (by decide) ?_
      exact x_lret F hQ h (by decide) dX11_event_104
    · refine v_lconst (v := 1) F dX11_event_99 (by decide) ?_
      refine v_goto (tgt := 104) F dX11_event_100 (by decide) ?_
      exact x_lret F hQ h (by decide) dX11_event_104
  refine v_case h (fun e17 h => ?_) (fun e17 h => ?_)
  · refine v_tableIn (tgt := 105) F dX11_event_6 (by rw [e17]; decide) (by rw [e17]; decide) (by rw [e17]; rfl) (by decide) ?_
    refine v_aload_n F dX11_event_105 0 rfl rfl ?_
    refine g_X11_57 F r_a h dX11_event_106 (fun b15 r_b15 h => ?_)
    refine g_X11_152 F r_b15 h dX11_event_109 (fun b16 r_b16 h => ?_)
    refine v_iload_n F dX11_event_112 1 rfl rfl ?_
    refine v_lald F r_b16 o_29 h dX11_event_113 (fun h => ?_)
    exact x_lret F hQ h (by decide) dX11_event_114
  refine v_case h (fun e20 h => ?_) (fun e20 h => ?_)
  · refine v_tableIn (tgt := 115) F dX11_event_6 (by rw [e20]; decide) (by rw [e20]; decide) (by rw [e20]; rfl) (by decide) ?_
    refine v_aload_n F dX11_event_115 0 rfl rfl ?_
    refine g_X11_57 F r_a h dX11_event_116 (fun b18 r_b18 h => ?_)
    refine g_X11_156 F r_b18 h dX11_event_119 (fun b19 r_b19 h => ?_)
    refine v_iload_n F dX11_event_122 1 rfl rfl ?_
    refine v_lald F r_b19 o_30 h dX11_event_123 (fun h => ?_)
    exact x_lret F hQ h (by decide) dX11_event_124
  refine v_case h (fun e24 h => ?_) (fun e24 h => ?_)
  · refine v_tableIn (tgt := 125) F dX11_event_6 (by rw [e24]; decide) (by rw [e24]; decide) (by rw [e24]; rfl) (by decide) ?_
    refine v_aload_n F dX11_event_125 0 rfl rfl ?_
    refine g_X11_57 F r_a h dX11_event_126 (fun b21 r_b21 h => ?_)
    refine v_iload_n F dX11_event_129 1 rfl rfl ?_
    refine v_cL0 (v_runV F k_X11_159 rfl (c_X8_tiedLength r_b21 h) r_b21 rfl rfl (Nat.le_of_ble_eq_true rfl) (by decide) (by decide) dX11_event_130) ⟨rfl, rfl⟩ (fun r23 S22 h hE => ?_)
    have r_a := r_a.tr hE
    exact x_lret F hQ h (by decide) dX11_event_133
  refine v_tableOut (tgt := 134) F dX11_event_6 (by have q0 := lv_neT (a := 0) e4 rfl; have q1 := lv_neT (a := 1) e8 rfl; have q2 := lv_neT (a := 2) e11 rfl; have q3 := lv_neT (a := 3) e14 rfl; have q4 := lv_neT (a := 4) e17 rfl; have q5 := lv_neT (a := 5) e20 rfl; have q6 := lv_neT (a := 6) e24 rfl; omega) (by decide) ?_
  exact v_thr F hS hZ hl0 hQ hET T_X11_64 (i := 8) (by decide) ⟨rfl, rfl⟩ h (by decide) (Nat.le_of_ble_eq_true rfl) (by decide) dX11_event_134 dX11_event_137 dX11_event_138 dX11_event_140 dX11_event_143
theorem dX11_pitch_0 : decode cX11_pitch 0 = .ok (.aload_n 0, 1) := by decide +kernel
theorem dX11_pitch_1 : decode cX11_pitch 1 = .ok (.iload_n 1, 1) := by decide +kernel
theorem dX11_pitch_2 : decode cX11_pitch 2 = .ok (.invokevirtual 133, 3) := by decide +kernel
theorem dX11_pitch_5 : decode cX11_pitch 5 = .ok (.iload_n 2, 1) := by decide +kernel
theorem dX11_pitch_6 : decode cX11_pitch 6 = .ok (.ifCond .lt 15, 3) := by decide +kernel
theorem dX11_pitch_9 : decode cX11_pitch 9 = .ok (.iload_n 2, 1) := by decide +kernel
theorem dX11_pitch_10 : decode cX11_pitch 10 = .ok (.aload_n 0, 1) := by decide +kernel
theorem dX11_pitch_11 : decode cX11_pitch 11 = .ok (.getfield 57, 3) := by decide +kernel
theorem dX11_pitch_14 : decode cX11_pitch 14 = .ok (.iload_n 1, 1) := by decide +kernel
theorem dX11_pitch_15 : decode cX11_pitch 15 = .ok (.invokevirtual 141, 3) := by decide +kernel
theorem dX11_pitch_18 : decode cX11_pitch 18 = .ok (.if_icmp .lt 13, 3) := by decide +kernel
theorem dX11_pitch_21 : decode cX11_pitch 21 = .ok (.new 163, 3) := by decide +kernel
theorem dX11_pitch_24 : decode cX11_pitch 24 = .ok (.dup, 1) := by decide +kernel
theorem dX11_pitch_25 : decode cX11_pitch 25 = .ok (.ldc 165, 2) := by decide +kernel
theorem dX11_pitch_27 : decode cX11_pitch 27 = .ok (.invokespecial 167, 3) := by decide +kernel
theorem dX11_pitch_30 : decode cX11_pitch 30 = .ok (.athrow, 1) := by decide +kernel
theorem dX11_pitch_31 : decode cX11_pitch 31 = .ok (.aload_n 0, 1) := by decide +kernel
theorem dX11_pitch_32 : decode cX11_pitch 32 = .ok (.getfield 57, 3) := by decide +kernel
theorem dX11_pitch_35 : decode cX11_pitch 35 = .ok (.iload_n 1, 1) := by decide +kernel
theorem dX11_pitch_36 : decode cX11_pitch 36 = .ok (.iload_n 2, 1) := by decide +kernel
theorem dX11_pitch_37 : decode cX11_pitch 37 = .ok (.invokevirtual 168, 3) := by decide +kernel
theorem dX11_pitch_40 : decode cX11_pitch 40 = .ok (.istore 4, 2) := by decide +kernel
theorem dX11_pitch_42 : decode cX11_pitch 42 = .ok (.iload_n 3, 1) := by decide +kernel
theorem dX11_pitch_43 : decode cX11_pitch 43 = .ok (.tableswitch 62 0 3 #[29, 35, 41, 47], 29) := by decide +kernel
theorem dX11_pitch_72 : decode cX11_pitch 72 = .ok (.iload 4, 2) := by decide +kernel
theorem dX11_pitch_74 : decode cX11_pitch 74 = .ok (.invokestatic 172, 3) := by decide +kernel
theorem dX11_pitch_77 : decode cX11_pitch 77 = .ok (.ireturn, 1) := by decide +kernel
theorem dX11_pitch_78 : decode cX11_pitch 78 = .ok (.iload 4, 2) := by decide +kernel
theorem dX11_pitch_80 : decode cX11_pitch 80 = .ok (.invokestatic 177, 3) := by decide +kernel
theorem dX11_pitch_83 : decode cX11_pitch 83 = .ok (.ireturn, 1) := by decide +kernel
theorem dX11_pitch_84 : decode cX11_pitch 84 = .ok (.iload 4, 2) := by decide +kernel
theorem dX11_pitch_86 : decode cX11_pitch 86 = .ok (.invokestatic 180, 3) := by decide +kernel
theorem dX11_pitch_89 : decode cX11_pitch 89 = .ok (.ireturn, 1) := by decide +kernel
theorem dX11_pitch_90 : decode cX11_pitch 90 = .ok (.iload 4, 2) := by decide +kernel
theorem dX11_pitch_92 : decode cX11_pitch 92 = .ok (.invokestatic 183, 3) := by decide +kernel
theorem dX11_pitch_95 : decode cX11_pitch 95 = .ok (.invokestatic 186, 3) := by decide +kernel
theorem dX11_pitch_98 : decode cX11_pitch 98 = .ok (.iload 4, 2) := by decide +kernel
theorem dX11_pitch_100 : decode cX11_pitch 100 = .ok (.invokestatic 177, 3) := by decide +kernel
theorem dX11_pitch_103 : decode cX11_pitch 103 = .ok (.iadd, 1) := by decide +kernel
theorem dX11_pitch_104 : decode cX11_pitch 104 = .ok (.ireturn, 1) := by decide +kernel
theorem dX11_pitch_105 : decode cX11_pitch 105 = .ok (.new 64, 3) := by decide +kernel
theorem dX11_pitch_108 : decode cX11_pitch 108 = .ok (.dup, 1) := by decide +kernel
theorem dX11_pitch_109 : decode cX11_pitch 109 = .ok (.ldc 131, 2) := by decide +kernel
theorem dX11_pitch_111 : decode cX11_pitch 111 = .ok (.invokespecial 68, 3) := by decide +kernel
theorem dX11_pitch_114 : decode cX11_pitch 114 = .ok (.athrow, 1) := by decide +kernel
abbrev rm_X11_pitch : Room := { frames := 7, cells := 2, slots := 12, locals := 121 }
def wp_X11_pitch (a : Nat) (p1 : Int32) (p2 : Int32) (p3 : Int32) (S : PS) (Q : Int32 → PS → Prop) (QX : String → PS → Prop) : Prop :=
  wp_X11_requireEvent a p1 S (fun (S1 : PS) =>
 (∀ K21_3 : PS → Prop, (∀ (S2 : PS),
 QX "java/lang/IndexOutOfBoundsException" S2
 → K21_3 S2) →
 (if p2 < 0 then
 K21_3 S1
 else
 (∃ b4, fR S1 94 a = some b4 ∧ wp_X8_pitchesIn b4 p1 S1 (fun (r6 : Int32) (S5 : PS) => 
 (if p2 < r6 then
 (∃ b7, fR S5 94 a = some b7 ∧ wp_X8_codeOf b7 p1 p2 S5 (fun (r9 : Int32) (S8 : PS) => 
 (if p3 = 0 then
 wp_X4_letter r9 S8 (fun (r11 : Int32) (S10 : PS) => 
 Q r11 S10)
 else (if p3 = 1 then
 wp_X4_alter r9 S8 (fun (r14 : Int32) (S13 : PS) => 
 Q r14 S13)
 else (if p3 = 2 then
 wp_X4_octave r9 S8 (fun (r17 : Int32) (S16 : PS) => 
 Q r17 S16)
 else (if p3 = 3 then
 wp_X4_step r9 S8 (fun (r20 : Int32) (S19 : PS) => 
 wp_X4_halfTones r20 S19 (fun (r22 : Int32) (S21 : PS) => 
 wp_X4_alter r9 S21 (fun (r24 : Int32) (S23 : PS) => 
 Q (r22 + r24) S23)))
 else QX "java/lang/IllegalArgumentException" S8))))))
 else
 K21_3 S5)))))) QX
set_option maxRecDepth 100000 in
set_option maxHeartbeats 4000000 in
theorem c_X11_pitch {l : Launch} {E : EE} {A : Nat → Prop} {a : Nat} {p1 : Int32} {p2 : Int32} {p3 : Int32} {S : PS} {Q : Int32 → PS → Prop} {QX : String → PS → Prop} {adK adV : Nat → Nat} (hS : hasStr E adK adV) (hZ : hasEx E) (hl0 : l.stackTraces = false) (hH : hasHT E) (r_a : Rf S a 8) (h : wp_X11_pitch a p1 p2 p3 S Q QX) : XtI l yX11_pitch (.code yX11_pitch cX11_pitch 5 (some .int)) rm_X11_pitch E A [.ref a, .int p1, .int p2, .int p3] S Q QX := by
  refine XtI.of (by decide) (Nat.le_of_ble_eq_true rfl) (fun X F hQ hX hET => ?_)
  show VV X (0, 0) S [(0, .ref a), (1, .int p1), (2, .int p2), (3, .int p3)] [] 0
  obtain ⟨hXl, hXE, hXA, hN, hnm⟩ := hX
  subst hXE
  subst hXA
  subst hXl
  unfold wp_X11_pitch at h
  refine v_aload_n F dX11_pitch_0 0 rfl rfl ?_
  refine v_iload_n F dX11_pitch_1 1 rfl rfl ?_
  refine x_cV F hQ hET (x_runV F k_X11_133 rfl (c_X11_requireEvent hS hZ hl0 r_a h) r_a rfl rfl (Nat.le_of_ble_eq_true rfl) (by decide) (by decide) dX11_pitch_2) (by decide) (fun _ _ h => h) (fun S1 h hE => v_widen (k := (1, 6)) (by decide) ?_)
  have r_a := r_a.tr hE
  refine v_iload_n F dX11_pitch_5 2 rfl rfl ?_
  have h := h (fun (S2 : PS) => VV X (1, 6) S2 [] [] 21) (by
    intro S2 h
    exact v_thr F hS hZ hl0 hQ hET T_X11_163 (i := 10) (by decide) ⟨rfl, rfl⟩ h (by decide) (Nat.le_of_ble_eq_true rfl) (by decide) dX11_pitch_21 dX11_pitch_24 dX11_pitch_25 dX11_pitch_27 dX11_pitch_30)
  refine v_if_lt (tgt := 21) F dX11_pitch_6 (by decide) h (fun h => ?_) (fun h => ?_)
  · exact v_sub [] rfl (h)
  · refine v_iload_n F dX11_pitch_9 2 rfl rfl ?_
    refine v_aload_n F dX11_pitch_10 0 rfl rfl ?_
    refine g_X11_57 F r_a h dX11_pitch_11 (fun b4 r_b4 h => ?_)
    refine v_iload_n F dX11_pitch_14 1 rfl rfl ?_
    refine v_cI0 (v_runV F k_X11_141 rfl (c_X8_pitchesIn r_b4 h) r_b4 rfl rfl (Nat.le_of_ble_eq_true rfl) (by decide) (by decide) dX11_pitch_15) ⟨rfl, rfl⟩ (fun r6 S5 h hE => ?_)
    have r_a := r_a.tr hE
    refine v_icmp_lt (tgt := 31) F dX11_pitch_18 (by decide) h (fun h => ?_) (fun h => ?_)
    · refine v_aload_n F dX11_pitch_31 0 rfl rfl ?_
      refine g_X11_57 F r_a h dX11_pitch_32 (fun b7 r_b7 h => ?_)
      refine v_iload_n F dX11_pitch_35 1 rfl rfl ?_
      refine v_iload_n F dX11_pitch_36 2 rfl rfl ?_
      refine v_cI0 (v_runV F k_X11_168 rfl (c_X8_codeOf r_b7 h) r_b7 rfl rfl (Nat.le_of_ble_eq_true rfl) (by decide) (by decide) dX11_pitch_37) ⟨rfl, rfl⟩ (fun r9 S8 h hE => ?_)
      have r_a := r_a.tr hE
      refine v_istore (lv1 := [(4, .int r9), (0, .ref a), (1, .int p1), (2, .int p2), (3, .int p3)]) F dX11_pitch_40 (by rw [hN]; decide) rfl ?_
      refine v_iload_n F dX11_pitch_42 4 rfl rfl ?_
      refine v_case h (fun e12 h => ?_) (fun e12 h => ?_)
      · refine v_tableIn (tgt := 72) F dX11_pitch_43 (by rw [e12]; decide) (by rw [e12]; decide) (by rw [e12]; rfl) (by decide) ?_
        refine v_iload F dX11_pitch_72 0 rfl ?_
        refine v_cI0 (v_runS F k_X11_172 (c_X4_letter h) rfl rfl (Nat.le_of_ble_eq_true rfl) (by decide) (by decide) dX11_pitch_74) ⟨rfl, rfl⟩ (fun r11 S10 h hE => ?_)
        have r_a := r_a.tr hE
        exact x_iret F hQ h (by decide) dX11_pitch_77
      refine v_case h (fun e15 h => ?_) (fun e15 h => ?_)
      · refine v_tableIn (tgt := 78) F dX11_pitch_43 (by rw [e15]; decide) (by rw [e15]; decide) (by rw [e15]; rfl) (by decide) ?_
        refine v_iload F dX11_pitch_78 0 rfl ?_
        refine v_cI0 (v_runS F k_X11_177 (c_X4_alter h) rfl rfl (Nat.le_of_ble_eq_true rfl) (by decide) (by decide) dX11_pitch_80) ⟨rfl, rfl⟩ (fun r14 S13 h hE => ?_)
        have r_a := r_a.tr hE
        exact x_iret F hQ h (by decide) dX11_pitch_83
      refine v_case h (fun e18 h => ?_) (fun e18 h => ?_)
      · refine v_tableIn (tgt := 84) F dX11_pitch_43 (by rw [e18]; decide) (by rw [e18]; decide) (by rw [e18]; rfl) (by decide) ?_
        refine v_iload F dX11_pitch_84 0 rfl ?_
        refine v_cI0 (v_runS F k_X11_180 (c_X4_octave h) rfl rfl (Nat.le_of_ble_eq_true rfl) (by decide) (by decide) dX11_pitch_86) ⟨rfl, rfl⟩ (fun r17 S16 h hE => ?_)
        have r_a := r_a.tr hE
        exact x_iret F hQ h (by decide) dX11_pitch_89
      refine v_case h (fun e25 h => ?_) (fun e25 h => ?_)
      · refine v_tableIn (tgt := 90) F dX11_pitch_43 (by rw [e25]; decide) (by rw [e25]; decide) (by rw [e25]; rfl) (by decide) ?_
        refine v_iload F dX11_pitch_90 0 rfl ?_
        refine v_cI0 (v_runS F k_X11_183 (c_X4_step h) rfl rfl (Nat.le_of_ble_eq_true rfl) (by decide) (by decide) dX11_pitch_92) ⟨rfl, rfl⟩ (fun r20 S19 h hE => ?_)
        have r_a := r_a.tr hE
        refine v_cI0 (v_runS F k_X11_186 (c_X4_halfTones hH h) rfl rfl (Nat.le_of_ble_eq_true rfl) (by decide) (by decide) dX11_pitch_95) ⟨rfl, rfl⟩ (fun r22 S21 h hE => ?_)
        have r_a := r_a.tr hE
        refine v_iload F dX11_pitch_98 0 rfl ?_
        refine v_cI0 (v_runS F k_X11_177 (c_X4_alter h) rfl rfl (Nat.le_of_ble_eq_true rfl) (by decide) (by decide) dX11_pitch_100) ⟨rfl, rfl⟩ (fun r24 S23 h hE => ?_)
        have r_a := r_a.tr hE
        refine v_iadd F dX11_pitch_103 ?_
        exact x_iret F hQ h (by decide) dX11_pitch_104
      refine v_tableOut (tgt := 105) F dX11_pitch_43 (by have q0 := lv_neT (a := 0) e12 rfl; have q1 := lv_neT (a := 1) e15 rfl; have q2 := lv_neT (a := 2) e18 rfl; have q3 := lv_neT (a := 3) e25 rfl; omega) (by decide) ?_
      exact v_thr F hS hZ hl0 hQ hET T_X11_64 (i := 8) (by decide) ⟨rfl, rfl⟩ h (by decide) (Nat.le_of_ble_eq_true rfl) (by decide) dX11_pitch_105 dX11_pitch_108 dX11_pitch_109 dX11_pitch_111 dX11_pitch_114
    · exact v_sub [] rfl (h)
theorem dX11_word_0 : decode cX11_word 0 = .ok (.aload_n 0, 1) := by decide +kernel
theorem dX11_word_1 : decode cX11_word 1 = .ok (.iload_n 1, 1) := by decide +kernel
theorem dX11_word_2 : decode cX11_word 2 = .ok (.invokevirtual 133, 3) := by decide +kernel
theorem dX11_word_5 : decode cX11_word 5 = .ok (.iload_n 2, 1) := by decide +kernel
theorem dX11_word_6 : decode cX11_word 6 = .ok (.iconst 1, 1) := by decide +kernel
theorem dX11_word_7 : decode cX11_word 7 = .ok (.if_icmp .lt 8, 3) := by decide +kernel
theorem dX11_word_10 : decode cX11_word 10 = .ok (.iload_n 2, 1) := by decide +kernel
theorem dX11_word_11 : decode cX11_word 11 = .ok (.iconst 3, 1) := by decide +kernel
theorem dX11_word_12 : decode cX11_word 12 = .ok (.if_icmp .le 13, 3) := by decide +kernel
theorem dX11_word_15 : decode cX11_word 15 = .ok (.new 64, 3) := by decide +kernel
theorem dX11_word_18 : decode cX11_word 18 = .ok (.dup, 1) := by decide +kernel
theorem dX11_word_19 : decode cX11_word 19 = .ok (.ldc 189, 2) := by decide +kernel
theorem dX11_word_21 : decode cX11_word 21 = .ok (.invokespecial 68, 3) := by decide +kernel
theorem dX11_word_24 : decode cX11_word 24 = .ok (.athrow, 1) := by decide +kernel
theorem dX11_word_25 : decode cX11_word 25 = .ok (.aload_n 0, 1) := by decide +kernel
theorem dX11_word_26 : decode cX11_word 26 = .ok (.getfield 57, 3) := by decide +kernel
theorem dX11_word_29 : decode cX11_word 29 = .ok (.iload_n 1, 1) := by decide +kernel
theorem dX11_word_30 : decode cX11_word 30 = .ok (.iload_n 2, 1) := by decide +kernel
theorem dX11_word_31 : decode cX11_word 31 = .ok (.iload_n 3, 1) := by decide +kernel
theorem dX11_word_32 : decode cX11_word 32 = .ok (.invokevirtual 191, 3) := by decide +kernel
theorem dX11_word_35 : decode cX11_word 35 = .ok (.ireturn, 1) := by decide +kernel
abbrev rm_X11_word : Room := { frames := 7, cells := 2, slots := 12, locals := 121 }
def wp_X11_word (a : Nat) (p1 : Int32) (p2 : Int32) (p3 : Int32) (S : PS) (Q : Int32 → PS → Prop) (QX : String → PS → Prop) : Prop :=
  wp_X11_requireEvent a p1 S (fun (S1 : PS) =>
 (∀ K15_3 : PS → Prop, (∀ (S2 : PS),
 QX "java/lang/IllegalArgumentException" S2
 → K15_3 S2) →
 (if p2 < 1 then
 K15_3 S1
 else
 (if p2 ≤ 3 then
 (∃ b4, fR S1 94 a = some b4 ∧ wp_X8_syllableByte b4 p1 p2 p3 S1 (fun (r6 : Int32) (S5 : PS) => 
 Q r6 S5))
 else
 K15_3 S1)))) QX
set_option maxRecDepth 100000 in
set_option maxHeartbeats 4000000 in
theorem c_X11_word {l : Launch} {E : EE} {A : Nat → Prop} {a : Nat} {p1 : Int32} {p2 : Int32} {p3 : Int32} {S : PS} {Q : Int32 → PS → Prop} {QX : String → PS → Prop} {adK adV : Nat → Nat} (hS : hasStr E adK adV) (hZ : hasEx E) (hl0 : l.stackTraces = false) (r_a : Rf S a 8) (h : wp_X11_word a p1 p2 p3 S Q QX) : XtI l yX11_word (.code yX11_word cX11_word 4 (some .int)) rm_X11_word E A [.ref a, .int p1, .int p2, .int p3] S Q QX := by
  refine XtI.of (by decide) (Nat.le_of_ble_eq_true rfl) (fun X F hQ hX hET => ?_)
  show VV X (0, 0) S [(0, .ref a), (1, .int p1), (2, .int p2), (3, .int p3)] [] 0
  obtain ⟨hXl, hXE, hXA, hN, hnm⟩ := hX
  subst hXE
  subst hXA
  subst hXl
  unfold wp_X11_word at h
  refine v_aload_n F dX11_word_0 0 rfl rfl ?_
  refine v_iload_n F dX11_word_1 1 rfl rfl ?_
  refine x_cV F hQ hET (x_runV F k_X11_133 rfl (c_X11_requireEvent hS hZ hl0 r_a h) r_a rfl rfl (Nat.le_of_ble_eq_true rfl) (by decide) (by decide) dX11_word_2) (by decide) (fun _ _ h => h) (fun S1 h hE => v_widen (k := (1, 6)) (by decide) ?_)
  have r_a := r_a.tr hE
  refine v_iload_n F dX11_word_5 2 rfl rfl ?_
  refine v_iconst (v := 1) F dX11_word_6 (by decide) ?_
  have h := h (fun (S2 : PS) => VV X (1, 6) S2 [] [] 15) (by
    intro S2 h
    exact v_thr F hS hZ hl0 hQ hET T_X11_64 (i := 11) (by decide) ⟨rfl, rfl⟩ h (by decide) (Nat.le_of_ble_eq_true rfl) (by decide) dX11_word_15 dX11_word_18 dX11_word_19 dX11_word_21 dX11_word_24)
  refine v_icmp_lt (tgt := 15) F dX11_word_7 (by decide) h (fun h => ?_) (fun h => ?_)
  · exact v_sub [] rfl (h)
  · refine v_iload_n F dX11_word_10 2 rfl rfl ?_
    refine v_iconst (v := 3) F dX11_word_11 (by decide) ?_
    refine v_icmp_le (tgt := 25) F dX11_word_12 (by decide) h (fun h => ?_) (fun h => ?_)
    · refine v_aload_n F dX11_word_25 0 rfl rfl ?_
      refine g_X11_57 F r_a h dX11_word_26 (fun b4 r_b4 h => ?_)
      refine v_iload_n F dX11_word_29 1 rfl rfl ?_
      refine v_iload_n F dX11_word_30 2 rfl rfl ?_
      refine v_iload_n F dX11_word_31 3 rfl rfl ?_
      refine v_cI0 (v_runV F k_X11_191 rfl (c_X8_syllableByte r_b4 h) r_b4 rfl rfl (Nat.le_of_ble_eq_true rfl) (by decide) (by decide) dX11_word_32) ⟨rfl, rfl⟩ (fun r6 S5 h hE => ?_)
      have r_a := r_a.tr hE
      exact x_iret F hQ h (by decide) dX11_word_35
    · exact v_sub [] rfl (h)
theorem dX11_walk_0 : decode cX11_walk 0 = .ok (.aload_n 0, 1) := by decide +kernel
theorem dX11_walk_1 : decode cX11_walk 1 = .ok (.iload_n 1, 1) := by decide +kernel
theorem dX11_walk_2 : decode cX11_walk 2 = .ok (.invokevirtual 133, 3) := by decide +kernel
theorem dX11_walk_5 : decode cX11_walk 5 = .ok (.aload_n 0, 1) := by decide +kernel
theorem dX11_walk_6 : decode cX11_walk 6 = .ok (.getfield 57, 3) := by decide +kernel
theorem dX11_walk_9 : decode cX11_walk 9 = .ok (.getfield 195, 3) := by decide +kernel
theorem dX11_walk_12 : decode cX11_walk 12 = .ok (.iload_n 1, 1) := by decide +kernel
theorem dX11_walk_13 : decode cX11_walk 13 = .ok (.iaload, 1) := by decide +kernel
theorem dX11_walk_14 : decode cX11_walk 14 = .ok (.ireturn, 1) := by decide +kernel
abbrev rm_X11_walk : Room := { frames := 7, cells := 1, slots := 6, locals := 121 }
def wp_X11_walk (a : Nat) (p1 : Int32) (S : PS) (Q : Int32 → PS → Prop) (QX : String → PS → Prop) : Prop :=
  wp_X11_requireEvent a p1 S (fun (S1 : PS) =>
 (∃ b2, fR S1 94 a = some b2 ∧ (∃ b3, fR S1 78 b2 = some b3 ∧ (vp_in p1 (aN S1 b3) ∧ Q (aI S1 35 b3 (p1).toNatClampNeg) S1)))) QX
set_option maxRecDepth 100000 in
set_option maxHeartbeats 4000000 in
theorem c_X11_walk {l : Launch} {E : EE} {A : Nat → Prop} {a : Nat} {p1 : Int32} {S : PS} {Q : Int32 → PS → Prop} {QX : String → PS → Prop} {adK adV : Nat → Nat} (hS : hasStr E adK adV) (hZ : hasEx E) (hl0 : l.stackTraces = false) (r_a : Rf S a 8) (h : wp_X11_walk a p1 S Q QX) : XtI l yX11_walk (.code yX11_walk cX11_walk 2 (some .int)) rm_X11_walk E A [.ref a, .int p1] S Q QX := by
  refine XtI.of (by decide) (Nat.le_of_ble_eq_true rfl) (fun X F hQ hX hET => ?_)
  show VV X (0, 0) S [(0, .ref a), (1, .int p1)] [] 0
  obtain ⟨hXl, hXE, hXA, hN, hnm⟩ := hX
  subst hXE
  subst hXA
  subst hXl
  unfold wp_X11_walk at h
  refine v_aload_n F dX11_walk_0 0 rfl rfl ?_
  refine v_iload_n F dX11_walk_1 1 rfl rfl ?_
  refine x_cV F hQ hET (x_runV F k_X11_133 rfl (c_X11_requireEvent hS hZ hl0 r_a h) r_a rfl rfl (Nat.le_of_ble_eq_true rfl) (by decide) (by decide) dX11_walk_2) (by decide) (fun _ _ h => h) (fun S1 h hE => v_widen (k := (1, 6)) (by decide) ?_)
  have r_a := r_a.tr hE
  refine v_aload_n F dX11_walk_5 0 rfl rfl ?_
  refine g_X11_57 F r_a h dX11_walk_6 (fun b2 r_b2 h => ?_)
  refine g_X11_195 F r_b2 h dX11_walk_9 (fun b3 r_b3 h => ?_)
  refine v_iload_n F dX11_walk_12 1 rfl rfl ?_
  refine v_iald F r_b3 o_35 h dX11_walk_13 (fun h => ?_)
  exact x_iret F hQ h (by decide) dX11_walk_14
theorem dX11_bar_0 : decode cX11_bar 0 = .ok (.aload_n 0, 1) := by decide +kernel
theorem dX11_bar_1 : decode cX11_bar 1 = .ok (.getfield 57, 3) := by decide +kernel
theorem dX11_bar_4 : decode cX11_bar 4 = .ok (.getfield 114, 3) := by decide +kernel
theorem dX11_bar_7 : decode cX11_bar 7 = .ok (.astore_n 3, 1) := by decide +kernel
theorem dX11_bar_8 : decode cX11_bar 8 = .ok (.iload_n 1, 1) := by decide +kernel
theorem dX11_bar_9 : decode cX11_bar 9 = .ok (.ifCond .lt 18, 3) := by decide +kernel
theorem dX11_bar_12 : decode cX11_bar 12 = .ok (.iload_n 1, 1) := by decide +kernel
theorem dX11_bar_13 : decode cX11_bar 13 = .ok (.aload_n 3, 1) := by decide +kernel
theorem dX11_bar_14 : decode cX11_bar 14 = .ok (.aload_n 0, 1) := by decide +kernel
theorem dX11_bar_15 : decode cX11_bar 15 = .ok (.getfield 57, 3) := by decide +kernel
theorem dX11_bar_18 : decode cX11_bar 18 = .ok (.getfield 123, 3) := by decide +kernel
theorem dX11_bar_21 : decode cX11_bar 21 = .ok (.invokevirtual 127, 3) := by decide +kernel
theorem dX11_bar_24 : decode cX11_bar 24 = .ok (.if_icmp .lt 13, 3) := by decide +kernel
theorem dX11_bar_27 : decode cX11_bar 27 = .ok (.new 163, 3) := by decide +kernel
theorem dX11_bar_30 : decode cX11_bar 30 = .ok (.dup, 1) := by decide +kernel
theorem dX11_bar_31 : decode cX11_bar 31 = .ok (.ldc 198, 2) := by decide +kernel
theorem dX11_bar_33 : decode cX11_bar 33 = .ok (.invokespecial 167, 3) := by decide +kernel
theorem dX11_bar_36 : decode cX11_bar 36 = .ok (.athrow, 1) := by decide +kernel
theorem dX11_bar_37 : decode cX11_bar 37 = .ok (.aload_n 3, 1) := by decide +kernel
theorem dX11_bar_38 : decode cX11_bar 38 = .ok (.iload_n 1, 1) := by decide +kernel
theorem dX11_bar_39 : decode cX11_bar 39 = .ok (.invokevirtual 200, 3) := by decide +kernel
theorem dX11_bar_42 : decode cX11_bar 42 = .ok (.istore 4, 2) := by decide +kernel
theorem dX11_bar_44 : decode cX11_bar 44 = .ok (.aload_n 3, 1) := by decide +kernel
theorem dX11_bar_45 : decode cX11_bar 45 = .ok (.iload_n 1, 1) := by decide +kernel
theorem dX11_bar_46 : decode cX11_bar 46 = .ok (.invokevirtual 203, 3) := by decide +kernel
theorem dX11_bar_49 : decode cX11_bar 49 = .ok (.lstore 5, 2) := by decide +kernel
theorem dX11_bar_51 : decode cX11_bar 51 = .ok (.iload_n 2, 1) := by decide +kernel
theorem dX11_bar_52 : decode cX11_bar 52 = .ok (.tableswitch 73 0 3 #[32, 35, 44, 53], 32) := by decide +kernel
theorem dX11_bar_84 : decode cX11_bar 84 = .ok (.lload 5, 2) := by decide +kernel
theorem dX11_bar_86 : decode cX11_bar 86 = .ok (.lreturn, 1) := by decide +kernel
theorem dX11_bar_87 : decode cX11_bar 87 = .ok (.aload_n 3, 1) := by decide +kernel
theorem dX11_bar_88 : decode cX11_bar 88 = .ok (.getfield 206, 3) := by decide +kernel
theorem dX11_bar_91 : decode cX11_bar 91 = .ok (.iload 4, 2) := by decide +kernel
theorem dX11_bar_93 : decode cX11_bar 93 = .ok (.iaload, 1) := by decide +kernel
theorem dX11_bar_94 : decode cX11_bar 94 = .ok (.i2l, 1) := by decide +kernel
theorem dX11_bar_95 : decode cX11_bar 95 = .ok (.lreturn, 1) := by decide +kernel
theorem dX11_bar_96 : decode cX11_bar 96 = .ok (.aload_n 3, 1) := by decide +kernel
theorem dX11_bar_97 : decode cX11_bar 97 = .ok (.getfield 209, 3) := by decide +kernel
theorem dX11_bar_100 : decode cX11_bar 100 = .ok (.iload 4, 2) := by decide +kernel
theorem dX11_bar_102 : decode cX11_bar 102 = .ok (.iaload, 1) := by decide +kernel
theorem dX11_bar_103 : decode cX11_bar 103 = .ok (.i2l, 1) := by decide +kernel
theorem dX11_bar_104 : decode cX11_bar 104 = .ok (.lreturn, 1) := by decide +kernel
theorem dX11_bar_105 : decode cX11_bar 105 = .ok (.aload_n 0, 1) := by decide +kernel
theorem dX11_bar_106 : decode cX11_bar 106 = .ok (.getfield 57, 3) := by decide +kernel
theorem dX11_bar_109 : decode cX11_bar 109 = .ok (.lload 5, 2) := by decide +kernel
theorem dX11_bar_111 : decode cX11_bar 111 = .ok (.lload 5, 2) := by decide +kernel
theorem dX11_bar_113 : decode cX11_bar 113 = .ok (.aload_n 3, 1) := by decide +kernel
theorem dX11_bar_114 : decode cX11_bar 114 = .ok (.iload 4, 2) := by decide +kernel
theorem dX11_bar_116 : decode cX11_bar 116 = .ok (.invokevirtual 212, 3) := by decide +kernel
theorem dX11_bar_119 : decode cX11_bar 119 = .ok (.ladd, 1) := by decide +kernel
theorem dX11_bar_120 : decode cX11_bar 120 = .ok (.invokevirtual 215, 3) := by decide +kernel
theorem dX11_bar_123 : decode cX11_bar 123 = .ok (.i2l, 1) := by decide +kernel
theorem dX11_bar_124 : decode cX11_bar 124 = .ok (.lreturn, 1) := by decide +kernel
theorem dX11_bar_125 : decode cX11_bar 125 = .ok (.new 64, 3) := by decide +kernel
theorem dX11_bar_128 : decode cX11_bar 128 = .ok (.dup, 1) := by decide +kernel
theorem dX11_bar_129 : decode cX11_bar 129 = .ok (.ldc 131, 2) := by decide +kernel
theorem dX11_bar_131 : decode cX11_bar 131 = .ok (.invokespecial 68, 3) := by decide +kernel
theorem dX11_bar_134 : decode cX11_bar 134 = .ok (.athrow, 1) := by decide +kernel
abbrev rm_X11_bar : Room := { frames := 6, cells := 1, slots := 6, locals := 176 }
def wp_X11_bar (a : Nat) (p1 : Int32) (p2 : Int32) (S : PS) (Q : Int64 → PS → Prop) (QX : String → PS → Prop) : Prop :=
  (∃ b1, fR S 94 a = some b1 ∧ (∃ b2, fR S 83 b1 = some b2 ∧ (∀ K27_4 : PS → Prop, (∀ (S3 : PS),
 QX "java/lang/IndexOutOfBoundsException" S3
 → K27_4 S3) →
 (if p1 < 0 then
 K27_4 S
 else
 (∃ b5, fR S 94 a = some b5 ∧ wp_X2_barsAhead b2 (fL S 86 b5) S (fun (r7 : Int32) (S6 : PS) => 
 (if p1 < r7 then
 wp_X2_meterOfBar b2 p1 S6 (fun (r9 : Int32) (S8 : PS) => 
 wp_X2_beginOfBar b2 p1 S8 (fun (r11 : Int64) (S10 : PS) => 
 (if p2 = 0 then
 Q r11 S10
 else (if p2 = 1 then
 (∃ b13, fR S10 19 b2 = some b13 ∧ (vp_in r9 (aN S10 b13) ∧ Q ((aI S10 11 b13 (r9).toNatClampNeg).toInt64) S10))
 else (if p2 = 2 then
 (∃ b15, fR S10 20 b2 = some b15 ∧ (vp_in r9 (aN S10 b15) ∧ Q ((aI S10 12 b15 (r9).toNatClampNeg).toInt64) S10))
 else (if p2 = 3 then
 (∃ b17, fR S10 94 a = some b17 ∧ wp_X2_barTicks b2 r9 S10 (fun (r19 : Int64) (S18 : PS) => 
 wp_X8_countBegun b17 r11 (r11 + r19) S18 (fun (r21 : Int32) (S20 : PS) => 
 Q (r21.toInt64) S20)))
 else QX "java/lang/IllegalArgumentException" S10))))))
 else
 K27_4 S6)))))))
set_option maxRecDepth 100000 in
set_option maxHeartbeats 4000000 in
theorem c_X11_bar {l : Launch} {E : EE} {A : Nat → Prop} {a : Nat} {p1 : Int32} {p2 : Int32} {S : PS} {Q : Int64 → PS → Prop} {QX : String → PS → Prop} {adK adV : Nat → Nat} (hS : hasStr E adK adV) (hZ : hasEx E) (hl0 : l.stackTraces = false) (r_a : Rf S a 8) (h : wp_X11_bar a p1 p2 S Q QX) : XtL l yX11_bar (.code yX11_bar cX11_bar 7 (some .long)) rm_X11_bar E A [.ref a, .int p1, .int p2] S Q QX := by
  refine XtL.of (by decide) (Nat.le_of_ble_eq_true rfl) (fun X F hQ hX hET => ?_)
  show VV X (0, 0) S [(0, .ref a), (1, .int p1), (2, .int p2)] [] 0
  obtain ⟨hXl, hXE, hXA, hN, hnm⟩ := hX
  subst hXE
  subst hXA
  subst hXl
  unfold wp_X11_bar at h
  refine v_aload_n F dX11_bar_0 0 rfl rfl ?_
  refine g_X11_57 F r_a h dX11_bar_1 (fun b1 r_b1 h => ?_)
  refine g_X11_114 F r_b1 h dX11_bar_4 (fun b2 r_b2 h => ?_)
  refine v_astore_n (lv1 := [(3, .ref b2), (0, .ref a), (1, .int p1), (2, .int p2)]) F dX11_bar_7 rfl (by rw [hN]; decide) rfl ?_
  refine v_iload_n F dX11_bar_8 2 rfl rfl ?_
  have h := h (fun (S3 : PS) => VV X (0, 0) S3 [] [] 27) (by
    intro S3 h
    exact v_thr F hS hZ hl0 hQ hET T_X11_163 (i := 12) (by decide) ⟨rfl, rfl⟩ h (by decide) (Nat.le_of_ble_eq_true rfl) (by decide) dX11_bar_27 dX11_bar_30 dX11_bar_31 dX11_bar_33 dX11_bar_36)
  refine v_if_lt (tgt := 27) F dX11_bar_9 (by decide) h (fun h => ?_) (fun h => ?_)
  · exact v_sub [] rfl (h)
  · refine v_iload_n F dX11_bar_12 2 rfl rfl ?_
    refine v_aload_n F dX11_bar_13 0 rfl rfl ?_
    refine v_aload_n F dX11_bar_14 1 rfl rfl ?_
    refine g_X11_57 F r_a h dX11_bar_15 (fun b5 r_b5 h => ?_)
    refine g_X11_123 F r_b5 dX11_bar_18 ?_
    refine v_cI0 (v_runV F k_X11_127 rfl (c_X2_barsAhead r_b2 h) r_b2 rfl rfl (Nat.le_of_ble_eq_true rfl) (by decide) (by decide) dX11_bar_21) ⟨rfl, rfl⟩ (fun r7 S6 h hE => ?_)
    have r_b2 := r_b2.tr hE
    have r_a := r_a.tr hE
    refine v_icmp_lt (tgt := 37) F dX11_bar_24 (by decide) h (fun h => ?_) (fun h => ?_)
    · refine v_aload_n F dX11_bar_37 0 rfl rfl ?_
      refine v_iload_n F dX11_bar_38 2 rfl rfl ?_
      refine v_cI0 (v_runV F k_X11_200 rfl (c_X2_meterOfBar r_b2 h) r_b2 rfl rfl (Nat.le_of_ble_eq_true rfl) (by decide) (by decide) dX11_bar_39) ⟨rfl, rfl⟩ (fun r9 S8 h hE => ?_)
      have r_b2 := r_b2.tr hE
      have r_a := r_a.tr hE
      refine v_istore (lv1 := [(4, .int r9), (3, .ref b2), (0, .ref a), (1, .int p1), (2, .int p2)]) F dX11_bar_42 (by rw [hN]; decide) rfl ?_
      refine v_aload_n F dX11_bar_44 1 rfl rfl ?_
      refine v_iload_n F dX11_bar_45 3 rfl rfl ?_
      refine v_cL0 (v_runV F k_X11_203 rfl (c_X2_beginOfBar r_b2 h) r_b2 rfl rfl (Nat.le_of_ble_eq_true rfl) (by decide) (by decide) dX11_bar_46) ⟨rfl, rfl⟩ (fun r11 S10 h hE => ?_)
      have r_b2 := r_b2.tr hE
      have r_a := r_a.tr hE
      refine v_lstore (lv1 := [(5, .long r11), (4, .int r9), (3, .ref b2), (0, .ref a), (1, .int p1), (2, .int p2)]) F dX11_bar_49 (by rw [hN]; decide) rfl ?_
      refine v_iload_n F dX11_bar_51 5 rfl rfl ?_
      refine v_case h (fun e12 h => ?_) (fun e12 h => ?_)
      · refine v_tableIn (tgt := 84) F dX11_bar_52 (by rw [e12]; decide) (by rw [e12]; decide) (by rw [e12]; rfl) (by decide) ?_
        refine v_lload F dX11_bar_84 0 rfl ?_
        exact x_lret F hQ h (by decide) dX11_bar_86
      refine v_case h (fun e14 h => ?_) (fun e14 h => ?_)
      · refine v_tableIn (tgt := 87) F dX11_bar_52 (by rw [e14]; decide) (by rw [e14]; decide) (by rw [e14]; rfl) (by decide) ?_
        refine v_aload_n F dX11_bar_87 2 rfl rfl ?_
        refine g_X11_206 F r_b2 h dX11_bar_88 (fun b13 r_b13 h => ?_)
        refine v_iload F dX11_bar_91 1 rfl ?_
        refine v_iald F r_b13 o_11 h dX11_bar_93 (fun h => ?_)
        refine v_i2l F dX11_bar_94 ?_
        exact x_lret F hQ h (by decide) dX11_bar_95
      refine v_case h (fun e16 h => ?_) (fun e16 h => ?_)
      · refine v_tableIn (tgt := 96) F dX11_bar_52 (by rw [e16]; decide) (by rw [e16]; decide) (by rw [e16]; rfl) (by decide) ?_
        refine v_aload_n F dX11_bar_96 2 rfl rfl ?_
        refine g_X11_209 F r_b2 h dX11_bar_97 (fun b15 r_b15 h => ?_)
        refine v_iload F dX11_bar_100 1 rfl ?_
        refine v_iald F r_b15 o_12 h dX11_bar_102 (fun h => ?_)
        refine v_i2l F dX11_bar_103 ?_
        exact x_lret F hQ h (by decide) dX11_bar_104
      refine v_case h (fun e22 h => ?_) (fun e22 h => ?_)
      · refine v_tableIn (tgt := 105) F dX11_bar_52 (by rw [e22]; decide) (by rw [e22]; decide) (by rw [e22]; rfl) (by decide) ?_
        refine v_aload_n F dX11_bar_105 3 rfl rfl ?_
        refine g_X11_57 F r_a h dX11_bar_106 (fun b17 r_b17 h => ?_)
        refine v_lload F dX11_bar_109 0 rfl ?_
        refine v_lload F dX11_bar_111 0 rfl ?_
        refine v_aload_n F dX11_bar_113 2 rfl rfl ?_
        refine v_iload F dX11_bar_114 1 rfl ?_
        refine v_cL0 (v_runV F k_X11_212 rfl (c_X2_barTicks r_b2 h) r_b2 rfl rfl (Nat.le_of_ble_eq_true rfl) (by decide) (by decide) dX11_bar_116) ⟨rfl, rfl⟩ (fun r19 S18 h hE => ?_)
        have r_b2 := r_b2.tr hE
        have r_a := r_a.tr hE
        have r_b17 := r_b17.tr hE
        refine v_ladd F dX11_bar_119 ?_
        refine v_cI0 (v_runV F k_X11_215 rfl (c_X8_countBegun r_b17 h) r_b17 rfl rfl (Nat.le_of_ble_eq_true rfl) (by decide) (by decide) dX11_bar_120) ⟨rfl, rfl⟩ (fun r21 S20 h hE => ?_)
        have r_b2 := r_b2.tr hE
        have r_a := r_a.tr hE
        refine v_i2l F dX11_bar_123 ?_
        exact x_lret F hQ h (by decide) dX11_bar_124
      refine v_tableOut (tgt := 125) F dX11_bar_52 (by have q0 := lv_neT (a := 0) e12 rfl; have q1 := lv_neT (a := 1) e14 rfl; have q2 := lv_neT (a := 2) e16 rfl; have q3 := lv_neT (a := 3) e22 rfl; omega) (by decide) ?_
      exact v_thr F hS hZ hl0 hQ hET T_X11_64 (i := 8) (by decide) ⟨rfl, rfl⟩ h (by decide) (Nat.le_of_ble_eq_true rfl) (by decide) dX11_bar_125 dX11_bar_128 dX11_bar_129 dX11_bar_131 dX11_bar_134
    · exact v_sub [] rfl (h)
theorem dX11_at_0 : decode cX11_at 0 = .ok (.iload_n 1, 1) := by decide +kernel
theorem dX11_at_1 : decode cX11_at 1 = .ok (.ifCond .lt 14, 3) := by decide +kernel
theorem dX11_at_4 : decode cX11_at 4 = .ok (.iload_n 1, 1) := by decide +kernel
theorem dX11_at_5 : decode cX11_at 5 = .ok (.aload_n 0, 1) := by decide +kernel
theorem dX11_at_6 : decode cX11_at 6 = .ok (.getfield 57, 3) := by decide +kernel
theorem dX11_at_9 : decode cX11_at 9 = .ok (.getfield 101, 3) := by decide +kernel
theorem dX11_at_12 : decode cX11_at 12 = .ok (.if_icmp .lt 13, 3) := by decide +kernel
theorem dX11_at_15 : decode cX11_at 15 = .ok (.new 163, 3) := by decide +kernel
theorem dX11_at_18 : decode cX11_at 18 = .ok (.dup, 1) := by decide +kernel
theorem dX11_at_19 : decode cX11_at 19 = .ok (.ldc 219, 2) := by decide +kernel
theorem dX11_at_21 : decode cX11_at 21 = .ok (.invokespecial 167, 3) := by decide +kernel
theorem dX11_at_24 : decode cX11_at 24 = .ok (.athrow, 1) := by decide +kernel
theorem dX11_at_25 : decode cX11_at 25 = .ok (.iload_n 3, 1) := by decide +kernel
theorem dX11_at_26 : decode cX11_at 26 = .ok (.ifCond .ne 13, 3) := by decide +kernel
theorem dX11_at_29 : decode cX11_at 29 = .ok (.new 221, 3) := by decide +kernel
theorem dX11_at_32 : decode cX11_at 32 = .ok (.dup, 1) := by decide +kernel
theorem dX11_at_33 : decode cX11_at 33 = .ok (.ldc 223, 2) := by decide +kernel
theorem dX11_at_35 : decode cX11_at 35 = .ok (.invokespecial 225, 3) := by decide +kernel
theorem dX11_at_38 : decode cX11_at 38 = .ok (.athrow, 1) := by decide +kernel
theorem dX11_at_39 : decode cX11_at 39 = .ok (.iload_n 3, 1) := by decide +kernel
theorem dX11_at_40 : decode cX11_at 40 = .ok (.ifCond .ge 13, 3) := by decide +kernel
theorem dX11_at_43 : decode cX11_at 43 = .ok (.new 64, 3) := by decide +kernel
theorem dX11_at_46 : decode cX11_at 46 = .ok (.dup, 1) := by decide +kernel
theorem dX11_at_47 : decode cX11_at 47 = .ok (.ldc 226, 2) := by decide +kernel
theorem dX11_at_49 : decode cX11_at 49 = .ok (.invokespecial 68, 3) := by decide +kernel
theorem dX11_at_52 : decode cX11_at 52 = .ok (.athrow, 1) := by decide +kernel
theorem dX11_at_53 : decode cX11_at 53 = .ok (.aload_n 0, 1) := by decide +kernel
theorem dX11_at_54 : decode cX11_at 54 = .ok (.getfield 57, 3) := by decide +kernel
theorem dX11_at_57 : decode cX11_at 57 = .ok (.iload_n 1, 1) := by decide +kernel
theorem dX11_at_58 : decode cX11_at 58 = .ok (.iload_n 2, 1) := by decide +kernel
theorem dX11_at_59 : decode cX11_at 59 = .ok (.i2l, 1) := by decide +kernel
theorem dX11_at_60 : decode cX11_at 60 = .ok (.ldc2_w 228, 3) := by decide +kernel
theorem dX11_at_63 : decode cX11_at 63 = .ok (.lmul, 1) := by decide +kernel
theorem dX11_at_64 : decode cX11_at 64 = .ok (.iload_n 3, 1) := by decide +kernel
theorem dX11_at_65 : decode cX11_at 65 = .ok (.i2l, 1) := by decide +kernel
theorem dX11_at_66 : decode cX11_at 66 = .ok (.invokevirtual 230, 3) := by decide +kernel
theorem dX11_at_69 : decode cX11_at 69 = .ok (.ireturn, 1) := by decide +kernel
abbrev rm_X11_at : Room := { frames := 6, cells := 1, slots := 6, locals := 100 }
def wp_X11_at (a : Nat) (p1 : Int32) (p2 : Int32) (p3 : Int32) (S : PS) (Q : Int32 → PS → Prop) (QX : String → PS → Prop) : Prop :=
  (∀ K15_2 : PS → Prop, (∀ (S1 : PS),
 QX "java/lang/IndexOutOfBoundsException" S1
 → K15_2 S1) →
 (if p1 < 0 then
 K15_2 S
 else
 (∃ b3, fR S 94 a = some b3 ∧ (if p1 < fI S 79 b3 then
 (if p3 = 0 then
 QX "java/lang/ArithmeticException" S
 else
 (if 0 ≤ p3 then
 (∃ b4, fR S 94 a = some b4 ∧ wp_X8_sounding b4 p1 ((p2.toInt64) * 3870720) (p3.toInt64) S (fun (r6 : Int32) (S5 : PS) => 
 Q r6 S5))
 else
 QX "java/lang/IllegalArgumentException" S))
 else
 K15_2 S))))
set_option maxRecDepth 100000 in
set_option maxHeartbeats 4000000 in
theorem c_X11_at {l : Launch} {E : EE} {A : Nat → Prop} {a : Nat} {p1 : Int32} {p2 : Int32} {p3 : Int32} {S : PS} {Q : Int32 → PS → Prop} {QX : String → PS → Prop} {adK adV : Nat → Nat} (hS : hasStr E adK adV) (hZ : hasEx E) (hl0 : l.stackTraces = false) (r_a : Rf S a 8) (h : wp_X11_at a p1 p2 p3 S Q QX) : XtI l yX11_at (.code yX11_at cX11_at 4 (some .int)) rm_X11_at E A [.ref a, .int p1, .int p2, .int p3] S Q QX := by
  refine XtI.of (by decide) (Nat.le_of_ble_eq_true rfl) (fun X F hQ hX hET => ?_)
  show VV X (0, 0) S [(0, .ref a), (1, .int p1), (2, .int p2), (3, .int p3)] [] 0
  obtain ⟨hXl, hXE, hXA, hN, hnm⟩ := hX
  subst hXE
  subst hXA
  subst hXl
  unfold wp_X11_at at h
  refine v_iload_n F dX11_at_0 1 rfl rfl ?_
  have h := h (fun (S1 : PS) => VV X (0, 0) S1 [] [] 15) (by
    intro S1 h
    exact v_thr F hS hZ hl0 hQ hET T_X11_163 (i := 13) (by decide) ⟨rfl, rfl⟩ h (by decide) (Nat.le_of_ble_eq_true rfl) (by decide) dX11_at_15 dX11_at_18 dX11_at_19 dX11_at_21 dX11_at_24)
  refine v_if_lt (tgt := 15) F dX11_at_1 (by decide) h (fun h => ?_) (fun h => ?_)
  · exact v_sub [] rfl (h)
  · refine v_iload_n F dX11_at_4 1 rfl rfl ?_
    refine v_aload_n F dX11_at_5 0 rfl rfl ?_
    refine g_X11_57 F r_a h dX11_at_6 (fun b3 r_b3 h => ?_)
    refine g_X11_101 F r_b3 dX11_at_9 ?_
    refine v_icmp_lt (tgt := 25) F dX11_at_12 (by decide) h (fun h => ?_) (fun h => ?_)
    · refine v_iload_n F dX11_at_25 3 rfl rfl ?_
      refine v_if_ne (tgt := 39) F dX11_at_26 (by decide) h (fun h => ?_) (fun h => ?_)
      · refine v_iload_n F dX11_at_39 3 rfl rfl ?_
        refine v_if_ge (tgt := 53) F dX11_at_40 (by decide) h (fun h => ?_) (fun h => ?_)
        · refine v_aload_n F dX11_at_53 0 rfl rfl ?_
          refine g_X11_57 F r_a h dX11_at_54 (fun b4 r_b4 h => ?_)
          refine v_iload_n F dX11_at_57 1 rfl rfl ?_
          refine v_iload_n F dX11_at_58 2 rfl rfl ?_
          refine v_i2l F dX11_at_59 ?_
          refine v_ldc2 F kc_X11_228 dX11_at_60 ?_
          refine v_lmul F dX11_at_63 ?_
          refine v_iload_n F dX11_at_64 3 rfl rfl ?_
          refine v_i2l F dX11_at_65 ?_
          refine v_cI0 (v_runV F k_X11_230 rfl (c_X8_sounding r_b4 h) r_b4 rfl rfl (Nat.le_of_ble_eq_true rfl) (by decide) (by decide) dX11_at_66) ⟨rfl, rfl⟩ (fun r6 S5 h hE => ?_)
          have r_a := r_a.tr hE
          exact x_iret F hQ h (by decide) dX11_at_69
        · exact v_thr F hS hZ hl0 hQ hET T_X11_64 (i := 15) (by decide) ⟨rfl, rfl⟩ h (by decide) (Nat.le_of_ble_eq_true rfl) (by decide) dX11_at_43 dX11_at_46 dX11_at_47 dX11_at_49 dX11_at_52
      · exact v_thr F hS hZ hl0 hQ hET T_X11_221 (i := 14) (by decide) ⟨rfl, rfl⟩ h (by decide) (Nat.le_of_ble_eq_true rfl) (by decide) dX11_at_29 dX11_at_32 dX11_at_33 dX11_at_35 dX11_at_38
    · exact v_sub [] rfl (h)
theorem dX11_read_0 : decode cX11_read 0 = .ok (.aload_n 0, 1) := by decide +kernel
theorem dX11_read_1 : decode cX11_read 1 = .ok (.getfield 13, 3) := by decide +kernel
theorem dX11_read_4 : decode cX11_read 4 = .ok (.istore_n 1, 1) := by decide +kernel
theorem dX11_read_5 : decode cX11_read 5 = .ok (.aload_n 0, 1) := by decide +kernel
theorem dX11_read_6 : decode cX11_read 6 = .ok (.iconst 0, 1) := by decide +kernel
theorem dX11_read_7 : decode cX11_read 7 = .ok (.putfield 13, 3) := by decide +kernel
theorem dX11_read_10 : decode cX11_read 10 = .ok (.aload_n 0, 1) := by decide +kernel
theorem dX11_read_11 : decode cX11_read 11 = .ok (.getfield 61, 3) := by decide +kernel
theorem dX11_read_14 : decode cX11_read 14 = .ok (.aload_n 0, 1) := by decide +kernel
theorem dX11_read_15 : decode cX11_read 15 = .ok (.getfield 9, 3) := by decide +kernel
theorem dX11_read_18 : decode cX11_read 18 = .ok (.iload_n 1, 1) := by decide +kernel
theorem dX11_read_19 : decode cX11_read 19 = .ok (.invokevirtual 76, 3) := by decide +kernel
theorem dX11_read_22 : decode cX11_read 22 = .ok (.aload_n 0, 1) := by decide +kernel
theorem dX11_read_23 : decode cX11_read 23 = .ok (.getfield 27, 3) := by decide +kernel
theorem dX11_read_26 : decode cX11_read 26 = .ok (.aload_n 0, 1) := by decide +kernel
theorem dX11_read_27 : decode cX11_read 27 = .ok (.getfield 61, 3) := by decide +kernel
theorem dX11_read_30 : decode cX11_read 30 = .ok (.getfield 80, 3) := by decide +kernel
theorem dX11_read_33 : decode cX11_read 33 = .ok (.iload_n 1, 1) := by decide +kernel
theorem dX11_read_34 : decode cX11_read 34 = .ok (.invokevirtual 83, 3) := by decide +kernel
theorem dX11_read_37 : decode cX11_read 37 = .ok (.aload_n 0, 1) := by decide +kernel
theorem dX11_read_38 : decode cX11_read 38 = .ok (.getfield 36, 3) := by decide +kernel
theorem dX11_read_41 : decode cX11_read 41 = .ok (.invokevirtual 84, 3) := by decide +kernel
theorem dX11_read_44 : decode cX11_read 44 = .ok (.ifCond .eq 17, 3) := by decide +kernel
theorem dX11_read_47 : decode cX11_read 47 = .ok (.aload_n 0, 1) := by decide +kernel
theorem dX11_read_48 : decode cX11_read 48 = .ok (.getfield 43, 3) := by decide +kernel
theorem dX11_read_51 : decode cX11_read 51 = .ok (.aload_n 0, 1) := by decide +kernel
theorem dX11_read_52 : decode cX11_read 52 = .ok (.getfield 61, 3) := by decide +kernel
theorem dX11_read_55 : decode cX11_read 55 = .ok (.invokevirtual 88, 3) := by decide +kernel
theorem dX11_read_58 : decode cX11_read 58 = .ok (.ifCond .ne 15, 3) := by decide +kernel
theorem dX11_read_61 : decode cX11_read 61 = .ok (.sipush (-1000), 3) := by decide +kernel
theorem dX11_read_64 : decode cX11_read 64 = .ok (.aload_n 0, 1) := by decide +kernel
theorem dX11_read_65 : decode cX11_read 65 = .ok (.getfield 20, 3) := by decide +kernel
theorem dX11_read_68 : decode cX11_read 68 = .ok (.getfield 92, 3) := by decide +kernel
theorem dX11_read_71 : decode cX11_read 71 = .ok (.isub, 1) := by decide +kernel
theorem dX11_read_72 : decode cX11_read 72 = .ok (.ireturn, 1) := by decide +kernel
theorem dX11_read_73 : decode cX11_read 73 = .ok (.aload_n 0, 1) := by decide +kernel
theorem dX11_read_74 : decode cX11_read 74 = .ok (.getfield 57, 3) := by decide +kernel
theorem dX11_read_77 : decode cX11_read 77 = .ok (.astore_n 2, 1) := by decide +kernel
theorem dX11_read_78 : decode cX11_read 78 = .ok (.aload_n 0, 1) := by decide +kernel
theorem dX11_read_79 : decode cX11_read 79 = .ok (.aload_n 0, 1) := by decide +kernel
theorem dX11_read_80 : decode cX11_read 80 = .ok (.getfield 61, 3) := by decide +kernel
theorem dX11_read_83 : decode cX11_read 83 = .ok (.putfield 57, 3) := by decide +kernel
theorem dX11_read_86 : decode cX11_read 86 = .ok (.aload_n 0, 1) := by decide +kernel
theorem dX11_read_87 : decode cX11_read 87 = .ok (.aload_n 2, 1) := by decide +kernel
theorem dX11_read_88 : decode cX11_read 88 = .ok (.putfield 61, 3) := by decide +kernel
theorem dX11_read_91 : decode cX11_read 91 = .ok (.aload_n 0, 1) := by decide +kernel
theorem dX11_read_92 : decode cX11_read 92 = .ok (.getfield 57, 3) := by decide +kernel
theorem dX11_read_95 : decode cX11_read 95 = .ok (.getfield 95, 3) := by decide +kernel
theorem dX11_read_98 : decode cX11_read 98 = .ok (.ireturn, 1) := by decide +kernel
abbrev rm_X11_read (k : Nat × Nat) : Room := { frames := 52, cells := k.1, slots := k.2, locals := 1544 }
def wp_X11_read (a : Nat) (k : Nat × Nat) (S : PS) (Q : Int32 → PS → Prop) : Prop :=
  (∀ v1, v1 = fI S 88 a → (∀ S2, S2 = sI S 88 a 0 → (∃ b3, fR S2 95 a = some b3 ∧ (∃ b4, fR S2 87 a = some b4 ∧ wp_X8_clear b3 b4 v1 S2 (fun (S5 : PS) => 
 (∃ b6, fR S5 90 a = some b6 ∧ (∃ b7, fR S5 95 a = some b7 ∧ (∃ b8, fR S5 69 b7 = some b8 ∧ wp_X6_clear b6 b8 v1 S5 (fun (S9 : PS) => 
 (∃ b10, fR S9 91 a = some b10 ∧ wp_X7_readText b10 S9 (fun (r12 : Int32) (S11 : PS) => 
 (∀ K61_14 : Nat × Nat → PS → Prop, (∀ (k15 : Nat × Nat) (S13 : PS),
 (∃ b16, fR S13 89 a = some b16 ∧ Q ((-1000) - (fI S13 1 b16)) S13)
 → K61_14 k15 S13) →
 (if r12 = 0 then
 K61_14 k S11
 else
 (∃ b17, fR S11 92 a = some b17 ∧ (∃ b18, fR S11 95 a = some b18 ∧ (∃ k21 : Nat × Nat, (k21.1 ≤ k.1 ∧ k21.2 ≤ k.2) ∧ wp_X3_perform b17 b18 k21 S11 (fun (r20 : Int32) (S19 : PS) => 
 (if r20 = 0 then
 K61_14 (k.1 - k21.1, k.2 - k21.2) S19
 else
 (∃ b22, fR S19 94 a = some b22 ∧ (∃ b23, fR S19 95 a = some b23 ∧ (∀ S24, S24 = sR S19 94 a (some b23) → (∀ S25, S25 = sR S24 95 a (some b22) → (∃ b26, fR S25 94 a = some b26 ∧ Q (fI S25 70 b26) S25)))))))))))))))))))))))
set_option maxRecDepth 100000 in
set_option maxHeartbeats 4000000 in
theorem c_X11_read {l : Launch} {E : EE} {A : Nat → Prop} {a : Nat} {k : Nat × Nat} {S : PS} {Q : Int32 → PS → Prop} {adK adV : Nat → Nat} (hS : hasStr E adK adV) (hH : hasHT E) (r_a : Rf S a 8) (h : wp_X11_read a k S Q) : MtI l yX11_read (.code yX11_read cX11_read 3 (some .int)) (rm_X11_read k) E A [.ref a] S Q := by
  refine MtI.of2 (by decide) (Nat.le_of_ble_eq_true rfl) (fun X F hQ hX => ?_)
  show VV X (0, 0) S [(0, .ref a)] [] 0
  obtain ⟨hXl, hXE, hXA, hN, hnm⟩ := hX
  subst hXE
  subst hXA
  subst hXl
  generalize hn0 : ((0, 0) : Nat × Nat) = n
  have hk : n.1 + k.1 ≤ k.1 ∧ n.2 + k.2 ≤ k.2 := by subst hn0; exact ⟨by omega, by omega⟩
  unfold wp_X11_read at h
  refine v_aload_n F dX11_read_0 0 rfl rfl ?_
  refine g_X11_13 F r_a dX11_read_1 ?_
  refine v_topi (fun v1 e_v1 => ?_)
  have h := h v1 e_v1
  refine v_istore_n (lv1 := [(1, .int v1), (0, .ref a)]) F dX11_read_4 rfl (by rw [hN]; decide) rfl ?_
  refine v_aload_n F dX11_read_5 1 rfl rfl ?_
  refine v_iconst (v := 0) F dX11_read_6 (by decide) ?_
  refine p_X11_13 F r_a h dX11_read_7 (fun S2 h hE => ?_)
  have r_a := r_a.tr hE
  refine v_aload_n F dX11_read_10 1 rfl rfl ?_
  refine g_X11_61 F r_a h dX11_read_11 (fun b3 r_b3 h => ?_)
  refine v_aload_n F dX11_read_14 1 rfl rfl ?_
  refine g_X11_9 F r_a h dX11_read_15 (fun b4 r_b4 h => ?_)
  refine v_iload_n F dX11_read_18 0 rfl rfl ?_
  refine v_cV0 (v_runV F k_X11_76 rfl (c_X8_clear r_b3 r_b4 h) r_b3 rfl rfl (Nat.le_of_ble_eq_true rfl) ⟨Nat.le_of_ble_eq_true rfl, Nat.le_of_ble_eq_true rfl⟩ (kb_z hk) dX11_read_19) ⟨rfl, rfl⟩ (fun  S5 h hE => ?_)
  have r_a := r_a.tr hE
  refine v_aload_n F dX11_read_22 1 rfl rfl ?_
  refine g_X11_27 F r_a h dX11_read_23 (fun b6 r_b6 h => ?_)
  refine v_aload_n F dX11_read_26 1 rfl rfl ?_
  refine g_X11_61 F r_a h dX11_read_27 (fun b7 r_b7 h => ?_)
  refine g_X11_80 F r_b7 h dX11_read_30 (fun b8 r_b8 h => ?_)
  refine v_iload_n F dX11_read_33 0 rfl rfl ?_
  refine v_cV0 (v_runV F k_X11_83 rfl (c_X6_clear r_b6 r_b8 h) r_b6 rfl rfl (Nat.le_of_ble_eq_true rfl) ⟨Nat.le_of_ble_eq_true rfl, Nat.le_of_ble_eq_true rfl⟩ (kb_z hk) dX11_read_34) ⟨rfl, rfl⟩ (fun  S9 h hE => ?_)
  have r_a := r_a.tr hE
  refine v_aload_n F dX11_read_37 1 rfl rfl ?_
  refine g_X11_36 F r_a h dX11_read_38 (fun b10 r_b10 h => ?_)
  refine v_cI0 (v_runV F k_X11_84 rfl (c_X7_readText hS r_b10 h) r_b10 rfl rfl (Nat.le_of_ble_eq_true rfl) ⟨Nat.le_of_ble_eq_true rfl, Nat.le_of_ble_eq_true rfl⟩ (kb_z hk) dX11_read_41) ⟨rfl, rfl⟩ (fun r12 S11 h hE => ?_)
  obtain ⟨nz_r12, h⟩ := h
  have r_a := r_a.tr hE
  have h := h (fun (k15 : Nat × Nat) (S13 : PS) => Rf S13 a 8 → ∀ n : Nat × Nat, (n.1 + k15.1 ≤ k.1 ∧ n.2 + k15.2 ≤ k.2) → VV X n S13 [(0, .ref a)] [] 61) (by
    intro k15 S13 h r_a n hk
    refine v_sipush (v := (-1000)) F dX11_read_61 (by decide) ?_
    refine v_aload_n F dX11_read_64 0 rfl rfl ?_
    refine g_X11_20 F r_a h dX11_read_65 (fun b16 r_b16 h => ?_)
    refine g_X11_92 F r_b16 dX11_read_68 ?_
    refine v_isub F dX11_read_71 ?_
    exact v_iret F hQ h (kb_ret hk) dX11_read_72)
  refine v_if_eq (tgt := 61) F dX11_read_44 (by decide) h (fun h => ?_) (fun h => ?_)
  · exact v_sub [1] rfl (h r_a _ hk)
  · refine v_aload_n F dX11_read_47 1 rfl rfl ?_
    refine g_X11_43 F r_a h dX11_read_48 (fun b17 r_b17 h => ?_)
    refine v_aload_n F dX11_read_51 1 rfl rfl ?_
    refine g_X11_61 F r_a h dX11_read_52 (fun b18 r_b18 h => ?_)
    obtain ⟨k21, g_k21, h⟩ := h
    refine v_cI (v_runV F k_X11_88 rfl (c_X3_perform hH r_b17 r_b18 h) r_b17 rfl rfl (Nat.le_of_ble_eq_true rfl) ⟨Nat.le_of_ble_eq_true rfl, Nat.le_of_ble_eq_true rfl⟩ (kb_c hk g_k21) dX11_read_55) (fun r20 S19 h hE => ?_)
    obtain ⟨nz_r20, h⟩ := h
    have r_a := r_a.tr hE
    have hk := kb_n hk g_k21
    refine v_gen (fun n hk => ?_) hk
    refine v_if_ne (tgt := 73) F dX11_read_58 (by decide) h (fun h => ?_) (fun h => ?_)
    · refine v_aload_n F dX11_read_73 1 rfl rfl ?_
      refine g_X11_57 F r_a h dX11_read_74 (fun b22 r_b22 h => ?_)
      refine v_astore_n (lv1 := [(2, .ref b22), (1, .int v1), (0, .ref a)]) F dX11_read_77 rfl (by rw [hN]; decide) rfl ?_
      refine v_aload_n F dX11_read_78 2 rfl rfl ?_
      refine v_aload_n F dX11_read_79 2 rfl rfl ?_
      refine g_X11_61 F r_a h dX11_read_80 (fun b23 r_b23 h => ?_)
      refine p_X11_57 F r_a r_b23 h dX11_read_83 (fun S24 h hE => ?_)
      have r_b22 := r_b22.tr hE
      have r_a := r_a.tr hE
      refine v_aload_n F dX11_read_86 2 rfl rfl ?_
      refine v_aload_n F dX11_read_87 0 rfl rfl ?_
      refine p_X11_61 F r_a r_b22 h dX11_read_88 (fun S25 h hE => ?_)
      have r_b22 := r_b22.tr hE
      have r_a := r_a.tr hE
      refine v_aload_n F dX11_read_91 2 rfl rfl ?_
      refine g_X11_57 F r_a h dX11_read_92 (fun b26 r_b26 h => ?_)
      refine g_X11_95 F r_b26 dX11_read_95 ?_
      exact v_iret F hQ h (kb_ret hk) dX11_read_98
    · exact v_sub [1] rfl (h r_a _ hk)
