theorem dL_feed_0 : decode cL_feed 0 = .ok (.aload 4, 2) := by decide +kernel
theorem dL_feed_2 : decode cL_feed 2 = .ok (.iconst 0, 1) := by decide +kernel
theorem dL_feed_3 : decode cL_feed 3 = .ok (.aload_n 0, 1) := by decide +kernel
theorem dL_feed_4 : decode cL_feed 4 = .ok (.lload_n 1, 1) := by decide +kernel
theorem dL_feed_5 : decode cL_feed 5 = .ok (.iload_n 3, 1) := by decide +kernel
theorem dL_feed_6 : decode cL_feed 6 = .ok (.invokevirtual 7, 3) := by decide +kernel
theorem dL_feed_9 : decode cL_feed 9 = .ok (.i2l, 1) := by decide +kernel
theorem dL_feed_10 : decode cL_feed 10 = .ok (.lastore, 1) := by decide +kernel
theorem dL_feed_11 : decode cL_feed 11 = .ok (.goto 11, 3) := by decide +kernel
theorem dL_feed_14 : decode cL_feed 14 = .ok (.astore 5, 2) := by decide +kernel
theorem dL_feed_16 : decode cL_feed 16 = .ok (.iconst 1, 1) := by decide +kernel
theorem dL_feed_17 : decode cL_feed 17 = .ok (.ireturn, 1) := by decide +kernel
theorem dL_feed_18 : decode cL_feed 18 = .ok (.astore 5, 2) := by decide +kernel
theorem dL_feed_20 : decode cL_feed 20 = .ok (.iconst 2, 1) := by decide +kernel
theorem dL_feed_21 : decode cL_feed 21 = .ok (.ireturn, 1) := by decide +kernel
theorem dL_feed_22 : decode cL_feed 22 = .ok (.iconst 0, 1) := by decide +kernel
theorem dL_feed_23 : decode cL_feed 23 = .ok (.ireturn, 1) := by decide +kernel
abbrev rm_L_feed : Room := { frames := 7, cells := 1, slots := 6, locals := 124 }
def wp_L_feed (p1 : Nat) (p2 : Int64) (p3 : Int32) (p4 : Nat) (S : PS) (Q : Int32 → PS → Prop) : Prop :=
  wp_X11_feed p1 p2 p3 S (fun (r2 : Int32) (S1 : PS) =>
 (vp_in 0 (aN S1 p4) ∧ ∀ S7, S7 = wL S1 119 p4 (0 : Int32).toNatClampNeg (r2.toInt64) → Q 0 S7)) (fun (C : String) (S3 : PS) => (if C = "java/lang/IllegalArgumentException" then Q 1 S3 else (if C = "java/lang/IllegalStateException" then Q 2 S3 else False)))
set_option maxRecDepth 100000 in
set_option maxHeartbeats 4000000 in
theorem c_L_feed {l : Launch} {E : EE} {A : Nat → Prop} {p1 : Nat} {p2 : Int64} {p3 : Int32} {p4 : Nat} {S : PS} {Q : Int32 → PS → Prop} {adK adV : Nat → Nat} (hS : hasStr E adK adV) (hZ : hasEx E) (hl0 : l.stackTraces = false) (hNc : hasNc E) (r_p1 : Rf S p1 8) (r_p4 : Rf S p4 119) (h : wp_L_feed p1 p2 p3 p4 S Q) : MtI l yL_feed (.codeWith yL_feed cL_feed 6 (some .int) [(0, 11, 14, 13), (0, 11, 18, 15)]) rm_L_feed E A [.ref p1, .long p2, .int p3, .ref p4] S Q := by
  refine MtI.ofW (by decide) (Nat.le_of_ble_eq_true rfl) (fun X F hQ hX hT0 => ?_)
  show VV X (0, 0) S [(0, .ref p1), (1, .long p2), (3, .int p3), (4, .ref p4)] [] 0
  obtain ⟨hXl, hXE, hXA, hN, hnm⟩ := hX
  subst hXE
  subst hXA
  subst hXl
  unfold wp_L_feed at h
  refine v_aload F dL_feed_0 3 rfl ?_
  refine v_iconst (v := 0) F dL_feed_2 (by decide) ?_
  refine v_aload_n F dL_feed_3 0 rfl rfl ?_
  refine v_lload_n F dL_feed_4 1 rfl rfl ?_
  refine v_iload_n F dL_feed_5 2 rfl rfl ?_
  refine x_cIc (n1 := (1, 6)) (x_runV F k_L_7 rfl (c_X11_feed hS hZ hl0 r_p1 h) r_p1 rfl rfl (Nat.le_of_ble_eq_true rfl) (by decide) (by decide) dL_feed_6) (by decide) (fun C S3 w4 h hE => ?_) (fun r2 S1 h hE => ?_)
  · by_cases e6 : C = "java/lang/IllegalArgumentException"
    · subst e6
      have h := it_t rfl h
      have r_p1 := r_p1.tr hE
      have r_p4 := r_p4.tr hE
      refine x_catch  F hZ hNc hT0 [] ⟨0, 11, 14, 13⟩ [⟨0, 11, 18, 15⟩] rfl (by intro z hz; cases hz) rfl (by decide) kcl_L_13 kca_L_13 ?_
      refine v_astore (lv1 := [(5, .ref w4), (0, .ref p1), (1, .long p2), (3, .int p3), (4, .ref p4)]) F dL_feed_14 (by rw [hN]; decide) rfl ?_
      refine v_iconst (v := 1) F dL_feed_16 (by decide) ?_
      exact v_iret F hQ h (by decide) dL_feed_17
    · have h := it_f e6 h
      by_cases e5 : C = "java/lang/IllegalStateException"
      · subst e5
        have h := it_t rfl h
        have r_p1 := r_p1.tr hE
        have r_p4 := r_p4.tr hE
        refine x_catch  F hZ hNc hT0 [⟨0, 11, 14, 13⟩] ⟨0, 11, 18, 15⟩ [] rfl (by
            intro z hz
            rcases List.mem_cons.mp hz with rfl | hz
            · exact ⟨by decide, _, kcl_L_13, by decide⟩
            cases hz) rfl (by decide) kcl_L_15 kca_L_15 ?_
        refine v_astore (lv1 := [(5, .ref w4), (0, .ref p1), (1, .long p2), (3, .int p3), (4, .ref p4)]) F dL_feed_18 (by rw [hN]; decide) rfl ?_
        refine v_iconst (v := 2) F dL_feed_20 (by decide) ?_
        exact v_iret F hQ h (by decide) dL_feed_21
      · have h := it_f e5 h
        exact h.elim
  · have r_p1 := r_p1.tr hE
    have r_p4 := r_p4.tr hE
    refine v_i2l F dL_feed_9 ?_
    refine v_last F r_p4 o_119 h dL_feed_10 (fun S7 h hE => ?_)
    have r_p1 := r_p1.tr hE
    have r_p4 := r_p4.tr hE
    refine v_goto (tgt := 22) F dL_feed_11 (by decide) ?_
    refine v_iconst (v := 0) F dL_feed_22 (by decide) ?_
    exact v_iret F hQ h (by decide) dL_feed_23
theorem dL_count_0 : decode cL_count 0 = .ok (.aload_n 2, 1) := by decide +kernel
theorem dL_count_1 : decode cL_count 1 = .ok (.iconst 0, 1) := by decide +kernel
theorem dL_count_2 : decode cL_count 2 = .ok (.aload_n 0, 1) := by decide +kernel
theorem dL_count_3 : decode cL_count 3 = .ok (.iload_n 1, 1) := by decide +kernel
theorem dL_count_4 : decode cL_count 4 = .ok (.invokevirtual 17, 3) := by decide +kernel
theorem dL_count_7 : decode cL_count 7 = .ok (.i2l, 1) := by decide +kernel
theorem dL_count_8 : decode cL_count 8 = .ok (.lastore, 1) := by decide +kernel
theorem dL_count_9 : decode cL_count 9 = .ok (.goto 6, 3) := by decide +kernel
theorem dL_count_12 : decode cL_count 12 = .ok (.astore_n 3, 1) := by decide +kernel
theorem dL_count_13 : decode cL_count 13 = .ok (.iconst 1, 1) := by decide +kernel
theorem dL_count_14 : decode cL_count 14 = .ok (.ireturn, 1) := by decide +kernel
theorem dL_count_15 : decode cL_count 15 = .ok (.iconst 0, 1) := by decide +kernel
theorem dL_count_16 : decode cL_count 16 = .ok (.ireturn, 1) := by decide +kernel
abbrev rm_L_count : Room := { frames := 7, cells := 1, slots := 6, locals := 173 }
def wp_L_count (p1 : Nat) (p2 : Int32) (p3 : Nat) (S : PS) (Q : Int32 → PS → Prop) : Prop :=
  wp_X11_count p1 p2 S (fun (r2 : Int32) (S1 : PS) =>
 (vp_in 0 (aN S1 p3) ∧ ∀ S6, S6 = wL S1 119 p3 (0 : Int32).toNatClampNeg (r2.toInt64) → Q 0 S6)) (fun (C : String) (S3 : PS) => (if C = "java/lang/IllegalArgumentException" then Q 1 S3 else False))
set_option maxRecDepth 100000 in
set_option maxHeartbeats 4000000 in
theorem c_L_count {l : Launch} {E : EE} {A : Nat → Prop} {p1 : Nat} {p2 : Int32} {p3 : Nat} {S : PS} {Q : Int32 → PS → Prop} {adK adV : Nat → Nat} (hS : hasStr E adK adV) (hZ : hasEx E) (hl0 : l.stackTraces = false) (hNc : hasNc E) (r_p1 : Rf S p1 8) (r_p3 : Rf S p3 119) (h : wp_L_count p1 p2 p3 S Q) : MtI l yL_count (.codeWith yL_count cL_count 4 (some .int) [(0, 9, 12, 13)]) rm_L_count E A [.ref p1, .int p2, .ref p3] S Q := by
  refine MtI.ofW (by decide) (Nat.le_of_ble_eq_true rfl) (fun X F hQ hX hT0 => ?_)
  show VV X (0, 0) S [(0, .ref p1), (1, .int p2), (2, .ref p3)] [] 0
  obtain ⟨hXl, hXE, hXA, hN, hnm⟩ := hX
  subst hXE
  subst hXA
  subst hXl
  unfold wp_L_count at h
  refine v_aload_n F dL_count_0 2 rfl rfl ?_
  refine v_iconst (v := 0) F dL_count_1 (by decide) ?_
  refine v_aload_n F dL_count_2 0 rfl rfl ?_
  refine v_iload_n F dL_count_3 1 rfl rfl ?_
  refine x_cIc (n1 := (1, 6)) (x_runV F k_L_17 rfl (c_X11_count hS hZ hl0 r_p1 h) r_p1 rfl rfl (Nat.le_of_ble_eq_true rfl) (by decide) (by decide) dL_count_4) (by decide) (fun C S3 w4 h hE => ?_) (fun r2 S1 h hE => ?_)
  · by_cases e5 : C = "java/lang/IllegalArgumentException"
    · subst e5
      have h := it_t rfl h
      have r_p1 := r_p1.tr hE
      have r_p3 := r_p3.tr hE
      refine x_catch  F hZ hNc hT0 [] ⟨0, 9, 12, 13⟩ [] rfl (by intro z hz; cases hz) rfl (by decide) kcl_L_13 kca_L_13 ?_
      refine v_astore_n (lv1 := [(3, .ref w4), (0, .ref p1), (1, .int p2), (2, .ref p3)]) F dL_count_12 rfl (by rw [hN]; decide) rfl ?_
      refine v_iconst (v := 1) F dL_count_13 (by decide) ?_
      exact v_iret F hQ h (by decide) dL_count_14
    · have h := it_f e5 h
      exact h.elim
  · have r_p1 := r_p1.tr hE
    have r_p3 := r_p3.tr hE
    refine v_i2l F dL_count_7 ?_
    refine v_last F r_p3 o_119 h dL_count_8 (fun S6 h hE => ?_)
    have r_p1 := r_p1.tr hE
    have r_p3 := r_p3.tr hE
    refine v_goto (tgt := 15) F dL_count_9 (by decide) ?_
    refine v_iconst (v := 0) F dL_count_15 (by decide) ?_
    exact v_iret F hQ h (by decide) dL_count_16
theorem dL_event_0 : decode cL_event 0 = .ok (.aload_n 3, 1) := by decide +kernel
theorem dL_event_1 : decode cL_event 1 = .ok (.iconst 0, 1) := by decide +kernel
theorem dL_event_2 : decode cL_event 2 = .ok (.aload_n 0, 1) := by decide +kernel
theorem dL_event_3 : decode cL_event 3 = .ok (.iload_n 1, 1) := by decide +kernel
theorem dL_event_4 : decode cL_event 4 = .ok (.iload_n 2, 1) := by decide +kernel
theorem dL_event_5 : decode cL_event 5 = .ok (.invokevirtual 21, 3) := by decide +kernel
theorem dL_event_8 : decode cL_event 8 = .ok (.lastore, 1) := by decide +kernel
theorem dL_event_9 : decode cL_event 9 = .ok (.goto 11, 3) := by decide +kernel
theorem dL_event_12 : decode cL_event 12 = .ok (.astore 4, 2) := by decide +kernel
theorem dL_event_14 : decode cL_event 14 = .ok (.iconst 1, 1) := by decide +kernel
theorem dL_event_15 : decode cL_event 15 = .ok (.ireturn, 1) := by decide +kernel
theorem dL_event_16 : decode cL_event 16 = .ok (.astore 4, 2) := by decide +kernel
theorem dL_event_18 : decode cL_event 18 = .ok (.iconst 2, 1) := by decide +kernel
theorem dL_event_19 : decode cL_event 19 = .ok (.ireturn, 1) := by decide +kernel
theorem dL_event_20 : decode cL_event 20 = .ok (.iconst 0, 1) := by decide +kernel
theorem dL_event_21 : decode cL_event 21 = .ok (.ireturn, 1) := by decide +kernel
abbrev rm_L_event : Room := { frames := 8, cells := 2, slots := 12, locals := 143 }
def wp_L_event (p1 : Nat) (p2 : Int32) (p3 : Int32) (p4 : Nat) (S : PS) (Q : Int32 → PS → Prop) : Prop :=
  wp_X11_event p1 p2 p3 S (fun (r2 : Int64) (S1 : PS) =>
 (vp_in 0 (aN S1 p4) ∧ ∀ S7, S7 = wL S1 119 p4 (0 : Int32).toNatClampNeg r2 → Q 0 S7)) (fun (C : String) (S3 : PS) => (if C = "java/lang/IndexOutOfBoundsException" then Q 1 S3 else (if C = "java/lang/IllegalArgumentException" then Q 2 S3 else False)))
set_option maxRecDepth 100000 in
set_option maxHeartbeats 4000000 in
theorem c_L_event {l : Launch} {E : EE} {A : Nat → Prop} {p1 : Nat} {p2 : Int32} {p3 : Int32} {p4 : Nat} {S : PS} {Q : Int32 → PS → Prop} {adK adV : Nat → Nat} (hS : hasStr E adK adV) (hZ : hasEx E) (hl0 : l.stackTraces = false) (hNc : hasNc E) (r_p1 : Rf S p1 8) (r_p4 : Rf S p4 119) (h : wp_L_event p1 p2 p3 p4 S Q) : MtI l yL_event (.codeWith yL_event cL_event 5 (some .int) [(0, 9, 12, 25), (0, 9, 16, 13)]) rm_L_event E A [.ref p1, .int p2, .int p3, .ref p4] S Q := by
  refine MtI.ofW (by decide) (Nat.le_of_ble_eq_true rfl) (fun X F hQ hX hT0 => ?_)
  show VV X (0, 0) S [(0, .ref p1), (1, .int p2), (2, .int p3), (3, .ref p4)] [] 0
  obtain ⟨hXl, hXE, hXA, hN, hnm⟩ := hX
  subst hXE
  subst hXA
  subst hXl
  unfold wp_L_event at h
  refine v_aload_n F dL_event_0 3 rfl rfl ?_
  refine v_iconst (v := 0) F dL_event_1 (by decide) ?_
  refine v_aload_n F dL_event_2 0 rfl rfl ?_
  refine v_iload_n F dL_event_3 1 rfl rfl ?_
  refine v_iload_n F dL_event_4 2 rfl rfl ?_
  refine x_cLc (n1 := (2, 12)) (x_runV F k_L_21 rfl (c_X11_event hS hZ hl0 r_p1 h) r_p1 rfl rfl (Nat.le_of_ble_eq_true rfl) (by decide) (by decide) dL_event_5) (by decide) (fun C S3 w4 h hE => ?_) (fun r2 S1 h hE => ?_)
  · by_cases e6 : C = "java/lang/IndexOutOfBoundsException"
    · subst e6
      have h := it_t rfl h
      have r_p1 := r_p1.tr hE
      have r_p4 := r_p4.tr hE
      refine x_catch  F hZ hNc hT0 [] ⟨0, 9, 12, 25⟩ [⟨0, 9, 16, 13⟩] rfl (by intro z hz; cases hz) rfl (by decide) kcl_L_25 kca_L_25 ?_
      refine v_astore (lv1 := [(4, .ref w4), (0, .ref p1), (1, .int p2), (2, .int p3), (3, .ref p4)]) F dL_event_12 (by rw [hN]; decide) rfl ?_
      refine v_iconst (v := 1) F dL_event_14 (by decide) ?_
      exact v_iret F hQ h (by decide) dL_event_15
    · have h := it_f e6 h
      by_cases e5 : C = "java/lang/IllegalArgumentException"
      · subst e5
        have h := it_t rfl h
        have r_p1 := r_p1.tr hE
        have r_p4 := r_p4.tr hE
        refine x_catch  F hZ hNc hT0 [⟨0, 9, 12, 25⟩] ⟨0, 9, 16, 13⟩ [] rfl (by
            intro z hz
            rcases List.mem_cons.mp hz with rfl | hz
            · exact ⟨by decide, _, kcl_L_25, by decide⟩
            cases hz) rfl (by decide) kcl_L_13 kca_L_13 ?_
        refine v_astore (lv1 := [(4, .ref w4), (0, .ref p1), (1, .int p2), (2, .int p3), (3, .ref p4)]) F dL_event_16 (by rw [hN]; decide) rfl ?_
        refine v_iconst (v := 2) F dL_event_18 (by decide) ?_
        exact v_iret F hQ h (by decide) dL_event_19
      · have h := it_f e5 h
        exact h.elim
  · have r_p1 := r_p1.tr hE
    have r_p4 := r_p4.tr hE
    refine v_last F r_p4 o_119 h dL_event_8 (fun S7 h hE => ?_)
    have r_p1 := r_p1.tr hE
    have r_p4 := r_p4.tr hE
    refine v_goto (tgt := 20) F dL_event_9 (by decide) ?_
    refine v_iconst (v := 0) F dL_event_20 (by decide) ?_
    exact v_iret F hQ h (by decide) dL_event_21
theorem dL_pitch_0 : decode cL_pitch 0 = .ok (.aload 4, 2) := by decide +kernel
theorem dL_pitch_2 : decode cL_pitch 2 = .ok (.iconst 0, 1) := by decide +kernel
theorem dL_pitch_3 : decode cL_pitch 3 = .ok (.aload_n 0, 1) := by decide +kernel
theorem dL_pitch_4 : decode cL_pitch 4 = .ok (.iload_n 1, 1) := by decide +kernel
theorem dL_pitch_5 : decode cL_pitch 5 = .ok (.iload_n 2, 1) := by decide +kernel
theorem dL_pitch_6 : decode cL_pitch 6 = .ok (.iload_n 3, 1) := by decide +kernel
theorem dL_pitch_7 : decode cL_pitch 7 = .ok (.invokevirtual 27, 3) := by decide +kernel
theorem dL_pitch_10 : decode cL_pitch 10 = .ok (.i2l, 1) := by decide +kernel
theorem dL_pitch_11 : decode cL_pitch 11 = .ok (.lastore, 1) := by decide +kernel
theorem dL_pitch_12 : decode cL_pitch 12 = .ok (.goto 11, 3) := by decide +kernel
theorem dL_pitch_15 : decode cL_pitch 15 = .ok (.astore 5, 2) := by decide +kernel
theorem dL_pitch_17 : decode cL_pitch 17 = .ok (.iconst 1, 1) := by decide +kernel
theorem dL_pitch_18 : decode cL_pitch 18 = .ok (.ireturn, 1) := by decide +kernel
theorem dL_pitch_19 : decode cL_pitch 19 = .ok (.astore 5, 2) := by decide +kernel
theorem dL_pitch_21 : decode cL_pitch 21 = .ok (.iconst 2, 1) := by decide +kernel
theorem dL_pitch_22 : decode cL_pitch 22 = .ok (.ireturn, 1) := by decide +kernel
theorem dL_pitch_23 : decode cL_pitch 23 = .ok (.iconst 0, 1) := by decide +kernel
theorem dL_pitch_24 : decode cL_pitch 24 = .ok (.ireturn, 1) := by decide +kernel
abbrev rm_L_pitch : Room := { frames := 8, cells := 2, slots := 12, locals := 145 }
def wp_L_pitch (p1 : Nat) (p2 : Int32) (p3 : Int32) (p4 : Int32) (p5 : Nat) (S : PS) (Q : Int32 → PS → Prop) : Prop :=
  wp_X11_pitch p1 p2 p3 p4 S (fun (r2 : Int32) (S1 : PS) =>
 (vp_in 0 (aN S1 p5) ∧ ∀ S7, S7 = wL S1 119 p5 (0 : Int32).toNatClampNeg (r2.toInt64) → Q 0 S7)) (fun (C : String) (S3 : PS) => (if C = "java/lang/IndexOutOfBoundsException" then Q 1 S3 else (if C = "java/lang/IllegalArgumentException" then Q 2 S3 else False)))
set_option maxRecDepth 100000 in
set_option maxHeartbeats 4000000 in
theorem c_L_pitch {l : Launch} {E : EE} {A : Nat → Prop} {p1 : Nat} {p2 : Int32} {p3 : Int32} {p4 : Int32} {p5 : Nat} {S : PS} {Q : Int32 → PS → Prop} {adK adV : Nat → Nat} (hS : hasStr E adK adV) (hZ : hasEx E) (hl0 : l.stackTraces = false) (hH : hasHT E) (hNc : hasNc E) (r_p1 : Rf S p1 8) (r_p5 : Rf S p5 119) (h : wp_L_pitch p1 p2 p3 p4 p5 S Q) : MtI l yL_pitch (.codeWith yL_pitch cL_pitch 6 (some .int) [(0, 12, 15, 25), (0, 12, 19, 13)]) rm_L_pitch E A [.ref p1, .int p2, .int p3, .int p4, .ref p5] S Q := by
  refine MtI.ofW (by decide) (Nat.le_of_ble_eq_true rfl) (fun X F hQ hX hT0 => ?_)
  show VV X (0, 0) S [(0, .ref p1), (1, .int p2), (2, .int p3), (3, .int p4), (4, .ref p5)] [] 0
  obtain ⟨hXl, hXE, hXA, hN, hnm⟩ := hX
  subst hXE
  subst hXA
  subst hXl
  unfold wp_L_pitch at h
  refine v_aload F dL_pitch_0 4 rfl ?_
  refine v_iconst (v := 0) F dL_pitch_2 (by decide) ?_
  refine v_aload_n F dL_pitch_3 0 rfl rfl ?_
  refine v_iload_n F dL_pitch_4 1 rfl rfl ?_
  refine v_iload_n F dL_pitch_5 2 rfl rfl ?_
  refine v_iload_n F dL_pitch_6 3 rfl rfl ?_
  refine x_cIc (n1 := (2, 12)) (x_runV F k_L_27 rfl (c_X11_pitch hS hZ hl0 hH r_p1 h) r_p1 rfl rfl (Nat.le_of_ble_eq_true rfl) (by decide) (by decide) dL_pitch_7) (by decide) (fun C S3 w4 h hE => ?_) (fun r2 S1 h hE => ?_)
  · by_cases e6 : C = "java/lang/IndexOutOfBoundsException"
    · subst e6
      have h := it_t rfl h
      have r_p1 := r_p1.tr hE
      have r_p5 := r_p5.tr hE
      refine x_catch  F hZ hNc hT0 [] ⟨0, 12, 15, 25⟩ [⟨0, 12, 19, 13⟩] rfl (by intro z hz; cases hz) rfl (by decide) kcl_L_25 kca_L_25 ?_
      refine v_astore (lv1 := [(5, .ref w4), (0, .ref p1), (1, .int p2), (2, .int p3), (3, .int p4), (4, .ref p5)]) F dL_pitch_15 (by rw [hN]; decide) rfl ?_
      refine v_iconst (v := 1) F dL_pitch_17 (by decide) ?_
      exact v_iret F hQ h (by decide) dL_pitch_18
    · have h := it_f e6 h
      by_cases e5 : C = "java/lang/IllegalArgumentException"
      · subst e5
        have h := it_t rfl h
        have r_p1 := r_p1.tr hE
        have r_p5 := r_p5.tr hE
        refine x_catch  F hZ hNc hT0 [⟨0, 12, 15, 25⟩] ⟨0, 12, 19, 13⟩ [] rfl (by
            intro z hz
            rcases List.mem_cons.mp hz with rfl | hz
            · exact ⟨by decide, _, kcl_L_25, by decide⟩
            cases hz) rfl (by decide) kcl_L_13 kca_L_13 ?_
        refine v_astore (lv1 := [(5, .ref w4), (0, .ref p1), (1, .int p2), (2, .int p3), (3, .int p4), (4, .ref p5)]) F dL_pitch_19 (by rw [hN]; decide) rfl ?_
        refine v_iconst (v := 2) F dL_pitch_21 (by decide) ?_
        exact v_iret F hQ h (by decide) dL_pitch_22
      · have h := it_f e5 h
        exact h.elim
  · have r_p1 := r_p1.tr hE
    have r_p5 := r_p5.tr hE
    refine v_i2l F dL_pitch_10 ?_
    refine v_last F r_p5 o_119 h dL_pitch_11 (fun S7 h hE => ?_)
    have r_p1 := r_p1.tr hE
    have r_p5 := r_p5.tr hE
    refine v_goto (tgt := 23) F dL_pitch_12 (by decide) ?_
    refine v_iconst (v := 0) F dL_pitch_23 (by decide) ?_
    exact v_iret F hQ h (by decide) dL_pitch_24
theorem dL_word_0 : decode cL_word 0 = .ok (.aload 4, 2) := by decide +kernel
theorem dL_word_2 : decode cL_word 2 = .ok (.iconst 0, 1) := by decide +kernel
theorem dL_word_3 : decode cL_word 3 = .ok (.aload_n 0, 1) := by decide +kernel
theorem dL_word_4 : decode cL_word 4 = .ok (.iload_n 1, 1) := by decide +kernel
theorem dL_word_5 : decode cL_word 5 = .ok (.iload_n 2, 1) := by decide +kernel
theorem dL_word_6 : decode cL_word 6 = .ok (.iload_n 3, 1) := by decide +kernel
theorem dL_word_7 : decode cL_word 7 = .ok (.invokevirtual 31, 3) := by decide +kernel
theorem dL_word_10 : decode cL_word 10 = .ok (.i2l, 1) := by decide +kernel
theorem dL_word_11 : decode cL_word 11 = .ok (.lastore, 1) := by decide +kernel
theorem dL_word_12 : decode cL_word 12 = .ok (.goto 11, 3) := by decide +kernel
theorem dL_word_15 : decode cL_word 15 = .ok (.astore 5, 2) := by decide +kernel
theorem dL_word_17 : decode cL_word 17 = .ok (.iconst 1, 1) := by decide +kernel
theorem dL_word_18 : decode cL_word 18 = .ok (.ireturn, 1) := by decide +kernel
theorem dL_word_19 : decode cL_word 19 = .ok (.astore 5, 2) := by decide +kernel
theorem dL_word_21 : decode cL_word 21 = .ok (.iconst 2, 1) := by decide +kernel
theorem dL_word_22 : decode cL_word 22 = .ok (.ireturn, 1) := by decide +kernel
theorem dL_word_23 : decode cL_word 23 = .ok (.iconst 0, 1) := by decide +kernel
theorem dL_word_24 : decode cL_word 24 = .ok (.ireturn, 1) := by decide +kernel
abbrev rm_L_word : Room := { frames := 8, cells := 2, slots := 12, locals := 144 }
def wp_L_word (p1 : Nat) (p2 : Int32) (p3 : Int32) (p4 : Int32) (p5 : Nat) (S : PS) (Q : Int32 → PS → Prop) : Prop :=
  wp_X11_word p1 p2 p3 p4 S (fun (r2 : Int32) (S1 : PS) =>
 (vp_in 0 (aN S1 p5) ∧ ∀ S7, S7 = wL S1 119 p5 (0 : Int32).toNatClampNeg (r2.toInt64) → Q 0 S7)) (fun (C : String) (S3 : PS) => (if C = "java/lang/IndexOutOfBoundsException" then Q 1 S3 else (if C = "java/lang/IllegalArgumentException" then Q 2 S3 else False)))
set_option maxRecDepth 100000 in
set_option maxHeartbeats 4000000 in
theorem c_L_word {l : Launch} {E : EE} {A : Nat → Prop} {p1 : Nat} {p2 : Int32} {p3 : Int32} {p4 : Int32} {p5 : Nat} {S : PS} {Q : Int32 → PS → Prop} {adK adV : Nat → Nat} (hS : hasStr E adK adV) (hZ : hasEx E) (hl0 : l.stackTraces = false) (hNc : hasNc E) (r_p1 : Rf S p1 8) (r_p5 : Rf S p5 119) (h : wp_L_word p1 p2 p3 p4 p5 S Q) : MtI l yL_word (.codeWith yL_word cL_word 6 (some .int) [(0, 12, 15, 25), (0, 12, 19, 13)]) rm_L_word E A [.ref p1, .int p2, .int p3, .int p4, .ref p5] S Q := by
  refine MtI.ofW (by decide) (Nat.le_of_ble_eq_true rfl) (fun X F hQ hX hT0 => ?_)
  show VV X (0, 0) S [(0, .ref p1), (1, .int p2), (2, .int p3), (3, .int p4), (4, .ref p5)] [] 0
  obtain ⟨hXl, hXE, hXA, hN, hnm⟩ := hX
  subst hXE
  subst hXA
  subst hXl
  unfold wp_L_word at h
  refine v_aload F dL_word_0 4 rfl ?_
  refine v_iconst (v := 0) F dL_word_2 (by decide) ?_
  refine v_aload_n F dL_word_3 0 rfl rfl ?_
  refine v_iload_n F dL_word_4 1 rfl rfl ?_
  refine v_iload_n F dL_word_5 2 rfl rfl ?_
  refine v_iload_n F dL_word_6 3 rfl rfl ?_
  refine x_cIc (n1 := (2, 12)) (x_runV F k_L_31 rfl (c_X11_word hS hZ hl0 r_p1 h) r_p1 rfl rfl (Nat.le_of_ble_eq_true rfl) (by decide) (by decide) dL_word_7) (by decide) (fun C S3 w4 h hE => ?_) (fun r2 S1 h hE => ?_)
  · by_cases e6 : C = "java/lang/IndexOutOfBoundsException"
    · subst e6
      have h := it_t rfl h
      have r_p1 := r_p1.tr hE
      have r_p5 := r_p5.tr hE
      refine x_catch  F hZ hNc hT0 [] ⟨0, 12, 15, 25⟩ [⟨0, 12, 19, 13⟩] rfl (by intro z hz; cases hz) rfl (by decide) kcl_L_25 kca_L_25 ?_
      refine v_astore (lv1 := [(5, .ref w4), (0, .ref p1), (1, .int p2), (2, .int p3), (3, .int p4), (4, .ref p5)]) F dL_word_15 (by rw [hN]; decide) rfl ?_
      refine v_iconst (v := 1) F dL_word_17 (by decide) ?_
      exact v_iret F hQ h (by decide) dL_word_18
    · have h := it_f e6 h
      by_cases e5 : C = "java/lang/IllegalArgumentException"
      · subst e5
        have h := it_t rfl h
        have r_p1 := r_p1.tr hE
        have r_p5 := r_p5.tr hE
        refine x_catch  F hZ hNc hT0 [⟨0, 12, 15, 25⟩] ⟨0, 12, 19, 13⟩ [] rfl (by
            intro z hz
            rcases List.mem_cons.mp hz with rfl | hz
            · exact ⟨by decide, _, kcl_L_25, by decide⟩
            cases hz) rfl (by decide) kcl_L_13 kca_L_13 ?_
        refine v_astore (lv1 := [(5, .ref w4), (0, .ref p1), (1, .int p2), (2, .int p3), (3, .int p4), (4, .ref p5)]) F dL_word_19 (by rw [hN]; decide) rfl ?_
        refine v_iconst (v := 2) F dL_word_21 (by decide) ?_
        exact v_iret F hQ h (by decide) dL_word_22
      · have h := it_f e5 h
        exact h.elim
  · have r_p1 := r_p1.tr hE
    have r_p5 := r_p5.tr hE
    refine v_i2l F dL_word_10 ?_
    refine v_last F r_p5 o_119 h dL_word_11 (fun S7 h hE => ?_)
    have r_p1 := r_p1.tr hE
    have r_p5 := r_p5.tr hE
    refine v_goto (tgt := 23) F dL_word_12 (by decide) ?_
    refine v_iconst (v := 0) F dL_word_23 (by decide) ?_
    exact v_iret F hQ h (by decide) dL_word_24
theorem dL_walk_0 : decode cL_walk 0 = .ok (.aload_n 2, 1) := by decide +kernel
theorem dL_walk_1 : decode cL_walk 1 = .ok (.iconst 0, 1) := by decide +kernel
theorem dL_walk_2 : decode cL_walk 2 = .ok (.aload_n 0, 1) := by decide +kernel
theorem dL_walk_3 : decode cL_walk 3 = .ok (.iload_n 1, 1) := by decide +kernel
theorem dL_walk_4 : decode cL_walk 4 = .ok (.invokevirtual 34, 3) := by decide +kernel
theorem dL_walk_7 : decode cL_walk 7 = .ok (.i2l, 1) := by decide +kernel
theorem dL_walk_8 : decode cL_walk 8 = .ok (.lastore, 1) := by decide +kernel
theorem dL_walk_9 : decode cL_walk 9 = .ok (.goto 6, 3) := by decide +kernel
theorem dL_walk_12 : decode cL_walk 12 = .ok (.astore_n 3, 1) := by decide +kernel
theorem dL_walk_13 : decode cL_walk 13 = .ok (.iconst 1, 1) := by decide +kernel
theorem dL_walk_14 : decode cL_walk 14 = .ok (.ireturn, 1) := by decide +kernel
theorem dL_walk_15 : decode cL_walk 15 = .ok (.iconst 0, 1) := by decide +kernel
theorem dL_walk_16 : decode cL_walk 16 = .ok (.ireturn, 1) := by decide +kernel
abbrev rm_L_walk : Room := { frames := 8, cells := 1, slots := 6, locals := 142 }
def wp_L_walk (p1 : Nat) (p2 : Int32) (p3 : Nat) (S : PS) (Q : Int32 → PS → Prop) : Prop :=
  wp_X11_walk p1 p2 S (fun (r2 : Int32) (S1 : PS) =>
 (vp_in 0 (aN S1 p3) ∧ ∀ S6, S6 = wL S1 119 p3 (0 : Int32).toNatClampNeg (r2.toInt64) → Q 0 S6)) (fun (C : String) (S3 : PS) => (if C = "java/lang/IndexOutOfBoundsException" then Q 1 S3 else False))
set_option maxRecDepth 100000 in
set_option maxHeartbeats 4000000 in
theorem c_L_walk {l : Launch} {E : EE} {A : Nat → Prop} {p1 : Nat} {p2 : Int32} {p3 : Nat} {S : PS} {Q : Int32 → PS → Prop} {adK adV : Nat → Nat} (hS : hasStr E adK adV) (hZ : hasEx E) (hl0 : l.stackTraces = false) (hNc : hasNc E) (r_p1 : Rf S p1 8) (r_p3 : Rf S p3 119) (h : wp_L_walk p1 p2 p3 S Q) : MtI l yL_walk (.codeWith yL_walk cL_walk 4 (some .int) [(0, 9, 12, 25)]) rm_L_walk E A [.ref p1, .int p2, .ref p3] S Q := by
  refine MtI.ofW (by decide) (Nat.le_of_ble_eq_true rfl) (fun X F hQ hX hT0 => ?_)
  show VV X (0, 0) S [(0, .ref p1), (1, .int p2), (2, .ref p3)] [] 0
  obtain ⟨hXl, hXE, hXA, hN, hnm⟩ := hX
  subst hXE
  subst hXA
  subst hXl
  unfold wp_L_walk at h
  refine v_aload_n F dL_walk_0 2 rfl rfl ?_
  refine v_iconst (v := 0) F dL_walk_1 (by decide) ?_
  refine v_aload_n F dL_walk_2 0 rfl rfl ?_
  refine v_iload_n F dL_walk_3 1 rfl rfl ?_
  refine x_cIc (n1 := (1, 6)) (x_runV F k_L_34 rfl (c_X11_walk hS hZ hl0 r_p1 h) r_p1 rfl rfl (Nat.le_of_ble_eq_true rfl) (by decide) (by decide) dL_walk_4) (by decide) (fun C S3 w4 h hE => ?_) (fun r2 S1 h hE => ?_)
  · by_cases e5 : C = "java/lang/IndexOutOfBoundsException"
    · subst e5
      have h := it_t rfl h
      have r_p1 := r_p1.tr hE
      have r_p3 := r_p3.tr hE
      refine x_catch  F hZ hNc hT0 [] ⟨0, 9, 12, 25⟩ [] rfl (by intro z hz; cases hz) rfl (by decide) kcl_L_25 kca_L_25 ?_
      refine v_astore_n (lv1 := [(3, .ref w4), (0, .ref p1), (1, .int p2), (2, .ref p3)]) F dL_walk_12 rfl (by rw [hN]; decide) rfl ?_
      refine v_iconst (v := 1) F dL_walk_13 (by decide) ?_
      exact v_iret F hQ h (by decide) dL_walk_14
    · have h := it_f e5 h
      exact h.elim
  · have r_p1 := r_p1.tr hE
    have r_p3 := r_p3.tr hE
    refine v_i2l F dL_walk_7 ?_
    refine v_last F r_p3 o_119 h dL_walk_8 (fun S6 h hE => ?_)
    have r_p1 := r_p1.tr hE
    have r_p3 := r_p3.tr hE
    refine v_goto (tgt := 15) F dL_walk_9 (by decide) ?_
    refine v_iconst (v := 0) F dL_walk_15 (by decide) ?_
    exact v_iret F hQ h (by decide) dL_walk_16
theorem dL_bar_0 : decode cL_bar 0 = .ok (.aload_n 3, 1) := by decide +kernel
theorem dL_bar_1 : decode cL_bar 1 = .ok (.iconst 0, 1) := by decide +kernel
theorem dL_bar_2 : decode cL_bar 2 = .ok (.aload_n 0, 1) := by decide +kernel
theorem dL_bar_3 : decode cL_bar 3 = .ok (.iload_n 1, 1) := by decide +kernel
theorem dL_bar_4 : decode cL_bar 4 = .ok (.iload_n 2, 1) := by decide +kernel
theorem dL_bar_5 : decode cL_bar 5 = .ok (.invokevirtual 37, 3) := by decide +kernel
theorem dL_bar_8 : decode cL_bar 8 = .ok (.lastore, 1) := by decide +kernel
theorem dL_bar_9 : decode cL_bar 9 = .ok (.goto 11, 3) := by decide +kernel
theorem dL_bar_12 : decode cL_bar 12 = .ok (.astore 4, 2) := by decide +kernel
theorem dL_bar_14 : decode cL_bar 14 = .ok (.iconst 1, 1) := by decide +kernel
theorem dL_bar_15 : decode cL_bar 15 = .ok (.ireturn, 1) := by decide +kernel
theorem dL_bar_16 : decode cL_bar 16 = .ok (.astore 4, 2) := by decide +kernel
theorem dL_bar_18 : decode cL_bar 18 = .ok (.iconst 2, 1) := by decide +kernel
theorem dL_bar_19 : decode cL_bar 19 = .ok (.ireturn, 1) := by decide +kernel
theorem dL_bar_20 : decode cL_bar 20 = .ok (.iconst 0, 1) := by decide +kernel
theorem dL_bar_21 : decode cL_bar 21 = .ok (.ireturn, 1) := by decide +kernel
abbrev rm_L_bar : Room := { frames := 7, cells := 1, slots := 6, locals := 202 }
def wp_L_bar (p1 : Nat) (p2 : Int32) (p3 : Int32) (p4 : Nat) (S : PS) (Q : Int32 → PS → Prop) : Prop :=
  wp_X11_bar p1 p2 p3 S (fun (r2 : Int64) (S1 : PS) =>
 (vp_in 0 (aN S1 p4) ∧ ∀ S7, S7 = wL S1 119 p4 (0 : Int32).toNatClampNeg r2 → Q 0 S7)) (fun (C : String) (S3 : PS) => (if C = "java/lang/IndexOutOfBoundsException" then Q 1 S3 else (if C = "java/lang/IllegalArgumentException" then Q 2 S3 else False)))
set_option maxRecDepth 100000 in
set_option maxHeartbeats 4000000 in
theorem c_L_bar {l : Launch} {E : EE} {A : Nat → Prop} {p1 : Nat} {p2 : Int32} {p3 : Int32} {p4 : Nat} {S : PS} {Q : Int32 → PS → Prop} {adK adV : Nat → Nat} (hS : hasStr E adK adV) (hZ : hasEx E) (hl0 : l.stackTraces = false) (hNc : hasNc E) (r_p1 : Rf S p1 8) (r_p4 : Rf S p4 119) (h : wp_L_bar p1 p2 p3 p4 S Q) : MtI l yL_bar (.codeWith yL_bar cL_bar 5 (some .int) [(0, 9, 12, 25), (0, 9, 16, 13)]) rm_L_bar E A [.ref p1, .int p2, .int p3, .ref p4] S Q := by
  refine MtI.ofW (by decide) (Nat.le_of_ble_eq_true rfl) (fun X F hQ hX hT0 => ?_)
  show VV X (0, 0) S [(0, .ref p1), (1, .int p2), (2, .int p3), (3, .ref p4)] [] 0
  obtain ⟨hXl, hXE, hXA, hN, hnm⟩ := hX
  subst hXE
  subst hXA
  subst hXl
  unfold wp_L_bar at h
  refine v_aload_n F dL_bar_0 3 rfl rfl ?_
  refine v_iconst (v := 0) F dL_bar_1 (by decide) ?_
  refine v_aload_n F dL_bar_2 0 rfl rfl ?_
  refine v_iload_n F dL_bar_3 1 rfl rfl ?_
  refine v_iload_n F dL_bar_4 2 rfl rfl ?_
  refine x_cLc (n1 := (1, 6)) (x_runV F k_L_37 rfl (c_X11_bar hS hZ hl0 r_p1 h) r_p1 rfl rfl (Nat.le_of_ble_eq_true rfl) (by decide) (by decide) dL_bar_5) (by decide) (fun C S3 w4 h hE => ?_) (fun r2 S1 h hE => ?_)
  · by_cases e6 : C = "java/lang/IndexOutOfBoundsException"
    · subst e6
      have h := it_t rfl h
      have r_p1 := r_p1.tr hE
      have r_p4 := r_p4.tr hE
      refine x_catch  F hZ hNc hT0 [] ⟨0, 9, 12, 25⟩ [⟨0, 9, 16, 13⟩] rfl (by intro z hz; cases hz) rfl (by decide) kcl_L_25 kca_L_25 ?_
      refine v_astore (lv1 := [(4, .ref w4), (0, .ref p1), (1, .int p2), (2, .int p3), (3, .ref p4)]) F dL_bar_12 (by rw [hN]; decide) rfl ?_
      refine v_iconst (v := 1) F dL_bar_14 (by decide) ?_
      exact v_iret F hQ h (by decide) dL_bar_15
    · have h := it_f e6 h
      by_cases e5 : C = "java/lang/IllegalArgumentException"
      · subst e5
        have h := it_t rfl h
        have r_p1 := r_p1.tr hE
        have r_p4 := r_p4.tr hE
        refine x_catch  F hZ hNc hT0 [⟨0, 9, 12, 25⟩] ⟨0, 9, 16, 13⟩ [] rfl (by
            intro z hz
            rcases List.mem_cons.mp hz with rfl | hz
            · exact ⟨by decide, _, kcl_L_25, by decide⟩
            cases hz) rfl (by decide) kcl_L_13 kca_L_13 ?_
        refine v_astore (lv1 := [(4, .ref w4), (0, .ref p1), (1, .int p2), (2, .int p3), (3, .ref p4)]) F dL_bar_16 (by rw [hN]; decide) rfl ?_
        refine v_iconst (v := 2) F dL_bar_18 (by decide) ?_
        exact v_iret F hQ h (by decide) dL_bar_19
      · have h := it_f e5 h
        exact h.elim
  · have r_p1 := r_p1.tr hE
    have r_p4 := r_p4.tr hE
    refine v_last F r_p4 o_119 h dL_bar_8 (fun S7 h hE => ?_)
    have r_p1 := r_p1.tr hE
    have r_p4 := r_p4.tr hE
    refine v_goto (tgt := 20) F dL_bar_9 (by decide) ?_
    refine v_iconst (v := 0) F dL_bar_20 (by decide) ?_
    exact v_iret F hQ h (by decide) dL_bar_21
theorem dL_at_0 : decode cL_at 0 = .ok (.aload 4, 2) := by decide +kernel
theorem dL_at_2 : decode cL_at 2 = .ok (.iconst 0, 1) := by decide +kernel
theorem dL_at_3 : decode cL_at 3 = .ok (.aload_n 0, 1) := by decide +kernel
theorem dL_at_4 : decode cL_at 4 = .ok (.iload_n 1, 1) := by decide +kernel
theorem dL_at_5 : decode cL_at 5 = .ok (.iload_n 2, 1) := by decide +kernel
theorem dL_at_6 : decode cL_at 6 = .ok (.iload_n 3, 1) := by decide +kernel
theorem dL_at_7 : decode cL_at 7 = .ok (.invokevirtual 40, 3) := by decide +kernel
theorem dL_at_10 : decode cL_at 10 = .ok (.i2l, 1) := by decide +kernel
theorem dL_at_11 : decode cL_at 11 = .ok (.lastore, 1) := by decide +kernel
theorem dL_at_12 : decode cL_at 12 = .ok (.goto 15, 3) := by decide +kernel
theorem dL_at_15 : decode cL_at 15 = .ok (.astore 5, 2) := by decide +kernel
theorem dL_at_17 : decode cL_at 17 = .ok (.iconst 1, 1) := by decide +kernel
theorem dL_at_18 : decode cL_at 18 = .ok (.ireturn, 1) := by decide +kernel
theorem dL_at_19 : decode cL_at 19 = .ok (.astore 5, 2) := by decide +kernel
theorem dL_at_21 : decode cL_at 21 = .ok (.iconst 2, 1) := by decide +kernel
theorem dL_at_22 : decode cL_at 22 = .ok (.ireturn, 1) := by decide +kernel
theorem dL_at_23 : decode cL_at 23 = .ok (.astore 5, 2) := by decide +kernel
theorem dL_at_25 : decode cL_at 25 = .ok (.iconst 3, 1) := by decide +kernel
theorem dL_at_26 : decode cL_at 26 = .ok (.ireturn, 1) := by decide +kernel
theorem dL_at_27 : decode cL_at 27 = .ok (.iconst 0, 1) := by decide +kernel
theorem dL_at_28 : decode cL_at 28 = .ok (.ireturn, 1) := by decide +kernel
abbrev rm_L_at : Room := { frames := 7, cells := 1, slots := 6, locals := 123 }
def wp_L_at (p1 : Nat) (p2 : Int32) (p3 : Int32) (p4 : Int32) (p5 : Nat) (S : PS) (Q : Int32 → PS → Prop) : Prop :=
  wp_X11_at p1 p2 p3 p4 S (fun (r2 : Int32) (S1 : PS) =>
 (vp_in 0 (aN S1 p5) ∧ ∀ S8, S8 = wL S1 119 p5 (0 : Int32).toNatClampNeg (r2.toInt64) → Q 0 S8)) (fun (C : String) (S3 : PS) => (if C = "java/lang/IndexOutOfBoundsException" then Q 1 S3 else (if C = "java/lang/ArithmeticException" then Q 2 S3 else (if C = "java/lang/IllegalArgumentException" then Q 3 S3 else False))))
set_option maxRecDepth 100000 in
set_option maxHeartbeats 4000000 in
theorem c_L_at {l : Launch} {E : EE} {A : Nat → Prop} {p1 : Nat} {p2 : Int32} {p3 : Int32} {p4 : Int32} {p5 : Nat} {S : PS} {Q : Int32 → PS → Prop} {adK adV : Nat → Nat} (hS : hasStr E adK adV) (hZ : hasEx E) (hl0 : l.stackTraces = false) (hNc : hasNc E) (r_p1 : Rf S p1 8) (r_p5 : Rf S p5 119) (h : wp_L_at p1 p2 p3 p4 p5 S Q) : MtI l yL_at (.codeWith yL_at cL_at 6 (some .int) [(0, 12, 15, 25), (0, 12, 19, 43), (0, 12, 23, 13)]) rm_L_at E A [.ref p1, .int p2, .int p3, .int p4, .ref p5] S Q := by
  refine MtI.ofW (by decide) (Nat.le_of_ble_eq_true rfl) (fun X F hQ hX hT0 => ?_)
  show VV X (0, 0) S [(0, .ref p1), (1, .int p2), (2, .int p3), (3, .int p4), (4, .ref p5)] [] 0
  obtain ⟨hXl, hXE, hXA, hN, hnm⟩ := hX
  subst hXE
  subst hXA
  subst hXl
  unfold wp_L_at at h
  refine v_aload F dL_at_0 4 rfl ?_
  refine v_iconst (v := 0) F dL_at_2 (by decide) ?_
  refine v_aload_n F dL_at_3 0 rfl rfl ?_
  refine v_iload_n F dL_at_4 1 rfl rfl ?_
  refine v_iload_n F dL_at_5 2 rfl rfl ?_
  refine v_iload_n F dL_at_6 3 rfl rfl ?_
  refine x_cIc (n1 := (1, 6)) (x_runV F k_L_40 rfl (c_X11_at hS hZ hl0 r_p1 h) r_p1 rfl rfl (Nat.le_of_ble_eq_true rfl) (by decide) (by decide) dL_at_7) (by decide) (fun C S3 w4 h hE => ?_) (fun r2 S1 h hE => ?_)
  · by_cases e7 : C = "java/lang/IndexOutOfBoundsException"
    · subst e7
      have h := it_t rfl h
      have r_p1 := r_p1.tr hE
      have r_p5 := r_p5.tr hE
      refine x_catch  F hZ hNc hT0 [] ⟨0, 12, 15, 25⟩ [⟨0, 12, 19, 43⟩, ⟨0, 12, 23, 13⟩] rfl (by intro z hz; cases hz) rfl (by decide) kcl_L_25 kca_L_25 ?_
      refine v_astore (lv1 := [(5, .ref w4), (0, .ref p1), (1, .int p2), (2, .int p3), (3, .int p4), (4, .ref p5)]) F dL_at_15 (by rw [hN]; decide) rfl ?_
      refine v_iconst (v := 1) F dL_at_17 (by decide) ?_
      exact v_iret F hQ h (by decide) dL_at_18
    · have h := it_f e7 h
      by_cases e6 : C = "java/lang/ArithmeticException"
      · subst e6
        have h := it_t rfl h
        have r_p1 := r_p1.tr hE
        have r_p5 := r_p5.tr hE
        refine x_catch  F hZ hNc hT0 [⟨0, 12, 15, 25⟩] ⟨0, 12, 19, 43⟩ [⟨0, 12, 23, 13⟩] rfl (by
            intro z hz
            rcases List.mem_cons.mp hz with rfl | hz
            · exact ⟨by decide, _, kcl_L_25, by decide⟩
            cases hz) rfl (by decide) kcl_L_43 kca_L_43 ?_
        refine v_astore (lv1 := [(5, .ref w4), (0, .ref p1), (1, .int p2), (2, .int p3), (3, .int p4), (4, .ref p5)]) F dL_at_19 (by rw [hN]; decide) rfl ?_
        refine v_iconst (v := 2) F dL_at_21 (by decide) ?_
        exact v_iret F hQ h (by decide) dL_at_22
      · have h := it_f e6 h
        by_cases e5 : C = "java/lang/IllegalArgumentException"
        · subst e5
          have h := it_t rfl h
          have r_p1 := r_p1.tr hE
          have r_p5 := r_p5.tr hE
          refine x_catch  F hZ hNc hT0 [⟨0, 12, 15, 25⟩, ⟨0, 12, 19, 43⟩] ⟨0, 12, 23, 13⟩ [] rfl (by
              intro z hz
              rcases List.mem_cons.mp hz with rfl | hz
              · exact ⟨by decide, _, kcl_L_25, by decide⟩
              rcases List.mem_cons.mp hz with rfl | hz
              · exact ⟨by decide, _, kcl_L_43, by decide⟩
              cases hz) rfl (by decide) kcl_L_13 kca_L_13 ?_
          refine v_astore (lv1 := [(5, .ref w4), (0, .ref p1), (1, .int p2), (2, .int p3), (3, .int p4), (4, .ref p5)]) F dL_at_23 (by rw [hN]; decide) rfl ?_
          refine v_iconst (v := 3) F dL_at_25 (by decide) ?_
          exact v_iret F hQ h (by decide) dL_at_26
        · have h := it_f e5 h
          exact h.elim
  · have r_p1 := r_p1.tr hE
    have r_p5 := r_p5.tr hE
    refine v_i2l F dL_at_10 ?_
    refine v_last F r_p5 o_119 h dL_at_11 (fun S8 h hE => ?_)
    have r_p1 := r_p1.tr hE
    have r_p5 := r_p5.tr hE
    refine v_goto (tgt := 27) F dL_at_12 (by decide) ?_
    refine v_iconst (v := 0) F dL_at_27 (by decide) ?_
    exact v_iret F hQ h (by decide) dL_at_28
