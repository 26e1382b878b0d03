theorem dX11_fault_0 : decode cX11_fault 0 = .ok (.aload_n 0, 1) := by decide +kernel
theorem dX11_fault_1 : decode cX11_fault 1 = .ok (.getfield 20, 3) := by decide +kernel
theorem dX11_fault_4 : decode cX11_fault 4 = .ok (.getfield 98, 3) := by decide +kernel
theorem dX11_fault_7 : decode cX11_fault 7 = .ok (.ireturn, 1) := by decide +kernel
abbrev rm_X11_fault : Room := { frames := 0, cells := 0, slots := 0, locals := 0 }
def wp_X11_fault (a : Nat) (S : PS) (Q : Int32 → PS → Prop) : Prop :=
  (∃ b1, fR S 89 a = some b1 ∧ Q (fI S 0 b1) S)
set_option maxRecDepth 100000 in
set_option maxHeartbeats 4000000 in
theorem c_X11_fault {l : Launch} {E : EE} {A : Nat → Prop} {a : Nat} {S : PS} {Q : Int32 → PS → Prop} (r_a : Rf S a 8) (h : wp_X11_fault a S Q) : MtI l yX11_fault (.code yX11_fault cX11_fault 1 (some .int)) rm_X11_fault E A [.ref a] S Q := by
  refine MtI.of (by decide) (Nat.le_of_ble_eq_true rfl) (fun X F hQ hN => ?_)
  show VV X (0, 0) S [(0, .ref a)] [] 0
  unfold wp_X11_fault at h
  refine v_aload_n F dX11_fault_0 0 rfl rfl ?_
  refine g_X11_20 F r_a h dX11_fault_1 (fun b1 r_b1 h => ?_)
  refine g_X11_98 F r_b1 dX11_fault_4 ?_
  exact v_iret F hQ h (by decide) dX11_fault_7
theorem dX11_printed_0 : decode cX11_printed 0 = .ok (.aload_n 0, 1) := by decide +kernel
theorem dX11_printed_1 : decode cX11_printed 1 = .ok (.getfield 50, 3) := by decide +kernel
theorem dX11_printed_4 : decode cX11_printed 4 = .ok (.iload_n 1, 1) := by decide +kernel
theorem dX11_printed_5 : decode cX11_printed 5 = .ok (.invokevirtual 238, 3) := by decide +kernel
theorem dX11_printed_8 : decode cX11_printed 8 = .ok (.ireturn, 1) := by decide +kernel
abbrev rm_X11_printed : Room := { frames := 1, cells := 0, slots := 0, locals := 21 }
def wp_X11_printed (a : Nat) (p1 : Int32) (S : PS) (Q : Int32 → PS → Prop) : Prop :=
  (∃ b1, fR S 93 a = some b1 ∧ wp_X5_byteAt b1 p1 S (fun (r3 : Int32) (S2 : PS) => 
 Q r3 S2))
set_option maxRecDepth 100000 in
set_option maxHeartbeats 4000000 in
theorem c_X11_printed {l : Launch} {E : EE} {A : Nat → Prop} {a : Nat} {p1 : Int32} {S : PS} {Q : Int32 → PS → Prop} (r_a : Rf S a 8) (h : wp_X11_printed a p1 S Q) : MtI l yX11_printed (.code yX11_printed cX11_printed 2 (some .int)) rm_X11_printed E A [.ref a, .int p1] S Q := by
  refine MtI.of (by decide) (Nat.le_of_ble_eq_true rfl) (fun X F hQ hN => ?_)
  show VV X (0, 0) S [(0, .ref a), (1, .int p1)] [] 0
  unfold wp_X11_printed at h
  refine v_aload_n F dX11_printed_0 0 rfl rfl ?_
  refine g_X11_50 F r_a h dX11_printed_1 (fun b1 r_b1 h => ?_)
  refine v_iload_n F dX11_printed_4 1 rfl rfl ?_
  refine v_cI0 (v_runV F k_X11_238 rfl (c_X5_byteAt r_b1 h) r_b1 rfl rfl (Nat.le_of_ble_eq_true rfl) (by decide) (by decide) dX11_printed_5) ⟨rfl, rfl⟩ (fun r3 S2 h hE => ?_)
  have r_a := r_a.tr hE
  exact v_iret F hQ h (by decide) dX11_printed_8
