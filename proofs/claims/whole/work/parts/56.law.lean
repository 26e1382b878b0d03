set_option maxRecDepth 100000 in
def wp_L_law (L : Nat) (xi : Nat → Int32) (k : Nat × Nat) (S : PS) : Prop :=
  ((1 ≤ k.1 ∧ 9 ≤ k.2) ∧ ∀ q1, q1 ∉ pL S → ∀ S2, S2 = nO S 8 q1 → ((55 ≤ (k.1 - 1, k.2 - 9).1 ∧ 21995 ≤ (k.1 - 1, k.2 - 9).2) ∧ wp_X11_init q1 S2 (fun (S3 : PS) => 
 ((1 ≤ ((k.1 - 1, k.2 - 9).1 - 55, (k.1 - 1, k.2 - 9).2 - 21995).1 ∧ 119 ≤ ((k.1 - 1, k.2 - 9).1 - 55, (k.1 - 1, k.2 - 9).2 - 21995).2) ∧ ∀ q5, q5 ∉ pL S3 → ∀ S6, S6 = nO S3 9 q5 → ((79 ≤ (((k.1 - 1, k.2 - 9).1 - 55, (k.1 - 1, k.2 - 9).2 - 21995).1 - 1, ((k.1 - 1, k.2 - 9).1 - 55, (k.1 - 1, k.2 - 9).2 - 21995).2 - 119).1 ∧ 98872 ≤ (((k.1 - 1, k.2 - 9).1 - 55, (k.1 - 1, k.2 - 9).2 - 21995).1 - 1, ((k.1 - 1, k.2 - 9).1 - 55, (k.1 - 1, k.2 - 9).2 - 21995).2 - 119).2) ∧ wp_X12_init q5 S6 (fun (S7 : PS) => 
 ((1 ≤ ((((k.1 - 1, k.2 - 9).1 - 55, (k.1 - 1, k.2 - 9).2 - 21995).1 - 1, ((k.1 - 1, k.2 - 9).1 - 55, (k.1 - 1, k.2 - 9).2 - 21995).2 - 119).1 - 79, (((k.1 - 1, k.2 - 9).1 - 55, (k.1 - 1, k.2 - 9).2 - 21995).1 - 1, ((k.1 - 1, k.2 - 9).1 - 55, (k.1 - 1, k.2 - 9).2 - 21995).2 - 119).2 - 98872).1 ∧ 1 ≤ ((((k.1 - 1, k.2 - 9).1 - 55, (k.1 - 1, k.2 - 9).2 - 21995).1 - 1, ((k.1 - 1, k.2 - 9).1 - 55, (k.1 - 1, k.2 - 9).2 - 21995).2 - 119).1 - 79, (((k.1 - 1, k.2 - 9).1 - 55, (k.1 - 1, k.2 - 9).2 - 21995).1 - 1, ((k.1 - 1, k.2 - 9).1 - 55, (k.1 - 1, k.2 - 9).2 - 21995).2 - 119).2 - 98872).2) ∧ ∀ q9, q9 ∉ pL S7 → ∀ S10, S10 = nA S7 119 q9 1 → (∀ P23_11 : Int32 → Nat × Nat → PS → Prop, (∀ (x4_12 : Int32) (k14 : Nat × Nat) (S13 : PS),
 (if (Int32.ofNat L) - 4 < x4_12 then
 True
 else
 (vp_in x4_12 L ∧ (∀ K750_16 : Nat × Nat → PS → Prop, (∀ (k17 : Nat × Nat) (S15 : PS),
 (∀ v18, v18 = x4_12 + 4 → P23_11 v18 k17 S15)
 → K750_16 k17 S15) →
 (if (xi (x4_12).toNatClampNeg) &&& 15 = 0 then
 (vp_in (x4_12 + 1) L ∧ (vp_in (x4_12 + 2) L ∧ (vp_in (x4_12 + 3) L ∧ ((1 ≤ k14.1 ∧ 6 ≤ k14.2) ∧ wp_L_feed q1 ((((xi (x4_12 + 1).toNatClampNeg).toInt64) <<< ((32 : Int32).toInt64 &&& 63)) ||| (((xi (x4_12 + 2).toNatClampNeg).toInt64) &&& 4294967295)) (xi (x4_12 + 3).toNatClampNeg) q9 S13 (fun (r20 : Int32) (S19 : PS) => 
 (vp_in (x4_12 + 1) L ∧ (vp_in (x4_12 + 2) L ∧ (vp_in (x4_12 + 3) L ∧ wp_X12_feed q5 ((((xi (x4_12 + 1).toNatClampNeg).toInt64) <<< ((32 : Int32).toInt64 &&& 63)) ||| (((xi (x4_12 + 2).toNatClampNeg).toInt64) &&& 4294967295)) (xi (x4_12 + 3).toNatClampNeg) S19 (fun (r23 : Int32) (S22 : PS) => 
 wp_X12_thrown q5 S22 (fun (r25 : Int32) (S24 : PS) => 
 (if r25 = r20 then
 (if r20 = 0 then
 (vp_in 0 (aN S24 q9) ∧ (if aL S24 119 q9 (0 : Int32).toNatClampNeg = r23.toInt64 then
 K750_16 (k14.1 - 1, k14.2 - 6) S24
 else
 False))
 else
 K750_16 (k14.1 - 1, k14.2 - 6) S24)
 else
 False)))))))))))
 else (if (xi (x4_12).toNatClampNeg) &&& 15 = 1 then
 (∃ k29 : Nat × Nat, (k29.1 ≤ k14.1 ∧ k29.2 ≤ k14.2) ∧ wp_X11_read q1 k29 S13 (fun (r28 : Int32) (S27 : PS) => 
 wp_X12_read q5 S27 (fun (r31 : Int32) (S30 : PS) => 
 (if r28 = r31 then
 K750_16 (k14.1 - k29.1, k14.2 - k29.2) S30
 else
 False))))
 else (if (xi (x4_12).toNatClampNeg) &&& 15 = 2 then
 wp_X11_fault q1 S13 (fun (r34 : Int32) (S33 : PS) => 
 wp_X12_fault q5 S33 (fun (r36 : Int32) (S35 : PS) => 
 (if r34 = r36 then
 K750_16 k14 S35
 else
 False)))
 else (if (xi (x4_12).toNatClampNeg) &&& 15 = 3 then
 (vp_in (x4_12 + 1) L ∧ ((1 ≤ k14.1 ∧ 6 ≤ k14.2) ∧ wp_L_count q1 (xi (x4_12 + 1).toNatClampNeg) q9 S13 (fun (r39 : Int32) (S38 : PS) => 
 (vp_in (x4_12 + 1) L ∧ wp_X12_count q5 (xi (x4_12 + 1).toNatClampNeg) S38 (fun (r42 : Int32) (S41 : PS) => 
 wp_X12_thrown q5 S41 (fun (r44 : Int32) (S43 : PS) => 
 (if r44 = r39 then
 (if r39 = 0 then
 (vp_in 0 (aN S43 q9) ∧ (if aL S43 119 q9 (0 : Int32).toNatClampNeg = r42.toInt64 then
 K750_16 (k14.1 - 1, k14.2 - 6) S43
 else
 False))
 else
 K750_16 (k14.1 - 1, k14.2 - 6) S43)
 else
 False)))))))
 else (if (xi (x4_12).toNatClampNeg) &&& 15 = 4 then
 (vp_in (x4_12 + 1) L ∧ (vp_in (x4_12 + 2) L ∧ ((2 ≤ k14.1 ∧ 12 ≤ k14.2) ∧ wp_L_event q1 (xi (x4_12 + 1).toNatClampNeg) (xi (x4_12 + 2).toNatClampNeg) q9 S13 (fun (r47 : Int32) (S46 : PS) => 
 (vp_in (x4_12 + 1) L ∧ (vp_in (x4_12 + 2) L ∧ wp_X12_event_ q5 (xi (x4_12 + 1).toNatClampNeg) (xi (x4_12 + 2).toNatClampNeg) S46 (fun (r50 : Int64) (S49 : PS) => 
 wp_X12_thrown q5 S49 (fun (r52 : Int32) (S51 : PS) => 
 (if r52 = r47 then
 (if r47 = 0 then
 (vp_in 0 (aN S51 q9) ∧ (if aL S51 119 q9 (0 : Int32).toNatClampNeg = r50 then
 K750_16 (k14.1 - 2, k14.2 - 12) S51
 else
 False))
 else
 K750_16 (k14.1 - 2, k14.2 - 12) S51)
 else
 False)))))))))
 else (if (xi (x4_12).toNatClampNeg) &&& 15 = 5 then
 (vp_in (x4_12 + 1) L ∧ (vp_in (x4_12 + 2) L ∧ (vp_in (x4_12 + 3) L ∧ ((2 ≤ k14.1 ∧ 12 ≤ k14.2) ∧ wp_L_pitch q1 (xi (x4_12 + 1).toNatClampNeg) (xi (x4_12 + 2).toNatClampNeg) (xi (x4_12 + 3).toNatClampNeg) q9 S13 (fun (r55 : Int32) (S54 : PS) => 
 (vp_in (x4_12 + 1) L ∧ (vp_in (x4_12 + 2) L ∧ (vp_in (x4_12 + 3) L ∧ wp_X12_pitch q5 (xi (x4_12 + 1).toNatClampNeg) (xi (x4_12 + 2).toNatClampNeg) (xi (x4_12 + 3).toNatClampNeg) S54 (fun (r58 : Int32) (S57 : PS) => 
 wp_X12_thrown q5 S57 (fun (r60 : Int32) (S59 : PS) => 
 (if r60 = r55 then
 (if r55 = 0 then
 (vp_in 0 (aN S59 q9) ∧ (if aL S59 119 q9 (0 : Int32).toNatClampNeg = r58.toInt64 then
 K750_16 (k14.1 - 2, k14.2 - 12) S59
 else
 False))
 else
 K750_16 (k14.1 - 2, k14.2 - 12) S59)
 else
 False)))))))))))
 else (if (xi (x4_12).toNatClampNeg) &&& 15 = 6 then
 (vp_in (x4_12 + 1) L ∧ (vp_in (x4_12 + 2) L ∧ (vp_in (x4_12 + 3) L ∧ ((2 ≤ k14.1 ∧ 12 ≤ k14.2) ∧ wp_L_word q1 (xi (x4_12 + 1).toNatClampNeg) (xi (x4_12 + 2).toNatClampNeg) (xi (x4_12 + 3).toNatClampNeg) q9 S13 (fun (r63 : Int32) (S62 : PS) => 
 (vp_in (x4_12 + 1) L ∧ (vp_in (x4_12 + 2) L ∧ (vp_in (x4_12 + 3) L ∧ wp_X12_word q5 (xi (x4_12 + 1).toNatClampNeg) (xi (x4_12 + 2).toNatClampNeg) (xi (x4_12 + 3).toNatClampNeg) S62 (fun (r66 : Int32) (S65 : PS) => 
 wp_X12_thrown q5 S65 (fun (r68 : Int32) (S67 : PS) => 
 (if r68 = r63 then
 (if r63 = 0 then
 (vp_in 0 (aN S67 q9) ∧ (if aL S67 119 q9 (0 : Int32).toNatClampNeg = r66.toInt64 then
 K750_16 (k14.1 - 2, k14.2 - 12) S67
 else
 False))
 else
 K750_16 (k14.1 - 2, k14.2 - 12) S67)
 else
 False)))))))))))
 else (if (xi (x4_12).toNatClampNeg) &&& 15 = 7 then
 (vp_in (x4_12 + 1) L ∧ ((1 ≤ k14.1 ∧ 6 ≤ k14.2) ∧ wp_L_walk q1 (xi (x4_12 + 1).toNatClampNeg) q9 S13 (fun (r71 : Int32) (S70 : PS) => 
 (vp_in (x4_12 + 1) L ∧ wp_X12_walk q5 (xi (x4_12 + 1).toNatClampNeg) S70 (fun (r74 : Int32) (S73 : PS) => 
 wp_X12_thrown q5 S73 (fun (r76 : Int32) (S75 : PS) => 
 (if r76 = r71 then
 (if r71 = 0 then
 (vp_in 0 (aN S75 q9) ∧ (if aL S75 119 q9 (0 : Int32).toNatClampNeg = r74.toInt64 then
 K750_16 (k14.1 - 1, k14.2 - 6) S75
 else
 False))
 else
 K750_16 (k14.1 - 1, k14.2 - 6) S75)
 else
 False)))))))
 else (if (xi (x4_12).toNatClampNeg) &&& 15 = 8 then
 (vp_in (x4_12 + 1) L ∧ (vp_in (x4_12 + 2) L ∧ ((1 ≤ k14.1 ∧ 6 ≤ k14.2) ∧ wp_L_bar q1 (xi (x4_12 + 1).toNatClampNeg) (xi (x4_12 + 2).toNatClampNeg) q9 S13 (fun (r79 : Int32) (S78 : PS) => 
 (vp_in (x4_12 + 1) L ∧ (vp_in (x4_12 + 2) L ∧ wp_X12_bar q5 (xi (x4_12 + 1).toNatClampNeg) (xi (x4_12 + 2).toNatClampNeg) S78 (fun (r82 : Int64) (S81 : PS) => 
 wp_X12_thrown q5 S81 (fun (r84 : Int32) (S83 : PS) => 
 (if r84 = r79 then
 (if r79 = 0 then
 (vp_in 0 (aN S83 q9) ∧ (if aL S83 119 q9 (0 : Int32).toNatClampNeg = r82 then
 K750_16 (k14.1 - 1, k14.2 - 6) S83
 else
 False))
 else
 K750_16 (k14.1 - 1, k14.2 - 6) S83)
 else
 False)))))))))
 else (if (xi (x4_12).toNatClampNeg) &&& 15 = 9 then
 (vp_in (x4_12 + 1) L ∧ (vp_in (x4_12 + 2) L ∧ (vp_in (x4_12 + 3) L ∧ ((1 ≤ k14.1 ∧ 6 ≤ k14.2) ∧ wp_L_at q1 (xi (x4_12 + 1).toNatClampNeg) (xi (x4_12 + 2).toNatClampNeg) (xi (x4_12 + 3).toNatClampNeg) q9 S13 (fun (r87 : Int32) (S86 : PS) => 
 (vp_in (x4_12 + 1) L ∧ (vp_in (x4_12 + 2) L ∧ (vp_in (x4_12 + 3) L ∧ wp_X12_at q5 (xi (x4_12 + 1).toNatClampNeg) (xi (x4_12 + 2).toNatClampNeg) (xi (x4_12 + 3).toNatClampNeg) S86 (fun (r90 : Int32) (S89 : PS) => 
 wp_X12_thrown q5 S89 (fun (r92 : Int32) (S91 : PS) => 
 (if r92 = r87 then
 (if r87 = 0 then
 (vp_in 0 (aN S91 q9) ∧ (if aL S91 119 q9 (0 : Int32).toNatClampNeg = r90.toInt64 then
 K750_16 (k14.1 - 1, k14.2 - 6) S91
 else
 False))
 else
 K750_16 (k14.1 - 1, k14.2 - 6) S91)
 else
 False)))))))))))
 else (if (xi (x4_12).toNatClampNeg) &&& 15 = 10 then
 (∃ k96 : Nat × Nat, (k96.1 ≤ k14.1 ∧ k96.2 ≤ k14.2) ∧ wp_X11_write q1 k96 S13 (fun (r95 : Int32) (S94 : PS) => 
 wp_X12_write q5 S94 (fun (r98 : Int32) (S97 : PS) => 
 (if r95 = r98 then
 K750_16 (k14.1 - k96.1, k14.2 - k96.2) S97
 else
 False))))
 else (if (xi (x4_12).toNatClampNeg) &&& 15 = 11 then
 (vp_in (x4_12 + 1) L ∧ wp_X11_printed q1 (xi (x4_12 + 1).toNatClampNeg) S13 (fun (r101 : Int32) (S100 : PS) => 
 (vp_in (x4_12 + 1) L ∧ wp_X12_printed q5 (xi (x4_12 + 1).toNatClampNeg) S100 (fun (r103 : Int32) (S102 : PS) => 
 (if r101 = r103 then
 K750_16 k14 S102
 else
 False)))))
 else K750_16 k14 S13)))))))))))))))
 → P23_11 x4_12 k14 S13) → P23_11 0 (((((k.1 - 1, k.2 - 9).1 - 55, (k.1 - 1, k.2 - 9).2 - 21995).1 - 1, ((k.1 - 1, k.2 - 9).1 - 55, (k.1 - 1, k.2 - 9).2 - 21995).2 - 119).1 - 79, (((k.1 - 1, k.2 - 9).1 - 55, (k.1 - 1, k.2 - 9).2 - 21995).1 - 1, ((k.1 - 1, k.2 - 9).1 - 55, (k.1 - 1, k.2 - 9).2 - 21995).2 - 119).2 - 98872).1 - 1, ((((k.1 - 1, k.2 - 9).1 - 55, (k.1 - 1, k.2 - 9).2 - 21995).1 - 1, ((k.1 - 1, k.2 - 9).1 - 55, (k.1 - 1, k.2 - 9).2 - 21995).2 - 119).1 - 79, (((k.1 - 1, k.2 - 9).1 - 55, (k.1 - 1, k.2 - 9).2 - 21995).1 - 1, ((k.1 - 1, k.2 - 9).1 - 55, (k.1 - 1, k.2 - 9).2 - 21995).2 - 119).2 - 98872).2 - 1) S10))))))))
set_option maxRecDepth 100000 in
set_option maxHeartbeats 8000000 in
theorem w_L_law {X : XX} {b L : Nat} {xi : Nat → Int32} {k : Nat × Nat} (hk0 : k = (601024, 7293034)) (F : Fx X cL_law RL (some .boolean) (rm_L_law k)) (ha : xa X = #[Value.ref b]) (hZ0 : xQ X = lw_Z (xb X) #[Value.ref b] (xs X)) (hA0 : xA X = fun q => (xs X).heap.size ≤ q) (hc : Sc X b L xi) (hN : xN X = 8) {adK adV : Nat → Nat} (hO : hasAO (xE X)) (hS : hasStr (xE X) adK adV) (hZ : hasEx (xE X)) (hl0 : (xl X).stackTraces = false) (hNc : hasNc (xE X)) (hH : hasHT (xE X)) {S : PS} (h : wp_L_law L xi k S) : VV X (0, 0) S [(0, .ref b)] [] 0 := by
  generalize hn0 : ((0, 0) : Nat × Nat) = n
  have hk : n.1 + k.1 ≤ k.1 ∧ n.2 + k.2 ≤ k.2 := by subst hn0; exact ⟨by omega, by omega⟩
  unfold wp_L_law at h
  obtain ⟨g_q1, h⟩ := h
  refine n_L_8 F (kb_c (k1 := (1, 9)) hk g_q1) dL_law_0 h (fun q1 S2 h hE r_q1 => ?_)
  have hk := kb_n (k1 := (1, 9)) hk g_q1
  refine v_gen (fun n hk => ?_) hk
  refine v_dup F dL_law_3 rfl ?_
  obtain ⟨g4, h⟩ := h
  refine v_cV (v_runI F k_L_45 (c_X11_init hO r_q1 h) rfl rfl (Nat.le_of_ble_eq_true rfl) ⟨Nat.le_of_ble_eq_true rfl, Nat.le_of_ble_eq_true rfl⟩ (kb_c (k1 := (55, 21995)) hk g4) dL_law_4) (fun  S3 h hE => ?_)
  have hk := kb_n (k1 := (55, 21995)) hk g4
  refine v_gen (fun n hk => ?_) hk
  have r_q1 := r_q1.tr hE
  refine v_astore_n (lv1 := [(1, .ref q1), (0, .ref b)]) F dL_law_7 rfl (by rw [hN]; decide) rfl ?_
  obtain ⟨g_q5, h⟩ := h
  refine n_L_46 F (kb_c (k1 := (1, 119)) hk g_q5) dL_law_8 h (fun q5 S6 h hE r_q5 => ?_)
  have hk := kb_n (k1 := (1, 119)) hk g_q5
  refine v_gen (fun n hk => ?_) hk
  have r_q1 := r_q1.tr hE
  refine v_dup F dL_law_11 rfl ?_
  obtain ⟨g8, h⟩ := h
  refine v_cV (v_runI F k_L_48 (c_X12_init r_q5 h) rfl rfl (Nat.le_of_ble_eq_true rfl) ⟨Nat.le_of_ble_eq_true rfl, Nat.le_of_ble_eq_true rfl⟩ (kb_c (k1 := (79, 98872)) hk g8) dL_law_12) (fun  S7 h hE => ?_)
  have hk := kb_n (k1 := (79, 98872)) hk g8
  refine v_gen (fun n hk => ?_) hk
  have r_q1 := r_q1.tr hE
  have r_q5 := r_q5.tr hE
  refine v_astore_n (lv1 := [(2, .ref q5), (1, .ref q1), (0, .ref b)]) F dL_law_15 rfl (by rw [hN]; decide) rfl ?_
  refine v_iconst (v := 1) F dL_law_16 (by decide) ?_
  obtain ⟨g_q9, h⟩ := h
  refine na_J (r := 119) (N := 1) F (by decide) rfl (by decide) (by decide) (by decide) (kb_c (k1 := (1, 1)) hk g_q9) dL_law_17 h (fun q9 S10 h hE r_q9 => ?_)
  have hk := kb_n (k1 := (1, 1)) hk g_q9
  refine v_gen (fun n hk => ?_) hk
  have r_q5 := r_q5.tr hE
  have r_q1 := r_q1.tr hE
  refine v_astore_n (lv1 := [(3, .ref q9), (2, .ref q5), (1, .ref q1), (0, .ref b)]) F dL_law_19 rfl (by rw [hN]; decide) rfl ?_
  refine v_iconst (v := 0) F dL_law_20 (by decide) ?_
  refine v_istore (lv1 := [(4, .int 0), (3, .ref q9), (2, .ref q5), (1, .ref q1), (0, .ref b)]) F dL_law_21 (by rw [hN]; decide) rfl ?_
  refine v_sub [4, 3, 2, 1, 0] rfl ?_
  refine h (fun (x4_12 : Int32) (k14 : Nat × Nat) (S13 : PS) => Rf S13 q1 8 → Rf S13 q5 9 → Rf S13 q9 119 → ∀ n : Nat × Nat, (n.1 + k14.1 ≤ k.1 ∧ n.2 + k14.2 ≤ k.2) → VV X n S13 [(0, .ref b), (1, .ref q1), (2, .ref q5), (3, .ref q9), (4, .int x4_12)] [] 23) (fun x4_12 k14 S13 h r_q1 r_q5 r_q9 n hk => ?_) r_q1 r_q5 r_q9 _ hk
  refine v_iload F dL_law_23 4 rfl ?_
  refine v_aload_n F dL_law_25 0 rfl rfl ?_
  refine v_xlen F hc dL_law_26 ?_
  refine v_iconst (v := 4) F dL_law_27 (by decide) ?_
  refine v_isub F dL_law_28 ?_
  refine v_icmp_gt (tgt := 756) F dL_law_29 (by decide) h (fun h => ?_) (fun h => ?_)
  · refine v_iconst (v := 1) F dL_law_756 (by decide) ?_
    exact v_lawret hk0 F ha hZ0 hA0 hk dL_law_757
  · refine v_aload_n F dL_law_32 0 rfl rfl ?_
    refine v_iload F dL_law_33 4 rfl ?_
    refine v_xld F hc h dL_law_35 (fun h => ?_)
    refine v_bipush (v := 15) F dL_law_36 (by decide) ?_
    refine v_iand F dL_law_38 ?_
    have h := h (fun (k17 : Nat × Nat) (S15 : PS) => Rf S15 q1 8 → Rf S15 q5 9 → Rf S15 q9 119 → ∀ n : Nat × Nat, (n.1 + k17.1 ≤ k.1 ∧ n.2 + k17.2 ≤ k.2) → VV X n S15 [(0, .ref b), (1, .ref q1), (2, .ref q5), (3, .ref q9), (4, .int x4_12)] [] 750) (by
      intro k17 S15 h r_q1 r_q5 r_q9 n hk
      obtain ⟨v18, e_v18⟩ : ∃ y : Int32, y = x4_12 + 4 := ⟨_, rfl⟩
      have h := h v18 e_v18
      refine v_iinc (v := v18) (lv1 := [(4, .int v18), (0, .ref b), (1, .ref q1), (2, .ref q5), (3, .ref q9)]) F dL_law_750 (q := 4) rfl (by rw [e_v18]; rfl) (by rw [hN]; decide) rfl ?_
      refine v_goto (tgt := 23) F dL_law_753 (by decide) ?_
      exact v_sub [1, 2, 3, 4, 0] rfl (h r_q1 r_q5 r_q9 _ hk))
    refine v_case h (fun e26 h => ?_) (fun e26 h => ?_)
    · refine v_tableIn (tgt := 100) F dL_law_39 (by rw [e26]; decide) (by rw [e26]; decide) (by rw [e26]; rfl) (by decide) ?_
      refine v_aload_n F dL_law_100 1 rfl rfl ?_
      refine v_aload_n F dL_law_101 0 rfl rfl ?_
      refine v_iload F dL_law_102 4 rfl ?_
      refine v_iconst (v := 1) F dL_law_104 (by decide) ?_
      refine v_iadd F dL_law_105 ?_
      refine v_xld F hc h dL_law_106 (fun h => ?_)
      refine v_i2l F dL_law_107 ?_
      refine v_bipush (v := 32) F dL_law_108 (by decide) ?_
      refine v_lshl F dL_law_110 ?_
      refine v_aload_n F dL_law_111 0 rfl rfl ?_
      refine v_iload F dL_law_112 4 rfl ?_
      refine v_iconst (v := 2) F dL_law_114 (by decide) ?_
      refine v_iadd F dL_law_115 ?_
      refine v_xld F hc h dL_law_116 (fun h => ?_)
      refine v_i2l F dL_law_117 ?_
      refine v_ldc2 F kc_L_49 dL_law_118 ?_
      refine v_land F dL_law_121 ?_
      refine v_lor F dL_law_122 ?_
      refine v_aload_n F dL_law_123 0 rfl rfl ?_
      refine v_iload F dL_law_124 4 rfl ?_
      refine v_iconst (v := 3) F dL_law_126 (by decide) ?_
      refine v_iadd F dL_law_127 ?_
      refine v_xld F hc h dL_law_128 (fun h => ?_)
      refine v_aload_n F dL_law_129 3 rfl rfl ?_
      obtain ⟨g21, h⟩ := h
      refine v_cI (v_runSW F k_L_51 (c_L_feed hS hZ hl0 hNc r_q1 r_q9 h) rfl rfl (Nat.le_of_ble_eq_true rfl) ⟨Nat.le_of_ble_eq_true rfl, Nat.le_of_ble_eq_true rfl⟩ (kb_c (k1 := (1, 6)) hk g21) dL_law_130) (fun r20 S19 h hE => ?_)
      have hk := kb_n (k1 := (1, 6)) hk g21
      refine v_gen (fun n hk => ?_) hk
      have r_q1 := r_q1.tr hE
      have r_q5 := r_q5.tr hE
      have r_q9 := r_q9.tr hE
      refine v_istore (lv1 := [(5, .int r20), (0, .ref b), (1, .ref q1), (2, .ref q5), (3, .ref q9), (4, .int x4_12)]) F dL_law_133 (by rw [hN]; decide) rfl ?_
      refine v_aload_n F dL_law_135 3 rfl rfl ?_
      refine v_aload_n F dL_law_136 1 rfl rfl ?_
      refine v_iload F dL_law_137 5 rfl ?_
      refine v_iconst (v := 1) F dL_law_139 (by decide) ?_
      refine v_iadd F dL_law_140 ?_
      refine v_xld F hc h dL_law_141 (fun h => ?_)
      refine v_i2l F dL_law_142 ?_
      refine v_bipush (v := 32) F dL_law_143 (by decide) ?_
      refine v_lshl F dL_law_145 ?_
      refine v_aload_n F dL_law_146 1 rfl rfl ?_
      refine v_iload F dL_law_147 5 rfl ?_
      refine v_iconst (v := 2) F dL_law_149 (by decide) ?_
      refine v_iadd F dL_law_150 ?_
      refine v_xld F hc h dL_law_151 (fun h => ?_)
      refine v_i2l F dL_law_152 ?_
      refine v_ldc2 F kc_L_49 dL_law_153 ?_
      refine v_land F dL_law_156 ?_
      refine v_lor F dL_law_157 ?_
      refine v_aload_n F dL_law_158 1 rfl rfl ?_
      refine v_iload F dL_law_159 5 rfl ?_
      refine v_iconst (v := 3) F dL_law_161 (by decide) ?_
      refine v_iadd F dL_law_162 ?_
      refine v_xld F hc h dL_law_163 (fun h => ?_)
      refine v_cI0 (v_runV F k_L_56 rfl (c_X12_feed r_q5 h) r_q5 rfl rfl (Nat.le_of_ble_eq_true rfl) ⟨Nat.le_of_ble_eq_true rfl, Nat.le_of_ble_eq_true rfl⟩ (kb_z hk) dL_law_164) ⟨rfl, rfl⟩ (fun r23 S22 h hE => ?_)
      have r_q1 := r_q1.tr hE
      have r_q5 := r_q5.tr hE
      have r_q9 := r_q9.tr hE
      refine v_istore (lv1 := [(6, .int r23), (5, .int r20), (0, .ref b), (1, .ref q1), (2, .ref q5), (3, .ref q9), (4, .int x4_12)]) F dL_law_167 (by rw [hN]; decide) rfl ?_
      refine v_aload_n F dL_law_169 4 rfl rfl ?_
      refine v_cI0 (v_runV F k_L_57 rfl (c_X12_thrown r_q5 h) r_q5 rfl rfl (Nat.le_of_ble_eq_true rfl) ⟨Nat.le_of_ble_eq_true rfl, Nat.le_of_ble_eq_true rfl⟩ (kb_z hk) dL_law_170) ⟨rfl, rfl⟩ (fun r25 S24 h hE => ?_)
      have r_q1 := r_q1.tr hE
      have r_q5 := r_q5.tr hE
      have r_q9 := r_q9.tr hE
      refine v_iload F dL_law_173 1 rfl ?_
      refine v_icmp_eq (tgt := 180) F dL_law_175 (by decide) h (fun h => ?_) (fun h => ?_)
      · refine v_iload F dL_law_180 1 rfl ?_
        refine v_if_ne (tgt := 197) F dL_law_182 (by decide) h (fun h => ?_) (fun h => ?_)
        · refine v_goto (tgt := 750) F dL_law_197 (by decide) ?_
          exact v_sub [2, 3, 4, 5, 6] rfl (h r_q1 r_q5 r_q9 _ hk)
        · refine v_aload_n F dL_law_185 5 rfl rfl ?_
          refine v_iconst (v := 0) F dL_law_186 (by decide) ?_
          refine v_lald F r_q9 o_119 h dL_law_187 (fun h => ?_)
          refine v_iload F dL_law_188 0 rfl ?_
          refine v_i2l F dL_law_190 ?_
          refine v_lcmp_eq (tgt := 197) F dL_law_191 dL_law_192 (by decide) h (fun h => ?_) (fun h => ?_)
          · refine v_goto (tgt := 750) F dL_law_197 (by decide) ?_
            exact v_sub [2, 3, 4, 5, 6] rfl (h r_q1 r_q5 r_q9 _ hk)
          · refine v_iconst (v := 0) F dL_law_195 (by decide) ?_
            exact h.elim
      · refine v_iconst (v := 0) F dL_law_178 (by decide) ?_
        exact h.elim
    refine v_case h (fun e32 h => ?_) (fun e32 h => ?_)
    · refine v_tableIn (tgt := 200) F dL_law_39 (by rw [e32]; decide) (by rw [e32]; decide) (by rw [e32]; rfl) (by decide) ?_
      refine v_aload_n F dL_law_200 1 rfl rfl ?_
      obtain ⟨k29, g_k29, h⟩ := h
      refine v_cI (v_runV F k_L_61 rfl (c_X11_read hS hH r_q1 h) r_q1 rfl rfl (Nat.le_of_ble_eq_true rfl) ⟨Nat.le_of_ble_eq_true rfl, Nat.le_of_ble_eq_true rfl⟩ (kb_c hk g_k29) dL_law_201) (fun r28 S27 h hE => ?_)
      have r_q1 := r_q1.tr hE
      have r_q5 := r_q5.tr hE
      have r_q9 := r_q9.tr hE
      have hk := kb_n hk g_k29
      refine v_gen (fun n hk => ?_) hk
      refine v_aload_n F dL_law_204 2 rfl rfl ?_
      refine v_cI0 (v_runV F k_L_64 rfl (c_X12_read r_q5 h) r_q5 rfl rfl (Nat.le_of_ble_eq_true rfl) ⟨Nat.le_of_ble_eq_true rfl, Nat.le_of_ble_eq_true rfl⟩ (kb_z hk) dL_law_205) ⟨rfl, rfl⟩ (fun r31 S30 h hE => ?_)
      have r_q1 := r_q1.tr hE
      have r_q5 := r_q5.tr hE
      have r_q9 := r_q9.tr hE
      refine v_icmp_eq (tgt := 750) F dL_law_208 (by decide) h (fun h => ?_) (fun h => ?_)
      · exact v_sub [0, 1, 2, 3, 4] rfl (h r_q1 r_q5 r_q9 _ hk)
      · refine v_iconst (v := 0) F dL_law_211 (by decide) ?_
        exact h.elim
    refine v_case h (fun e37 h => ?_) (fun e37 h => ?_)
    · refine v_tableIn (tgt := 213) F dL_law_39 (by rw [e37]; decide) (by rw [e37]; decide) (by rw [e37]; rfl) (by decide) ?_
      refine v_aload_n F dL_law_213 1 rfl rfl ?_
      refine v_cI0 (v_runV F k_L_65 rfl (c_X11_fault r_q1 h) r_q1 rfl rfl (Nat.le_of_ble_eq_true rfl) ⟨Nat.le_of_ble_eq_true rfl, Nat.le_of_ble_eq_true rfl⟩ (kb_z hk) dL_law_214) ⟨rfl, rfl⟩ (fun r34 S33 h hE => ?_)
      have r_q1 := r_q1.tr hE
      have r_q5 := r_q5.tr hE
      have r_q9 := r_q9.tr hE
      refine v_aload_n F dL_law_217 2 rfl rfl ?_
      refine v_cI0 (v_runV F k_L_68 rfl (c_X12_fault r_q5 h) r_q5 rfl rfl (Nat.le_of_ble_eq_true rfl) ⟨Nat.le_of_ble_eq_true rfl, Nat.le_of_ble_eq_true rfl⟩ (kb_z hk) dL_law_218) ⟨rfl, rfl⟩ (fun r36 S35 h hE => ?_)
      have r_q1 := r_q1.tr hE
      have r_q5 := r_q5.tr hE
      have r_q9 := r_q9.tr hE
      refine v_icmp_eq (tgt := 750) F dL_law_221 (by decide) h (fun h => ?_) (fun h => ?_)
      · exact v_sub [0, 1, 2, 3, 4] rfl (h r_q1 r_q5 r_q9 _ hk)
      · refine v_iconst (v := 0) F dL_law_224 (by decide) ?_
        exact h.elim
    refine v_case h (fun e45 h => ?_) (fun e45 h => ?_)
    · refine v_tableIn (tgt := 226) F dL_law_39 (by rw [e45]; decide) (by rw [e45]; decide) (by rw [e45]; rfl) (by decide) ?_
      refine v_aload_n F dL_law_226 1 rfl rfl ?_
      refine v_aload_n F dL_law_227 0 rfl rfl ?_
      refine v_iload F dL_law_228 4 rfl ?_
      refine v_iconst (v := 1) F dL_law_230 (by decide) ?_
      refine v_iadd F dL_law_231 ?_
      refine v_xld F hc h dL_law_232 (fun h => ?_)
      refine v_aload_n F dL_law_233 3 rfl rfl ?_
      obtain ⟨g40, h⟩ := h
      refine v_cI (v_runSW F k_L_69 (c_L_count hS hZ hl0 hNc r_q1 r_q9 h) rfl rfl (Nat.le_of_ble_eq_true rfl) ⟨Nat.le_of_ble_eq_true rfl, Nat.le_of_ble_eq_true rfl⟩ (kb_c (k1 := (1, 6)) hk g40) dL_law_234) (fun r39 S38 h hE => ?_)
      have hk := kb_n (k1 := (1, 6)) hk g40
      refine v_gen (fun n hk => ?_) hk
      have r_q1 := r_q1.tr hE
      have r_q5 := r_q5.tr hE
      have r_q9 := r_q9.tr hE
      refine v_istore (lv1 := [(5, .int r39), (0, .ref b), (1, .ref q1), (2, .ref q5), (3, .ref q9), (4, .int x4_12)]) F dL_law_237 (by rw [hN]; decide) rfl ?_
      refine v_aload_n F dL_law_239 3 rfl rfl ?_
      refine v_aload_n F dL_law_240 1 rfl rfl ?_
      refine v_iload F dL_law_241 5 rfl ?_
      refine v_iconst (v := 1) F dL_law_243 (by decide) ?_
      refine v_iadd F dL_law_244 ?_
      refine v_xld F hc h dL_law_245 (fun h => ?_)
      refine v_cI0 (v_runV F k_L_72 rfl (c_X12_count r_q5 h) r_q5 rfl rfl (Nat.le_of_ble_eq_true rfl) ⟨Nat.le_of_ble_eq_true rfl, Nat.le_of_ble_eq_true rfl⟩ (kb_z hk) dL_law_246) ⟨rfl, rfl⟩ (fun r42 S41 h hE => ?_)
      have r_q1 := r_q1.tr hE
      have r_q5 := r_q5.tr hE
      have r_q9 := r_q9.tr hE
      refine v_istore (lv1 := [(6, .int r42), (5, .int r39), (0, .ref b), (1, .ref q1), (2, .ref q5), (3, .ref q9), (4, .int x4_12)]) F dL_law_249 (by rw [hN]; decide) rfl ?_
      refine v_aload_n F dL_law_251 4 rfl rfl ?_
      refine v_cI0 (v_runV F k_L_57 rfl (c_X12_thrown r_q5 h) r_q5 rfl rfl (Nat.le_of_ble_eq_true rfl) ⟨Nat.le_of_ble_eq_true rfl, Nat.le_of_ble_eq_true rfl⟩ (kb_z hk) dL_law_252) ⟨rfl, rfl⟩ (fun r44 S43 h hE => ?_)
      have r_q1 := r_q1.tr hE
      have r_q5 := r_q5.tr hE
      have r_q9 := r_q9.tr hE
      refine v_iload F dL_law_255 1 rfl ?_
      refine v_icmp_eq (tgt := 262) F dL_law_257 (by decide) h (fun h => ?_) (fun h => ?_)
      · refine v_iload F dL_law_262 1 rfl ?_
        refine v_if_ne (tgt := 279) F dL_law_264 (by decide) h (fun h => ?_) (fun h => ?_)
        · refine v_goto (tgt := 750) F dL_law_279 (by decide) ?_
          exact v_sub [2, 3, 4, 5, 6] rfl (h r_q1 r_q5 r_q9 _ hk)
        · refine v_aload_n F dL_law_267 5 rfl rfl ?_
          refine v_iconst (v := 0) F dL_law_268 (by decide) ?_
          refine v_lald F r_q9 o_119 h dL_law_269 (fun h => ?_)
          refine v_iload F dL_law_270 0 rfl ?_
          refine v_i2l F dL_law_272 ?_
          refine v_lcmp_eq (tgt := 279) F dL_law_273 dL_law_274 (by decide) h (fun h => ?_) (fun h => ?_)
          · refine v_goto (tgt := 750) F dL_law_279 (by decide) ?_
            exact v_sub [2, 3, 4, 5, 6] rfl (h r_q1 r_q5 r_q9 _ hk)
          · refine v_iconst (v := 0) F dL_law_277 (by decide) ?_
            exact h.elim
      · refine v_iconst (v := 0) F dL_law_260 (by decide) ?_
        exact h.elim
    refine v_case h (fun e53 h => ?_) (fun e53 h => ?_)
    · refine v_tableIn (tgt := 282) F dL_law_39 (by rw [e53]; decide) (by rw [e53]; decide) (by rw [e53]; rfl) (by decide) ?_
      refine v_aload_n F dL_law_282 1 rfl rfl ?_
      refine v_aload_n F dL_law_283 0 rfl rfl ?_
      refine v_iload F dL_law_284 4 rfl ?_
      refine v_iconst (v := 1) F dL_law_286 (by decide) ?_
      refine v_iadd F dL_law_287 ?_
      refine v_xld F hc h dL_law_288 (fun h => ?_)
      refine v_aload_n F dL_law_289 0 rfl rfl ?_
      refine v_iload F dL_law_290 4 rfl ?_
      refine v_iconst (v := 2) F dL_law_292 (by decide) ?_
      refine v_iadd F dL_law_293 ?_
      refine v_xld F hc h dL_law_294 (fun h => ?_)
      refine v_aload_n F dL_law_295 3 rfl rfl ?_
      obtain ⟨g48, h⟩ := h
      refine v_cI (v_runSW F k_L_73 (c_L_event hS hZ hl0 hNc r_q1 r_q9 h) rfl rfl (Nat.le_of_ble_eq_true rfl) ⟨Nat.le_of_ble_eq_true rfl, Nat.le_of_ble_eq_true rfl⟩ (kb_c (k1 := (2, 12)) hk g48) dL_law_296) (fun r47 S46 h hE => ?_)
      have hk := kb_n (k1 := (2, 12)) hk g48
      refine v_gen (fun n hk => ?_) hk
      have r_q1 := r_q1.tr hE
      have r_q5 := r_q5.tr hE
      have r_q9 := r_q9.tr hE
      refine v_istore (lv1 := [(5, .int r47), (0, .ref b), (1, .ref q1), (2, .ref q5), (3, .ref q9), (4, .int x4_12)]) F dL_law_299 (by rw [hN]; decide) rfl ?_
      refine v_aload_n F dL_law_301 3 rfl rfl ?_
      refine v_aload_n F dL_law_302 1 rfl rfl ?_
      refine v_iload F dL_law_303 5 rfl ?_
      refine v_iconst (v := 1) F dL_law_305 (by decide) ?_
      refine v_iadd F dL_law_306 ?_
      refine v_xld F hc h dL_law_307 (fun h => ?_)
      refine v_aload_n F dL_law_308 1 rfl rfl ?_
      refine v_iload F dL_law_309 5 rfl ?_
      refine v_iconst (v := 2) F dL_law_311 (by decide) ?_
      refine v_iadd F dL_law_312 ?_
      refine v_xld F hc h dL_law_313 (fun h => ?_)
      refine v_cL0 (v_runV F k_L_76 rfl (c_X12_event_ r_q5 h) r_q5 rfl rfl (Nat.le_of_ble_eq_true rfl) ⟨Nat.le_of_ble_eq_true rfl, Nat.le_of_ble_eq_true rfl⟩ (kb_z hk) dL_law_314) ⟨rfl, rfl⟩ (fun r50 S49 h hE => ?_)
      have r_q1 := r_q1.tr hE
      have r_q5 := r_q5.tr hE
      have r_q9 := r_q9.tr hE
      refine v_lstore (lv1 := [(6, .long r50), (5, .int r47), (0, .ref b), (1, .ref q1), (2, .ref q5), (3, .ref q9), (4, .int x4_12)]) F dL_law_317 (by rw [hN]; decide) rfl ?_
      refine v_aload_n F dL_law_319 4 rfl rfl ?_
      refine v_cI0 (v_runV F k_L_57 rfl (c_X12_thrown r_q5 h) r_q5 rfl rfl (Nat.le_of_ble_eq_true rfl) ⟨Nat.le_of_ble_eq_true rfl, Nat.le_of_ble_eq_true rfl⟩ (kb_z hk) dL_law_320) ⟨rfl, rfl⟩ (fun r52 S51 h hE => ?_)
      have r_q1 := r_q1.tr hE
      have r_q5 := r_q5.tr hE
      have r_q9 := r_q9.tr hE
      refine v_iload F dL_law_323 1 rfl ?_
      refine v_icmp_eq (tgt := 330) F dL_law_325 (by decide) h (fun h => ?_) (fun h => ?_)
      · refine v_iload F dL_law_330 1 rfl ?_
        refine v_if_ne (tgt := 346) F dL_law_332 (by decide) h (fun h => ?_) (fun h => ?_)
        · refine v_goto (tgt := 750) F dL_law_346 (by decide) ?_
          exact v_sub [2, 3, 4, 5, 6] rfl (h r_q1 r_q5 r_q9 _ hk)
        · refine v_aload_n F dL_law_335 5 rfl rfl ?_
          refine v_iconst (v := 0) F dL_law_336 (by decide) ?_
          refine v_lald F r_q9 o_119 h dL_law_337 (fun h => ?_)
          refine v_lload F dL_law_338 0 rfl ?_
          refine v_lcmp_eq (tgt := 346) F dL_law_340 dL_law_341 (by decide) h (fun h => ?_) (fun h => ?_)
          · refine v_goto (tgt := 750) F dL_law_346 (by decide) ?_
            exact v_sub [2, 3, 4, 5, 6] rfl (h r_q1 r_q5 r_q9 _ hk)
          · refine v_iconst (v := 0) F dL_law_344 (by decide) ?_
            exact h.elim
      · refine v_iconst (v := 0) F dL_law_328 (by decide) ?_
        exact h.elim
    refine v_case h (fun e61 h => ?_) (fun e61 h => ?_)
    · refine v_tableIn (tgt := 349) F dL_law_39 (by rw [e61]; decide) (by rw [e61]; decide) (by rw [e61]; rfl) (by decide) ?_
      refine v_aload_n F dL_law_349 1 rfl rfl ?_
      refine v_aload_n F dL_law_350 0 rfl rfl ?_
      refine v_iload F dL_law_351 4 rfl ?_
      refine v_iconst (v := 1) F dL_law_353 (by decide) ?_
      refine v_iadd F dL_law_354 ?_
      refine v_xld F hc h dL_law_355 (fun h => ?_)
      refine v_aload_n F dL_law_356 0 rfl rfl ?_
      refine v_iload F dL_law_357 4 rfl ?_
      refine v_iconst (v := 2) F dL_law_359 (by decide) ?_
      refine v_iadd F dL_law_360 ?_
      refine v_xld F hc h dL_law_361 (fun h => ?_)
      refine v_aload_n F dL_law_362 0 rfl rfl ?_
      refine v_iload F dL_law_363 4 rfl ?_
      refine v_iconst (v := 3) F dL_law_365 (by decide) ?_
      refine v_iadd F dL_law_366 ?_
      refine v_xld F hc h dL_law_367 (fun h => ?_)
      refine v_aload_n F dL_law_368 3 rfl rfl ?_
      obtain ⟨g56, h⟩ := h
      refine v_cI (v_runSW F k_L_77 (c_L_pitch hS hZ hl0 hH hNc r_q1 r_q9 h) rfl rfl (Nat.le_of_ble_eq_true rfl) ⟨Nat.le_of_ble_eq_true rfl, Nat.le_of_ble_eq_true rfl⟩ (kb_c (k1 := (2, 12)) hk g56) dL_law_369) (fun r55 S54 h hE => ?_)
      have hk := kb_n (k1 := (2, 12)) hk g56
      refine v_gen (fun n hk => ?_) hk
      have r_q1 := r_q1.tr hE
      have r_q5 := r_q5.tr hE
      have r_q9 := r_q9.tr hE
      refine v_istore (lv1 := [(5, .int r55), (0, .ref b), (1, .ref q1), (2, .ref q5), (3, .ref q9), (4, .int x4_12)]) F dL_law_372 (by rw [hN]; decide) rfl ?_
      refine v_aload_n F dL_law_374 3 rfl rfl ?_
      refine v_aload_n F dL_law_375 1 rfl rfl ?_
      refine v_iload F dL_law_376 5 rfl ?_
      refine v_iconst (v := 1) F dL_law_378 (by decide) ?_
      refine v_iadd F dL_law_379 ?_
      refine v_xld F hc h dL_law_380 (fun h => ?_)
      refine v_aload_n F dL_law_381 1 rfl rfl ?_
      refine v_iload F dL_law_382 5 rfl ?_
      refine v_iconst (v := 2) F dL_law_384 (by decide) ?_
      refine v_iadd F dL_law_385 ?_
      refine v_xld F hc h dL_law_386 (fun h => ?_)
      refine v_aload_n F dL_law_387 1 rfl rfl ?_
      refine v_iload F dL_law_388 5 rfl ?_
      refine v_iconst (v := 3) F dL_law_390 (by decide) ?_
      refine v_iadd F dL_law_391 ?_
      refine v_xld F hc h dL_law_392 (fun h => ?_)
      refine v_cI0 (v_runV F k_L_80 rfl (c_X12_pitch r_q5 h) r_q5 rfl rfl (Nat.le_of_ble_eq_true rfl) ⟨Nat.le_of_ble_eq_true rfl, Nat.le_of_ble_eq_true rfl⟩ (kb_z hk) dL_law_393) ⟨rfl, rfl⟩ (fun r58 S57 h hE => ?_)
      have r_q1 := r_q1.tr hE
      have r_q5 := r_q5.tr hE
      have r_q9 := r_q9.tr hE
      refine v_istore (lv1 := [(6, .int r58), (5, .int r55), (0, .ref b), (1, .ref q1), (2, .ref q5), (3, .ref q9), (4, .int x4_12)]) F dL_law_396 (by rw [hN]; decide) rfl ?_
      refine v_aload_n F dL_law_398 4 rfl rfl ?_
      refine v_cI0 (v_runV F k_L_57 rfl (c_X12_thrown r_q5 h) r_q5 rfl rfl (Nat.le_of_ble_eq_true rfl) ⟨Nat.le_of_ble_eq_true rfl, Nat.le_of_ble_eq_true rfl⟩ (kb_z hk) dL_law_399) ⟨rfl, rfl⟩ (fun r60 S59 h hE => ?_)
      have r_q1 := r_q1.tr hE
      have r_q5 := r_q5.tr hE
      have r_q9 := r_q9.tr hE
      refine v_iload F dL_law_402 1 rfl ?_
      refine v_icmp_eq (tgt := 409) F dL_law_404 (by decide) h (fun h => ?_) (fun h => ?_)
      · refine v_iload F dL_law_409 1 rfl ?_
        refine v_if_ne (tgt := 426) F dL_law_411 (by decide) h (fun h => ?_) (fun h => ?_)
        · refine v_goto (tgt := 750) F dL_law_426 (by decide) ?_
          exact v_sub [2, 3, 4, 5, 6] rfl (h r_q1 r_q5 r_q9 _ hk)
        · refine v_aload_n F dL_law_414 5 rfl rfl ?_
          refine v_iconst (v := 0) F dL_law_415 (by decide) ?_
          refine v_lald F r_q9 o_119 h dL_law_416 (fun h => ?_)
          refine v_iload F dL_law_417 0 rfl ?_
          refine v_i2l F dL_law_419 ?_
          refine v_lcmp_eq (tgt := 426) F dL_law_420 dL_law_421 (by decide) h (fun h => ?_) (fun h => ?_)
          · refine v_goto (tgt := 750) F dL_law_426 (by decide) ?_
            exact v_sub [2, 3, 4, 5, 6] rfl (h r_q1 r_q5 r_q9 _ hk)
          · refine v_iconst (v := 0) F dL_law_424 (by decide) ?_
            exact h.elim
      · refine v_iconst (v := 0) F dL_law_407 (by decide) ?_
        exact h.elim
    refine v_case h (fun e69 h => ?_) (fun e69 h => ?_)
    · refine v_tableIn (tgt := 429) F dL_law_39 (by rw [e69]; decide) (by rw [e69]; decide) (by rw [e69]; rfl) (by decide) ?_
      refine v_aload_n F dL_law_429 1 rfl rfl ?_
      refine v_aload_n F dL_law_430 0 rfl rfl ?_
      refine v_iload F dL_law_431 4 rfl ?_
      refine v_iconst (v := 1) F dL_law_433 (by decide) ?_
      refine v_iadd F dL_law_434 ?_
      refine v_xld F hc h dL_law_435 (fun h => ?_)
      refine v_aload_n F dL_law_436 0 rfl rfl ?_
      refine v_iload F dL_law_437 4 rfl ?_
      refine v_iconst (v := 2) F dL_law_439 (by decide) ?_
      refine v_iadd F dL_law_440 ?_
      refine v_xld F hc h dL_law_441 (fun h => ?_)
      refine v_aload_n F dL_law_442 0 rfl rfl ?_
      refine v_iload F dL_law_443 4 rfl ?_
      refine v_iconst (v := 3) F dL_law_445 (by decide) ?_
      refine v_iadd F dL_law_446 ?_
      refine v_xld F hc h dL_law_447 (fun h => ?_)
      refine v_aload_n F dL_law_448 3 rfl rfl ?_
      obtain ⟨g64, h⟩ := h
      refine v_cI (v_runSW F k_L_81 (c_L_word hS hZ hl0 hNc r_q1 r_q9 h) rfl rfl (Nat.le_of_ble_eq_true rfl) ⟨Nat.le_of_ble_eq_true rfl, Nat.le_of_ble_eq_true rfl⟩ (kb_c (k1 := (2, 12)) hk g64) dL_law_449) (fun r63 S62 h hE => ?_)
      have hk := kb_n (k1 := (2, 12)) hk g64
      refine v_gen (fun n hk => ?_) hk
      have r_q1 := r_q1.tr hE
      have r_q5 := r_q5.tr hE
      have r_q9 := r_q9.tr hE
      refine v_istore (lv1 := [(5, .int r63), (0, .ref b), (1, .ref q1), (2, .ref q5), (3, .ref q9), (4, .int x4_12)]) F dL_law_452 (by rw [hN]; decide) rfl ?_
      refine v_aload_n F dL_law_454 3 rfl rfl ?_
      refine v_aload_n F dL_law_455 1 rfl rfl ?_
      refine v_iload F dL_law_456 5 rfl ?_
      refine v_iconst (v := 1) F dL_law_458 (by decide) ?_
      refine v_iadd F dL_law_459 ?_
      refine v_xld F hc h dL_law_460 (fun h => ?_)
      refine v_aload_n F dL_law_461 1 rfl rfl ?_
      refine v_iload F dL_law_462 5 rfl ?_
      refine v_iconst (v := 2) F dL_law_464 (by decide) ?_
      refine v_iadd F dL_law_465 ?_
      refine v_xld F hc h dL_law_466 (fun h => ?_)
      refine v_aload_n F dL_law_467 1 rfl rfl ?_
      refine v_iload F dL_law_468 5 rfl ?_
      refine v_iconst (v := 3) F dL_law_470 (by decide) ?_
      refine v_iadd F dL_law_471 ?_
      refine v_xld F hc h dL_law_472 (fun h => ?_)
      refine v_cI0 (v_runV F k_L_83 rfl (c_X12_word r_q5 h) r_q5 rfl rfl (Nat.le_of_ble_eq_true rfl) ⟨Nat.le_of_ble_eq_true rfl, Nat.le_of_ble_eq_true rfl⟩ (kb_z hk) dL_law_473) ⟨rfl, rfl⟩ (fun r66 S65 h hE => ?_)
      have r_q1 := r_q1.tr hE
      have r_q5 := r_q5.tr hE
      have r_q9 := r_q9.tr hE
      refine v_istore (lv1 := [(6, .int r66), (5, .int r63), (0, .ref b), (1, .ref q1), (2, .ref q5), (3, .ref q9), (4, .int x4_12)]) F dL_law_476 (by rw [hN]; decide) rfl ?_
      refine v_aload_n F dL_law_478 4 rfl rfl ?_
      refine v_cI0 (v_runV F k_L_57 rfl (c_X12_thrown r_q5 h) r_q5 rfl rfl (Nat.le_of_ble_eq_true rfl) ⟨Nat.le_of_ble_eq_true rfl, Nat.le_of_ble_eq_true rfl⟩ (kb_z hk) dL_law_479) ⟨rfl, rfl⟩ (fun r68 S67 h hE => ?_)
      have r_q1 := r_q1.tr hE
      have r_q5 := r_q5.tr hE
      have r_q9 := r_q9.tr hE
      refine v_iload F dL_law_482 1 rfl ?_
      refine v_icmp_eq (tgt := 489) F dL_law_484 (by decide) h (fun h => ?_) (fun h => ?_)
      · refine v_iload F dL_law_489 1 rfl ?_
        refine v_if_ne (tgt := 506) F dL_law_491 (by decide) h (fun h => ?_) (fun h => ?_)
        · refine v_goto (tgt := 750) F dL_law_506 (by decide) ?_
          exact v_sub [2, 3, 4, 5, 6] rfl (h r_q1 r_q5 r_q9 _ hk)
        · refine v_aload_n F dL_law_494 5 rfl rfl ?_
          refine v_iconst (v := 0) F dL_law_495 (by decide) ?_
          refine v_lald F r_q9 o_119 h dL_law_496 (fun h => ?_)
          refine v_iload F dL_law_497 0 rfl ?_
          refine v_i2l F dL_law_499 ?_
          refine v_lcmp_eq (tgt := 506) F dL_law_500 dL_law_501 (by decide) h (fun h => ?_) (fun h => ?_)
          · refine v_goto (tgt := 750) F dL_law_506 (by decide) ?_
            exact v_sub [2, 3, 4, 5, 6] rfl (h r_q1 r_q5 r_q9 _ hk)
          · refine v_iconst (v := 0) F dL_law_504 (by decide) ?_
            exact h.elim
      · refine v_iconst (v := 0) F dL_law_487 (by decide) ?_
        exact h.elim
    refine v_case h (fun e77 h => ?_) (fun e77 h => ?_)
    · refine v_tableIn (tgt := 509) F dL_law_39 (by rw [e77]; decide) (by rw [e77]; decide) (by rw [e77]; rfl) (by decide) ?_
      refine v_aload_n F dL_law_509 1 rfl rfl ?_
      refine v_aload_n F dL_law_510 0 rfl rfl ?_
      refine v_iload F dL_law_511 4 rfl ?_
      refine v_iconst (v := 1) F dL_law_513 (by decide) ?_
      refine v_iadd F dL_law_514 ?_
      refine v_xld F hc h dL_law_515 (fun h => ?_)
      refine v_aload_n F dL_law_516 3 rfl rfl ?_
      obtain ⟨g72, h⟩ := h
      refine v_cI (v_runSW F k_L_84 (c_L_walk hS hZ hl0 hNc r_q1 r_q9 h) rfl rfl (Nat.le_of_ble_eq_true rfl) ⟨Nat.le_of_ble_eq_true rfl, Nat.le_of_ble_eq_true rfl⟩ (kb_c (k1 := (1, 6)) hk g72) dL_law_517) (fun r71 S70 h hE => ?_)
      have hk := kb_n (k1 := (1, 6)) hk g72
      refine v_gen (fun n hk => ?_) hk
      have r_q1 := r_q1.tr hE
      have r_q5 := r_q5.tr hE
      have r_q9 := r_q9.tr hE
      refine v_istore (lv1 := [(5, .int r71), (0, .ref b), (1, .ref q1), (2, .ref q5), (3, .ref q9), (4, .int x4_12)]) F dL_law_520 (by rw [hN]; decide) rfl ?_
      refine v_aload_n F dL_law_522 3 rfl rfl ?_
      refine v_aload_n F dL_law_523 1 rfl rfl ?_
      refine v_iload F dL_law_524 5 rfl ?_
      refine v_iconst (v := 1) F dL_law_526 (by decide) ?_
      refine v_iadd F dL_law_527 ?_
      refine v_xld F hc h dL_law_528 (fun h => ?_)
      refine v_cI0 (v_runV F k_L_86 rfl (c_X12_walk r_q5 h) r_q5 rfl rfl (Nat.le_of_ble_eq_true rfl) ⟨Nat.le_of_ble_eq_true rfl, Nat.le_of_ble_eq_true rfl⟩ (kb_z hk) dL_law_529) ⟨rfl, rfl⟩ (fun r74 S73 h hE => ?_)
      have r_q1 := r_q1.tr hE
      have r_q5 := r_q5.tr hE
      have r_q9 := r_q9.tr hE
      refine v_istore (lv1 := [(6, .int r74), (5, .int r71), (0, .ref b), (1, .ref q1), (2, .ref q5), (3, .ref q9), (4, .int x4_12)]) F dL_law_532 (by rw [hN]; decide) rfl ?_
      refine v_aload_n F dL_law_534 4 rfl rfl ?_
      refine v_cI0 (v_runV F k_L_57 rfl (c_X12_thrown r_q5 h) r_q5 rfl rfl (Nat.le_of_ble_eq_true rfl) ⟨Nat.le_of_ble_eq_true rfl, Nat.le_of_ble_eq_true rfl⟩ (kb_z hk) dL_law_535) ⟨rfl, rfl⟩ (fun r76 S75 h hE => ?_)
      have r_q1 := r_q1.tr hE
      have r_q5 := r_q5.tr hE
      have r_q9 := r_q9.tr hE
      refine v_iload F dL_law_538 1 rfl ?_
      refine v_icmp_eq (tgt := 545) F dL_law_540 (by decide) h (fun h => ?_) (fun h => ?_)
      · refine v_iload F dL_law_545 1 rfl ?_
        refine v_if_ne (tgt := 562) F dL_law_547 (by decide) h (fun h => ?_) (fun h => ?_)
        · refine v_goto (tgt := 750) F dL_law_562 (by decide) ?_
          exact v_sub [2, 3, 4, 5, 6] rfl (h r_q1 r_q5 r_q9 _ hk)
        · refine v_aload_n F dL_law_550 5 rfl rfl ?_
          refine v_iconst (v := 0) F dL_law_551 (by decide) ?_
          refine v_lald F r_q9 o_119 h dL_law_552 (fun h => ?_)
          refine v_iload F dL_law_553 0 rfl ?_
          refine v_i2l F dL_law_555 ?_
          refine v_lcmp_eq (tgt := 562) F dL_law_556 dL_law_557 (by decide) h (fun h => ?_) (fun h => ?_)
          · refine v_goto (tgt := 750) F dL_law_562 (by decide) ?_
            exact v_sub [2, 3, 4, 5, 6] rfl (h r_q1 r_q5 r_q9 _ hk)
          · refine v_iconst (v := 0) F dL_law_560 (by decide) ?_
            exact h.elim
      · refine v_iconst (v := 0) F dL_law_543 (by decide) ?_
        exact h.elim
    refine v_case h (fun e85 h => ?_) (fun e85 h => ?_)
    · refine v_tableIn (tgt := 565) F dL_law_39 (by rw [e85]; decide) (by rw [e85]; decide) (by rw [e85]; rfl) (by decide) ?_
      refine v_aload_n F dL_law_565 1 rfl rfl ?_
      refine v_aload_n F dL_law_566 0 rfl rfl ?_
      refine v_iload F dL_law_567 4 rfl ?_
      refine v_iconst (v := 1) F dL_law_569 (by decide) ?_
      refine v_iadd F dL_law_570 ?_
      refine v_xld F hc h dL_law_571 (fun h => ?_)
      refine v_aload_n F dL_law_572 0 rfl rfl ?_
      refine v_iload F dL_law_573 4 rfl ?_
      refine v_iconst (v := 2) F dL_law_575 (by decide) ?_
      refine v_iadd F dL_law_576 ?_
      refine v_xld F hc h dL_law_577 (fun h => ?_)
      refine v_aload_n F dL_law_578 3 rfl rfl ?_
      obtain ⟨g80, h⟩ := h
      refine v_cI (v_runSW F k_L_87 (c_L_bar hS hZ hl0 hNc r_q1 r_q9 h) rfl rfl (Nat.le_of_ble_eq_true rfl) ⟨Nat.le_of_ble_eq_true rfl, Nat.le_of_ble_eq_true rfl⟩ (kb_c (k1 := (1, 6)) hk g80) dL_law_579) (fun r79 S78 h hE => ?_)
      have hk := kb_n (k1 := (1, 6)) hk g80
      refine v_gen (fun n hk => ?_) hk
      have r_q1 := r_q1.tr hE
      have r_q5 := r_q5.tr hE
      have r_q9 := r_q9.tr hE
      refine v_istore (lv1 := [(5, .int r79), (0, .ref b), (1, .ref q1), (2, .ref q5), (3, .ref q9), (4, .int x4_12)]) F dL_law_582 (by rw [hN]; decide) rfl ?_
      refine v_aload_n F dL_law_584 3 rfl rfl ?_
      refine v_aload_n F dL_law_585 1 rfl rfl ?_
      refine v_iload F dL_law_586 5 rfl ?_
      refine v_iconst (v := 1) F dL_law_588 (by decide) ?_
      refine v_iadd F dL_law_589 ?_
      refine v_xld F hc h dL_law_590 (fun h => ?_)
      refine v_aload_n F dL_law_591 1 rfl rfl ?_
      refine v_iload F dL_law_592 5 rfl ?_
      refine v_iconst (v := 2) F dL_law_594 (by decide) ?_
      refine v_iadd F dL_law_595 ?_
      refine v_xld F hc h dL_law_596 (fun h => ?_)
      refine v_cL0 (v_runV F k_L_89 rfl (c_X12_bar r_q5 h) r_q5 rfl rfl (Nat.le_of_ble_eq_true rfl) ⟨Nat.le_of_ble_eq_true rfl, Nat.le_of_ble_eq_true rfl⟩ (kb_z hk) dL_law_597) ⟨rfl, rfl⟩ (fun r82 S81 h hE => ?_)
      have r_q1 := r_q1.tr hE
      have r_q5 := r_q5.tr hE
      have r_q9 := r_q9.tr hE
      refine v_lstore (lv1 := [(6, .long r82), (5, .int r79), (0, .ref b), (1, .ref q1), (2, .ref q5), (3, .ref q9), (4, .int x4_12)]) F dL_law_600 (by rw [hN]; decide) rfl ?_
      refine v_aload_n F dL_law_602 4 rfl rfl ?_
      refine v_cI0 (v_runV F k_L_57 rfl (c_X12_thrown r_q5 h) r_q5 rfl rfl (Nat.le_of_ble_eq_true rfl) ⟨Nat.le_of_ble_eq_true rfl, Nat.le_of_ble_eq_true rfl⟩ (kb_z hk) dL_law_603) ⟨rfl, rfl⟩ (fun r84 S83 h hE => ?_)
      have r_q1 := r_q1.tr hE
      have r_q5 := r_q5.tr hE
      have r_q9 := r_q9.tr hE
      refine v_iload F dL_law_606 1 rfl ?_
      refine v_icmp_eq (tgt := 613) F dL_law_608 (by decide) h (fun h => ?_) (fun h => ?_)
      · refine v_iload F dL_law_613 1 rfl ?_
        refine v_if_ne (tgt := 629) F dL_law_615 (by decide) h (fun h => ?_) (fun h => ?_)
        · refine v_goto (tgt := 750) F dL_law_629 (by decide) ?_
          exact v_sub [2, 3, 4, 5, 6] rfl (h r_q1 r_q5 r_q9 _ hk)
        · refine v_aload_n F dL_law_618 5 rfl rfl ?_
          refine v_iconst (v := 0) F dL_law_619 (by decide) ?_
          refine v_lald F r_q9 o_119 h dL_law_620 (fun h => ?_)
          refine v_lload F dL_law_621 0 rfl ?_
          refine v_lcmp_eq (tgt := 629) F dL_law_623 dL_law_624 (by decide) h (fun h => ?_) (fun h => ?_)
          · refine v_goto (tgt := 750) F dL_law_629 (by decide) ?_
            exact v_sub [2, 3, 4, 5, 6] rfl (h r_q1 r_q5 r_q9 _ hk)
          · refine v_iconst (v := 0) F dL_law_627 (by decide) ?_
            exact h.elim
      · refine v_iconst (v := 0) F dL_law_611 (by decide) ?_
        exact h.elim
    refine v_case h (fun e93 h => ?_) (fun e93 h => ?_)
    · refine v_tableIn (tgt := 632) F dL_law_39 (by rw [e93]; decide) (by rw [e93]; decide) (by rw [e93]; rfl) (by decide) ?_
      refine v_aload_n F dL_law_632 1 rfl rfl ?_
      refine v_aload_n F dL_law_633 0 rfl rfl ?_
      refine v_iload F dL_law_634 4 rfl ?_
      refine v_iconst (v := 1) F dL_law_636 (by decide) ?_
      refine v_iadd F dL_law_637 ?_
      refine v_xld F hc h dL_law_638 (fun h => ?_)
      refine v_aload_n F dL_law_639 0 rfl rfl ?_
      refine v_iload F dL_law_640 4 rfl ?_
      refine v_iconst (v := 2) F dL_law_642 (by decide) ?_
      refine v_iadd F dL_law_643 ?_
      refine v_xld F hc h dL_law_644 (fun h => ?_)
      refine v_aload_n F dL_law_645 0 rfl rfl ?_
      refine v_iload F dL_law_646 4 rfl ?_
      refine v_iconst (v := 3) F dL_law_648 (by decide) ?_
      refine v_iadd F dL_law_649 ?_
      refine v_xld F hc h dL_law_650 (fun h => ?_)
      refine v_aload_n F dL_law_651 3 rfl rfl ?_
      obtain ⟨g88, h⟩ := h
      refine v_cI (v_runSW F k_L_90 (c_L_at hS hZ hl0 hNc r_q1 r_q9 h) rfl rfl (Nat.le_of_ble_eq_true rfl) ⟨Nat.le_of_ble_eq_true rfl, Nat.le_of_ble_eq_true rfl⟩ (kb_c (k1 := (1, 6)) hk g88) dL_law_652) (fun r87 S86 h hE => ?_)
      have hk := kb_n (k1 := (1, 6)) hk g88
      refine v_gen (fun n hk => ?_) hk
      have r_q1 := r_q1.tr hE
      have r_q5 := r_q5.tr hE
      have r_q9 := r_q9.tr hE
      refine v_istore (lv1 := [(5, .int r87), (0, .ref b), (1, .ref q1), (2, .ref q5), (3, .ref q9), (4, .int x4_12)]) F dL_law_655 (by rw [hN]; decide) rfl ?_
      refine v_aload_n F dL_law_657 3 rfl rfl ?_
      refine v_aload_n F dL_law_658 1 rfl rfl ?_
      refine v_iload F dL_law_659 5 rfl ?_
      refine v_iconst (v := 1) F dL_law_661 (by decide) ?_
      refine v_iadd F dL_law_662 ?_
      refine v_xld F hc h dL_law_663 (fun h => ?_)
      refine v_aload_n F dL_law_664 1 rfl rfl ?_
      refine v_iload F dL_law_665 5 rfl ?_
      refine v_iconst (v := 2) F dL_law_667 (by decide) ?_
      refine v_iadd F dL_law_668 ?_
      refine v_xld F hc h dL_law_669 (fun h => ?_)
      refine v_aload_n F dL_law_670 1 rfl rfl ?_
      refine v_iload F dL_law_671 5 rfl ?_
      refine v_iconst (v := 3) F dL_law_673 (by decide) ?_
      refine v_iadd F dL_law_674 ?_
      refine v_xld F hc h dL_law_675 (fun h => ?_)
      refine v_cI0 (v_runV F k_L_92 rfl (c_X12_at r_q5 h) r_q5 rfl rfl (Nat.le_of_ble_eq_true rfl) ⟨Nat.le_of_ble_eq_true rfl, Nat.le_of_ble_eq_true rfl⟩ (kb_z hk) dL_law_676) ⟨rfl, rfl⟩ (fun r90 S89 h hE => ?_)
      have r_q1 := r_q1.tr hE
      have r_q5 := r_q5.tr hE
      have r_q9 := r_q9.tr hE
      refine v_istore (lv1 := [(6, .int r90), (5, .int r87), (0, .ref b), (1, .ref q1), (2, .ref q5), (3, .ref q9), (4, .int x4_12)]) F dL_law_679 (by rw [hN]; decide) rfl ?_
      refine v_aload_n F dL_law_681 4 rfl rfl ?_
      refine v_cI0 (v_runV F k_L_57 rfl (c_X12_thrown r_q5 h) r_q5 rfl rfl (Nat.le_of_ble_eq_true rfl) ⟨Nat.le_of_ble_eq_true rfl, Nat.le_of_ble_eq_true rfl⟩ (kb_z hk) dL_law_682) ⟨rfl, rfl⟩ (fun r92 S91 h hE => ?_)
      have r_q1 := r_q1.tr hE
      have r_q5 := r_q5.tr hE
      have r_q9 := r_q9.tr hE
      refine v_iload F dL_law_685 1 rfl ?_
      refine v_icmp_eq (tgt := 692) F dL_law_687 (by decide) h (fun h => ?_) (fun h => ?_)
      · refine v_iload F dL_law_692 1 rfl ?_
        refine v_if_ne (tgt := 709) F dL_law_694 (by decide) h (fun h => ?_) (fun h => ?_)
        · refine v_goto (tgt := 750) F dL_law_709 (by decide) ?_
          exact v_sub [2, 3, 4, 5, 6] rfl (h r_q1 r_q5 r_q9 _ hk)
        · refine v_aload_n F dL_law_697 5 rfl rfl ?_
          refine v_iconst (v := 0) F dL_law_698 (by decide) ?_
          refine v_lald F r_q9 o_119 h dL_law_699 (fun h => ?_)
          refine v_iload F dL_law_700 0 rfl ?_
          refine v_i2l F dL_law_702 ?_
          refine v_lcmp_eq (tgt := 709) F dL_law_703 dL_law_704 (by decide) h (fun h => ?_) (fun h => ?_)
          · refine v_goto (tgt := 750) F dL_law_709 (by decide) ?_
            exact v_sub [2, 3, 4, 5, 6] rfl (h r_q1 r_q5 r_q9 _ hk)
          · refine v_iconst (v := 0) F dL_law_707 (by decide) ?_
            exact h.elim
      · refine v_iconst (v := 0) F dL_law_690 (by decide) ?_
        exact h.elim
    refine v_case h (fun e99 h => ?_) (fun e99 h => ?_)
    · refine v_tableIn (tgt := 712) F dL_law_39 (by rw [e99]; decide) (by rw [e99]; decide) (by rw [e99]; rfl) (by decide) ?_
      refine v_aload_n F dL_law_712 1 rfl rfl ?_
      obtain ⟨k96, g_k96, h⟩ := h
      refine v_cI (v_runV F k_L_93 rfl (c_X11_write hS r_q1 h) r_q1 rfl rfl (Nat.le_of_ble_eq_true rfl) ⟨Nat.le_of_ble_eq_true rfl, Nat.le_of_ble_eq_true rfl⟩ (kb_c hk g_k96) dL_law_713) (fun r95 S94 h hE => ?_)
      have r_q1 := r_q1.tr hE
      have r_q5 := r_q5.tr hE
      have r_q9 := r_q9.tr hE
      have hk := kb_n hk g_k96
      refine v_gen (fun n hk => ?_) hk
      refine v_aload_n F dL_law_716 2 rfl rfl ?_
      refine v_cI0 (v_runV F k_L_96 rfl (c_X12_write r_q5 h) r_q5 rfl rfl (Nat.le_of_ble_eq_true rfl) ⟨Nat.le_of_ble_eq_true rfl, Nat.le_of_ble_eq_true rfl⟩ (kb_z hk) dL_law_717) ⟨rfl, rfl⟩ (fun r98 S97 h hE => ?_)
      have r_q1 := r_q1.tr hE
      have r_q5 := r_q5.tr hE
      have r_q9 := r_q9.tr hE
      refine v_icmp_eq (tgt := 750) F dL_law_720 (by decide) h (fun h => ?_) (fun h => ?_)
      · exact v_sub [0, 1, 2, 3, 4] rfl (h r_q1 r_q5 r_q9 _ hk)
      · refine v_iconst (v := 0) F dL_law_723 (by decide) ?_
        exact h.elim
    refine v_case h (fun e104 h => ?_) (fun e104 h => ?_)
    · refine v_tableIn (tgt := 725) F dL_law_39 (by rw [e104]; decide) (by rw [e104]; decide) (by rw [e104]; rfl) (by decide) ?_
      refine v_aload_n F dL_law_725 1 rfl rfl ?_
      refine v_aload_n F dL_law_726 0 rfl rfl ?_
      refine v_iload F dL_law_727 4 rfl ?_
      refine v_iconst (v := 1) F dL_law_729 (by decide) ?_
      refine v_iadd F dL_law_730 ?_
      refine v_xld F hc h dL_law_731 (fun h => ?_)
      refine v_cI0 (v_runV F k_L_97 rfl (c_X11_printed r_q1 h) r_q1 rfl rfl (Nat.le_of_ble_eq_true rfl) ⟨Nat.le_of_ble_eq_true rfl, Nat.le_of_ble_eq_true rfl⟩ (kb_z hk) dL_law_732) ⟨rfl, rfl⟩ (fun r101 S100 h hE => ?_)
      have r_q1 := r_q1.tr hE
      have r_q5 := r_q5.tr hE
      have r_q9 := r_q9.tr hE
      refine v_aload_n F dL_law_735 2 rfl rfl ?_
      refine v_aload_n F dL_law_736 0 rfl rfl ?_
      refine v_iload F dL_law_737 4 rfl ?_
      refine v_iconst (v := 1) F dL_law_739 (by decide) ?_
      refine v_iadd F dL_law_740 ?_
      refine v_xld F hc h dL_law_741 (fun h => ?_)
      refine v_cI0 (v_runV F k_L_100 rfl (c_X12_printed r_q5 h) r_q5 rfl rfl (Nat.le_of_ble_eq_true rfl) ⟨Nat.le_of_ble_eq_true rfl, Nat.le_of_ble_eq_true rfl⟩ (kb_z hk) dL_law_742) ⟨rfl, rfl⟩ (fun r103 S102 h hE => ?_)
      have r_q1 := r_q1.tr hE
      have r_q5 := r_q5.tr hE
      have r_q9 := r_q9.tr hE
      refine v_icmp_eq (tgt := 750) F dL_law_745 (by decide) h (fun h => ?_) (fun h => ?_)
      · exact v_sub [0, 1, 2, 3, 4] rfl (h r_q1 r_q5 r_q9 _ hk)
      · refine v_iconst (v := 0) F dL_law_748 (by decide) ?_
        exact h.elim
    refine v_tableOut (tgt := 750) F dL_law_39 (by have q0 := lv_neT (a := 0) e26 rfl; have q1 := lv_neT (a := 1) e32 rfl; have q2 := lv_neT (a := 2) e37 rfl; have q3 := lv_neT (a := 3) e45 rfl; have q4 := lv_neT (a := 4) e53 rfl; have q5 := lv_neT (a := 5) e61 rfl; have q6 := lv_neT (a := 6) e69 rfl; have q7 := lv_neT (a := 7) e77 rfl; have q8 := lv_neT (a := 8) e85 rfl; have q9 := lv_neT (a := 9) e93 rfl; have q10 := lv_neT (a := 10) e99 rfl; have q11 := lv_neT (a := 11) e104 rfl; omega) (by decide) ?_
    exact v_sub [0, 1, 2, 3, 4] rfl (h r_q1 r_q5 r_q9 _ hk)
