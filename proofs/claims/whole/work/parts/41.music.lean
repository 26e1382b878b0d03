theorem dX7_music_0 : decode cX7_music 0 = .ok (.iconst 0, 1) := by decide +kernel
theorem dX7_music_1 : decode cX7_music 1 = .ok (.istore_n 1, 1) := by decide +kernel
theorem dX7_music_2 : decode cX7_music 2 = .ok (.iload_n 1, 1) := by decide +kernel
theorem dX7_music_3 : decode cX7_music 3 = .ok (.sipush 1500, 3) := by decide +kernel
theorem dX7_music_6 : decode cX7_music 6 = .ok (.if_icmp .gt 261, 3) := by decide +kernel
theorem dX7_music_9 : decode cX7_music 9 = .ok (.aload_n 0, 1) := by decide +kernel
theorem dX7_music_10 : decode cX7_music 10 = .ok (.invokevirtual 67, 3) := by decide +kernel
theorem dX7_music_13 : decode cX7_music 13 = .ok (.aload_n 0, 1) := by decide +kernel
theorem dX7_music_14 : decode cX7_music 14 = .ok (.invokevirtual 41, 3) := by decide +kernel
theorem dX7_music_17 : decode cX7_music 17 = .ok (.istore_n 2, 1) := by decide +kernel
theorem dX7_music_18 : decode cX7_music 18 = .ok (.iload_n 2, 1) := by decide +kernel
theorem dX7_music_19 : decode cX7_music 19 = .ok (.iconst (-1), 1) := by decide +kernel
theorem dX7_music_20 : decode cX7_music 20 = .ok (.if_icmp .eq 13, 3) := by decide +kernel
theorem dX7_music_23 : decode cX7_music 23 = .ok (.ldc 73, 2) := by decide +kernel
theorem dX7_music_25 : decode cX7_music 25 = .ok (.iload_n 2, 1) := by decide +kernel
theorem dX7_music_26 : decode cX7_music 26 = .ok (.i2c, 1) := by decide +kernel
theorem dX7_music_27 : decode cX7_music 27 = .ok (.invokevirtual 75, 3) := by decide +kernel
theorem dX7_music_30 : decode cX7_music 30 = .ok (.ifCond .ge 5, 3) := by decide +kernel
theorem dX7_music_33 : decode cX7_music 33 = .ok (.iconst 1, 1) := by decide +kernel
theorem dX7_music_34 : decode cX7_music 34 = .ok (.ireturn, 1) := by decide +kernel
theorem dX7_music_35 : decode cX7_music 35 = .ok (.aload_n 0, 1) := by decide +kernel
theorem dX7_music_36 : decode cX7_music 36 = .ok (.getfield 9, 3) := by decide +kernel
theorem dX7_music_39 : decode cX7_music 39 = .ok (.aload_n 0, 1) := by decide +kernel
theorem dX7_music_40 : decode cX7_music 40 = .ok (.getfield 23, 3) := by decide +kernel
theorem dX7_music_43 : decode cX7_music 43 = .ok (.invokevirtual 81, 3) := by decide +kernel
theorem dX7_music_46 : decode cX7_music 46 = .ok (.istore_n 3, 1) := by decide +kernel
theorem dX7_music_47 : decode cX7_music 47 = .ok (.iload_n 2, 1) := by decide +kernel
theorem dX7_music_48 : decode cX7_music 48 = .ok (.lookupswitch 191 #[(36, 111), (61, 101), (76, 141), (77, 131), (82, 150), (84, 160), (87, 121), (88, 170), (91, 92), (124, 180)], 92) := by decide +kernel
theorem dX7_music_140 : decode cX7_music 140 = .ok (.aload_n 0, 1) := by decide +kernel
theorem dX7_music_141 : decode cX7_music 141 = .ok (.invokevirtual 83, 3) := by decide +kernel
theorem dX7_music_144 : decode cX7_music 144 = .ok (.istore 4, 2) := by decide +kernel
theorem dX7_music_146 : decode cX7_music 146 = .ok (.goto 100, 3) := by decide +kernel
theorem dX7_music_149 : decode cX7_music 149 = .ok (.aload_n 0, 1) := by decide +kernel
theorem dX7_music_150 : decode cX7_music 150 = .ok (.iload_n 3, 1) := by decide +kernel
theorem dX7_music_151 : decode cX7_music 151 = .ok (.invokevirtual 86, 3) := by decide +kernel
theorem dX7_music_154 : decode cX7_music 154 = .ok (.istore 4, 2) := by decide +kernel
theorem dX7_music_156 : decode cX7_music 156 = .ok (.goto 90, 3) := by decide +kernel
theorem dX7_music_159 : decode cX7_music 159 = .ok (.aload_n 0, 1) := by decide +kernel
theorem dX7_music_160 : decode cX7_music 160 = .ok (.iload_n 3, 1) := by decide +kernel
theorem dX7_music_161 : decode cX7_music 161 = .ok (.invokevirtual 89, 3) := by decide +kernel
theorem dX7_music_164 : decode cX7_music 164 = .ok (.istore 4, 2) := by decide +kernel
theorem dX7_music_166 : decode cX7_music 166 = .ok (.goto 80, 3) := by decide +kernel
theorem dX7_music_169 : decode cX7_music 169 = .ok (.aload_n 0, 1) := by decide +kernel
theorem dX7_music_170 : decode cX7_music 170 = .ok (.iload_n 3, 1) := by decide +kernel
theorem dX7_music_171 : decode cX7_music 171 = .ok (.invokevirtual 92, 3) := by decide +kernel
theorem dX7_music_174 : decode cX7_music 174 = .ok (.istore 4, 2) := by decide +kernel
theorem dX7_music_176 : decode cX7_music 176 = .ok (.goto 70, 3) := by decide +kernel
theorem dX7_music_179 : decode cX7_music 179 = .ok (.aload_n 0, 1) := by decide +kernel
theorem dX7_music_180 : decode cX7_music 180 = .ok (.iload_n 3, 1) := by decide +kernel
theorem dX7_music_181 : decode cX7_music 181 = .ok (.invokevirtual 95, 3) := by decide +kernel
theorem dX7_music_184 : decode cX7_music 184 = .ok (.istore 4, 2) := by decide +kernel
theorem dX7_music_186 : decode cX7_music 186 = .ok (.goto 60, 3) := by decide +kernel
theorem dX7_music_189 : decode cX7_music 189 = .ok (.aload_n 0, 1) := by decide +kernel
theorem dX7_music_190 : decode cX7_music 190 = .ok (.invokevirtual 98, 3) := by decide +kernel
theorem dX7_music_193 : decode cX7_music 193 = .ok (.istore 4, 2) := by decide +kernel
theorem dX7_music_195 : decode cX7_music 195 = .ok (.goto 51, 3) := by decide +kernel
theorem dX7_music_198 : decode cX7_music 198 = .ok (.aload_n 0, 1) := by decide +kernel
theorem dX7_music_199 : decode cX7_music 199 = .ok (.iload_n 3, 1) := by decide +kernel
theorem dX7_music_200 : decode cX7_music 200 = .ok (.invokevirtual 101, 3) := by decide +kernel
theorem dX7_music_203 : decode cX7_music 203 = .ok (.istore 4, 2) := by decide +kernel
theorem dX7_music_205 : decode cX7_music 205 = .ok (.goto 41, 3) := by decide +kernel
theorem dX7_music_208 : decode cX7_music 208 = .ok (.aload_n 0, 1) := by decide +kernel
theorem dX7_music_209 : decode cX7_music 209 = .ok (.iload_n 3, 1) := by decide +kernel
theorem dX7_music_210 : decode cX7_music 210 = .ok (.invokevirtual 104, 3) := by decide +kernel
theorem dX7_music_213 : decode cX7_music 213 = .ok (.istore 4, 2) := by decide +kernel
theorem dX7_music_215 : decode cX7_music 215 = .ok (.goto 31, 3) := by decide +kernel
theorem dX7_music_218 : decode cX7_music 218 = .ok (.aload_n 0, 1) := by decide +kernel
theorem dX7_music_219 : decode cX7_music 219 = .ok (.iload_n 3, 1) := by decide +kernel
theorem dX7_music_220 : decode cX7_music 220 = .ok (.invokevirtual 107, 3) := by decide +kernel
theorem dX7_music_223 : decode cX7_music 223 = .ok (.istore 4, 2) := by decide +kernel
theorem dX7_music_225 : decode cX7_music 225 = .ok (.goto 21, 3) := by decide +kernel
theorem dX7_music_228 : decode cX7_music 228 = .ok (.aload_n 0, 1) := by decide +kernel
theorem dX7_music_229 : decode cX7_music 229 = .ok (.bipush 124, 2) := by decide +kernel
theorem dX7_music_231 : decode cX7_music 231 = .ok (.invokevirtual 63, 3) := by decide +kernel
theorem dX7_music_234 : decode cX7_music 234 = .ok (.istore 4, 2) := by decide +kernel
theorem dX7_music_236 : decode cX7_music 236 = .ok (.goto 10, 3) := by decide +kernel
theorem dX7_music_239 : decode cX7_music 239 = .ok (.aload_n 0, 1) := by decide +kernel
theorem dX7_music_240 : decode cX7_music 240 = .ok (.iload_n 3, 1) := by decide +kernel
theorem dX7_music_241 : decode cX7_music 241 = .ok (.invokevirtual 110, 3) := by decide +kernel
theorem dX7_music_244 : decode cX7_music 244 = .ok (.istore 4, 2) := by decide +kernel
theorem dX7_music_246 : decode cX7_music 246 = .ok (.iload 4, 2) := by decide +kernel
theorem dX7_music_248 : decode cX7_music 248 = .ok (.ifCond .ne 5, 3) := by decide +kernel
theorem dX7_music_251 : decode cX7_music 251 = .ok (.iconst 0, 1) := by decide +kernel
theorem dX7_music_252 : decode cX7_music 252 = .ok (.ireturn, 1) := by decide +kernel
theorem dX7_music_253 : decode cX7_music 253 = .ok (.aload_n 0, 1) := by decide +kernel
theorem dX7_music_254 : decode cX7_music 254 = .ok (.getfield 9, 3) := by decide +kernel
theorem dX7_music_257 : decode cX7_music 257 = .ok (.iload_n 3, 1) := by decide +kernel
theorem dX7_music_258 : decode cX7_music 258 = .ok (.invokevirtual 113, 3) := by decide +kernel
theorem dX7_music_261 : decode cX7_music 261 = .ok (.iinc 1 1, 3) := by decide +kernel
theorem dX7_music_264 : decode cX7_music 264 = .ok (.goto (-262), 3) := by decide +kernel
theorem dX7_music_267 : decode cX7_music 267 = .ok (.iconst 1, 1) := by decide +kernel
theorem dX7_music_268 : decode cX7_music 268 = .ok (.ireturn, 1) := by decide +kernel
def wp_X7_music : Nat → Nat → PS → (Int32 → PS → Prop) → Prop
  | 0, _, _, _ => False
  | d + 1, a, S, Q =>
  (∀ P2_1 : Int32 → PS → Prop, (∀ (x1_2 : Int32) (S3 : PS),
 (if 1500 < x1_2 then
 Q 1 S3
 else
 wp_X7_skipBlanks a S3 (fun (S4 : PS) => 
 wp_X7_next a S4 (fun (r6 : Int32) (S5 : PS) => 
 (if r6 = (-1) then
 Q 1 S5
 else
 wp_J0_indexOf_0f7a4 0 ((r6.toUInt32 % 65536).toInt32) S5 (fun (r8 : Int32) (S7 : PS) => 
 (if 0 ≤ r8 then
 (∃ b9, fR S7 58 a = some b9 ∧ wp_X6_open b9 (fI S7 60 a) S7 (fun (r11 : Int32) (S10 : PS) => 
 (∀ K246_14 : Int32 → PS → Prop, (∀ (x4_12 : Int32) (S13 : PS),
 (if x4_12 = 0 then
 Q 0 S13
 else
 (∃ b15, fR S13 58 a = some b15 ∧ wp_X6_close b15 r11 S13 (fun (S16 : PS) => 
 (∀ v17, v17 = x1_2 + 1 → P2_1 v17 S16))))
 → K246_14 x4_12 S13) →
 (if r6 = 36 then
 wp_X7_use (wp_X7_music d) a r11 S10 (fun (r19 : Int32) (S18 : PS) => 
 K246_14 r19 S18)
 else (if r6 = 61 then
 wp_X7_naming (wp_X7_music d) a r11 S10 (fun (r22 : Int32) (S21 : PS) => 
 K246_14 r22 S21)
 else (if r6 = 76 then
 wp_X7_relative (wp_X7_music d) a S10 (fun (r25 : Int32) (S24 : PS) => 
 K246_14 r25 S24)
 else (if r6 = 77 then
 wp_X7_meter a r11 S10 (fun (r28 : Int32) (S27 : PS) => 
 K246_14 r28 S27)
 else (if r6 = 82 then
 wp_X7_rounds (wp_X7_music d) a r11 S10 (fun (r31 : Int32) (S30 : PS) => 
 K246_14 r31 S30)
 else (if r6 = 84 then
 wp_X7_tuplet (wp_X7_music d) a r11 S10 (fun (r34 : Int32) (S33 : PS) => 
 K246_14 r34 S33)
 else (if r6 = 87 then
 wp_X7_words a r11 S10 (fun (r37 : Int32) (S36 : PS) => 
 K246_14 r37 S36)
 else (if r6 = 88 then
 wp_X7_moving (wp_X7_music d) a r11 S10 (fun (r40 : Int32) (S39 : PS) => 
 K246_14 r40 S39)
 else (if r6 = 91 then
 wp_X7_voices (wp_X7_music d) a S10 (fun (r43 : Int32) (S42 : PS) => 
 K246_14 r43 S42)
 else (if r6 = 124 then
 wp_X7_take a 124 S10 (fun (r46 : Int32) (S45 : PS) => 
 K246_14 r46 S45)
 else wp_X7_sound a r11 S10 (fun (r49 : Int32) (S48 : PS) => 
 K246_14 r49 S48))))))))))))))
 else
 Q 1 S7))))))
 → P2_1 x1_2 S3) → P2_1 0 S)
set_option maxRecDepth 100000 in
set_option maxHeartbeats 4000000 in
theorem c_X7_music {adK adV : Nat → Nat} (d : Nat) : ∀ {l : Launch} {E : EE} {A : Nat → Prop} {a : Nat} {S : PS} {Q : Int32 → PS → Prop}, hasStr E adK adV → Rf S a 6 → wp_X7_music d a S Q → MtI l yX7_music (.code yX7_music cX7_music 5 (some .boolean)) (rm_X7_music d) E A [.ref a] S (fun r S1 => nz r ∧ Q r S1) := by
  induction d with
  | zero => intro l E A a S Q hS r_a h; exact (show False from h).elim
  | succ d ih =>
  intro l E A a S Q hS r_a h
  have h : ((∀ P2_1 : Int32 → PS → Prop, (∀ (x1_2 : Int32) (S3 : PS),
 (if 1500 < x1_2 then
 Q 1 S3
 else
 wp_X7_skipBlanks a S3 (fun (S4 : PS) => 
 wp_X7_next a S4 (fun (r6 : Int32) (S5 : PS) => 
 (if r6 = (-1) then
 Q 1 S5
 else
 wp_J0_indexOf_0f7a4 0 ((r6.toUInt32 % 65536).toInt32) S5 (fun (r8 : Int32) (S7 : PS) => 
 (if 0 ≤ r8 then
 (∃ b9, fR S7 58 a = some b9 ∧ wp_X6_open b9 (fI S7 60 a) S7 (fun (r11 : Int32) (S10 : PS) => 
 (∀ K246_14 : Int32 → PS → Prop, (∀ (x4_12 : Int32) (S13 : PS),
 (if x4_12 = 0 then
 Q 0 S13
 else
 (∃ b15, fR S13 58 a = some b15 ∧ wp_X6_close b15 r11 S13 (fun (S16 : PS) => 
 (∀ v17, v17 = x1_2 + 1 → P2_1 v17 S16))))
 → K246_14 x4_12 S13) →
 (if r6 = 36 then
 wp_X7_use (wp_X7_music d) a r11 S10 (fun (r19 : Int32) (S18 : PS) => 
 K246_14 r19 S18)
 else (if r6 = 61 then
 wp_X7_naming (wp_X7_music d) a r11 S10 (fun (r22 : Int32) (S21 : PS) => 
 K246_14 r22 S21)
 else (if r6 = 76 then
 wp_X7_relative (wp_X7_music d) a S10 (fun (r25 : Int32) (S24 : PS) => 
 K246_14 r25 S24)
 else (if r6 = 77 then
 wp_X7_meter a r11 S10 (fun (r28 : Int32) (S27 : PS) => 
 K246_14 r28 S27)
 else (if r6 = 82 then
 wp_X7_rounds (wp_X7_music d) a r11 S10 (fun (r31 : Int32) (S30 : PS) => 
 K246_14 r31 S30)
 else (if r6 = 84 then
 wp_X7_tuplet (wp_X7_music d) a r11 S10 (fun (r34 : Int32) (S33 : PS) => 
 K246_14 r34 S33)
 else (if r6 = 87 then
 wp_X7_words a r11 S10 (fun (r37 : Int32) (S36 : PS) => 
 K246_14 r37 S36)
 else (if r6 = 88 then
 wp_X7_moving (wp_X7_music d) a r11 S10 (fun (r40 : Int32) (S39 : PS) => 
 K246_14 r40 S39)
 else (if r6 = 91 then
 wp_X7_voices (wp_X7_music d) a S10 (fun (r43 : Int32) (S42 : PS) => 
 K246_14 r43 S42)
 else (if r6 = 124 then
 wp_X7_take a 124 S10 (fun (r46 : Int32) (S45 : PS) => 
 K246_14 r46 S45)
 else wp_X7_sound a r11 S10 (fun (r49 : Int32) (S48 : PS) => 
 K246_14 r49 S48))))))))))))))
 else
 Q 1 S7))))))
 → P2_1 x1_2 S3) → P2_1 0 S)) := h
  refine MtI.of2 (by decide) (Nat.le_of_ble_eq_true rfl) (fun X F hQ hX => ?_)
  show VV X (0, 0) S [(0, .ref a)] [] 0
  obtain ⟨hXl, hXE, hXA, hN, hnm⟩ := hX
  subst hXE
  subst hXA
  subst hXl
  refine v_iconst (v := 0) F dX7_music_0 (by decide) ?_
  refine v_istore_n (lv1 := [(1, .int 0), (0, .ref a)]) F dX7_music_1 rfl (by rw [hN]; decide) rfl ?_
  refine v_sub [1, 0] rfl ?_
  refine h (fun (x1_2 : Int32) (S3 : PS) => Rf S3 a 6 → VV X (0, 0) S3 [(0, .ref a), (1, .int x1_2)] [] 2) (fun x1_2 S3 h r_a => ?_) r_a
  refine v_iload_n F dX7_music_2 1 rfl rfl ?_
  refine v_sipush (v := 1500) F dX7_music_3 (by decide) ?_
  refine v_icmp_gt (tgt := 267) F dX7_music_6 (by decide) h (fun h => ?_) (fun h => ?_)
  · refine v_iconst (v := 1) F dX7_music_267 (by decide) ?_
    exact v_zret F hQ (by decide) ⟨nz1, h⟩ ⟨Nat.le_refl 0, Nat.le_refl 0⟩ dX7_music_268
  · refine v_aload_n F dX7_music_9 0 rfl rfl ?_
    refine v_cV0 (v_runV F k_X7_67 rfl (c_X7_skipBlanks r_a h) r_a rfl rfl (Nat.le_of_ble_eq_true rfl) ⟨(by show 1 + 1 ≤ 3 * (d + 1) + 10; omega), (by show 8 + (3 + 11) + 21 ≤ 100 * (d + 1) + 300; omega)⟩ ⟨Nat.le_refl 0, Nat.le_refl 0⟩ dX7_music_10) ⟨rfl, rfl⟩ (fun  S4 h hE => ?_)
    have r_a := r_a.tr hE
    refine v_aload_n F dX7_music_13 0 rfl rfl ?_
    refine v_cI0 (v_runV F k_X7_41 rfl (c_X7_next r_a h) r_a rfl rfl (Nat.le_of_ble_eq_true rfl) ⟨(by show 0 + 1 ≤ 3 * (d + 1) + 10; omega), (by show 8 + (2 + 11) + 0 ≤ 100 * (d + 1) + 300; omega)⟩ ⟨Nat.le_refl 0, Nat.le_refl 0⟩ dX7_music_14) ⟨rfl, rfl⟩ (fun r6 S5 h hE => ?_)
    have r_a := r_a.tr hE
    refine v_istore_n (lv1 := [(2, .int r6), (0, .ref a), (1, .int x1_2)]) F dX7_music_17 rfl (by rw [hN]; decide) rfl ?_
    refine v_iload_n F dX7_music_18 0 rfl rfl ?_
    refine v_iconst (v := (-1)) F dX7_music_19 (by decide) ?_
    refine v_icmp_eq (tgt := 33) F dX7_music_20 (by decide) h (fun h => ?_) (fun h => ?_)
    · refine v_iconst (v := 1) F dX7_music_33 (by decide) ?_
      exact v_zret F hQ (by decide) ⟨nz1, h⟩ ⟨Nat.le_refl 0, Nat.le_refl 0⟩ dX7_music_34
    · refine v_ldcS (i := 0) F hS (by decide) ⟨rfl, rfl⟩ dX7_music_23 ?_
      refine v_iload_n F dX7_music_25 0 rfl rfl ?_
      refine v_i2c F dX7_music_26 ?_
      refine v_cI0 (v_runVS F hS (by decide) k_X7_75 rfl (c_J0_indexOf_0f7a4 hS (by decide) h) rfl rfl (Nat.le_of_ble_eq_true rfl) ⟨(by show 3 + 1 ≤ 3 * (d + 1) + 10; omega), (by show 8 + (2 + 11) + 105 ≤ 100 * (d + 1) + 300; omega)⟩ ⟨Nat.le_refl 0, Nat.le_refl 0⟩ dX7_music_27) ⟨rfl, rfl⟩ (fun r8 S7 h hE => ?_)
      have r_a := r_a.tr hE
      refine v_if_ge (tgt := 35) F dX7_music_30 (by decide) h (fun h => ?_) (fun h => ?_)
      · refine v_aload_n F dX7_music_35 1 rfl rfl ?_
        refine g_X7_9 F r_a h dX7_music_36 (fun b9 r_b9 h => ?_)
        refine v_aload_n F dX7_music_39 1 rfl rfl ?_
        refine g_X7_23 F r_a dX7_music_40 ?_
        refine v_cI0 (v_runV F k_X7_81 rfl (c_X6_open r_b9 h) r_b9 rfl rfl (Nat.le_of_ble_eq_true rfl) ⟨(by show 0 + 1 ≤ 3 * (d + 1) + 10; omega), (by show 8 + (3 + 11) + 0 ≤ 100 * (d + 1) + 300; omega)⟩ ⟨Nat.le_refl 0, Nat.le_refl 0⟩ dX7_music_43) ⟨rfl, rfl⟩ (fun r11 S10 h hE => ?_)
        have r_a := r_a.tr hE
        refine v_istore_n (lv1 := [(3, .int r11), (2, .int r6), (0, .ref a), (1, .int x1_2)]) F dX7_music_46 rfl (by rw [hN]; decide) rfl ?_
        refine v_iload_n F dX7_music_47 1 rfl rfl ?_
        have h := h (fun (x4_12 : Int32) (S13 : PS) => Rf S13 a 6 → VV X (0, 0) S13 [(0, .ref a), (1, .int x1_2), (3, .int r11), (4, .int x4_12)] [] 246) (by
          intro x4_12 S13 h r_a
          refine v_iload F dX7_music_246 3 rfl ?_
          refine v_if_ne (tgt := 253) F dX7_music_248 (by decide) h (fun h => ?_) (fun h => ?_)
          · refine v_aload_n F dX7_music_253 0 rfl rfl ?_
            refine g_X7_9 F r_a h dX7_music_254 (fun b15 r_b15 h => ?_)
            refine v_iload_n F dX7_music_257 2 rfl rfl ?_
            refine v_cV0 (v_runV F k_X7_113 rfl (c_X6_close r_b15 h) r_b15 rfl rfl (Nat.le_of_ble_eq_true rfl) ⟨(by show 1 + 1 ≤ 3 * (d + 1) + 10; omega), (by show 8 + (2 + 11) + 21 ≤ 100 * (d + 1) + 300; omega)⟩ ⟨Nat.le_refl 0, Nat.le_refl 0⟩ dX7_music_258) ⟨rfl, rfl⟩ (fun  S16 h hE => ?_)
            have r_a := r_a.tr hE
            obtain ⟨v17, e_v17⟩ : ∃ y : Int32, y = x1_2 + 1 := ⟨_, rfl⟩
            have h := h v17 e_v17
            refine v_iinc (v := v17) (lv1 := [(1, .int v17), (0, .ref a), (3, .int r11), (4, .int x4_12)]) F dX7_music_261 (q := 1) rfl (by rw [e_v17]; rfl) (by rw [hN]; decide) rfl ?_
            refine v_goto (tgt := 2) F dX7_music_264 (by decide) ?_
            exact v_sub [1, 0] rfl (h r_a)
          · refine v_iconst (v := 0) F dX7_music_251 (by decide) ?_
            exact v_zret F hQ (by decide) ⟨nz0, h⟩ ⟨Nat.le_refl 0, Nat.le_refl 0⟩ dX7_music_252)
        refine v_case h (fun e20 h => ?_) (fun e20 h => ?_)
        · refine v_lookupL (l := [(36, 111), (61, 101), (76, 141), (77, 131), (82, 150), (84, 160), (87, 121), (88, 170), (91, 92), (124, 180)]) (off := 111) (tgt := 159) F dX7_music_48 rfl (by decide) (by rw [e20] <;> rfl) (by decide) ?_
          refine v_aload_n F dX7_music_159 2 rfl rfl ?_
          refine v_iload_n F dX7_music_160 0 rfl rfl ?_
          refine v_cI0 (v_runV F k_X7_89 rfl (c_X7_use ih hS r_a h) r_a rfl rfl (Nat.le_of_ble_eq_true rfl) ⟨(by show 3 * d + 12 + 1 ≤ 3 * (d + 1) + 10; omega), (by show 8 + (7 + 11) + 100 * d + 360 ≤ 100 * (d + 1) + 300; omega)⟩ ⟨Nat.le_refl 0, Nat.le_refl 0⟩ dX7_music_161) ⟨rfl, rfl⟩ (fun r19 S18 h hE => ?_)
          obtain ⟨nz_r19, h⟩ := h
          have r_a := r_a.tr hE
          refine v_istore (lv1 := [(4, .int r19), (3, .int r11), (2, .int r6), (0, .ref a), (1, .int x1_2)]) F dX7_music_164 (by rw [hN]; decide) rfl ?_
          refine v_goto (tgt := 246) F dX7_music_166 (by decide) ?_
          exact v_sub [3, 4, 1, 0] rfl (h r_a)
        refine v_case h (fun e23 h => ?_) (fun e23 h => ?_)
        · refine v_lookupL (l := [(36, 111), (61, 101), (76, 141), (77, 131), (82, 150), (84, 160), (87, 121), (88, 170), (91, 92), (124, 180)]) (off := 101) (tgt := 149) F dX7_music_48 rfl (by decide) (by rw [e23] <;> rfl) (by decide) ?_
          refine v_aload_n F dX7_music_149 2 rfl rfl ?_
          refine v_iload_n F dX7_music_150 0 rfl rfl ?_
          refine v_cI0 (v_runV F k_X7_86 rfl (c_X7_naming ih hS r_a h) r_a rfl rfl (Nat.le_of_ble_eq_true rfl) ⟨(by show 3 * d + 12 + 1 ≤ 3 * (d + 1) + 10; omega), (by show 8 + (3 + 11) + 100 * d + 360 ≤ 100 * (d + 1) + 300; omega)⟩ ⟨Nat.le_refl 0, Nat.le_refl 0⟩ dX7_music_151) ⟨rfl, rfl⟩ (fun r22 S21 h hE => ?_)
          obtain ⟨nz_r22, h⟩ := h
          have r_a := r_a.tr hE
          refine v_istore (lv1 := [(4, .int r22), (3, .int r11), (2, .int r6), (0, .ref a), (1, .int x1_2)]) F dX7_music_154 (by rw [hN]; decide) rfl ?_
          refine v_goto (tgt := 246) F dX7_music_156 (by decide) ?_
          exact v_sub [3, 4, 1, 0] rfl (h r_a)
        refine v_case h (fun e26 h => ?_) (fun e26 h => ?_)
        · refine v_lookupL (l := [(36, 111), (61, 101), (76, 141), (77, 131), (82, 150), (84, 160), (87, 121), (88, 170), (91, 92), (124, 180)]) (off := 141) (tgt := 189) F dX7_music_48 rfl (by decide) (by rw [e26] <;> rfl) (by decide) ?_
          refine v_aload_n F dX7_music_189 2 rfl rfl ?_
          refine v_cI0 (v_runV F k_X7_98 rfl (c_X7_relative ih hS r_a h) r_a rfl rfl (Nat.le_of_ble_eq_true rfl) ⟨(by show 3 * d + 12 + 1 ≤ 3 * (d + 1) + 10; omega), (by show 8 + (1 + 11) + 100 * d + 360 ≤ 100 * (d + 1) + 300; omega)⟩ ⟨Nat.le_refl 0, Nat.le_refl 0⟩ dX7_music_190) ⟨rfl, rfl⟩ (fun r25 S24 h hE => ?_)
          obtain ⟨nz_r25, h⟩ := h
          have r_a := r_a.tr hE
          refine v_istore (lv1 := [(4, .int r25), (3, .int r11), (2, .int r6), (0, .ref a), (1, .int x1_2)]) F dX7_music_193 (by rw [hN]; decide) rfl ?_
          refine v_goto (tgt := 246) F dX7_music_195 (by decide) ?_
          exact v_sub [3, 4, 1, 0] rfl (h r_a)
        refine v_case h (fun e29 h => ?_) (fun e29 h => ?_)
        · refine v_lookupL (l := [(36, 111), (61, 101), (76, 141), (77, 131), (82, 150), (84, 160), (87, 121), (88, 170), (91, 92), (124, 180)]) (off := 131) (tgt := 179) F dX7_music_48 rfl (by decide) (by rw [e29] <;> rfl) (by decide) ?_
          refine v_aload_n F dX7_music_179 2 rfl rfl ?_
          refine v_iload_n F dX7_music_180 0 rfl rfl ?_
          refine v_cI0 (v_runV F k_X7_95 rfl (c_X7_meter r_a h) r_a rfl rfl (Nat.le_of_ble_eq_true rfl) ⟨(by show 4 + 1 ≤ 3 * (d + 1) + 10; omega), (by show 8 + (3 + 11) + 88 ≤ 100 * (d + 1) + 300; omega)⟩ ⟨Nat.le_refl 0, Nat.le_refl 0⟩ dX7_music_181) ⟨rfl, rfl⟩ (fun r28 S27 h hE => ?_)
          obtain ⟨nz_r28, h⟩ := h
          have r_a := r_a.tr hE
          refine v_istore (lv1 := [(4, .int r28), (3, .int r11), (2, .int r6), (0, .ref a), (1, .int x1_2)]) F dX7_music_184 (by rw [hN]; decide) rfl ?_
          refine v_goto (tgt := 246) F dX7_music_186 (by decide) ?_
          exact v_sub [3, 4, 1, 0] rfl (h r_a)
        refine v_case h (fun e32 h => ?_) (fun e32 h => ?_)
        · refine v_lookupL (l := [(36, 111), (61, 101), (76, 141), (77, 131), (82, 150), (84, 160), (87, 121), (88, 170), (91, 92), (124, 180)]) (off := 150) (tgt := 198) F dX7_music_48 rfl (by decide) (by rw [e32] <;> rfl) (by decide) ?_
          refine v_aload_n F dX7_music_198 2 rfl rfl ?_
          refine v_iload_n F dX7_music_199 0 rfl rfl ?_
          refine v_cI0 (v_runV F k_X7_101 rfl (c_X7_rounds ih hS r_a h) r_a rfl rfl (Nat.le_of_ble_eq_true rfl) ⟨(by show 3 * d + 12 + 1 ≤ 3 * (d + 1) + 10; omega), (by show 8 + (2 + 11) + 100 * d + 360 ≤ 100 * (d + 1) + 300; omega)⟩ ⟨Nat.le_refl 0, Nat.le_refl 0⟩ dX7_music_200) ⟨rfl, rfl⟩ (fun r31 S30 h hE => ?_)
          obtain ⟨nz_r31, h⟩ := h
          have r_a := r_a.tr hE
          refine v_istore (lv1 := [(4, .int r31), (3, .int r11), (2, .int r6), (0, .ref a), (1, .int x1_2)]) F dX7_music_203 (by rw [hN]; decide) rfl ?_
          refine v_goto (tgt := 246) F dX7_music_205 (by decide) ?_
          exact v_sub [3, 4, 1, 0] rfl (h r_a)
        refine v_case h (fun e35 h => ?_) (fun e35 h => ?_)
        · refine v_lookupL (l := [(36, 111), (61, 101), (76, 141), (77, 131), (82, 150), (84, 160), (87, 121), (88, 170), (91, 92), (124, 180)]) (off := 160) (tgt := 208) F dX7_music_48 rfl (by decide) (by rw [e35] <;> rfl) (by decide) ?_
          refine v_aload_n F dX7_music_208 2 rfl rfl ?_
          refine v_iload_n F dX7_music_209 0 rfl rfl ?_
          refine v_cI0 (v_runV F k_X7_104 rfl (c_X7_tuplet ih hS r_a h) r_a rfl rfl (Nat.le_of_ble_eq_true rfl) ⟨(by show 3 * d + 12 + 1 ≤ 3 * (d + 1) + 10; omega), (by show 8 + (3 + 11) + 100 * d + 360 ≤ 100 * (d + 1) + 300; omega)⟩ ⟨Nat.le_refl 0, Nat.le_refl 0⟩ dX7_music_210) ⟨rfl, rfl⟩ (fun r34 S33 h hE => ?_)
          obtain ⟨nz_r34, h⟩ := h
          have r_a := r_a.tr hE
          refine v_istore (lv1 := [(4, .int r34), (3, .int r11), (2, .int r6), (0, .ref a), (1, .int x1_2)]) F dX7_music_213 (by rw [hN]; decide) rfl ?_
          refine v_goto (tgt := 246) F dX7_music_215 (by decide) ?_
          exact v_sub [3, 4, 1, 0] rfl (h r_a)
        refine v_case h (fun e38 h => ?_) (fun e38 h => ?_)
        · refine v_lookupL (l := [(36, 111), (61, 101), (76, 141), (77, 131), (82, 150), (84, 160), (87, 121), (88, 170), (91, 92), (124, 180)]) (off := 121) (tgt := 169) F dX7_music_48 rfl (by decide) (by rw [e38] <;> rfl) (by decide) ?_
          refine v_aload_n F dX7_music_169 2 rfl rfl ?_
          refine v_iload_n F dX7_music_170 0 rfl rfl ?_
          refine v_cI0 (v_runV F k_X7_92 rfl (c_X7_words r_a h) r_a rfl rfl (Nat.le_of_ble_eq_true rfl) ⟨(by show 4 + 1 ≤ 3 * (d + 1) + 10; omega), (by show 8 + (5 + 11) + 88 ≤ 100 * (d + 1) + 300; omega)⟩ ⟨Nat.le_refl 0, Nat.le_refl 0⟩ dX7_music_171) ⟨rfl, rfl⟩ (fun r37 S36 h hE => ?_)
          obtain ⟨nz_r37, h⟩ := h
          have r_a := r_a.tr hE
          refine v_istore (lv1 := [(4, .int r37), (3, .int r11), (2, .int r6), (0, .ref a), (1, .int x1_2)]) F dX7_music_174 (by rw [hN]; decide) rfl ?_
          refine v_goto (tgt := 246) F dX7_music_176 (by decide) ?_
          exact v_sub [3, 4, 1, 0] rfl (h r_a)
        refine v_case h (fun e41 h => ?_) (fun e41 h => ?_)
        · refine v_lookupL (l := [(36, 111), (61, 101), (76, 141), (77, 131), (82, 150), (84, 160), (87, 121), (88, 170), (91, 92), (124, 180)]) (off := 170) (tgt := 218) F dX7_music_48 rfl (by decide) (by rw [e41] <;> rfl) (by decide) ?_
          refine v_aload_n F dX7_music_218 2 rfl rfl ?_
          refine v_iload_n F dX7_music_219 0 rfl rfl ?_
          refine v_cI0 (v_runV F k_X7_107 rfl (c_X7_moving ih hS r_a h) r_a rfl rfl (Nat.le_of_ble_eq_true rfl) ⟨(by show 3 * d + 12 + 1 ≤ 3 * (d + 1) + 10; omega), (by show 8 + (3 + 11) + 100 * d + 360 ≤ 100 * (d + 1) + 300; omega)⟩ ⟨Nat.le_refl 0, Nat.le_refl 0⟩ dX7_music_220) ⟨rfl, rfl⟩ (fun r40 S39 h hE => ?_)
          obtain ⟨nz_r40, h⟩ := h
          have r_a := r_a.tr hE
          refine v_istore (lv1 := [(4, .int r40), (3, .int r11), (2, .int r6), (0, .ref a), (1, .int x1_2)]) F dX7_music_223 (by rw [hN]; decide) rfl ?_
          refine v_goto (tgt := 246) F dX7_music_225 (by decide) ?_
          exact v_sub [3, 4, 1, 0] rfl (h r_a)
        refine v_case h (fun e44 h => ?_) (fun e44 h => ?_)
        · refine v_lookupL (l := [(36, 111), (61, 101), (76, 141), (77, 131), (82, 150), (84, 160), (87, 121), (88, 170), (91, 92), (124, 180)]) (off := 92) (tgt := 140) F dX7_music_48 rfl (by decide) (by rw [e44] <;> rfl) (by decide) ?_
          refine v_aload_n F dX7_music_140 2 rfl rfl ?_
          refine v_cI0 (v_runV F k_X7_83 rfl (c_X7_voices ih hS r_a h) r_a rfl rfl (Nat.le_of_ble_eq_true rfl) ⟨(by show 3 * d + 12 + 1 ≤ 3 * (d + 1) + 10; omega), (by show 8 + (3 + 11) + 100 * d + 360 ≤ 100 * (d + 1) + 300; omega)⟩ ⟨Nat.le_refl 0, Nat.le_refl 0⟩ dX7_music_141) ⟨rfl, rfl⟩ (fun r43 S42 h hE => ?_)
          obtain ⟨nz_r43, h⟩ := h
          have r_a := r_a.tr hE
          refine v_istore (lv1 := [(4, .int r43), (3, .int r11), (2, .int r6), (0, .ref a), (1, .int x1_2)]) F dX7_music_144 (by rw [hN]; decide) rfl ?_
          refine v_goto (tgt := 246) F dX7_music_146 (by decide) ?_
          exact v_sub [3, 4, 1, 0] rfl (h r_a)
        refine v_case h (fun e47 h => ?_) (fun e47 h => ?_)
        · refine v_lookupL (l := [(36, 111), (61, 101), (76, 141), (77, 131), (82, 150), (84, 160), (87, 121), (88, 170), (91, 92), (124, 180)]) (off := 180) (tgt := 228) F dX7_music_48 rfl (by decide) (by rw [e47] <;> rfl) (by decide) ?_
          refine v_aload_n F dX7_music_228 2 rfl rfl ?_
          refine v_bipush (v := 124) F dX7_music_229 (by decide) ?_
          refine v_cI0 (v_runV F k_X7_63 rfl (c_X7_take r_a h) r_a rfl rfl (Nat.le_of_ble_eq_true rfl) ⟨(by show 1 + 1 ≤ 3 * (d + 1) + 10; omega), (by show 8 + (2 + 11) + 21 ≤ 100 * (d + 1) + 300; omega)⟩ ⟨Nat.le_refl 0, Nat.le_refl 0⟩ dX7_music_231) ⟨rfl, rfl⟩ (fun r46 S45 h hE => ?_)
          obtain ⟨nz_r46, h⟩ := h
          have r_a := r_a.tr hE
          refine v_istore (lv1 := [(4, .int r46), (3, .int r11), (2, .int r6), (0, .ref a), (1, .int x1_2)]) F dX7_music_234 (by rw [hN]; decide) rfl ?_
          refine v_goto (tgt := 246) F dX7_music_236 (by decide) ?_
          exact v_sub [3, 4, 1, 0] rfl (h r_a)
        refine v_lookupL (l := [(36, 111), (61, 101), (76, 141), (77, 131), (82, 150), (84, 160), (87, 121), (88, 170), (91, 92), (124, 180)]) (off := 191) (tgt := 239) F dX7_music_48 rfl (by decide) (by rw [lv_osw (a := 36) e20 rfl, lv_osw (a := 61) e23 rfl, lv_osw (a := 76) e26 rfl, lv_osw (a := 77) e29 rfl, lv_osw (a := 82) e32 rfl, lv_osw (a := 84) e35 rfl, lv_osw (a := 87) e38 rfl, lv_osw (a := 88) e41 rfl, lv_osw (a := 91) e44 rfl, lv_osw (a := 124) e47 rfl]; rfl) (by decide) ?_
        refine v_aload_n F dX7_music_239 2 rfl rfl ?_
        refine v_iload_n F dX7_music_240 0 rfl rfl ?_
        refine v_cI0 (v_runV F k_X7_110 rfl (c_X7_sound r_a h) r_a rfl rfl (Nat.le_of_ble_eq_true rfl) ⟨(by show 4 + 1 ≤ 3 * (d + 1) + 10; omega), (by show 8 + (5 + 11) + 90 ≤ 100 * (d + 1) + 300; omega)⟩ ⟨Nat.le_refl 0, Nat.le_refl 0⟩ dX7_music_241) ⟨rfl, rfl⟩ (fun r49 S48 h hE => ?_)
        obtain ⟨nz_r49, h⟩ := h
        have r_a := r_a.tr hE
        refine v_istore (lv1 := [(4, .int r49), (3, .int r11), (2, .int r6), (0, .ref a), (1, .int x1_2)]) F dX7_music_244 (by rw [hN]; decide) rfl ?_
        exact v_sub [3, 4, 1, 0] rfl (h r_a)
      · refine v_iconst (v := 1) F dX7_music_33 (by decide) ?_
        exact v_zret F hQ (by decide) ⟨nz1, h⟩ ⟨Nat.le_refl 0, Nat.le_refl 0⟩ dX7_music_34
