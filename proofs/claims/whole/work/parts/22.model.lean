theorem dX12_leave_0 : decode cX12_leave 0 = .ok (.iload_n 2, 1) := by decide +kernel
theorem dX12_leave_1 : decode cX12_leave 1 = .ok (.iconst (-1), 1) := by decide +kernel
theorem dX12_leave_2 : decode cX12_leave 2 = .ok (.if_icmp .ne 18, 3) := by decide +kernel
theorem dX12_leave_5 : decode cX12_leave 5 = .ok (.aload_n 0, 1) := by decide +kernel
theorem dX12_leave_6 : decode cX12_leave 6 = .ok (.invokevirtual 365, 3) := by decide +kernel
theorem dX12_leave_9 : decode cX12_leave 9 = .ok (.aload_n 0, 1) := by decide +kernel
theorem dX12_leave_10 : decode cX12_leave 10 = .ok (.dup, 1) := by decide +kernel
theorem dX12_leave_11 : decode cX12_leave 11 = .ok (.getfield 282, 3) := by decide +kernel
theorem dX12_leave_14 : decode cX12_leave 14 = .ok (.iconst 1, 1) := by decide +kernel
theorem dX12_leave_15 : decode cX12_leave 15 = .ok (.isub, 1) := by decide +kernel
theorem dX12_leave_16 : decode cX12_leave 16 = .ok (.putfield 282, 3) := by decide +kernel
theorem dX12_leave_19 : decode cX12_leave 19 = .ok (.return_, 1) := by decide +kernel
theorem dX12_leave_20 : decode cX12_leave 20 = .ok (.aload_n 0, 1) := by decide +kernel
theorem dX12_leave_21 : decode cX12_leave 21 = .ok (.getfield 86, 3) := by decide +kernel
theorem dX12_leave_24 : decode cX12_leave 24 = .ok (.iload_n 2, 1) := by decide +kernel
theorem dX12_leave_25 : decode cX12_leave 25 = .ok (.iaload, 1) := by decide +kernel
theorem dX12_leave_26 : decode cX12_leave 26 = .ok (.tableswitch 175 3 7 #[34, 57, 99, 132, 165], 34) := by decide +kernel
theorem dX12_leave_60 : decode cX12_leave 60 = .ok (.aload_n 0, 1) := by decide +kernel
theorem dX12_leave_61 : decode cX12_leave 61 = .ok (.dup, 1) := by decide +kernel
theorem dX12_leave_62 : decode cX12_leave 62 = .ok (.getfield 326, 3) := by decide +kernel
theorem dX12_leave_65 : decode cX12_leave 65 = .ok (.iconst 1, 1) := by decide +kernel
theorem dX12_leave_66 : decode cX12_leave 66 = .ok (.isub, 1) := by decide +kernel
theorem dX12_leave_67 : decode cX12_leave 67 = .ok (.putfield 326, 3) := by decide +kernel
theorem dX12_leave_70 : decode cX12_leave 70 = .ok (.aload_n 0, 1) := by decide +kernel
theorem dX12_leave_71 : decode cX12_leave 71 = .ok (.aload_n 0, 1) := by decide +kernel
theorem dX12_leave_72 : decode cX12_leave 72 = .ok (.getfield 320, 3) := by decide +kernel
theorem dX12_leave_75 : decode cX12_leave 75 = .ok (.iload_n 1, 1) := by decide +kernel
theorem dX12_leave_76 : decode cX12_leave 76 = .ok (.iaload, 1) := by decide +kernel
theorem dX12_leave_77 : decode cX12_leave 77 = .ok (.putfield 323, 3) := by decide +kernel
theorem dX12_leave_80 : decode cX12_leave 80 = .ok (.goto 154, 3) := by decide +kernel
theorem dX12_leave_83 : decode cX12_leave 83 = .ok (.aload_n 0, 1) := by decide +kernel
theorem dX12_leave_84 : decode cX12_leave 84 = .ok (.getfield 329, 3) := by decide +kernel
theorem dX12_leave_87 : decode cX12_leave 87 = .ok (.iload_n 1, 1) := by decide +kernel
theorem dX12_leave_88 : decode cX12_leave 88 = .ok (.dup2, 1) := by decide +kernel
theorem dX12_leave_89 : decode cX12_leave 89 = .ok (.iaload, 1) := by decide +kernel
theorem dX12_leave_90 : decode cX12_leave 90 = .ok (.iconst 1, 1) := by decide +kernel
theorem dX12_leave_91 : decode cX12_leave 91 = .ok (.isub, 1) := by decide +kernel
theorem dX12_leave_92 : decode cX12_leave 92 = .ok (.iastore, 1) := by decide +kernel
theorem dX12_leave_93 : decode cX12_leave 93 = .ok (.aload_n 0, 1) := by decide +kernel
theorem dX12_leave_94 : decode cX12_leave 94 = .ok (.getfield 329, 3) := by decide +kernel
theorem dX12_leave_97 : decode cX12_leave 97 = .ok (.iload_n 1, 1) := by decide +kernel
theorem dX12_leave_98 : decode cX12_leave 98 = .ok (.iaload, 1) := by decide +kernel
theorem dX12_leave_99 : decode cX12_leave 99 = .ok (.ifCond .le 135, 3) := by decide +kernel
theorem dX12_leave_102 : decode cX12_leave 102 = .ok (.aload_n 0, 1) := by decide +kernel
theorem dX12_leave_103 : decode cX12_leave 103 = .ok (.iload_n 2, 1) := by decide +kernel
theorem dX12_leave_104 : decode cX12_leave 104 = .ok (.invokevirtual 300, 3) := by decide +kernel
theorem dX12_leave_107 : decode cX12_leave 107 = .ok (.aload_n 0, 1) := by decide +kernel
theorem dX12_leave_108 : decode cX12_leave 108 = .ok (.getfield 285, 3) := by decide +kernel
theorem dX12_leave_111 : decode cX12_leave 111 = .ok (.iload_n 1, 1) := by decide +kernel
theorem dX12_leave_112 : decode cX12_leave 112 = .ok (.aload_n 0, 1) := by decide +kernel
theorem dX12_leave_113 : decode cX12_leave 113 = .ok (.getfield 99, 3) := by decide +kernel
theorem dX12_leave_116 : decode cX12_leave 116 = .ok (.aload_n 0, 1) := by decide +kernel
theorem dX12_leave_117 : decode cX12_leave 117 = .ok (.getfield 288, 3) := by decide +kernel
theorem dX12_leave_120 : decode cX12_leave 120 = .ok (.iload_n 1, 1) := by decide +kernel
theorem dX12_leave_121 : decode cX12_leave 121 = .ok (.iaload, 1) := by decide +kernel
theorem dX12_leave_122 : decode cX12_leave 122 = .ok (.iaload, 1) := by decide +kernel
theorem dX12_leave_123 : decode cX12_leave 123 = .ok (.iastore, 1) := by decide +kernel
theorem dX12_leave_124 : decode cX12_leave 124 = .ok (.return_, 1) := by decide +kernel
theorem dX12_leave_125 : decode cX12_leave 125 = .ok (.aload_n 0, 1) := by decide +kernel
theorem dX12_leave_126 : decode cX12_leave 126 = .ok (.dup, 1) := by decide +kernel
theorem dX12_leave_127 : decode cX12_leave 127 = .ok (.getfield 368, 3) := by decide +kernel
theorem dX12_leave_130 : decode cX12_leave 130 = .ok (.iconst 1, 1) := by decide +kernel
theorem dX12_leave_131 : decode cX12_leave 131 = .ok (.isub, 1) := by decide +kernel
theorem dX12_leave_132 : decode cX12_leave 132 = .ok (.putfield 368, 3) := by decide +kernel
theorem dX12_leave_135 : decode cX12_leave 135 = .ok (.aload_n 0, 1) := by decide +kernel
theorem dX12_leave_136 : decode cX12_leave 136 = .ok (.aload_n 0, 1) := by decide +kernel
theorem dX12_leave_137 : decode cX12_leave 137 = .ok (.getfield 371, 3) := by decide +kernel
theorem dX12_leave_140 : decode cX12_leave 140 = .ok (.iload_n 1, 1) := by decide +kernel
theorem dX12_leave_141 : decode cX12_leave 141 = .ok (.laload, 1) := by decide +kernel
theorem dX12_leave_142 : decode cX12_leave 142 = .ok (.putfield 374, 3) := by decide +kernel
theorem dX12_leave_145 : decode cX12_leave 145 = .ok (.aload_n 0, 1) := by decide +kernel
theorem dX12_leave_146 : decode cX12_leave 146 = .ok (.aload_n 0, 1) := by decide +kernel
theorem dX12_leave_147 : decode cX12_leave 147 = .ok (.getfield 377, 3) := by decide +kernel
theorem dX12_leave_150 : decode cX12_leave 150 = .ok (.iload_n 1, 1) := by decide +kernel
theorem dX12_leave_151 : decode cX12_leave 151 = .ok (.laload, 1) := by decide +kernel
theorem dX12_leave_152 : decode cX12_leave 152 = .ok (.putfield 380, 3) := by decide +kernel
theorem dX12_leave_155 : decode cX12_leave 155 = .ok (.goto 79, 3) := by decide +kernel
theorem dX12_leave_158 : decode cX12_leave 158 = .ok (.aload_n 0, 1) := by decide +kernel
theorem dX12_leave_159 : decode cX12_leave 159 = .ok (.dup, 1) := by decide +kernel
theorem dX12_leave_160 : decode cX12_leave 160 = .ok (.getfield 335, 3) := by decide +kernel
theorem dX12_leave_163 : decode cX12_leave 163 = .ok (.aload_n 0, 1) := by decide +kernel
theorem dX12_leave_164 : decode cX12_leave 164 = .ok (.getfield 93, 3) := by decide +kernel
theorem dX12_leave_167 : decode cX12_leave 167 = .ok (.iload_n 2, 1) := by decide +kernel
theorem dX12_leave_168 : decode cX12_leave 168 = .ok (.iaload, 1) := by decide +kernel
theorem dX12_leave_169 : decode cX12_leave 169 = .ok (.isub, 1) := by decide +kernel
theorem dX12_leave_170 : decode cX12_leave 170 = .ok (.putfield 335, 3) := by decide +kernel
theorem dX12_leave_173 : decode cX12_leave 173 = .ok (.aload_n 0, 1) := by decide +kernel
theorem dX12_leave_174 : decode cX12_leave 174 = .ok (.dup, 1) := by decide +kernel
theorem dX12_leave_175 : decode cX12_leave 175 = .ok (.getfield 338, 3) := by decide +kernel
theorem dX12_leave_178 : decode cX12_leave 178 = .ok (.aload_n 0, 1) := by decide +kernel
theorem dX12_leave_179 : decode cX12_leave 179 = .ok (.getfield 96, 3) := by decide +kernel
theorem dX12_leave_182 : decode cX12_leave 182 = .ok (.iload_n 2, 1) := by decide +kernel
theorem dX12_leave_183 : decode cX12_leave 183 = .ok (.iaload, 1) := by decide +kernel
theorem dX12_leave_184 : decode cX12_leave 184 = .ok (.isub, 1) := by decide +kernel
theorem dX12_leave_185 : decode cX12_leave 185 = .ok (.putfield 338, 3) := by decide +kernel
theorem dX12_leave_188 : decode cX12_leave 188 = .ok (.goto 46, 3) := by decide +kernel
theorem dX12_leave_191 : decode cX12_leave 191 = .ok (.aload_n 0, 1) := by decide +kernel
theorem dX12_leave_192 : decode cX12_leave 192 = .ok (.iload_n 1, 1) := by decide +kernel
theorem dX12_leave_193 : decode cX12_leave 193 = .ok (.iload_n 2, 1) := by decide +kernel
theorem dX12_leave_194 : decode cX12_leave 194 = .ok (.invokevirtual 383, 3) := by decide +kernel
theorem dX12_leave_197 : decode cX12_leave 197 = .ok (.ifCond .eq 37, 3) := by decide +kernel
theorem dX12_leave_200 : decode cX12_leave 200 = .ok (.return_, 1) := by decide +kernel
theorem dX12_leave_201 : decode cX12_leave 201 = .ok (.aload_n 0, 1) := by decide +kernel
theorem dX12_leave_202 : decode cX12_leave 202 = .ok (.dup, 1) := by decide +kernel
theorem dX12_leave_203 : decode cX12_leave 203 = .ok (.getfield 387, 3) := by decide +kernel
theorem dX12_leave_206 : decode cX12_leave 206 = .ok (.iconst 1, 1) := by decide +kernel
theorem dX12_leave_207 : decode cX12_leave 207 = .ok (.isub, 1) := by decide +kernel
theorem dX12_leave_208 : decode cX12_leave 208 = .ok (.putfield 387, 3) := by decide +kernel
theorem dX12_leave_211 : decode cX12_leave 211 = .ok (.aload_n 0, 1) := by decide +kernel
theorem dX12_leave_212 : decode cX12_leave 212 = .ok (.dup, 1) := by decide +kernel
theorem dX12_leave_213 : decode cX12_leave 213 = .ok (.getfield 390, 3) := by decide +kernel
theorem dX12_leave_216 : decode cX12_leave 216 = .ok (.aload_n 0, 1) := by decide +kernel
theorem dX12_leave_217 : decode cX12_leave 217 = .ok (.getfield 93, 3) := by decide +kernel
theorem dX12_leave_220 : decode cX12_leave 220 = .ok (.iload_n 2, 1) := by decide +kernel
theorem dX12_leave_221 : decode cX12_leave 221 = .ok (.iaload, 1) := by decide +kernel
theorem dX12_leave_222 : decode cX12_leave 222 = .ok (.ifCond .ge 7, 3) := by decide +kernel
theorem dX12_leave_225 : decode cX12_leave 225 = .ok (.iconst 0, 1) := by decide +kernel
theorem dX12_leave_226 : decode cX12_leave 226 = .ok (.goto 4, 3) := by decide +kernel
theorem dX12_leave_229 : decode cX12_leave 229 = .ok (.iconst 1, 1) := by decide +kernel
theorem dX12_leave_230 : decode cX12_leave 230 = .ok (.isub, 1) := by decide +kernel
theorem dX12_leave_231 : decode cX12_leave 231 = .ok (.putfield 390, 3) := by decide +kernel
theorem dX12_leave_234 : decode cX12_leave 234 = .ok (.aload_n 0, 1) := by decide +kernel
theorem dX12_leave_235 : decode cX12_leave 235 = .ok (.dup, 1) := by decide +kernel
theorem dX12_leave_236 : decode cX12_leave 236 = .ok (.getfield 282, 3) := by decide +kernel
theorem dX12_leave_239 : decode cX12_leave 239 = .ok (.iconst 1, 1) := by decide +kernel
theorem dX12_leave_240 : decode cX12_leave 240 = .ok (.isub, 1) := by decide +kernel
theorem dX12_leave_241 : decode cX12_leave 241 = .ok (.putfield 282, 3) := by decide +kernel
theorem dX12_leave_244 : decode cX12_leave 244 = .ok (.return_, 1) := by decide +kernel
abbrev rm_X12_leave : Room := { frames := 3, cells := 0, slots := 0, locals := 78 }
def wp_X12_leave (a : Nat) (p1 : Int32) (p2 : Int32) (S : PS) (Q : PS → Prop) : Prop :=
  (if p2 = (-1) then
 wp_X12_endOfVoice a S (fun (S40 : PS) => 
 (∀ S41, S41 = sI S40 188 a ((fI S40 188 a) - 1) → Q S41))
 else
 (∃ b1, fR S 105 a = some b1 ∧ (vp_in p2 (aN S b1) ∧ (∀ K234_3 : PS → Prop, (∀ (S2 : PS),
 (∀ S4, S4 = sI S2 188 a ((fI S2 188 a) - 1) → Q S4)
 → K234_3 S2) →
 (if aI S 42 b1 (p2).toNatClampNeg = 3 then
 (∀ S5, S5 = sI S 159 a ((fI S 159 a) - 1) → (∃ b6, fR S5 177 a = some b6 ∧ (vp_in p1 (aN S5 b6) ∧ (∀ S7, S7 = sI S5 158 a (aI S5 90 b6 (p1).toNatClampNeg) → K234_3 S7))))
 else (if aI S 42 b1 (p2).toNatClampNeg = 4 then
 (∃ b9, fR S 176 a = some b9 ∧ (vp_in p1 (aN S b9) ∧ (vp_in p1 (aN S b9) ∧ ∀ S10, S10 = wI S 89 b9 (p1).toNatClampNeg ((aI S 89 b9 (p1).toNatClampNeg) - 1) → (∃ b11, fR S10 176 a = some b11 ∧ (vp_in p1 (aN S10 b11) ∧ (if aI S10 89 b11 (p1).toNatClampNeg ≤ 0 then
 K234_3 S10
 else
 wp_X12_step a p2 S10 (fun (S12 : PS) => 
 (∃ b13, fR S12 173 a = some b13 ∧ (∃ b14, fR S12 109 a = some b14 ∧ (∃ b15, fR S12 179 a = some b15 ∧ (vp_in p1 (aN S12 b15) ∧ (vp_in (aI S12 92 b15 (p1).toNatClampNeg) (aN S12 b14) ∧ (vp_in p1 (aN S12 b13) ∧ ∀ S16, S16 = wI S12 86 b13 (p1).toNatClampNeg (aI S12 46 b14 (aI S12 92 b15 (p1).toNatClampNeg).toNatClampNeg) → Q S16)))))))))))))
 else (if aI S 42 b1 (p2).toNatClampNeg = 5 then
 (∀ S18, S18 = sI S 160 a ((fI S 160 a) - 1) → (∃ b19, fR S18 181 a = some b19 ∧ (vp_in p1 (aN S18 b19) ∧ (∀ S20, S20 = sL S18 161 a (aL S18 94 b19 (p1).toNatClampNeg) → (∃ b21, fR S20 182 a = some b21 ∧ (vp_in p1 (aN S20 b21) ∧ (∀ S22, S22 = sL S20 162 a (aL S20 95 b21 (p1).toNatClampNeg) → K234_3 S22)))))))
 else (if aI S 42 b1 (p2).toNatClampNeg = 6 then
 (∃ b24, fR S 107 a = some b24 ∧ (vp_in p2 (aN S b24) ∧ (∀ S25, S25 = sI S 163 a ((fI S 163 a) - (aI S 44 b24 (p2).toNatClampNeg)) → (∃ b26, fR S25 108 a = some b26 ∧ (vp_in p2 (aN S25 b26) ∧ (∀ S27, S27 = sI S25 164 a ((fI S25 164 a) - (aI S25 45 b26 (p2).toNatClampNeg)) → K234_3 S27))))))
 else (if aI S 42 b1 (p2).toNatClampNeg = 7 then
 wp_X12_isGoingOn a p1 p2 S (fun (r30 : Int32) (S29 : PS) => 
 (if r30 = 0 then
 K234_3 S29
 else
 Q S29))
 else (∀ S32, S32 = sI S 166 a ((fI S 166 a) - 1) → (∃ b33, fR S32 107 a = some b33 ∧ (vp_in p2 (aN S32 b33) ∧ (∀ K230_38 : Nat → Int32 → Int32 → PS → Prop, (∀ (t34 : Nat) (t35 : Int32) (t36 : Int32) (S37 : PS),
 (∀ S39, S39 = sI S37 169 t34 (t35 - t36) → K234_3 S39)
 → K230_38 t34 t35 t36 S37) →
 (if 0 ≤ aI S32 44 b33 (p2).toNatClampNeg then
 K230_38 a (fI S32 169 a) 1 S32
 else
 K230_38 a (fI S32 169 a) 0 S32))))))))))))))
set_option maxRecDepth 100000 in
set_option maxHeartbeats 4000000 in
theorem c_X12_leave {l : Launch} {E : EE} {A : Nat → Prop} {a : Nat} {p1 : Int32} {p2 : Int32} {S : PS} {Q : PS → Prop} (r_a : Rf S a 9) (h : wp_X12_leave a p1 p2 S Q) : MtV l yX12_leave (.code yX12_leave cX12_leave 3 none) rm_X12_leave E A [.ref a, .int p1, .int p2] S Q := by
  refine MtV.of (by decide) (Nat.le_of_ble_eq_true rfl) (fun X F hQ hN => ?_)
  show VV X (0, 0) S [(0, .ref a), (1, .int p1), (2, .int p2)] [] 0
  unfold wp_X12_leave at h
  refine v_iload_n F dX12_leave_0 2 rfl rfl ?_
  refine v_iconst (v := (-1)) F dX12_leave_1 (by decide) ?_
  refine v_icmp_ne (tgt := 20) F dX12_leave_2 (by decide) h (fun h => ?_) (fun h => ?_)
  · refine v_aload_n F dX12_leave_20 0 rfl rfl ?_
    refine g_X12_86 F r_a h dX12_leave_21 (fun b1 r_b1 h => ?_)
    refine v_iload_n F dX12_leave_24 2 rfl rfl ?_
    refine v_iald F r_b1 o_42 h dX12_leave_25 (fun h => ?_)
    have h := h (fun (S2 : PS) => Rf S2 a 9 → VV X (0, 0) S2 [(0, .ref a)] [] 234) (by
      intro S2 h r_a
      refine v_aload_n F dX12_leave_234 0 rfl rfl ?_
      refine v_dup F dX12_leave_235 rfl ?_
      refine g_X12_282 F r_a dX12_leave_236 ?_
      refine v_iconst (v := 1) F dX12_leave_239 (by decide) ?_
      refine v_isub F dX12_leave_240 ?_
      refine p_X12_282 F r_a h dX12_leave_241 (fun S4 h hE => ?_)
      have r_a := r_a.tr hE
      exact v_vret F hQ h (by decide) dX12_leave_244)
    refine v_case h (fun e8 h => ?_) (fun e8 h => ?_)
    · refine v_tableIn (tgt := 60) F dX12_leave_26 (by rw [e8]; decide) (by rw [e8]; decide) (by rw [e8]; rfl) (by decide) ?_
      refine v_aload_n F dX12_leave_60 0 rfl rfl ?_
      refine v_dup F dX12_leave_61 rfl ?_
      refine g_X12_326 F r_a dX12_leave_62 ?_
      refine v_iconst (v := 1) F dX12_leave_65 (by decide) ?_
      refine v_isub F dX12_leave_66 ?_
      refine p_X12_326 F r_a h dX12_leave_67 (fun S5 h hE => ?_)
      have r_a := r_a.tr hE
      refine v_aload_n F dX12_leave_70 0 rfl rfl ?_
      refine v_aload_n F dX12_leave_71 0 rfl rfl ?_
      refine g_X12_320 F r_a h dX12_leave_72 (fun b6 r_b6 h => ?_)
      refine v_iload_n F dX12_leave_75 1 rfl rfl ?_
      refine v_iald F r_b6 o_90 h dX12_leave_76 (fun h => ?_)
      refine p_X12_323 F r_a h dX12_leave_77 (fun S7 h hE => ?_)
      have r_a := r_a.tr hE
      refine v_goto (tgt := 234) F dX12_leave_80 (by decide) ?_
      exact v_sub [0] rfl (h r_a)
    refine v_case h (fun e17 h => ?_) (fun e17 h => ?_)
    · refine v_tableIn (tgt := 83) F dX12_leave_26 (by rw [e17]; decide) (by rw [e17]; decide) (by rw [e17]; rfl) (by decide) ?_
      refine v_aload_n F dX12_leave_83 0 rfl rfl ?_
      refine g_X12_329 F r_a h dX12_leave_84 (fun b9 r_b9 h => ?_)
      refine v_iload_n F dX12_leave_87 1 rfl rfl ?_
      refine v_dup2 F dX12_leave_88 rfl rfl ?_
      refine v_iald F r_b9 o_89 h dX12_leave_89 (fun h => ?_)
      refine v_iconst (v := 1) F dX12_leave_90 (by decide) ?_
      refine v_isub F dX12_leave_91 ?_
      refine v_iast F r_b9 o_89 h dX12_leave_92 (fun S10 h hE => ?_)
      have r_a := r_a.tr hE
      refine v_aload_n F dX12_leave_93 0 rfl rfl ?_
      refine g_X12_329 F r_a h dX12_leave_94 (fun b11 r_b11 h => ?_)
      refine v_iload_n F dX12_leave_97 1 rfl rfl ?_
      refine v_iald F r_b11 o_89 h dX12_leave_98 (fun h => ?_)
      refine v_if_le (tgt := 234) F dX12_leave_99 (by decide) h (fun h => ?_) (fun h => ?_)
      · exact v_sub [0] rfl (h r_a)
      · refine v_aload_n F dX12_leave_102 0 rfl rfl ?_
        refine v_iload_n F dX12_leave_103 2 rfl rfl ?_
        refine v_cV0 (v_runV F k_X12_300 rfl (c_X12_step r_a h) r_a rfl rfl (Nat.le_of_ble_eq_true rfl) (by decide) (by decide) dX12_leave_104) ⟨rfl, rfl⟩ (fun  S12 h hE => ?_)
        have r_a := r_a.tr hE
        refine v_aload_n F dX12_leave_107 0 rfl rfl ?_
        refine g_X12_285 F r_a h dX12_leave_108 (fun b13 r_b13 h => ?_)
        refine v_iload_n F dX12_leave_111 1 rfl rfl ?_
        refine v_aload_n F dX12_leave_112 0 rfl rfl ?_
        refine g_X12_99 F r_a h dX12_leave_113 (fun b14 r_b14 h => ?_)
        refine v_aload_n F dX12_leave_116 0 rfl rfl ?_
        refine g_X12_288 F r_a h dX12_leave_117 (fun b15 r_b15 h => ?_)
        refine v_iload_n F dX12_leave_120 1 rfl rfl ?_
        refine v_iald F r_b15 o_92 h dX12_leave_121 (fun h => ?_)
        refine v_iald F r_b14 o_46 h dX12_leave_122 (fun h => ?_)
        refine v_iast F r_b13 o_86 h dX12_leave_123 (fun S16 h hE => ?_)
        have r_a := r_a.tr hE
        exact v_vret F hQ h (by decide) dX12_leave_124
    refine v_case h (fun e23 h => ?_) (fun e23 h => ?_)
    · refine v_tableIn (tgt := 125) F dX12_leave_26 (by rw [e23]; decide) (by rw [e23]; decide) (by rw [e23]; rfl) (by decide) ?_
      refine v_aload_n F dX12_leave_125 0 rfl rfl ?_
      refine v_dup F dX12_leave_126 rfl ?_
      refine g_X12_368 F r_a dX12_leave_127 ?_
      refine v_iconst (v := 1) F dX12_leave_130 (by decide) ?_
      refine v_isub F dX12_leave_131 ?_
      refine p_X12_368 F r_a h dX12_leave_132 (fun S18 h hE => ?_)
      have r_a := r_a.tr hE
      refine v_aload_n F dX12_leave_135 0 rfl rfl ?_
      refine v_aload_n F dX12_leave_136 0 rfl rfl ?_
      refine g_X12_371 F r_a h dX12_leave_137 (fun b19 r_b19 h => ?_)
      refine v_iload_n F dX12_leave_140 1 rfl rfl ?_
      refine v_lald F r_b19 o_94 h dX12_leave_141 (fun h => ?_)
      refine p_X12_374 F r_a h dX12_leave_142 (fun S20 h hE => ?_)
      have r_a := r_a.tr hE
      refine v_aload_n F dX12_leave_145 0 rfl rfl ?_
      refine v_aload_n F dX12_leave_146 0 rfl rfl ?_
      refine g_X12_377 F r_a h dX12_leave_147 (fun b21 r_b21 h => ?_)
      refine v_iload_n F dX12_leave_150 1 rfl rfl ?_
      refine v_lald F r_b21 o_95 h dX12_leave_151 (fun h => ?_)
      refine p_X12_380 F r_a h dX12_leave_152 (fun S22 h hE => ?_)
      have r_a := r_a.tr hE
      refine v_goto (tgt := 234) F dX12_leave_155 (by decide) ?_
      exact v_sub [0] rfl (h r_a)
    refine v_case h (fun e28 h => ?_) (fun e28 h => ?_)
    · refine v_tableIn (tgt := 158) F dX12_leave_26 (by rw [e28]; decide) (by rw [e28]; decide) (by rw [e28]; rfl) (by decide) ?_
      refine v_aload_n F dX12_leave_158 0 rfl rfl ?_
      refine v_dup F dX12_leave_159 rfl ?_
      refine g_X12_335 F r_a dX12_leave_160 ?_
      refine v_aload_n F dX12_leave_163 0 rfl rfl ?_
      refine g_X12_93 F r_a h dX12_leave_164 (fun b24 r_b24 h => ?_)
      refine v_iload_n F dX12_leave_167 2 rfl rfl ?_
      refine v_iald F r_b24 o_44 h dX12_leave_168 (fun h => ?_)
      refine v_isub F dX12_leave_169 ?_
      refine p_X12_335 F r_a h dX12_leave_170 (fun S25 h hE => ?_)
      have r_a := r_a.tr hE
      refine v_aload_n F dX12_leave_173 0 rfl rfl ?_
      refine v_dup F dX12_leave_174 rfl ?_
      refine g_X12_338 F r_a dX12_leave_175 ?_
      refine v_aload_n F dX12_leave_178 0 rfl rfl ?_
      refine g_X12_96 F r_a h dX12_leave_179 (fun b26 r_b26 h => ?_)
      refine v_iload_n F dX12_leave_182 2 rfl rfl ?_
      refine v_iald F r_b26 o_45 h dX12_leave_183 (fun h => ?_)
      refine v_isub F dX12_leave_184 ?_
      refine p_X12_338 F r_a h dX12_leave_185 (fun S27 h hE => ?_)
      have r_a := r_a.tr hE
      refine v_goto (tgt := 234) F dX12_leave_188 (by decide) ?_
      exact v_sub [0] rfl (h r_a)
    refine v_case h (fun e31 h => ?_) (fun e31 h => ?_)
    · refine v_tableIn (tgt := 191) F dX12_leave_26 (by rw [e31]; decide) (by rw [e31]; decide) (by rw [e31]; rfl) (by decide) ?_
      refine v_aload_n F dX12_leave_191 0 rfl rfl ?_
      refine v_iload_n F dX12_leave_192 1 rfl rfl ?_
      refine v_iload_n F dX12_leave_193 2 rfl rfl ?_
      refine v_cI0 (v_runV F k_X12_383 rfl (c_X12_isGoingOn r_a h) r_a rfl rfl (Nat.le_of_ble_eq_true rfl) (by decide) (by decide) dX12_leave_194) ⟨rfl, rfl⟩ (fun r30 S29 h hE => ?_)
      obtain ⟨nz_r30, h⟩ := h
      have r_a := r_a.tr hE
      refine v_if_eq (tgt := 234) F dX12_leave_197 (by decide) h (fun h => ?_) (fun h => ?_)
      · exact v_sub [0] rfl (h r_a)
      · exact v_vret F hQ h (by decide) dX12_leave_200
    refine v_tableOut (tgt := 201) F dX12_leave_26 (by have q0 := lv_neT (a := 3) e8 rfl; have q1 := lv_neT (a := 4) e17 rfl; have q2 := lv_neT (a := 5) e23 rfl; have q3 := lv_neT (a := 6) e28 rfl; have q4 := lv_neT (a := 7) e31 rfl; omega) (by decide) ?_
    refine v_aload_n F dX12_leave_201 0 rfl rfl ?_
    refine v_dup F dX12_leave_202 rfl ?_
    refine g_X12_387 F r_a dX12_leave_203 ?_
    refine v_iconst (v := 1) F dX12_leave_206 (by decide) ?_
    refine v_isub F dX12_leave_207 ?_
    refine p_X12_387 F r_a h dX12_leave_208 (fun S32 h hE => ?_)
    have r_a := r_a.tr hE
    refine v_aload_n F dX12_leave_211 0 rfl rfl ?_
    refine v_dup F dX12_leave_212 rfl ?_
    refine g_X12_390 F r_a dX12_leave_213 ?_
    refine v_aload_n F dX12_leave_216 0 rfl rfl ?_
    refine g_X12_93 F r_a h dX12_leave_217 (fun b33 r_b33 h => ?_)
    refine v_iload_n F dX12_leave_220 2 rfl rfl ?_
    refine v_iald F r_b33 o_44 h dX12_leave_221 (fun h => ?_)
    have h := h (fun (t34 : Nat) (t35 : Int32) (t36 : Int32) (S37 : PS) => Rf S37 a 9 → Rf S37 t34 9 → VV X (0, 0) S37 [(0, .ref a)] [.int t36, .int t35, .ref t34] 230) (by
      intro t34 t35 t36 S37 h r_a r_t34
      refine v_isub F dX12_leave_230 ?_
      refine p_X12_390 F r_t34 h dX12_leave_231 (fun S39 h hE => ?_)
      have r_a := r_a.tr hE
      exact v_sub [0] rfl (h r_a))
    refine v_if_ge (tgt := 229) F dX12_leave_222 (by decide) h (fun h => ?_) (fun h => ?_)
    · refine v_iconst (v := 1) F dX12_leave_229 (by decide) ?_
      exact v_sub [0] rfl (h r_a r_a)
    · refine v_iconst (v := 0) F dX12_leave_225 (by decide) ?_
      refine v_goto (tgt := 230) F dX12_leave_226 (by decide) ?_
      exact v_sub [0] rfl (h r_a r_a)
  · refine v_aload_n F dX12_leave_5 0 rfl rfl ?_
    refine v_cV0 (v_runV F k_X12_365 rfl (c_X12_endOfVoice r_a h) r_a rfl rfl (Nat.le_of_ble_eq_true rfl) (by decide) (by decide) dX12_leave_6) ⟨rfl, rfl⟩ (fun  S40 h hE => ?_)
    have r_a := r_a.tr hE
    refine v_aload_n F dX12_leave_9 0 rfl rfl ?_
    refine v_dup F dX12_leave_10 rfl ?_
    refine g_X12_282 F r_a dX12_leave_11 ?_
    refine v_iconst (v := 1) F dX12_leave_14 (by decide) ?_
    refine v_isub F dX12_leave_15 ?_
    refine p_X12_282 F r_a h dX12_leave_16 (fun S41 h hE => ?_)
    have r_a := r_a.tr hE
    exact v_vret F hQ h (by decide) dX12_leave_19
theorem dX12_floor_0 : decode cX12_floor 0 = .ok (.iload_n 0, 1) := by decide +kernel
theorem dX12_floor_1 : decode cX12_floor 1 = .ok (.ifCond .lt 9, 3) := by decide +kernel
theorem dX12_floor_4 : decode cX12_floor 4 = .ok (.iload_n 0, 1) := by decide +kernel
theorem dX12_floor_5 : decode cX12_floor 5 = .ok (.iload_n 1, 1) := by decide +kernel
theorem dX12_floor_6 : decode cX12_floor 6 = .ok (.idiv, 1) := by decide +kernel
theorem dX12_floor_7 : decode cX12_floor 7 = .ok (.goto 11, 3) := by decide +kernel
theorem dX12_floor_10 : decode cX12_floor 10 = .ok (.iload_n 1, 1) := by decide +kernel
theorem dX12_floor_11 : decode cX12_floor 11 = .ok (.iconst 1, 1) := by decide +kernel
theorem dX12_floor_12 : decode cX12_floor 12 = .ok (.isub, 1) := by decide +kernel
theorem dX12_floor_13 : decode cX12_floor 13 = .ok (.iload_n 0, 1) := by decide +kernel
theorem dX12_floor_14 : decode cX12_floor 14 = .ok (.isub, 1) := by decide +kernel
theorem dX12_floor_15 : decode cX12_floor 15 = .ok (.iload_n 1, 1) := by decide +kernel
theorem dX12_floor_16 : decode cX12_floor 16 = .ok (.idiv, 1) := by decide +kernel
theorem dX12_floor_17 : decode cX12_floor 17 = .ok (.ineg, 1) := by decide +kernel
theorem dX12_floor_18 : decode cX12_floor 18 = .ok (.ireturn, 1) := by decide +kernel
abbrev rm_X12_floor : Room := { frames := 0, cells := 0, slots := 0, locals := 0 }
def wp_X12_floor (p1 : Int32) (p2 : Int32) (S : PS) (Q : Int32 → PS → Prop) : Prop :=
  (if p1 < 0 then
 (¬ p2 = 0 ∧ Q (-(((p2 - 1) - p1) / p2)) S)
 else
 (¬ p2 = 0 ∧ Q (p1 / p2) S))
set_option maxRecDepth 100000 in
set_option maxHeartbeats 4000000 in
theorem c_X12_floor {l : Launch} {E : EE} {A : Nat → Prop} {p1 : Int32} {p2 : Int32} {S : PS} {Q : Int32 → PS → Prop} (h : wp_X12_floor p1 p2 S Q) : MtI l yX12_floor (.code yX12_floor cX12_floor 2 (some .int)) rm_X12_floor E A [.int p1, .int p2] S Q := by
  refine MtI.of (by decide) (Nat.le_of_ble_eq_true rfl) (fun X F hQ hN => ?_)
  show VV X (0, 0) S [(0, .int p1), (1, .int p2)] [] 0
  unfold wp_X12_floor at h
  refine v_iload_n F dX12_floor_0 0 rfl rfl ?_
  refine v_if_lt (tgt := 10) F dX12_floor_1 (by decide) h (fun h => ?_) (fun h => ?_)
  · refine v_iload_n F dX12_floor_10 1 rfl rfl ?_
    refine v_iconst (v := 1) F dX12_floor_11 (by decide) ?_
    refine v_isub F dX12_floor_12 ?_
    refine v_iload_n F dX12_floor_13 0 rfl rfl ?_
    refine v_isub F dX12_floor_14 ?_
    refine v_iload_n F dX12_floor_15 1 rfl rfl ?_
    refine v_idiv F dX12_floor_16 h.1 ?_
    have h := h.2
    refine v_ineg F dX12_floor_17 ?_
    exact v_iret F hQ h (by decide) dX12_floor_18
  · refine v_iload_n F dX12_floor_4 0 rfl rfl ?_
    refine v_iload_n F dX12_floor_5 1 rfl rfl ?_
    refine v_idiv F dX12_floor_6 h.1 ?_
    have h := h.2
    refine v_goto (tgt := 18) F dX12_floor_7 (by decide) ?_
    exact v_iret F hQ h (by decide) dX12_floor_18
theorem dX12_find_0 : decode cX12_find 0 = .ok (.aload_n 0, 1) := by decide +kernel
theorem dX12_find_1 : decode cX12_find 1 = .ok (.getfield 198, 3) := by decide +kernel
theorem dX12_find_4 : decode cX12_find 4 = .ok (.iload_n 2, 1) := by decide +kernel
theorem dX12_find_5 : decode cX12_find 5 = .ok (.iaload, 1) := by decide +kernel
theorem dX12_find_6 : decode cX12_find 6 = .ok (.istore_n 3, 1) := by decide +kernel
theorem dX12_find_7 : decode cX12_find 7 = .ok (.aload_n 0, 1) := by decide +kernel
theorem dX12_find_8 : decode cX12_find 8 = .ok (.getfield 326, 3) := by decide +kernel
theorem dX12_find_11 : decode cX12_find 11 = .ok (.ifCond .le 19, 3) := by decide +kernel
theorem dX12_find_14 : decode cX12_find 14 = .ok (.aload_n 0, 1) := by decide +kernel
theorem dX12_find_15 : decode cX12_find 15 = .ok (.getfield 323, 3) := by decide +kernel
theorem dX12_find_18 : decode cX12_find 18 = .ok (.iload_n 3, 1) := by decide +kernel
theorem dX12_find_19 : decode cX12_find 19 = .ok (.isub, 1) := by decide +kernel
theorem dX12_find_20 : decode cX12_find 20 = .ok (.iconst 3, 1) := by decide +kernel
theorem dX12_find_21 : decode cX12_find 21 = .ok (.iadd, 1) := by decide +kernel
theorem dX12_find_22 : decode cX12_find 22 = .ok (.bipush 7, 2) := by decide +kernel
theorem dX12_find_24 : decode cX12_find 24 = .ok (.invokestatic 393, 3) := by decide +kernel
theorem dX12_find_27 : decode cX12_find 27 = .ok (.goto 4, 3) := by decide +kernel
theorem dX12_find_30 : decode cX12_find 30 = .ok (.iconst 4, 1) := by decide +kernel
theorem dX12_find_31 : decode cX12_find 31 = .ok (.aload_n 0, 1) := by decide +kernel
theorem dX12_find_32 : decode cX12_find 32 = .ok (.getfield 207, 3) := by decide +kernel
theorem dX12_find_35 : decode cX12_find 35 = .ok (.iload_n 2, 1) := by decide +kernel
theorem dX12_find_36 : decode cX12_find 36 = .ok (.iaload, 1) := by decide +kernel
theorem dX12_find_37 : decode cX12_find 37 = .ok (.iadd, 1) := by decide +kernel
theorem dX12_find_38 : decode cX12_find 38 = .ok (.istore 4, 2) := by decide +kernel
theorem dX12_find_40 : decode cX12_find 40 = .ok (.aload_n 0, 1) := by decide +kernel
theorem dX12_find_41 : decode cX12_find 41 = .ok (.bipush 7, 2) := by decide +kernel
theorem dX12_find_43 : decode cX12_find 43 = .ok (.iload 4, 2) := by decide +kernel
theorem dX12_find_45 : decode cX12_find 45 = .ok (.imul, 1) := by decide +kernel
theorem dX12_find_46 : decode cX12_find 46 = .ok (.iload_n 3, 1) := by decide +kernel
theorem dX12_find_47 : decode cX12_find 47 = .ok (.iadd, 1) := by decide +kernel
theorem dX12_find_48 : decode cX12_find 48 = .ok (.putfield 323, 3) := by decide +kernel
theorem dX12_find_51 : decode cX12_find 51 = .ok (.aload_n 0, 1) := by decide +kernel
theorem dX12_find_52 : decode cX12_find 52 = .ok (.getfield 323, 3) := by decide +kernel
theorem dX12_find_55 : decode cX12_find 55 = .ok (.aload_n 0, 1) := by decide +kernel
theorem dX12_find_56 : decode cX12_find 56 = .ok (.getfield 335, 3) := by decide +kernel
theorem dX12_find_59 : decode cX12_find 59 = .ok (.iadd, 1) := by decide +kernel
theorem dX12_find_60 : decode cX12_find 60 = .ok (.istore 5, 2) := by decide +kernel
theorem dX12_find_62 : decode cX12_find 62 = .ok (.aload_n 0, 1) := by decide +kernel
theorem dX12_find_63 : decode cX12_find 63 = .ok (.getfield 396, 3) := by decide +kernel
theorem dX12_find_66 : decode cX12_find 66 = .ok (.iload_n 1, 1) := by decide +kernel
theorem dX12_find_67 : decode cX12_find 67 = .ok (.iload 5, 2) := by decide +kernel
theorem dX12_find_69 : decode cX12_find 69 = .ok (.bipush 7, 2) := by decide +kernel
theorem dX12_find_71 : decode cX12_find 71 = .ok (.invokestatic 393, 3) := by decide +kernel
theorem dX12_find_74 : decode cX12_find 74 = .ok (.iastore, 1) := by decide +kernel
theorem dX12_find_75 : decode cX12_find 75 = .ok (.aload_n 0, 1) := by decide +kernel
theorem dX12_find_76 : decode cX12_find 76 = .ok (.getfield 399, 3) := by decide +kernel
theorem dX12_find_79 : decode cX12_find 79 = .ok (.iload_n 1, 1) := by decide +kernel
theorem dX12_find_80 : decode cX12_find 80 = .ok (.iload 5, 2) := by decide +kernel
theorem dX12_find_82 : decode cX12_find 82 = .ok (.bipush 7, 2) := by decide +kernel
theorem dX12_find_84 : decode cX12_find 84 = .ok (.aload_n 0, 1) := by decide +kernel
theorem dX12_find_85 : decode cX12_find 85 = .ok (.getfield 396, 3) := by decide +kernel
theorem dX12_find_88 : decode cX12_find 88 = .ok (.iload_n 1, 1) := by decide +kernel
theorem dX12_find_89 : decode cX12_find 89 = .ok (.iaload, 1) := by decide +kernel
theorem dX12_find_90 : decode cX12_find 90 = .ok (.imul, 1) := by decide +kernel
theorem dX12_find_91 : decode cX12_find 91 = .ok (.isub, 1) := by decide +kernel
theorem dX12_find_92 : decode cX12_find 92 = .ok (.iastore, 1) := by decide +kernel
theorem dX12_find_93 : decode cX12_find 93 = .ok (.aload_n 0, 1) := by decide +kernel
theorem dX12_find_94 : decode cX12_find 94 = .ok (.getfield 402, 3) := by decide +kernel
theorem dX12_find_97 : decode cX12_find 97 = .ok (.iload_n 1, 1) := by decide +kernel
theorem dX12_find_98 : decode cX12_find 98 = .ok (.bipush 12, 2) := by decide +kernel
theorem dX12_find_100 : decode cX12_find 100 = .ok (.iload 4, 2) := by decide +kernel
theorem dX12_find_102 : decode cX12_find 102 = .ok (.imul, 1) := by decide +kernel
theorem dX12_find_103 : decode cX12_find 103 = .ok (.iload_n 3, 1) := by decide +kernel
theorem dX12_find_104 : decode cX12_find 104 = .ok (.invokestatic 405, 3) := by decide +kernel
theorem dX12_find_107 : decode cX12_find 107 = .ok (.iadd, 1) := by decide +kernel
theorem dX12_find_108 : decode cX12_find 108 = .ok (.aload_n 0, 1) := by decide +kernel
theorem dX12_find_109 : decode cX12_find 109 = .ok (.getfield 201, 3) := by decide +kernel
theorem dX12_find_112 : decode cX12_find 112 = .ok (.iload_n 2, 1) := by decide +kernel
theorem dX12_find_113 : decode cX12_find 113 = .ok (.iaload, 1) := by decide +kernel
theorem dX12_find_114 : decode cX12_find 114 = .ok (.iadd, 1) := by decide +kernel
theorem dX12_find_115 : decode cX12_find 115 = .ok (.aload_n 0, 1) := by decide +kernel
theorem dX12_find_116 : decode cX12_find 116 = .ok (.getfield 338, 3) := by decide +kernel
theorem dX12_find_119 : decode cX12_find 119 = .ok (.iadd, 1) := by decide +kernel
theorem dX12_find_120 : decode cX12_find 120 = .ok (.bipush 12, 2) := by decide +kernel
theorem dX12_find_122 : decode cX12_find 122 = .ok (.aload_n 0, 1) := by decide +kernel
theorem dX12_find_123 : decode cX12_find 123 = .ok (.getfield 396, 3) := by decide +kernel
theorem dX12_find_126 : decode cX12_find 126 = .ok (.iload_n 1, 1) := by decide +kernel
theorem dX12_find_127 : decode cX12_find 127 = .ok (.iaload, 1) := by decide +kernel
theorem dX12_find_128 : decode cX12_find 128 = .ok (.imul, 1) := by decide +kernel
theorem dX12_find_129 : decode cX12_find 129 = .ok (.isub, 1) := by decide +kernel
theorem dX12_find_130 : decode cX12_find 130 = .ok (.aload_n 0, 1) := by decide +kernel
theorem dX12_find_131 : decode cX12_find 131 = .ok (.getfield 399, 3) := by decide +kernel
theorem dX12_find_134 : decode cX12_find 134 = .ok (.iload_n 1, 1) := by decide +kernel
theorem dX12_find_135 : decode cX12_find 135 = .ok (.iaload, 1) := by decide +kernel
theorem dX12_find_136 : decode cX12_find 136 = .ok (.invokestatic 405, 3) := by decide +kernel
theorem dX12_find_139 : decode cX12_find 139 = .ok (.isub, 1) := by decide +kernel
theorem dX12_find_140 : decode cX12_find 140 = .ok (.iastore, 1) := by decide +kernel
theorem dX12_find_141 : decode cX12_find 141 = .ok (.aload_n 0, 1) := by decide +kernel
theorem dX12_find_142 : decode cX12_find 142 = .ok (.getfield 402, 3) := by decide +kernel
theorem dX12_find_145 : decode cX12_find 145 = .ok (.iload_n 1, 1) := by decide +kernel
theorem dX12_find_146 : decode cX12_find 146 = .ok (.iaload, 1) := by decide +kernel
theorem dX12_find_147 : decode cX12_find 147 = .ok (.i2l, 1) := by decide +kernel
theorem dX12_find_148 : decode cX12_find 148 = .ok (.ldc2_w 409, 3) := by decide +kernel
theorem dX12_find_151 : decode cX12_find 151 = .ok (.ldc2_w 65, 3) := by decide +kernel
theorem dX12_find_154 : decode cX12_find 154 = .ok (.invokestatic 9, 3) := by decide +kernel
theorem dX12_find_157 : decode cX12_find 157 = .ok (.ifCond .eq 24, 3) := by decide +kernel
theorem dX12_find_160 : decode cX12_find 160 = .ok (.aload_n 0, 1) := by decide +kernel
theorem dX12_find_161 : decode cX12_find 161 = .ok (.getfield 396, 3) := by decide +kernel
theorem dX12_find_164 : decode cX12_find 164 = .ok (.iload_n 1, 1) := by decide +kernel
theorem dX12_find_165 : decode cX12_find 165 = .ok (.iaload, 1) := by decide +kernel
theorem dX12_find_166 : decode cX12_find 166 = .ok (.i2l, 1) := by decide +kernel
theorem dX12_find_167 : decode cX12_find 167 = .ok (.lconst 0, 1) := by decide +kernel
theorem dX12_find_168 : decode cX12_find 168 = .ok (.ldc2_w 411, 3) := by decide +kernel
theorem dX12_find_171 : decode cX12_find 171 = .ok (.invokestatic 9, 3) := by decide +kernel
theorem dX12_find_174 : decode cX12_find 174 = .ok (.ifCond .eq 7, 3) := by decide +kernel
theorem dX12_find_177 : decode cX12_find 177 = .ok (.iconst 1, 1) := by decide +kernel
theorem dX12_find_178 : decode cX12_find 178 = .ok (.goto 4, 3) := by decide +kernel
theorem dX12_find_181 : decode cX12_find 181 = .ok (.iconst 0, 1) := by decide +kernel
theorem dX12_find_182 : decode cX12_find 182 = .ok (.ireturn, 1) := by decide +kernel
abbrev rm_X12_find : Room := { frames := 1, cells := 0, slots := 0, locals := 25 }
def wp_X12_find (a : Nat) (p1 : Int32) (p2 : Int32) (S : PS) (Q : Int32 → PS → Prop) : Prop :=
  (∃ b1, fR S 114 a = some b1 ∧ (vp_in p2 (aN S b1) ∧ (∀ v2, v2 = aI S 50 b1 (p2).toNatClampNeg → (∀ K31_5 : Int32 → PS → Prop, (∀ (t3 : Int32) (S4 : PS),
 (∃ b6, fR S4 116 a = some b6 ∧ (vp_in p2 (aN S4 b6) ∧ (∀ v7, v7 = t3 + (aI S4 52 b6 (p2).toNatClampNeg) → (∀ S8, S8 = sI S4 158 a (((7 : Int32) * v7) + v2) → (∀ v9, v9 = (fI S8 158 a) + (fI S8 163 a) → (∃ b10, fR S8 172 a = some b10 ∧ wp_X12_floor v9 7 S8 (fun (r12 : Int32) (S11 : PS) => 
 (vp_in p1 (aN S11 b10) ∧ ∀ S13, S13 = wI S11 85 b10 (p1).toNatClampNeg r12 → (∃ b14, fR S13 170 a = some b14 ∧ (∃ b15, fR S13 172 a = some b15 ∧ (vp_in p1 (aN S13 b15) ∧ (vp_in p1 (aN S13 b14) ∧ ∀ S16, S16 = wI S13 83 b14 (p1).toNatClampNeg (v9 - ((7 : Int32) * (aI S13 85 b15 (p1).toNatClampNeg))) → (∃ b17, fR S16 171 a = some b17 ∧ wp_X12_halves v2 S16 (fun (r19 : Int32) (S18 : PS) => 
 (∃ b20, fR S18 115 a = some b20 ∧ (vp_in p2 (aN S18 b20) ∧ (∃ b21, fR S18 172 a = some b21 ∧ (vp_in p1 (aN S18 b21) ∧ (∃ b22, fR S18 170 a = some b22 ∧ (vp_in p1 (aN S18 b22) ∧ wp_X12_halves (aI S18 83 b22 (p1).toNatClampNeg) S18 (fun (r24 : Int32) (S23 : PS) => 
 (vp_in p1 (aN S23 b17) ∧ ∀ S25, S25 = wI S23 84 b17 (p1).toNatClampNeg (((((((12 : Int32) * v7) + r19) + (aI S18 51 b20 (p2).toNatClampNeg)) + (fI S18 164 a)) - ((12 : Int32) * (aI S18 85 b21 (p1).toNatClampNeg))) - r24) → (∃ b26, fR S25 171 a = some b26 ∧ (vp_in p1 (aN S25 b26) ∧ wp_X12_in ((aI S25 84 b26 (p1).toNatClampNeg).toInt64) (-2) 2 S25 (fun (r28 : Int32) (S27 : PS) => 
 (if r28 = 0 then
 Q 0 S27
 else
 (∃ b29, fR S27 172 a = some b29 ∧ (vp_in p1 (aN S27 b29) ∧ wp_X12_in ((aI S27 85 b29 (p1).toNatClampNeg).toInt64) 0 9 S27 (fun (r31 : Int32) (S30 : PS) => 
 (if r31 = 0 then
 Q 0 S30
 else
 Q 1 S30))))))))))))))))))))))))))))))
 → K31_5 t3 S4) →
 (if fI S 159 a ≤ 0 then
 K31_5 4 S
 else
 wp_X12_floor (((fI S 158 a) - v2) + 3) 7 S (fun (r33 : Int32) (S32 : PS) => 
 K31_5 r33 S32))))))
set_option maxRecDepth 100000 in
set_option maxHeartbeats 4000000 in
theorem c_X12_find {l : Launch} {E : EE} {A : Nat → Prop} {a : Nat} {p1 : Int32} {p2 : Int32} {S : PS} {Q : Int32 → PS → Prop} (r_a : Rf S a 9) (h : wp_X12_find a p1 p2 S Q) : MtI l yX12_find (.code yX12_find cX12_find 6 (some .boolean)) rm_X12_find E A [.ref a, .int p1, .int p2] S (fun r S1 => nz r ∧ Q r S1) := by
  refine MtI.of (by decide) (Nat.le_of_ble_eq_true rfl) (fun X F hQ hN => ?_)
  show VV X (0, 0) S [(0, .ref a), (1, .int p1), (2, .int p2)] [] 0
  unfold wp_X12_find at h
  refine v_aload_n F dX12_find_0 0 rfl rfl ?_
  refine g_X12_198 F r_a h dX12_find_1 (fun b1 r_b1 h => ?_)
  refine v_iload_n F dX12_find_4 2 rfl rfl ?_
  refine v_iald F r_b1 o_50 h dX12_find_5 (fun h => ?_)
  refine v_topi (fun v2 e_v2 => ?_)
  have h := h v2 e_v2
  refine v_istore_n (lv1 := [(3, .int v2), (0, .ref a), (1, .int p1), (2, .int p2)]) F dX12_find_6 rfl (by rw [hN]; decide) rfl ?_
  refine v_aload_n F dX12_find_7 1 rfl rfl ?_
  refine g_X12_326 F r_a dX12_find_8 ?_
  have h := h (fun (t3 : Int32) (S4 : PS) => Rf S4 a 9 → VV X (0, 0) S4 [(0, .ref a), (1, .int p1), (2, .int p2), (3, .int v2)] [.int t3] 31) (by
    intro t3 S4 h r_a
    refine v_aload_n F dX12_find_31 0 rfl rfl ?_
    refine g_X12_207 F r_a h dX12_find_32 (fun b6 r_b6 h => ?_)
    refine v_iload_n F dX12_find_35 2 rfl rfl ?_
    refine v_iald F r_b6 o_52 h dX12_find_36 (fun h => ?_)
    refine v_iadd F dX12_find_37 ?_
    refine v_topi (fun v7 e_v7 => ?_)
    have h := h v7 e_v7
    refine v_istore (lv1 := [(4, .int v7), (0, .ref a), (1, .int p1), (2, .int p2), (3, .int v2)]) F dX12_find_38 (by rw [hN]; decide) rfl ?_
    refine v_aload_n F dX12_find_40 1 rfl rfl ?_
    refine v_bipush (v := 7) F dX12_find_41 (by decide) ?_
    refine v_iload F dX12_find_43 0 rfl ?_
    refine v_imul F dX12_find_45 ?_
    refine v_iload_n F dX12_find_46 4 rfl rfl ?_
    refine v_iadd F dX12_find_47 ?_
    refine p_X12_323 F r_a h dX12_find_48 (fun S8 h hE => ?_)
    have r_a := r_a.tr hE
    refine v_aload_n F dX12_find_51 1 rfl rfl ?_
    refine g_X12_323 F r_a dX12_find_52 ?_
    refine v_aload_n F dX12_find_55 1 rfl rfl ?_
    refine g_X12_335 F r_a dX12_find_56 ?_
    refine v_iadd F dX12_find_59 ?_
    refine v_topi (fun v9 e_v9 => ?_)
    have h := h v9 e_v9
    refine v_istore (lv1 := [(5, .int v9), (4, .int v7), (0, .ref a), (1, .int p1), (2, .int p2), (3, .int v2)]) F dX12_find_60 (by rw [hN]; decide) rfl ?_
    refine v_aload_n F dX12_find_62 2 rfl rfl ?_
    refine g_X12_396 F r_a h dX12_find_63 (fun b10 r_b10 h => ?_)
    refine v_iload_n F dX12_find_66 3 rfl rfl ?_
    refine v_iload F dX12_find_67 0 rfl ?_
    refine v_bipush (v := 7) F dX12_find_69 (by decide) ?_
    refine v_cI0 (v_runS F k_X12_393 (c_X12_floor h) rfl rfl (Nat.le_of_ble_eq_true rfl) (by decide) (by decide) dX12_find_71) ⟨rfl, rfl⟩ (fun r12 S11 h hE => ?_)
    have r_a := r_a.tr hE
    have r_b10 := r_b10.tr hE
    refine v_iast F r_b10 o_85 h dX12_find_74 (fun S13 h hE => ?_)
    have r_a := r_a.tr hE
    refine v_aload_n F dX12_find_75 2 rfl rfl ?_
    refine g_X12_399 F r_a h dX12_find_76 (fun b14 r_b14 h => ?_)
    refine v_iload_n F dX12_find_79 3 rfl rfl ?_
    refine v_iload F dX12_find_80 0 rfl ?_
    refine v_bipush (v := 7) F dX12_find_82 (by decide) ?_
    refine v_aload_n F dX12_find_84 2 rfl rfl ?_
    refine g_X12_396 F r_a h dX12_find_85 (fun b15 r_b15 h => ?_)
    refine v_iload_n F dX12_find_88 3 rfl rfl ?_
    refine v_iald F r_b15 o_85 h dX12_find_89 (fun h => ?_)
    refine v_imul F dX12_find_90 ?_
    refine v_isub F dX12_find_91 ?_
    refine v_iast F r_b14 o_83 h dX12_find_92 (fun S16 h hE => ?_)
    have r_a := r_a.tr hE
    refine v_aload_n F dX12_find_93 2 rfl rfl ?_
    refine g_X12_402 F r_a h dX12_find_94 (fun b17 r_b17 h => ?_)
    refine v_iload_n F dX12_find_97 3 rfl rfl ?_
    refine v_bipush (v := 12) F dX12_find_98 (by decide) ?_
    refine v_iload F dX12_find_100 1 rfl ?_
    refine v_imul F dX12_find_102 ?_
    refine v_iload_n F dX12_find_103 5 rfl rfl ?_
    refine v_cI0 (v_runS F k_X12_405 (c_X12_halves h) rfl rfl (Nat.le_of_ble_eq_true rfl) (by decide) (by decide) dX12_find_104) ⟨rfl, rfl⟩ (fun r19 S18 h hE => ?_)
    have r_a := r_a.tr hE
    have r_b17 := r_b17.tr hE
    refine v_iadd F dX12_find_107 ?_
    refine v_aload_n F dX12_find_108 2 rfl rfl ?_
    refine g_X12_201 F r_a h dX12_find_109 (fun b20 r_b20 h => ?_)
    refine v_iload_n F dX12_find_112 4 rfl rfl ?_
    refine v_iald F r_b20 o_51 h dX12_find_113 (fun h => ?_)
    refine v_iadd F dX12_find_114 ?_
    refine v_aload_n F dX12_find_115 2 rfl rfl ?_
    refine g_X12_338 F r_a dX12_find_116 ?_
    refine v_iadd F dX12_find_119 ?_
    refine v_bipush (v := 12) F dX12_find_120 (by decide) ?_
    refine v_aload_n F dX12_find_122 2 rfl rfl ?_
    refine g_X12_396 F r_a h dX12_find_123 (fun b21 r_b21 h => ?_)
    refine v_iload_n F dX12_find_126 3 rfl rfl ?_
    refine v_iald F r_b21 o_85 h dX12_find_127 (fun h => ?_)
    refine v_imul F dX12_find_128 ?_
    refine v_isub F dX12_find_129 ?_
    refine v_aload_n F dX12_find_130 2 rfl rfl ?_
    refine g_X12_399 F r_a h dX12_find_131 (fun b22 r_b22 h => ?_)
    refine v_iload_n F dX12_find_134 3 rfl rfl ?_
    refine v_iald F r_b22 o_83 h dX12_find_135 (fun h => ?_)
    refine v_cI0 (v_runS F k_X12_405 (c_X12_halves h) rfl rfl (Nat.le_of_ble_eq_true rfl) (by decide) (by decide) dX12_find_136) ⟨rfl, rfl⟩ (fun r24 S23 h hE => ?_)
    have r_a := r_a.tr hE
    have r_b17 := r_b17.tr hE
    refine v_isub F dX12_find_139 ?_
    refine v_iast F r_b17 o_84 h dX12_find_140 (fun S25 h hE => ?_)
    have r_a := r_a.tr hE
    refine v_aload_n F dX12_find_141 2 rfl rfl ?_
    refine g_X12_402 F r_a h dX12_find_142 (fun b26 r_b26 h => ?_)
    refine v_iload_n F dX12_find_145 3 rfl rfl ?_
    refine v_iald F r_b26 o_84 h dX12_find_146 (fun h => ?_)
    refine v_i2l F dX12_find_147 ?_
    refine v_ldc2 F kc_X12_409 dX12_find_148 ?_
    refine v_ldc2 F kc_X12_65 dX12_find_151 ?_
    refine v_cI0 (v_runS F k_X12_9 (c_X12_in h) rfl rfl (Nat.le_of_ble_eq_true rfl) (by decide) (by decide) dX12_find_154) ⟨rfl, rfl⟩ (fun r28 S27 h hE => ?_)
    obtain ⟨nz_r28, h⟩ := h
    have r_a := r_a.tr hE
    refine v_if_eq (tgt := 181) F dX12_find_157 (by decide) h (fun h => ?_) (fun h => ?_)
    · refine v_iconst (v := 0) F dX12_find_181 (by decide) ?_
      exact v_zret F hQ (by decide) ⟨nz0, h⟩ (by decide) dX12_find_182
    · refine v_aload_n F dX12_find_160 2 rfl rfl ?_
      refine g_X12_396 F r_a h dX12_find_161 (fun b29 r_b29 h => ?_)
      refine v_iload_n F dX12_find_164 3 rfl rfl ?_
      refine v_iald F r_b29 o_85 h dX12_find_165 (fun h => ?_)
      refine v_i2l F dX12_find_166 ?_
      refine v_lconst (v := 0) F dX12_find_167 (by decide) ?_
      refine v_ldc2 F kc_X12_411 dX12_find_168 ?_
      refine v_cI0 (v_runS F k_X12_9 (c_X12_in h) rfl rfl (Nat.le_of_ble_eq_true rfl) (by decide) (by decide) dX12_find_171) ⟨rfl, rfl⟩ (fun r31 S30 h hE => ?_)
      obtain ⟨nz_r31, h⟩ := h
      have r_a := r_a.tr hE
      refine v_if_eq (tgt := 181) F dX12_find_174 (by decide) h (fun h => ?_) (fun h => ?_)
      · refine v_iconst (v := 0) F dX12_find_181 (by decide) ?_
        exact v_zret F hQ (by decide) ⟨nz0, h⟩ (by decide) dX12_find_182
      · refine v_iconst (v := 1) F dX12_find_177 (by decide) ?_
        refine v_goto (tgt := 182) F dX12_find_178 (by decide) ?_
        exact v_zret F hQ (by decide) ⟨nz1, h⟩ (by decide) dX12_find_182)
  refine v_if_le (tgt := 30) F dX12_find_11 (by decide) h (fun h => ?_) (fun h => ?_)
  · refine v_iconst (v := 4) F dX12_find_30 (by decide) ?_
    exact v_sub [1, 2, 3, 0] rfl (h r_a)
  · refine v_aload_n F dX12_find_14 1 rfl rfl ?_
    refine g_X12_323 F r_a dX12_find_15 ?_
    refine v_iload_n F dX12_find_18 0 rfl rfl ?_
    refine v_isub F dX12_find_19 ?_
    refine v_iconst (v := 3) F dX12_find_20 (by decide) ?_
    refine v_iadd F dX12_find_21 ?_
    refine v_bipush (v := 7) F dX12_find_22 (by decide) ?_
    refine v_cI0 (v_runS F k_X12_393 (c_X12_floor h) rfl rfl (Nat.le_of_ble_eq_true rfl) (by decide) (by decide) dX12_find_24) ⟨rfl, rfl⟩ (fun r33 S32 h hE => ?_)
    have r_a := r_a.tr hE
    refine v_goto (tgt := 31) F dX12_find_27 (by decide) ?_
    exact v_sub [1, 2, 3, 0] rfl (h r_a)
theorem dX12_sound_0 : decode cX12_sound 0 = .ok (.aload_n 0, 1) := by decide +kernel
theorem dX12_sound_1 : decode cX12_sound 1 = .ok (.getfield 105, 3) := by decide +kernel
theorem dX12_sound_4 : decode cX12_sound 4 = .ok (.iload_n 1, 1) := by decide +kernel
theorem dX12_sound_5 : decode cX12_sound 5 = .ok (.laload, 1) := by decide +kernel
theorem dX12_sound_6 : decode cX12_sound 6 = .ok (.lconst 0, 1) := by decide +kernel
theorem dX12_sound_7 : decode cX12_sound 7 = .ok (.lcmp, 1) := by decide +kernel
theorem dX12_sound_8 : decode cX12_sound 8 = .ok (.ifCond .le 13, 3) := by decide +kernel
theorem dX12_sound_11 : decode cX12_sound 11 = .ok (.aload_n 0, 1) := by decide +kernel
theorem dX12_sound_12 : decode cX12_sound 12 = .ok (.aload_n 0, 1) := by decide +kernel
theorem dX12_sound_13 : decode cX12_sound 13 = .ok (.getfield 105, 3) := by decide +kernel
theorem dX12_sound_16 : decode cX12_sound 16 = .ok (.iload_n 1, 1) := by decide +kernel
theorem dX12_sound_17 : decode cX12_sound 17 = .ok (.laload, 1) := by decide +kernel
theorem dX12_sound_18 : decode cX12_sound 18 = .ok (.putfield 353, 3) := by decide +kernel
theorem dX12_sound_21 : decode cX12_sound 21 = .ok (.aload_n 0, 1) := by decide +kernel
theorem dX12_sound_22 : decode cX12_sound 22 = .ok (.getfield 323, 3) := by decide +kernel
theorem dX12_sound_25 : decode cX12_sound 25 = .ok (.istore_n 2, 1) := by decide +kernel
theorem dX12_sound_26 : decode cX12_sound 26 = .ok (.iconst 1, 1) := by decide +kernel
theorem dX12_sound_27 : decode cX12_sound 27 = .ok (.istore_n 3, 1) := by decide +kernel
theorem dX12_sound_28 : decode cX12_sound 28 = .ok (.iconst 0, 1) := by decide +kernel
theorem dX12_sound_29 : decode cX12_sound 29 = .ok (.istore 4, 2) := by decide +kernel
theorem dX12_sound_31 : decode cX12_sound 31 = .ok (.iload 4, 2) := by decide +kernel
theorem dX12_sound_33 : decode cX12_sound 33 = .ok (.aload_n 0, 1) := by decide +kernel
theorem dX12_sound_34 : decode cX12_sound 34 = .ok (.getfield 96, 3) := by decide +kernel
theorem dX12_sound_37 : decode cX12_sound 37 = .ok (.iload_n 1, 1) := by decide +kernel
theorem dX12_sound_38 : decode cX12_sound 38 = .ok (.iaload, 1) := by decide +kernel
theorem dX12_sound_39 : decode cX12_sound 39 = .ok (.if_icmp .ge 51, 3) := by decide +kernel
theorem dX12_sound_42 : decode cX12_sound 42 = .ok (.aload_n 0, 1) := by decide +kernel
theorem dX12_sound_43 : decode cX12_sound 43 = .ok (.iload 4, 2) := by decide +kernel
theorem dX12_sound_45 : decode cX12_sound 45 = .ok (.aload_n 0, 1) := by decide +kernel
theorem dX12_sound_46 : decode cX12_sound 46 = .ok (.getfield 93, 3) := by decide +kernel
theorem dX12_sound_49 : decode cX12_sound 49 = .ok (.iload_n 1, 1) := by decide +kernel
theorem dX12_sound_50 : decode cX12_sound 50 = .ok (.iaload, 1) := by decide +kernel
theorem dX12_sound_51 : decode cX12_sound 51 = .ok (.iload 4, 2) := by decide +kernel
theorem dX12_sound_53 : decode cX12_sound 53 = .ok (.iadd, 1) := by decide +kernel
theorem dX12_sound_54 : decode cX12_sound 54 = .ok (.invokevirtual 413, 3) := by decide +kernel
theorem dX12_sound_57 : decode cX12_sound 57 = .ok (.ifCond .eq 11, 3) := by decide +kernel
theorem dX12_sound_60 : decode cX12_sound 60 = .ok (.iload_n 3, 1) := by decide +kernel
theorem dX12_sound_61 : decode cX12_sound 61 = .ok (.ifCond .eq 7, 3) := by decide +kernel
theorem dX12_sound_64 : decode cX12_sound 64 = .ok (.iconst 1, 1) := by decide +kernel
theorem dX12_sound_65 : decode cX12_sound 65 = .ok (.goto 4, 3) := by decide +kernel
theorem dX12_sound_68 : decode cX12_sound 68 = .ok (.iconst 0, 1) := by decide +kernel
theorem dX12_sound_69 : decode cX12_sound 69 = .ok (.istore_n 3, 1) := by decide +kernel
theorem dX12_sound_70 : decode cX12_sound 70 = .ok (.iload 4, 2) := by decide +kernel
theorem dX12_sound_72 : decode cX12_sound 72 = .ok (.ifCond .ne 10, 3) := by decide +kernel
theorem dX12_sound_75 : decode cX12_sound 75 = .ok (.aload_n 0, 1) := by decide +kernel
theorem dX12_sound_76 : decode cX12_sound 76 = .ok (.getfield 323, 3) := by decide +kernel
theorem dX12_sound_79 : decode cX12_sound 79 = .ok (.goto 4, 3) := by decide +kernel
theorem dX12_sound_82 : decode cX12_sound 82 = .ok (.iload_n 2, 1) := by decide +kernel
theorem dX12_sound_83 : decode cX12_sound 83 = .ok (.istore_n 2, 1) := by decide +kernel
theorem dX12_sound_84 : decode cX12_sound 84 = .ok (.iinc 4 1, 3) := by decide +kernel
theorem dX12_sound_87 : decode cX12_sound 87 = .ok (.goto (-56), 3) := by decide +kernel
theorem dX12_sound_90 : decode cX12_sound 90 = .ok (.aload_n 0, 1) := by decide +kernel
theorem dX12_sound_91 : decode cX12_sound 91 = .ok (.iload_n 2, 1) := by decide +kernel
theorem dX12_sound_92 : decode cX12_sound 92 = .ok (.putfield 323, 3) := by decide +kernel
theorem dX12_sound_95 : decode cX12_sound 95 = .ok (.iload_n 3, 1) := by decide +kernel
theorem dX12_sound_96 : decode cX12_sound 96 = .ok (.ifCond .ne 14, 3) := by decide +kernel
theorem dX12_sound_99 : decode cX12_sound 99 = .ok (.aload_n 0, 1) := by decide +kernel
theorem dX12_sound_100 : decode cX12_sound 100 = .ok (.iconst 3, 1) := by decide +kernel
theorem dX12_sound_101 : decode cX12_sound 101 = .ok (.aload_n 0, 1) := by decide +kernel
theorem dX12_sound_102 : decode cX12_sound 102 = .ok (.getfield 90, 3) := by decide +kernel
theorem dX12_sound_105 : decode cX12_sound 105 = .ok (.iload_n 1, 1) := by decide +kernel
theorem dX12_sound_106 : decode cX12_sound 106 = .ok (.iaload, 1) := by decide +kernel
theorem dX12_sound_107 : decode cX12_sound 107 = .ok (.invokevirtual 50, 3) := by decide +kernel
theorem dX12_sound_110 : decode cX12_sound 110 = .ok (.aload_n 0, 1) := by decide +kernel
theorem dX12_sound_111 : decode cX12_sound 111 = .ok (.iload_n 1, 1) := by decide +kernel
theorem dX12_sound_112 : decode cX12_sound 112 = .ok (.aload_n 0, 1) := by decide +kernel
theorem dX12_sound_113 : decode cX12_sound 113 = .ok (.getfield 96, 3) := by decide +kernel
theorem dX12_sound_116 : decode cX12_sound 116 = .ok (.iload_n 1, 1) := by decide +kernel
theorem dX12_sound_117 : decode cX12_sound 117 = .ok (.iaload, 1) := by decide +kernel
theorem dX12_sound_118 : decode cX12_sound 118 = .ok (.aload_n 0, 1) := by decide +kernel
theorem dX12_sound_119 : decode cX12_sound 119 = .ok (.getfield 353, 3) := by decide +kernel
theorem dX12_sound_122 : decode cX12_sound 122 = .ok (.aload_n 0, 1) := by decide +kernel
theorem dX12_sound_123 : decode cX12_sound 123 = .ok (.getfield 374, 3) := by decide +kernel
theorem dX12_sound_126 : decode cX12_sound 126 = .ok (.lmul, 1) := by decide +kernel
theorem dX12_sound_127 : decode cX12_sound 127 = .ok (.aload_n 0, 1) := by decide +kernel
theorem dX12_sound_128 : decode cX12_sound 128 = .ok (.getfield 380, 3) := by decide +kernel
theorem dX12_sound_131 : decode cX12_sound 131 = .ok (.aload_n 0, 1) := by decide +kernel
theorem dX12_sound_132 : decode cX12_sound 132 = .ok (.getfield 109, 3) := by decide +kernel
theorem dX12_sound_135 : decode cX12_sound 135 = .ok (.iload_n 1, 1) := by decide +kernel
theorem dX12_sound_136 : decode cX12_sound 136 = .ok (.baload, 1) := by decide +kernel
theorem dX12_sound_137 : decode cX12_sound 137 = .ok (.invokevirtual 416, 3) := by decide +kernel
theorem dX12_sound_140 : decode cX12_sound 140 = .ok (.return_, 1) := by decide +kernel
abbrev rm_X12_sound : Room := { frames := 2, cells := 0, slots := 0, locals := 54 }
def wp_X12_sound (a : Nat) (p1 : Int32) (S : PS) (Q : PS → Prop) : Prop :=
  (∃ b1, fR S 111 a = some b1 ∧ (vp_in p1 (aN S b1) ∧ (∀ K21_3 : PS → Prop, (∀ (S2 : PS),
 (∀ v4, v4 = fI S2 158 a → (∀ P31_5 : Int32 → Int32 → Int32 → PS → Prop, (∀ (x2_6 : Int32) (x3_7 : Int32) (x4_8 : Int32) (S9 : PS),
 (∃ b10, fR S9 108 a = some b10 ∧ (vp_in p1 (aN S9 b10) ∧ (if aI S9 45 b10 (p1).toNatClampNeg ≤ x4_8 then
 (∀ S11, S11 = sI S9 158 a x2_6 → (∀ K110_13 : PS → Prop, (∀ (S12 : PS),
 (∃ b14, fR S12 108 a = some b14 ∧ (vp_in p1 (aN S12 b14) ∧ (∃ b15, fR S12 112 a = some b15 ∧ (vp_in p1 (aN S12 b15) ∧ wp_X12_event a p1 (aI S12 45 b14 (p1).toNatClampNeg) ((fL S12 157 a) * (fL S12 161 a)) (fL S12 162 a) (aI S12 49 b15 (p1).toNatClampNeg) S12 (fun (S16 : PS) => 
 Q S16)))))
 → K110_13 S12) →
 (if x3_7 = 0 then
 (∃ b17, fR S11 106 a = some b17 ∧ (vp_in p1 (aN S11 b17) ∧ wp_X12_bad a 3 (aI S11 43 b17 (p1).toNatClampNeg) S11 (fun (S18 : PS) => 
 K110_13 S18)))
 else
 K110_13 S11)))
 else
 (∃ b19, fR S9 107 a = some b19 ∧ (vp_in p1 (aN S9 b19) ∧ wp_X12_find a x4_8 ((aI S9 44 b19 (p1).toNatClampNeg) + x4_8) S9 (fun (r21 : Int32) (S20 : PS) => 
 (∀ K69_24 : Int32 → PS → Prop, (∀ (t22 : Int32) (S23 : PS),
 (∀ K83_27 : Int32 → PS → Prop, (∀ (t25 : Int32) (S26 : PS),
 (∀ v28, v28 = x4_8 + 1 → P31_5 t25 t22 v28 S26)
 → K83_27 t25 S26) →
 (if x4_8 = 0 then
 K83_27 (fI S23 158 a) S23
 else
 K83_27 x2_6 S23))
 → K69_24 t22 S23) →
 (if r21 = 0 then
 K69_24 0 S20
 else
 (if x3_7 = 0 then
 K69_24 0 S20
 else
 K69_24 1 S20)))))))))
 → P31_5 x2_6 x3_7 x4_8 S9) → P31_5 v4 1 0 S2))
 → K21_3 S2) →
 (if aL S 48 b1 (p1).toNatClampNeg ≤ 0 then
 K21_3 S
 else
 (∃ b29, fR S 111 a = some b29 ∧ (vp_in p1 (aN S b29) ∧ (∀ S30, S30 = sL S 157 a (aL S 48 b29 (p1).toNatClampNeg) → K21_3 S30)))))))
set_option maxRecDepth 100000 in
set_option maxHeartbeats 4000000 in
theorem c_X12_sound {l : Launch} {E : EE} {A : Nat → Prop} {a : Nat} {p1 : Int32} {S : PS} {Q : PS → Prop} (r_a : Rf S a 9) (h : wp_X12_sound a p1 S Q) : MtV l yX12_sound (.code yX12_sound cX12_sound 5 none) rm_X12_sound E A [.ref a, .int p1] S Q := by
  refine MtV.of (by decide) (Nat.le_of_ble_eq_true rfl) (fun X F hQ hN => ?_)
  show VV X (0, 0) S [(0, .ref a), (1, .int p1)] [] 0
  unfold wp_X12_sound at h
  refine v_aload_n F dX12_sound_0 0 rfl rfl ?_
  refine g_X12_105 F r_a h dX12_sound_1 (fun b1 r_b1 h => ?_)
  refine v_iload_n F dX12_sound_4 1 rfl rfl ?_
  refine v_lald F r_b1 o_48 h dX12_sound_5 (fun h => ?_)
  refine v_lconst (v := 0) F dX12_sound_6 (by decide) ?_
  have h := h (fun (S2 : PS) => Rf S2 a 9 → VV X (0, 0) S2 [(0, .ref a), (1, .int p1)] [] 21) (by
    intro S2 h r_a
    refine v_aload_n F dX12_sound_21 0 rfl rfl ?_
    refine g_X12_323 F r_a dX12_sound_22 ?_
    refine v_topi (fun v4 e_v4 => ?_)
    have h := h v4 e_v4
    refine v_istore_n (lv1 := [(2, .int v4), (0, .ref a), (1, .int p1)]) F dX12_sound_25 rfl (by rw [hN]; decide) rfl ?_
    refine v_iconst (v := 1) F dX12_sound_26 (by decide) ?_
    refine v_istore_n (lv1 := [(3, .int 1), (2, .int v4), (0, .ref a), (1, .int p1)]) F dX12_sound_27 rfl (by rw [hN]; decide) rfl ?_
    refine v_iconst (v := 0) F dX12_sound_28 (by decide) ?_
    refine v_istore (lv1 := [(4, .int 0), (3, .int 1), (2, .int v4), (0, .ref a), (1, .int p1)]) F dX12_sound_29 (by rw [hN]; decide) rfl ?_
    refine v_sub [3, 4, 2, 1, 0] rfl ?_
    refine h (fun (x2_6 : Int32) (x3_7 : Int32) (x4_8 : Int32) (S9 : PS) => Rf S9 a 9 → VV X (0, 0) S9 [(0, .ref a), (1, .int p1), (2, .int x2_6), (3, .int x3_7), (4, .int x4_8)] [] 31) (fun x2_6 x3_7 x4_8 S9 h r_a => ?_) r_a
    refine v_iload F dX12_sound_31 4 rfl ?_
    refine v_aload_n F dX12_sound_33 0 rfl rfl ?_
    refine g_X12_96 F r_a h dX12_sound_34 (fun b10 r_b10 h => ?_)
    refine v_iload_n F dX12_sound_37 1 rfl rfl ?_
    refine v_iald F r_b10 o_45 h dX12_sound_38 (fun h => ?_)
    refine v_icmp_ge (tgt := 90) F dX12_sound_39 (by decide) h (fun h => ?_) (fun h => ?_)
    · refine v_aload_n F dX12_sound_90 0 rfl rfl ?_
      refine v_iload_n F dX12_sound_91 2 rfl rfl ?_
      refine p_X12_323 F r_a h dX12_sound_92 (fun S11 h hE => ?_)
      have r_a := r_a.tr hE
      refine v_iload_n F dX12_sound_95 3 rfl rfl ?_
      have h := h (fun (S12 : PS) => Rf S12 a 9 → VV X (0, 0) S12 [(0, .ref a), (1, .int p1)] [] 110) (by
        intro S12 h r_a
        refine v_aload_n F dX12_sound_110 0 rfl rfl ?_
        refine v_iload_n F dX12_sound_111 1 rfl rfl ?_
        refine v_aload_n F dX12_sound_112 0 rfl rfl ?_
        refine g_X12_96 F r_a h dX12_sound_113 (fun b14 r_b14 h => ?_)
        refine v_iload_n F dX12_sound_116 1 rfl rfl ?_
        refine v_iald F r_b14 o_45 h dX12_sound_117 (fun h => ?_)
        refine v_aload_n F dX12_sound_118 0 rfl rfl ?_
        refine g_X12_353 F r_a dX12_sound_119 ?_
        refine v_aload_n F dX12_sound_122 0 rfl rfl ?_
        refine g_X12_374 F r_a dX12_sound_123 ?_
        refine v_lmul F dX12_sound_126 ?_
        refine v_aload_n F dX12_sound_127 0 rfl rfl ?_
        refine g_X12_380 F r_a dX12_sound_128 ?_
        refine v_aload_n F dX12_sound_131 0 rfl rfl ?_
        refine g_X12_109 F r_a h dX12_sound_132 (fun b15 r_b15 h => ?_)
        refine v_iload_n F dX12_sound_135 1 rfl rfl ?_
        refine v_zald F r_b15 o_49 h dX12_sound_136 (fun h => ?_)
        refine v_cV0 (v_runV F k_X12_416 rfl (c_X12_event r_a h) r_a rfl rfl (Nat.le_of_ble_eq_true rfl) (by decide) (by decide) dX12_sound_137) ⟨rfl, rfl⟩ (fun  S16 h hE => ?_)
        have r_a := r_a.tr hE
        exact v_vret F hQ h (by decide) dX12_sound_140)
      refine v_if_ne (tgt := 110) F dX12_sound_96 (by decide) h (fun h => ?_) (fun h => ?_)
      · exact v_sub [0, 1] rfl (h r_a)
      · refine v_aload_n F dX12_sound_99 0 rfl rfl ?_
        refine v_iconst (v := 3) F dX12_sound_100 (by decide) ?_
        refine v_aload_n F dX12_sound_101 0 rfl rfl ?_
        refine g_X12_90 F r_a h dX12_sound_102 (fun b17 r_b17 h => ?_)
        refine v_iload_n F dX12_sound_105 1 rfl rfl ?_
        refine v_iald F r_b17 o_43 h dX12_sound_106 (fun h => ?_)
        refine v_cV0 (v_runV F k_X12_50 rfl (c_X12_bad r_a h) r_a rfl rfl (Nat.le_of_ble_eq_true rfl) (by decide) (by decide) dX12_sound_107) ⟨rfl, rfl⟩ (fun  S18 h hE => ?_)
        have r_a := r_a.tr hE
        exact v_sub [0, 1] rfl (h r_a)
    · refine v_aload_n F dX12_sound_42 0 rfl rfl ?_
      refine v_iload F dX12_sound_43 4 rfl ?_
      refine v_aload_n F dX12_sound_45 0 rfl rfl ?_
      refine g_X12_93 F r_a h dX12_sound_46 (fun b19 r_b19 h => ?_)
      refine v_iload_n F dX12_sound_49 1 rfl rfl ?_
      refine v_iald F r_b19 o_44 h dX12_sound_50 (fun h => ?_)
      refine v_iload F dX12_sound_51 4 rfl ?_
      refine v_iadd F dX12_sound_53 ?_
      refine v_cI0 (v_runV F k_X12_413 rfl (c_X12_find r_a h) r_a rfl rfl (Nat.le_of_ble_eq_true rfl) (by decide) (by decide) dX12_sound_54) ⟨rfl, rfl⟩ (fun r21 S20 h hE => ?_)
      obtain ⟨nz_r21, h⟩ := h
      have r_a := r_a.tr hE
      have h := h (fun (t22 : Int32) (S23 : PS) => Rf S23 a 9 → VV X (0, 0) S23 [(0, .ref a), (1, .int p1), (2, .int x2_6), (4, .int x4_8)] [.int t22] 69) (by
        intro t22 S23 h r_a
        refine v_istore_n (lv1 := [(3, .int t22), (0, .ref a), (1, .int p1), (2, .int x2_6), (4, .int x4_8)]) F dX12_sound_69 rfl (by rw [hN]; decide) rfl ?_
        refine v_iload F dX12_sound_70 4 rfl ?_
        have h := h (fun (t25 : Int32) (S26 : PS) => Rf S26 a 9 → VV X (0, 0) S26 [(0, .ref a), (1, .int p1), (3, .int t22), (4, .int x4_8)] [.int t25] 83) (by
          intro t25 S26 h r_a
          refine v_istore_n (lv1 := [(2, .int t25), (0, .ref a), (1, .int p1), (3, .int t22), (4, .int x4_8)]) F dX12_sound_83 rfl (by rw [hN]; decide) rfl ?_
          obtain ⟨v28, e_v28⟩ : ∃ y : Int32, y = x4_8 + 1 := ⟨_, rfl⟩
          have h := h v28 e_v28
          refine v_iinc (v := v28) (lv1 := [(4, .int v28), (2, .int t25), (0, .ref a), (1, .int p1), (3, .int t22)]) F dX12_sound_84 (q := 4) rfl (by rw [e_v28]; rfl) (by rw [hN]; decide) rfl ?_
          refine v_goto (tgt := 31) F dX12_sound_87 (by decide) ?_
          exact v_sub [2, 3, 1, 4, 0] rfl (h r_a))
        refine v_if_ne (tgt := 82) F dX12_sound_72 (by decide) h (fun h => ?_) (fun h => ?_)
        · refine v_iload_n F dX12_sound_82 3 rfl rfl ?_
          exact v_sub [1, 2, 0, 4] rfl (h r_a)
        · refine v_aload_n F dX12_sound_75 1 rfl rfl ?_
          refine g_X12_323 F r_a dX12_sound_76 ?_
          refine v_goto (tgt := 83) F dX12_sound_79 (by decide) ?_
          exact v_sub [1, 2, 0, 4] rfl (h r_a))
      refine v_if_eq (tgt := 68) F dX12_sound_57 (by decide) h (fun h => ?_) (fun h => ?_)
      · refine v_iconst (v := 0) F dX12_sound_68 (by decide) ?_
        exact v_sub [0, 1, 2, 4] rfl (h r_a)
      · refine v_iload_n F dX12_sound_60 3 rfl rfl ?_
        refine v_if_eq (tgt := 68) F dX12_sound_61 (by decide) h (fun h => ?_) (fun h => ?_)
        · refine v_iconst (v := 0) F dX12_sound_68 (by decide) ?_
          exact v_sub [0, 1, 2, 4] rfl (h r_a)
        · refine v_iconst (v := 1) F dX12_sound_64 (by decide) ?_
          refine v_goto (tgt := 69) F dX12_sound_65 (by decide) ?_
          exact v_sub [0, 1, 2, 4] rfl (h r_a))
  refine v_lcmp_le (tgt := 21) F dX12_sound_7 dX12_sound_8 (by decide) h (fun h => ?_) (fun h => ?_)
  · exact v_sub [0, 1] rfl (h r_a)
  · refine v_aload_n F dX12_sound_11 0 rfl rfl ?_
    refine v_aload_n F dX12_sound_12 0 rfl rfl ?_
    refine g_X12_105 F r_a h dX12_sound_13 (fun b29 r_b29 h => ?_)
    refine v_iload_n F dX12_sound_16 1 rfl rfl ?_
    refine v_lald F r_b29 o_48 h dX12_sound_17 (fun h => ?_)
    refine p_X12_353 F r_a h dX12_sound_18 (fun S30 h hE => ?_)
    have r_a := r_a.tr hE
    exact v_sub [0, 1] rfl (h r_a)
theorem dX12_barLong_0 : decode cX12_barLong 0 = .ok (.iload_n 0, 1) := by decide +kernel
theorem dX12_barLong_1 : decode cX12_barLong 1 = .ok (.i2l, 1) := by decide +kernel
theorem dX12_barLong_2 : decode cX12_barLong 2 = .ok (.ldc2_w 212, 3) := by decide +kernel
theorem dX12_barLong_5 : decode cX12_barLong 5 = .ok (.lmul, 1) := by decide +kernel
theorem dX12_barLong_6 : decode cX12_barLong 6 = .ok (.iload_n 1, 1) := by decide +kernel
theorem dX12_barLong_7 : decode cX12_barLong 7 = .ok (.i2l, 1) := by decide +kernel
theorem dX12_barLong_8 : decode cX12_barLong 8 = .ok (.ldiv, 1) := by decide +kernel
theorem dX12_barLong_9 : decode cX12_barLong 9 = .ok (.lreturn, 1) := by decide +kernel
abbrev rm_X12_barLong : Room := { frames := 0, cells := 0, slots := 0, locals := 0 }
def wp_X12_barLong (p1 : Int32) (p2 : Int32) (S : PS) (Q : Int64 → PS → Prop) : Prop :=
  (¬ (p2.toInt64) = 0 ∧ Q (((p1.toInt64) * 3870720) / (p2.toInt64)) S)
set_option maxRecDepth 100000 in
set_option maxHeartbeats 4000000 in
theorem c_X12_barLong {l : Launch} {E : EE} {A : Nat → Prop} {p1 : Int32} {p2 : Int32} {S : PS} {Q : Int64 → PS → Prop} (h : wp_X12_barLong p1 p2 S Q) : MtL l yX12_barLong (.code yX12_barLong cX12_barLong 2 (some .long)) rm_X12_barLong E A [.int p1, .int p2] S Q := by
  refine MtL.of (by decide) (Nat.le_of_ble_eq_true rfl) (fun X F hQ hN => ?_)
  show VV X (0, 0) S [(0, .int p1), (1, .int p2)] [] 0
  unfold wp_X12_barLong at h
  refine v_iload_n F dX12_barLong_0 0 rfl rfl ?_
  refine v_i2l F dX12_barLong_1 ?_
  refine v_ldc2 F kc_X12_212 dX12_barLong_2 ?_
  refine v_lmul F dX12_barLong_5 ?_
  refine v_iload_n F dX12_barLong_6 1 rfl rfl ?_
  refine v_i2l F dX12_barLong_7 ?_
  refine v_ldiv F dX12_barLong_8 h.1 ?_
  have h := h.2
  exact v_lret F hQ h (by decide) dX12_barLong_9
theorem dX12_isBar_0 : decode cX12_isBar 0 = .ok (.aload_n 0, 1) := by decide +kernel
theorem dX12_isBar_1 : decode cX12_isBar 1 = .ok (.getfield 462, 3) := by decide +kernel
theorem dX12_isBar_4 : decode cX12_isBar 4 = .ok (.iconst 1, 1) := by decide +kernel
theorem dX12_isBar_5 : decode cX12_isBar 5 = .ok (.isub, 1) := by decide +kernel
theorem dX12_isBar_6 : decode cX12_isBar 6 = .ok (.istore_n 3, 1) := by decide +kernel
theorem dX12_isBar_7 : decode cX12_isBar 7 = .ok (.iload_n 3, 1) := by decide +kernel
theorem dX12_isBar_8 : decode cX12_isBar 8 = .ok (.ifCond .le 20, 3) := by decide +kernel
theorem dX12_isBar_11 : decode cX12_isBar 11 = .ok (.aload_n 0, 1) := by decide +kernel
theorem dX12_isBar_12 : decode cX12_isBar 12 = .ok (.getfield 465, 3) := by decide +kernel
theorem dX12_isBar_15 : decode cX12_isBar 15 = .ok (.iload_n 3, 1) := by decide +kernel
theorem dX12_isBar_16 : decode cX12_isBar 16 = .ok (.laload, 1) := by decide +kernel
theorem dX12_isBar_17 : decode cX12_isBar 17 = .ok (.lload_n 1, 1) := by decide +kernel
theorem dX12_isBar_18 : decode cX12_isBar 18 = .ok (.lcmp, 1) := by decide +kernel
theorem dX12_isBar_19 : decode cX12_isBar 19 = .ok (.ifCond .le 9, 3) := by decide +kernel
theorem dX12_isBar_22 : decode cX12_isBar 22 = .ok (.iinc 3 (-1), 3) := by decide +kernel
theorem dX12_isBar_25 : decode cX12_isBar 25 = .ok (.goto (-18), 3) := by decide +kernel
theorem dX12_isBar_28 : decode cX12_isBar 28 = .ok (.lload_n 1, 1) := by decide +kernel
theorem dX12_isBar_29 : decode cX12_isBar 29 = .ok (.aload_n 0, 1) := by decide +kernel
theorem dX12_isBar_30 : decode cX12_isBar 30 = .ok (.getfield 465, 3) := by decide +kernel
theorem dX12_isBar_33 : decode cX12_isBar 33 = .ok (.iload_n 3, 1) := by decide +kernel
theorem dX12_isBar_34 : decode cX12_isBar 34 = .ok (.laload, 1) := by decide +kernel
theorem dX12_isBar_35 : decode cX12_isBar 35 = .ok (.lsub, 1) := by decide +kernel
theorem dX12_isBar_36 : decode cX12_isBar 36 = .ok (.aload_n 0, 1) := by decide +kernel
theorem dX12_isBar_37 : decode cX12_isBar 37 = .ok (.getfield 468, 3) := by decide +kernel
theorem dX12_isBar_40 : decode cX12_isBar 40 = .ok (.iload_n 3, 1) := by decide +kernel
theorem dX12_isBar_41 : decode cX12_isBar 41 = .ok (.iaload, 1) := by decide +kernel
theorem dX12_isBar_42 : decode cX12_isBar 42 = .ok (.aload_n 0, 1) := by decide +kernel
theorem dX12_isBar_43 : decode cX12_isBar 43 = .ok (.getfield 471, 3) := by decide +kernel
theorem dX12_isBar_46 : decode cX12_isBar 46 = .ok (.iload_n 3, 1) := by decide +kernel
theorem dX12_isBar_47 : decode cX12_isBar 47 = .ok (.iaload, 1) := by decide +kernel
theorem dX12_isBar_48 : decode cX12_isBar 48 = .ok (.invokestatic 474, 3) := by decide +kernel
theorem dX12_isBar_51 : decode cX12_isBar 51 = .ok (.lrem, 1) := by decide +kernel
theorem dX12_isBar_52 : decode cX12_isBar 52 = .ok (.lconst 0, 1) := by decide +kernel
theorem dX12_isBar_53 : decode cX12_isBar 53 = .ok (.lcmp, 1) := by decide +kernel
theorem dX12_isBar_54 : decode cX12_isBar 54 = .ok (.ifCond .ne 7, 3) := by decide +kernel
theorem dX12_isBar_57 : decode cX12_isBar 57 = .ok (.iconst 1, 1) := by decide +kernel
theorem dX12_isBar_58 : decode cX12_isBar 58 = .ok (.goto 4, 3) := by decide +kernel
theorem dX12_isBar_61 : decode cX12_isBar 61 = .ok (.iconst 0, 1) := by decide +kernel
theorem dX12_isBar_62 : decode cX12_isBar 62 = .ok (.ireturn, 1) := by decide +kernel
abbrev rm_X12_isBar : Room := { frames := 1, cells := 0, slots := 0, locals := 21 }
def wp_X12_isBar (a : Nat) (p1 : Int64) (S : PS) (Q : Int32 → PS → Prop) : Prop :=
  (∀ v1, v1 = (fI S 153 a) - 1 → (∀ P7_2 : Int32 → PS → Prop, (∀ (x3_3 : Int32) (S4 : PS),
 (∀ K28_6 : PS → Prop, (∀ (S5 : PS),
 (∃ b7, fR S5 150 a = some b7 ∧ (vp_in x3_3 (aN S5 b7) ∧ (∃ b8, fR S5 151 a = some b8 ∧ (vp_in x3_3 (aN S5 b8) ∧ (∃ b9, fR S5 152 a = some b9 ∧ (vp_in x3_3 (aN S5 b9) ∧ wp_X12_barLong (aI S5 79 b8 (x3_3).toNatClampNeg) (aI S5 80 b9 (x3_3).toNatClampNeg) S5 (fun (r11 : Int64) (S10 : PS) => 
 (¬ r11 = 0 ∧ (if (p1 - (aL S5 78 b7 (x3_3).toNatClampNeg)) - (p1 - (aL S5 78 b7 (x3_3).toNatClampNeg)) / r11 * r11 = 0 then
 Q 1 S10
 else
 Q 0 S10)))))))))
 → K28_6 S5) →
 (if x3_3 ≤ 0 then
 K28_6 S4
 else
 (∃ b12, fR S4 150 a = some b12 ∧ (vp_in x3_3 (aN S4 b12) ∧ (if aL S4 78 b12 (x3_3).toNatClampNeg ≤ p1 then
 K28_6 S4
 else
 (∀ v13, v13 = x3_3 + (-1) → P7_2 v13 S4))))))
 → P7_2 x3_3 S4) → P7_2 v1 S))
set_option maxRecDepth 100000 in
set_option maxHeartbeats 4000000 in
theorem c_X12_isBar {l : Launch} {E : EE} {A : Nat → Prop} {a : Nat} {p1 : Int64} {S : PS} {Q : Int32 → PS → Prop} (r_a : Rf S a 9) (h : wp_X12_isBar a p1 S Q) : MtI l yX12_isBar (.code yX12_isBar cX12_isBar 4 (some .boolean)) rm_X12_isBar E A [.ref a, .long p1] S (fun r S1 => nz r ∧ Q r S1) := by
  refine MtI.of (by decide) (Nat.le_of_ble_eq_true rfl) (fun X F hQ hN => ?_)
  show VV X (0, 0) S [(0, .ref a), (1, .long p1)] [] 0
  unfold wp_X12_isBar at h
  refine v_aload_n F dX12_isBar_0 0 rfl rfl ?_
  refine g_X12_462 F r_a dX12_isBar_1 ?_
  refine v_iconst (v := 1) F dX12_isBar_4 (by decide) ?_
  refine v_isub F dX12_isBar_5 ?_
  refine v_topi (fun v1 e_v1 => ?_)
  have h := h v1 e_v1
  refine v_istore_n (lv1 := [(3, .int v1), (0, .ref a), (1, .long p1)]) F dX12_isBar_6 rfl (by rw [hN]; decide) rfl ?_
  refine v_sub [1, 2, 0] rfl ?_
  refine h (fun (x3_3 : Int32) (S4 : PS) => Rf S4 a 9 → VV X (0, 0) S4 [(0, .ref a), (1, .long p1), (3, .int x3_3)] [] 7) (fun x3_3 S4 h r_a => ?_) r_a
  refine v_iload_n F dX12_isBar_7 2 rfl rfl ?_
  have h := h (fun (S5 : PS) => Rf S5 a 9 → VV X (0, 0) S5 [(0, .ref a), (1, .long p1), (3, .int x3_3)] [] 28) (by
    intro S5 h r_a
    refine v_lload_n F dX12_isBar_28 1 rfl rfl ?_
    refine v_aload_n F dX12_isBar_29 0 rfl rfl ?_
    refine g_X12_465 F r_a h dX12_isBar_30 (fun b7 r_b7 h => ?_)
    refine v_iload_n F dX12_isBar_33 2 rfl rfl ?_
    refine v_lald F r_b7 o_78 h dX12_isBar_34 (fun h => ?_)
    refine v_lsub F dX12_isBar_35 ?_
    refine v_aload_n F dX12_isBar_36 0 rfl rfl ?_
    refine g_X12_468 F r_a h dX12_isBar_37 (fun b8 r_b8 h => ?_)
    refine v_iload_n F dX12_isBar_40 2 rfl rfl ?_
    refine v_iald F r_b8 o_79 h dX12_isBar_41 (fun h => ?_)
    refine v_aload_n F dX12_isBar_42 0 rfl rfl ?_
    refine g_X12_471 F r_a h dX12_isBar_43 (fun b9 r_b9 h => ?_)
    refine v_iload_n F dX12_isBar_46 2 rfl rfl ?_
    refine v_iald F r_b9 o_80 h dX12_isBar_47 (fun h => ?_)
    refine v_cL0 (v_runS F k_X12_474 (c_X12_barLong h) rfl rfl (Nat.le_of_ble_eq_true rfl) (by decide) (by decide) dX12_isBar_48) ⟨rfl, rfl⟩ (fun r11 S10 h hE => ?_)
    have r_a := r_a.tr hE
    refine v_lrem F dX12_isBar_51 h.1 ?_
    have h := h.2
    refine v_lconst (v := 0) F dX12_isBar_52 (by decide) ?_
    refine v_lcmp_ne (tgt := 61) F dX12_isBar_53 dX12_isBar_54 (by decide) h (fun h => ?_) (fun h => ?_)
    · refine v_iconst (v := 0) F dX12_isBar_61 (by decide) ?_
      exact v_zret F hQ (by decide) ⟨nz0, h⟩ (by decide) dX12_isBar_62
    · refine v_iconst (v := 1) F dX12_isBar_57 (by decide) ?_
      refine v_goto (tgt := 62) F dX12_isBar_58 (by decide) ?_
      exact v_zret F hQ (by decide) ⟨nz1, h⟩ (by decide) dX12_isBar_62)
  refine v_if_le (tgt := 28) F dX12_isBar_8 (by decide) h (fun h => ?_) (fun h => ?_)
  · exact v_sub [0, 1, 2] rfl (h r_a)
  · refine v_aload_n F dX12_isBar_11 0 rfl rfl ?_
    refine g_X12_465 F r_a h dX12_isBar_12 (fun b12 r_b12 h => ?_)
    refine v_iload_n F dX12_isBar_15 2 rfl rfl ?_
    refine v_lald F r_b12 o_78 h dX12_isBar_16 (fun h => ?_)
    refine v_lload_n F dX12_isBar_17 1 rfl rfl ?_
    refine v_lcmp_le (tgt := 28) F dX12_isBar_18 dX12_isBar_19 (by decide) h (fun h => ?_) (fun h => ?_)
    · exact v_sub [0, 1, 2] rfl (h r_a)
    · obtain ⟨v13, e_v13⟩ : ∃ y : Int32, y = x3_3 + (-1) := ⟨_, rfl⟩
      have h := h v13 e_v13
      refine v_iinc (v := v13) (lv1 := [(3, .int v13), (0, .ref a), (1, .long p1)]) F dX12_isBar_22 (q := 2) rfl (by rw [e_v13]; rfl) (by rw [hN]; decide) rfl ?_
      refine v_goto (tgt := 7) F dX12_isBar_25 (by decide) ?_
      exact v_sub [1, 2, 0] rfl (h r_a)
theorem dX12_meter_0 : decode cX12_meter 0 = .ok (.aload_n 0, 1) := by decide +kernel
theorem dX12_meter_1 : decode cX12_meter 1 = .ok (.getfield 356, 3) := by decide +kernel
theorem dX12_meter_4 : decode cX12_meter 4 = .ok (.ifCond .gt 14, 3) := by decide +kernel
theorem dX12_meter_7 : decode cX12_meter 7 = .ok (.aload_n 0, 1) := by decide +kernel
theorem dX12_meter_8 : decode cX12_meter 8 = .ok (.aload_n 0, 1) := by decide +kernel
theorem dX12_meter_9 : decode cX12_meter 9 = .ok (.getfield 309, 3) := by decide +kernel
theorem dX12_meter_12 : decode cX12_meter 12 = .ok (.invokevirtual 313, 3) := by decide +kernel
theorem dX12_meter_15 : decode cX12_meter 15 = .ok (.ifCond .ne 16, 3) := by decide +kernel
theorem dX12_meter_18 : decode cX12_meter 18 = .ok (.aload_n 0, 1) := by decide +kernel
theorem dX12_meter_19 : decode cX12_meter 19 = .ok (.bipush 7, 2) := by decide +kernel
theorem dX12_meter_21 : decode cX12_meter 21 = .ok (.aload_n 0, 1) := by decide +kernel
theorem dX12_meter_22 : decode cX12_meter 22 = .ok (.getfield 90, 3) := by decide +kernel
theorem dX12_meter_25 : decode cX12_meter 25 = .ok (.iload_n 1, 1) := by decide +kernel
theorem dX12_meter_26 : decode cX12_meter 26 = .ok (.iaload, 1) := by decide +kernel
theorem dX12_meter_27 : decode cX12_meter 27 = .ok (.invokevirtual 50, 3) := by decide +kernel
theorem dX12_meter_30 : decode cX12_meter 30 = .ok (.return_, 1) := by decide +kernel
theorem dX12_meter_31 : decode cX12_meter 31 = .ok (.aload_n 0, 1) := by decide +kernel
theorem dX12_meter_32 : decode cX12_meter 32 = .ok (.getfield 465, 3) := by decide +kernel
theorem dX12_meter_35 : decode cX12_meter 35 = .ok (.aload_n 0, 1) := by decide +kernel
theorem dX12_meter_36 : decode cX12_meter 36 = .ok (.getfield 462, 3) := by decide +kernel
theorem dX12_meter_39 : decode cX12_meter 39 = .ok (.iconst 1, 1) := by decide +kernel
theorem dX12_meter_40 : decode cX12_meter 40 = .ok (.isub, 1) := by decide +kernel
theorem dX12_meter_41 : decode cX12_meter 41 = .ok (.laload, 1) := by decide +kernel
theorem dX12_meter_42 : decode cX12_meter 42 = .ok (.aload_n 0, 1) := by decide +kernel
theorem dX12_meter_43 : decode cX12_meter 43 = .ok (.getfield 309, 3) := by decide +kernel
theorem dX12_meter_46 : decode cX12_meter 46 = .ok (.lcmp, 1) := by decide +kernel
theorem dX12_meter_47 : decode cX12_meter 47 = .ok (.ifCond .ne 7, 3) := by decide +kernel
theorem dX12_meter_50 : decode cX12_meter 50 = .ok (.iconst 1, 1) := by decide +kernel
theorem dX12_meter_51 : decode cX12_meter 51 = .ok (.goto 4, 3) := by decide +kernel
theorem dX12_meter_54 : decode cX12_meter 54 = .ok (.iconst 0, 1) := by decide +kernel
theorem dX12_meter_55 : decode cX12_meter 55 = .ok (.istore_n 2, 1) := by decide +kernel
theorem dX12_meter_56 : decode cX12_meter 56 = .ok (.iload_n 2, 1) := by decide +kernel
theorem dX12_meter_57 : decode cX12_meter 57 = .ok (.ifCond .ne 24, 3) := by decide +kernel
theorem dX12_meter_60 : decode cX12_meter 60 = .ok (.aload_n 0, 1) := by decide +kernel
theorem dX12_meter_61 : decode cX12_meter 61 = .ok (.getfield 462, 3) := by decide +kernel
theorem dX12_meter_64 : decode cX12_meter 64 = .ok (.bipush 40, 2) := by decide +kernel
theorem dX12_meter_66 : decode cX12_meter 66 = .ok (.if_icmp .ne 15, 3) := by decide +kernel
theorem dX12_meter_69 : decode cX12_meter 69 = .ok (.aload_n 0, 1) := by decide +kernel
theorem dX12_meter_70 : decode cX12_meter 70 = .ok (.iconst 5, 1) := by decide +kernel
theorem dX12_meter_71 : decode cX12_meter 71 = .ok (.aload_n 0, 1) := by decide +kernel
theorem dX12_meter_72 : decode cX12_meter 72 = .ok (.getfield 90, 3) := by decide +kernel
theorem dX12_meter_75 : decode cX12_meter 75 = .ok (.iload_n 1, 1) := by decide +kernel
theorem dX12_meter_76 : decode cX12_meter 76 = .ok (.iaload, 1) := by decide +kernel
theorem dX12_meter_77 : decode cX12_meter 77 = .ok (.invokevirtual 50, 3) := by decide +kernel
theorem dX12_meter_80 : decode cX12_meter 80 = .ok (.return_, 1) := by decide +kernel
theorem dX12_meter_81 : decode cX12_meter 81 = .ok (.aload_n 0, 1) := by decide +kernel
theorem dX12_meter_82 : decode cX12_meter 82 = .ok (.dup, 1) := by decide +kernel
theorem dX12_meter_83 : decode cX12_meter 83 = .ok (.getfield 462, 3) := by decide +kernel
theorem dX12_meter_86 : decode cX12_meter 86 = .ok (.iload_n 2, 1) := by decide +kernel
theorem dX12_meter_87 : decode cX12_meter 87 = .ok (.ifCond .eq 7, 3) := by decide +kernel
theorem dX12_meter_90 : decode cX12_meter 90 = .ok (.iconst 0, 1) := by decide +kernel
theorem dX12_meter_91 : decode cX12_meter 91 = .ok (.goto 4, 3) := by decide +kernel
theorem dX12_meter_94 : decode cX12_meter 94 = .ok (.iconst 1, 1) := by decide +kernel
theorem dX12_meter_95 : decode cX12_meter 95 = .ok (.iadd, 1) := by decide +kernel
theorem dX12_meter_96 : decode cX12_meter 96 = .ok (.putfield 462, 3) := by decide +kernel
theorem dX12_meter_99 : decode cX12_meter 99 = .ok (.aload_n 0, 1) := by decide +kernel
theorem dX12_meter_100 : decode cX12_meter 100 = .ok (.getfield 465, 3) := by decide +kernel
theorem dX12_meter_103 : decode cX12_meter 103 = .ok (.aload_n 0, 1) := by decide +kernel
theorem dX12_meter_104 : decode cX12_meter 104 = .ok (.getfield 462, 3) := by decide +kernel
theorem dX12_meter_107 : decode cX12_meter 107 = .ok (.iconst 1, 1) := by decide +kernel
theorem dX12_meter_108 : decode cX12_meter 108 = .ok (.isub, 1) := by decide +kernel
theorem dX12_meter_109 : decode cX12_meter 109 = .ok (.aload_n 0, 1) := by decide +kernel
theorem dX12_meter_110 : decode cX12_meter 110 = .ok (.getfield 309, 3) := by decide +kernel
theorem dX12_meter_113 : decode cX12_meter 113 = .ok (.lastore, 1) := by decide +kernel
theorem dX12_meter_114 : decode cX12_meter 114 = .ok (.aload_n 0, 1) := by decide +kernel
theorem dX12_meter_115 : decode cX12_meter 115 = .ok (.getfield 468, 3) := by decide +kernel
theorem dX12_meter_118 : decode cX12_meter 118 = .ok (.aload_n 0, 1) := by decide +kernel
theorem dX12_meter_119 : decode cX12_meter 119 = .ok (.getfield 462, 3) := by decide +kernel
theorem dX12_meter_122 : decode cX12_meter 122 = .ok (.iconst 1, 1) := by decide +kernel
theorem dX12_meter_123 : decode cX12_meter 123 = .ok (.isub, 1) := by decide +kernel
theorem dX12_meter_124 : decode cX12_meter 124 = .ok (.aload_n 0, 1) := by decide +kernel
theorem dX12_meter_125 : decode cX12_meter 125 = .ok (.getfield 93, 3) := by decide +kernel
theorem dX12_meter_128 : decode cX12_meter 128 = .ok (.iload_n 1, 1) := by decide +kernel
theorem dX12_meter_129 : decode cX12_meter 129 = .ok (.iaload, 1) := by decide +kernel
theorem dX12_meter_130 : decode cX12_meter 130 = .ok (.iastore, 1) := by decide +kernel
theorem dX12_meter_131 : decode cX12_meter 131 = .ok (.aload_n 0, 1) := by decide +kernel
theorem dX12_meter_132 : decode cX12_meter 132 = .ok (.getfield 471, 3) := by decide +kernel
theorem dX12_meter_135 : decode cX12_meter 135 = .ok (.aload_n 0, 1) := by decide +kernel
theorem dX12_meter_136 : decode cX12_meter 136 = .ok (.getfield 462, 3) := by decide +kernel
theorem dX12_meter_139 : decode cX12_meter 139 = .ok (.iconst 1, 1) := by decide +kernel
theorem dX12_meter_140 : decode cX12_meter 140 = .ok (.isub, 1) := by decide +kernel
theorem dX12_meter_141 : decode cX12_meter 141 = .ok (.aload_n 0, 1) := by decide +kernel
theorem dX12_meter_142 : decode cX12_meter 142 = .ok (.getfield 96, 3) := by decide +kernel
theorem dX12_meter_145 : decode cX12_meter 145 = .ok (.iload_n 1, 1) := by decide +kernel
theorem dX12_meter_146 : decode cX12_meter 146 = .ok (.iaload, 1) := by decide +kernel
theorem dX12_meter_147 : decode cX12_meter 147 = .ok (.iastore, 1) := by decide +kernel
theorem dX12_meter_148 : decode cX12_meter 148 = .ok (.return_, 1) := by decide +kernel
abbrev rm_X12_meter : Room := { frames := 2, cells := 0, slots := 0, locals := 44 }
def wp_X12_meter (a : Nat) (p1 : Int32) (S : PS) (Q : PS → Prop) : Prop :=
  (∀ K18_2 : PS → Prop, (∀ (S1 : PS),
 (∃ b3, fR S1 106 a = some b3 ∧ (vp_in p1 (aN S1 b3) ∧ wp_X12_bad a 7 (aI S1 43 b3 (p1).toNatClampNeg) S1 (fun (S4 : PS) => 
 Q S4)))
 → K18_2 S1) →
 (if 0 < fI S 165 a then
 K18_2 S
 else
 wp_X12_isBar a (fL S 156 a) S (fun (r6 : Int32) (S5 : PS) => 
 (if r6 = 0 then
 K18_2 S5
 else
 (∃ b7, fR S5 150 a = some b7 ∧ (vp_in ((fI S5 153 a) - 1) (aN S5 b7) ∧ (∀ K55_10 : Int32 → PS → Prop, (∀ (t8 : Int32) (S9 : PS),
 (∀ K81_12 : PS → Prop, (∀ (S11 : PS),
 (∀ K95_17 : Nat → Int32 → Int32 → PS → Prop, (∀ (t13 : Nat) (t14 : Int32) (t15 : Int32) (S16 : PS),
 (∀ S18, S18 = sI S16 153 t13 (t14 + t15) → (∃ b19, fR S18 150 a = some b19 ∧ (vp_in ((fI S18 153 a) - 1) (aN S18 b19) ∧ ∀ S20, S20 = wL S18 78 b19 ((fI S18 153 a) - 1).toNatClampNeg (fL S18 156 a) → (∃ b21, fR S20 151 a = some b21 ∧ (∃ b22, fR S20 107 a = some b22 ∧ (vp_in p1 (aN S20 b22) ∧ (vp_in ((fI S20 153 a) - 1) (aN S20 b21) ∧ ∀ S23, S23 = wI S20 79 b21 ((fI S20 153 a) - 1).toNatClampNeg (aI S20 44 b22 (p1).toNatClampNeg) → (∃ b24, fR S23 152 a = some b24 ∧ (∃ b25, fR S23 108 a = some b25 ∧ (vp_in p1 (aN S23 b25) ∧ (vp_in ((fI S23 153 a) - 1) (aN S23 b24) ∧ ∀ S26, S26 = wI S23 80 b24 ((fI S23 153 a) - 1).toNatClampNeg (aI S23 45 b25 (p1).toNatClampNeg) → Q S26)))))))))))
 → K95_17 t13 t14 t15 S16) →
 (if t8 = 0 then
 K95_17 a (fI S11 153 a) 1 S11
 else
 K95_17 a (fI S11 153 a) 0 S11))
 → K81_12 S11) →
 (if t8 = 0 then
 (if fI S9 153 a = 40 then
 (∃ b27, fR S9 106 a = some b27 ∧ (vp_in p1 (aN S9 b27) ∧ wp_X12_bad a 5 (aI S9 43 b27 (p1).toNatClampNeg) S9 (fun (S28 : PS) => 
 Q S28)))
 else
 K81_12 S9)
 else
 K81_12 S9))
 → K55_10 t8 S9) →
 (if aL S5 78 b7 ((fI S5 153 a) - 1).toNatClampNeg = fL S5 156 a then
 K55_10 1 S5
 else
 K55_10 0 S5))))))))
set_option maxRecDepth 100000 in
set_option maxHeartbeats 4000000 in
theorem c_X12_meter {l : Launch} {E : EE} {A : Nat → Prop} {a : Nat} {p1 : Int32} {S : PS} {Q : PS → Prop} (r_a : Rf S a 9) (h : wp_X12_meter a p1 S Q) : MtV l yX12_meter (.code yX12_meter cX12_meter 3 none) rm_X12_meter E A [.ref a, .int p1] S Q := by
  refine MtV.of (by decide) (Nat.le_of_ble_eq_true rfl) (fun X F hQ hN => ?_)
  show VV X (0, 0) S [(0, .ref a), (1, .int p1)] [] 0
  unfold wp_X12_meter at h
  refine v_aload_n F dX12_meter_0 0 rfl rfl ?_
  refine g_X12_356 F r_a dX12_meter_1 ?_
  have h := h (fun (S1 : PS) => Rf S1 a 9 → VV X (0, 0) S1 [(0, .ref a), (1, .int p1)] [] 18) (by
    intro S1 h r_a
    refine v_aload_n F dX12_meter_18 0 rfl rfl ?_
    refine v_bipush (v := 7) F dX12_meter_19 (by decide) ?_
    refine v_aload_n F dX12_meter_21 0 rfl rfl ?_
    refine g_X12_90 F r_a h dX12_meter_22 (fun b3 r_b3 h => ?_)
    refine v_iload_n F dX12_meter_25 1 rfl rfl ?_
    refine v_iald F r_b3 o_43 h dX12_meter_26 (fun h => ?_)
    refine v_cV0 (v_runV F k_X12_50 rfl (c_X12_bad r_a h) r_a rfl rfl (Nat.le_of_ble_eq_true rfl) (by decide) (by decide) dX12_meter_27) ⟨rfl, rfl⟩ (fun  S4 h hE => ?_)
    have r_a := r_a.tr hE
    exact v_vret F hQ h (by decide) dX12_meter_30)
  refine v_if_gt (tgt := 18) F dX12_meter_4 (by decide) h (fun h => ?_) (fun h => ?_)
  · exact v_sub [0, 1] rfl (h r_a)
  · refine v_aload_n F dX12_meter_7 0 rfl rfl ?_
    refine v_aload_n F dX12_meter_8 0 rfl rfl ?_
    refine g_X12_309 F r_a dX12_meter_9 ?_
    refine v_cI0 (v_runV F k_X12_313 rfl (c_X12_isBar r_a h) r_a rfl rfl (Nat.le_of_ble_eq_true rfl) (by decide) (by decide) dX12_meter_12) ⟨rfl, rfl⟩ (fun r6 S5 h hE => ?_)
    obtain ⟨nz_r6, h⟩ := h
    have r_a := r_a.tr hE
    refine v_if_ne (tgt := 31) F dX12_meter_15 (by decide) h (fun h => ?_) (fun h => ?_)
    · refine v_aload_n F dX12_meter_31 0 rfl rfl ?_
      refine g_X12_465 F r_a h dX12_meter_32 (fun b7 r_b7 h => ?_)
      refine v_aload_n F dX12_meter_35 0 rfl rfl ?_
      refine g_X12_462 F r_a dX12_meter_36 ?_
      refine v_iconst (v := 1) F dX12_meter_39 (by decide) ?_
      refine v_isub F dX12_meter_40 ?_
      refine v_lald F r_b7 o_78 h dX12_meter_41 (fun h => ?_)
      refine v_aload_n F dX12_meter_42 0 rfl rfl ?_
      refine g_X12_309 F r_a dX12_meter_43 ?_
      have h := h (fun (t8 : Int32) (S9 : PS) => Rf S9 a 9 → VV X (0, 0) S9 [(0, .ref a), (1, .int p1)] [.int t8] 55) (by
        intro t8 S9 h r_a
        refine v_istore_n (lv1 := [(2, .int t8), (0, .ref a), (1, .int p1)]) F dX12_meter_55 rfl (by rw [hN]; decide) rfl ?_
        refine v_iload_n F dX12_meter_56 0 rfl rfl ?_
        have h := h (fun (S11 : PS) => Rf S11 a 9 → VV X (0, 0) S11 [(0, .ref a), (1, .int p1), (2, .int t8)] [] 81) (by
          intro S11 h r_a
          refine v_aload_n F dX12_meter_81 0 rfl rfl ?_
          refine v_dup F dX12_meter_82 rfl ?_
          refine g_X12_462 F r_a dX12_meter_83 ?_
          refine v_iload_n F dX12_meter_86 2 rfl rfl ?_
          have h := h (fun (t13 : Nat) (t14 : Int32) (t15 : Int32) (S16 : PS) => Rf S16 a 9 → Rf S16 t13 9 → VV X (0, 0) S16 [(0, .ref a), (1, .int p1)] [.int t15, .int t14, .ref t13] 95) (by
            intro t13 t14 t15 S16 h r_a r_t13
            refine v_iadd F dX12_meter_95 ?_
            refine p_X12_462 F r_t13 h dX12_meter_96 (fun S18 h hE => ?_)
            have r_a := r_a.tr hE
            refine v_aload_n F dX12_meter_99 0 rfl rfl ?_
            refine g_X12_465 F r_a h dX12_meter_100 (fun b19 r_b19 h => ?_)
            refine v_aload_n F dX12_meter_103 0 rfl rfl ?_
            refine g_X12_462 F r_a dX12_meter_104 ?_
            refine v_iconst (v := 1) F dX12_meter_107 (by decide) ?_
            refine v_isub F dX12_meter_108 ?_
            refine v_aload_n F dX12_meter_109 0 rfl rfl ?_
            refine g_X12_309 F r_a dX12_meter_110 ?_
            refine v_last F r_b19 o_78 h dX12_meter_113 (fun S20 h hE => ?_)
            have r_a := r_a.tr hE
            refine v_aload_n F dX12_meter_114 0 rfl rfl ?_
            refine g_X12_468 F r_a h dX12_meter_115 (fun b21 r_b21 h => ?_)
            refine v_aload_n F dX12_meter_118 0 rfl rfl ?_
            refine g_X12_462 F r_a dX12_meter_119 ?_
            refine v_iconst (v := 1) F dX12_meter_122 (by decide) ?_
            refine v_isub F dX12_meter_123 ?_
            refine v_aload_n F dX12_meter_124 0 rfl rfl ?_
            refine g_X12_93 F r_a h dX12_meter_125 (fun b22 r_b22 h => ?_)
            refine v_iload_n F dX12_meter_128 1 rfl rfl ?_
            refine v_iald F r_b22 o_44 h dX12_meter_129 (fun h => ?_)
            refine v_iast F r_b21 o_79 h dX12_meter_130 (fun S23 h hE => ?_)
            have r_a := r_a.tr hE
            refine v_aload_n F dX12_meter_131 0 rfl rfl ?_
            refine g_X12_471 F r_a h dX12_meter_132 (fun b24 r_b24 h => ?_)
            refine v_aload_n F dX12_meter_135 0 rfl rfl ?_
            refine g_X12_462 F r_a dX12_meter_136 ?_
            refine v_iconst (v := 1) F dX12_meter_139 (by decide) ?_
            refine v_isub F dX12_meter_140 ?_
            refine v_aload_n F dX12_meter_141 0 rfl rfl ?_
            refine g_X12_96 F r_a h dX12_meter_142 (fun b25 r_b25 h => ?_)
            refine v_iload_n F dX12_meter_145 1 rfl rfl ?_
            refine v_iald F r_b25 o_45 h dX12_meter_146 (fun h => ?_)
            refine v_iast F r_b24 o_80 h dX12_meter_147 (fun S26 h hE => ?_)
            have r_a := r_a.tr hE
            exact v_vret F hQ h (by decide) dX12_meter_148)
          refine v_if_eq (tgt := 94) F dX12_meter_87 (by decide) h (fun h => ?_) (fun h => ?_)
          · refine v_iconst (v := 1) F dX12_meter_94 (by decide) ?_
            exact v_sub [0, 1] rfl (h r_a r_a)
          · refine v_iconst (v := 0) F dX12_meter_90 (by decide) ?_
            refine v_goto (tgt := 95) F dX12_meter_91 (by decide) ?_
            exact v_sub [0, 1] rfl (h r_a r_a))
        refine v_if_ne (tgt := 81) F dX12_meter_57 (by decide) h (fun h => ?_) (fun h => ?_)
        · exact v_sub [1, 2, 0] rfl (h r_a)
        · refine v_aload_n F dX12_meter_60 1 rfl rfl ?_
          refine g_X12_462 F r_a dX12_meter_61 ?_
          refine v_bipush (v := 40) F dX12_meter_64 (by decide) ?_
          refine v_icmp_ne (tgt := 81) F dX12_meter_66 (by decide) h (fun h => ?_) (fun h => ?_)
          · exact v_sub [1, 2, 0] rfl (h r_a)
          · refine v_aload_n F dX12_meter_69 1 rfl rfl ?_
            refine v_iconst (v := 5) F dX12_meter_70 (by decide) ?_
            refine v_aload_n F dX12_meter_71 1 rfl rfl ?_
            refine g_X12_90 F r_a h dX12_meter_72 (fun b27 r_b27 h => ?_)
            refine v_iload_n F dX12_meter_75 2 rfl rfl ?_
            refine v_iald F r_b27 o_43 h dX12_meter_76 (fun h => ?_)
            refine v_cV0 (v_runV F k_X12_50 rfl (c_X12_bad r_a h) r_a rfl rfl (Nat.le_of_ble_eq_true rfl) (by decide) (by decide) dX12_meter_77) ⟨rfl, rfl⟩ (fun  S28 h hE => ?_)
            have r_a := r_a.tr hE
            exact v_vret F hQ h (by decide) dX12_meter_80)
      refine v_lcmp_ne (tgt := 54) F dX12_meter_46 dX12_meter_47 (by decide) h (fun h => ?_) (fun h => ?_)
      · refine v_iconst (v := 0) F dX12_meter_54 (by decide) ?_
        exact v_sub [0, 1] rfl (h r_a)
      · refine v_iconst (v := 1) F dX12_meter_50 (by decide) ?_
        refine v_goto (tgt := 55) F dX12_meter_51 (by decide) ?_
        exact v_sub [0, 1] rfl (h r_a)
    · exact v_sub [0, 1] rfl (h r_a)
theorem dX12_tuplet_0 : decode cX12_tuplet 0 = .ok (.aload_n 0, 1) := by decide +kernel
theorem dX12_tuplet_1 : decode cX12_tuplet 1 = .ok (.getfield 368, 3) := by decide +kernel
theorem dX12_tuplet_4 : decode cX12_tuplet 4 = .ok (.bipush 8, 2) := by decide +kernel
theorem dX12_tuplet_6 : decode cX12_tuplet 6 = .ok (.if_icmp .ne 15, 3) := by decide +kernel
theorem dX12_tuplet_9 : decode cX12_tuplet 9 = .ok (.aload_n 0, 1) := by decide +kernel
theorem dX12_tuplet_10 : decode cX12_tuplet 10 = .ok (.iconst 5, 1) := by decide +kernel
theorem dX12_tuplet_11 : decode cX12_tuplet 11 = .ok (.aload_n 0, 1) := by decide +kernel
theorem dX12_tuplet_12 : decode cX12_tuplet 12 = .ok (.getfield 90, 3) := by decide +kernel
theorem dX12_tuplet_15 : decode cX12_tuplet 15 = .ok (.iload_n 1, 1) := by decide +kernel
theorem dX12_tuplet_16 : decode cX12_tuplet 16 = .ok (.iaload, 1) := by decide +kernel
theorem dX12_tuplet_17 : decode cX12_tuplet 17 = .ok (.invokevirtual 50, 3) := by decide +kernel
theorem dX12_tuplet_20 : decode cX12_tuplet 20 = .ok (.return_, 1) := by decide +kernel
theorem dX12_tuplet_21 : decode cX12_tuplet 21 = .ok (.aload_n 0, 1) := by decide +kernel
theorem dX12_tuplet_22 : decode cX12_tuplet 22 = .ok (.getfield 371, 3) := by decide +kernel
theorem dX12_tuplet_25 : decode cX12_tuplet 25 = .ok (.aload_n 0, 1) := by decide +kernel
theorem dX12_tuplet_26 : decode cX12_tuplet 26 = .ok (.getfield 282, 3) := by decide +kernel
theorem dX12_tuplet_29 : decode cX12_tuplet 29 = .ok (.aload_n 0, 1) := by decide +kernel
theorem dX12_tuplet_30 : decode cX12_tuplet 30 = .ok (.getfield 374, 3) := by decide +kernel
theorem dX12_tuplet_33 : decode cX12_tuplet 33 = .ok (.lastore, 1) := by decide +kernel
theorem dX12_tuplet_34 : decode cX12_tuplet 34 = .ok (.aload_n 0, 1) := by decide +kernel
theorem dX12_tuplet_35 : decode cX12_tuplet 35 = .ok (.getfield 377, 3) := by decide +kernel
theorem dX12_tuplet_38 : decode cX12_tuplet 38 = .ok (.aload_n 0, 1) := by decide +kernel
theorem dX12_tuplet_39 : decode cX12_tuplet 39 = .ok (.getfield 282, 3) := by decide +kernel
theorem dX12_tuplet_42 : decode cX12_tuplet 42 = .ok (.aload_n 0, 1) := by decide +kernel
theorem dX12_tuplet_43 : decode cX12_tuplet 43 = .ok (.getfield 380, 3) := by decide +kernel
theorem dX12_tuplet_46 : decode cX12_tuplet 46 = .ok (.lastore, 1) := by decide +kernel
theorem dX12_tuplet_47 : decode cX12_tuplet 47 = .ok (.aload_n 0, 1) := by decide +kernel
theorem dX12_tuplet_48 : decode cX12_tuplet 48 = .ok (.dup, 1) := by decide +kernel
theorem dX12_tuplet_49 : decode cX12_tuplet 49 = .ok (.getfield 368, 3) := by decide +kernel
theorem dX12_tuplet_52 : decode cX12_tuplet 52 = .ok (.iconst 1, 1) := by decide +kernel
theorem dX12_tuplet_53 : decode cX12_tuplet 53 = .ok (.iadd, 1) := by decide +kernel
theorem dX12_tuplet_54 : decode cX12_tuplet 54 = .ok (.putfield 368, 3) := by decide +kernel
theorem dX12_tuplet_57 : decode cX12_tuplet 57 = .ok (.aload_n 0, 1) := by decide +kernel
theorem dX12_tuplet_58 : decode cX12_tuplet 58 = .ok (.dup, 1) := by decide +kernel
theorem dX12_tuplet_59 : decode cX12_tuplet 59 = .ok (.getfield 374, 3) := by decide +kernel
theorem dX12_tuplet_62 : decode cX12_tuplet 62 = .ok (.aload_n 0, 1) := by decide +kernel
theorem dX12_tuplet_63 : decode cX12_tuplet 63 = .ok (.getfield 96, 3) := by decide +kernel
theorem dX12_tuplet_66 : decode cX12_tuplet 66 = .ok (.iload_n 1, 1) := by decide +kernel
theorem dX12_tuplet_67 : decode cX12_tuplet 67 = .ok (.iaload, 1) := by decide +kernel
theorem dX12_tuplet_68 : decode cX12_tuplet 68 = .ok (.i2l, 1) := by decide +kernel
theorem dX12_tuplet_69 : decode cX12_tuplet 69 = .ok (.lmul, 1) := by decide +kernel
theorem dX12_tuplet_70 : decode cX12_tuplet 70 = .ok (.putfield 374, 3) := by decide +kernel
theorem dX12_tuplet_73 : decode cX12_tuplet 73 = .ok (.aload_n 0, 1) := by decide +kernel
theorem dX12_tuplet_74 : decode cX12_tuplet 74 = .ok (.dup, 1) := by decide +kernel
theorem dX12_tuplet_75 : decode cX12_tuplet 75 = .ok (.getfield 380, 3) := by decide +kernel
theorem dX12_tuplet_78 : decode cX12_tuplet 78 = .ok (.aload_n 0, 1) := by decide +kernel
theorem dX12_tuplet_79 : decode cX12_tuplet 79 = .ok (.getfield 93, 3) := by decide +kernel
theorem dX12_tuplet_82 : decode cX12_tuplet 82 = .ok (.iload_n 1, 1) := by decide +kernel
theorem dX12_tuplet_83 : decode cX12_tuplet 83 = .ok (.iaload, 1) := by decide +kernel
theorem dX12_tuplet_84 : decode cX12_tuplet 84 = .ok (.i2l, 1) := by decide +kernel
theorem dX12_tuplet_85 : decode cX12_tuplet 85 = .ok (.lmul, 1) := by decide +kernel
theorem dX12_tuplet_86 : decode cX12_tuplet 86 = .ok (.putfield 380, 3) := by decide +kernel
theorem dX12_tuplet_89 : decode cX12_tuplet 89 = .ok (.aload_n 0, 1) := by decide +kernel
theorem dX12_tuplet_90 : decode cX12_tuplet 90 = .ok (.iload_n 1, 1) := by decide +kernel
theorem dX12_tuplet_91 : decode cX12_tuplet 91 = .ok (.aload_n 0, 1) := by decide +kernel
theorem dX12_tuplet_92 : decode cX12_tuplet 92 = .ok (.getfield 99, 3) := by decide +kernel
theorem dX12_tuplet_95 : decode cX12_tuplet 95 = .ok (.iload_n 1, 1) := by decide +kernel
theorem dX12_tuplet_96 : decode cX12_tuplet 96 = .ok (.iaload, 1) := by decide +kernel
theorem dX12_tuplet_97 : decode cX12_tuplet 97 = .ok (.iload_n 2, 1) := by decide +kernel
theorem dX12_tuplet_98 : decode cX12_tuplet 98 = .ok (.invokevirtual 294, 3) := by decide +kernel
theorem dX12_tuplet_101 : decode cX12_tuplet 101 = .ok (.return_, 1) := by decide +kernel
abbrev rm_X12_tuplet : Room := { frames := 1, cells := 0, slots := 0, locals := 23 }
def wp_X12_tuplet (a : Nat) (p1 : Int32) (p2 : Int32) (S : PS) (Q : PS → Prop) : Prop :=
  (if fI S 160 a = 8 then
 (∃ b12, fR S 106 a = some b12 ∧ (vp_in p1 (aN S b12) ∧ wp_X12_bad a 5 (aI S 43 b12 (p1).toNatClampNeg) S (fun (S13 : PS) => 
 Q S13)))
 else
 (∃ b1, fR S 181 a = some b1 ∧ (vp_in (fI S 188 a) (aN S b1) ∧ ∀ S2, S2 = wL S 94 b1 (fI S 188 a).toNatClampNeg (fL S 161 a) → (∃ b3, fR S2 182 a = some b3 ∧ (vp_in (fI S2 188 a) (aN S2 b3) ∧ ∀ S4, S4 = wL S2 95 b3 (fI S2 188 a).toNatClampNeg (fL S2 162 a) → (∀ S5, S5 = sI S4 160 a ((fI S4 160 a) + 1) → (∃ b6, fR S5 108 a = some b6 ∧ (vp_in p1 (aN S5 b6) ∧ (∀ S7, S7 = sL S5 161 a ((fL S5 161 a) * ((aI S5 45 b6 (p1).toNatClampNeg).toInt64)) → (∃ b8, fR S7 107 a = some b8 ∧ (vp_in p1 (aN S7 b8) ∧ (∀ S9, S9 = sL S7 162 a ((fL S7 162 a) * ((aI S7 44 b8 (p1).toNatClampNeg).toInt64)) → (∃ b10, fR S9 109 a = some b10 ∧ (vp_in p1 (aN S9 b10) ∧ wp_X12_enter a p1 (aI S9 46 b10 (p1).toNatClampNeg) p2 S9 (fun (S11 : PS) => 
 Q S11)))))))))))))))
set_option maxRecDepth 100000 in
set_option maxHeartbeats 4000000 in
theorem c_X12_tuplet {l : Launch} {E : EE} {A : Nat → Prop} {a : Nat} {p1 : Int32} {p2 : Int32} {S : PS} {Q : PS → Prop} (r_a : Rf S a 9) (h : wp_X12_tuplet a p1 p2 S Q) : MtV l yX12_tuplet (.code yX12_tuplet cX12_tuplet 3 none) rm_X12_tuplet E A [.ref a, .int p1, .int p2] S Q := by
  refine MtV.of (by decide) (Nat.le_of_ble_eq_true rfl) (fun X F hQ hN => ?_)
  show VV X (0, 0) S [(0, .ref a), (1, .int p1), (2, .int p2)] [] 0
  unfold wp_X12_tuplet at h
  refine v_aload_n F dX12_tuplet_0 0 rfl rfl ?_
  refine g_X12_368 F r_a dX12_tuplet_1 ?_
  refine v_bipush (v := 8) F dX12_tuplet_4 (by decide) ?_
  refine v_icmp_ne (tgt := 21) F dX12_tuplet_6 (by decide) h (fun h => ?_) (fun h => ?_)
  · refine v_aload_n F dX12_tuplet_21 0 rfl rfl ?_
    refine g_X12_371 F r_a h dX12_tuplet_22 (fun b1 r_b1 h => ?_)
    refine v_aload_n F dX12_tuplet_25 0 rfl rfl ?_
    refine g_X12_282 F r_a dX12_tuplet_26 ?_
    refine v_aload_n F dX12_tuplet_29 0 rfl rfl ?_
    refine g_X12_374 F r_a dX12_tuplet_30 ?_
    refine v_last F r_b1 o_94 h dX12_tuplet_33 (fun S2 h hE => ?_)
    have r_a := r_a.tr hE
    refine v_aload_n F dX12_tuplet_34 0 rfl rfl ?_
    refine g_X12_377 F r_a h dX12_tuplet_35 (fun b3 r_b3 h => ?_)
    refine v_aload_n F dX12_tuplet_38 0 rfl rfl ?_
    refine g_X12_282 F r_a dX12_tuplet_39 ?_
    refine v_aload_n F dX12_tuplet_42 0 rfl rfl ?_
    refine g_X12_380 F r_a dX12_tuplet_43 ?_
    refine v_last F r_b3 o_95 h dX12_tuplet_46 (fun S4 h hE => ?_)
    have r_a := r_a.tr hE
    refine v_aload_n F dX12_tuplet_47 0 rfl rfl ?_
    refine v_dup F dX12_tuplet_48 rfl ?_
    refine g_X12_368 F r_a dX12_tuplet_49 ?_
    refine v_iconst (v := 1) F dX12_tuplet_52 (by decide) ?_
    refine v_iadd F dX12_tuplet_53 ?_
    refine p_X12_368 F r_a h dX12_tuplet_54 (fun S5 h hE => ?_)
    have r_a := r_a.tr hE
    refine v_aload_n F dX12_tuplet_57 0 rfl rfl ?_
    refine v_dup F dX12_tuplet_58 rfl ?_
    refine g_X12_374 F r_a dX12_tuplet_59 ?_
    refine v_aload_n F dX12_tuplet_62 0 rfl rfl ?_
    refine g_X12_96 F r_a h dX12_tuplet_63 (fun b6 r_b6 h => ?_)
    refine v_iload_n F dX12_tuplet_66 1 rfl rfl ?_
    refine v_iald F r_b6 o_45 h dX12_tuplet_67 (fun h => ?_)
    refine v_i2l F dX12_tuplet_68 ?_
    refine v_lmul F dX12_tuplet_69 ?_
    refine p_X12_374 F r_a h dX12_tuplet_70 (fun S7 h hE => ?_)
    have r_a := r_a.tr hE
    refine v_aload_n F dX12_tuplet_73 0 rfl rfl ?_
    refine v_dup F dX12_tuplet_74 rfl ?_
    refine g_X12_380 F r_a dX12_tuplet_75 ?_
    refine v_aload_n F dX12_tuplet_78 0 rfl rfl ?_
    refine g_X12_93 F r_a h dX12_tuplet_79 (fun b8 r_b8 h => ?_)
    refine v_iload_n F dX12_tuplet_82 1 rfl rfl ?_
    refine v_iald F r_b8 o_44 h dX12_tuplet_83 (fun h => ?_)
    refine v_i2l F dX12_tuplet_84 ?_
    refine v_lmul F dX12_tuplet_85 ?_
    refine p_X12_380 F r_a h dX12_tuplet_86 (fun S9 h hE => ?_)
    have r_a := r_a.tr hE
    refine v_aload_n F dX12_tuplet_89 0 rfl rfl ?_
    refine v_iload_n F dX12_tuplet_90 1 rfl rfl ?_
    refine v_aload_n F dX12_tuplet_91 0 rfl rfl ?_
    refine g_X12_99 F r_a h dX12_tuplet_92 (fun b10 r_b10 h => ?_)
    refine v_iload_n F dX12_tuplet_95 1 rfl rfl ?_
    refine v_iald F r_b10 o_46 h dX12_tuplet_96 (fun h => ?_)
    refine v_iload_n F dX12_tuplet_97 2 rfl rfl ?_
    refine v_cV0 (v_runV F k_X12_294 rfl (c_X12_enter r_a h) r_a rfl rfl (Nat.le_of_ble_eq_true rfl) (by decide) (by decide) dX12_tuplet_98) ⟨rfl, rfl⟩ (fun  S11 h hE => ?_)
    have r_a := r_a.tr hE
    exact v_vret F hQ h (by decide) dX12_tuplet_101
  · refine v_aload_n F dX12_tuplet_9 0 rfl rfl ?_
    refine v_iconst (v := 5) F dX12_tuplet_10 (by decide) ?_
    refine v_aload_n F dX12_tuplet_11 0 rfl rfl ?_
    refine g_X12_90 F r_a h dX12_tuplet_12 (fun b12 r_b12 h => ?_)
    refine v_iload_n F dX12_tuplet_15 1 rfl rfl ?_
    refine v_iald F r_b12 o_43 h dX12_tuplet_16 (fun h => ?_)
    refine v_cV0 (v_runV F k_X12_50 rfl (c_X12_bad r_a h) r_a rfl rfl (Nat.le_of_ble_eq_true rfl) (by decide) (by decide) dX12_tuplet_17) ⟨rfl, rfl⟩ (fun  S13 h hE => ?_)
    have r_a := r_a.tr hE
    exact v_vret F hQ h (by decide) dX12_tuplet_20
theorem dX12_words_0 : decode cX12_words 0 = .ok (.aload_n 0, 1) := by decide +kernel
theorem dX12_words_1 : decode cX12_words 1 = .ok (.getfield 96, 3) := by decide +kernel
theorem dX12_words_4 : decode cX12_words 4 = .ok (.iload_n 1, 1) := by decide +kernel
theorem dX12_words_5 : decode cX12_words 5 = .ok (.iaload, 1) := by decide +kernel
theorem dX12_words_6 : decode cX12_words 6 = .ok (.istore_n 2, 1) := by decide +kernel
theorem dX12_words_7 : decode cX12_words 7 = .ok (.iload_n 2, 1) := by decide +kernel
theorem dX12_words_8 : decode cX12_words 8 = .ok (.i2l, 1) := by decide +kernel
theorem dX12_words_9 : decode cX12_words 9 = .ok (.aload_n 0, 1) := by decide +kernel
theorem dX12_words_10 : decode cX12_words 10 = .ok (.getfield 96, 3) := by decide +kernel
theorem dX12_words_13 : decode cX12_words 13 = .ok (.iload_n 1, 1) := by decide +kernel
theorem dX12_words_14 : decode cX12_words 14 = .ok (.iaload, 1) := by decide +kernel
theorem dX12_words_15 : decode cX12_words 15 = .ok (.i2l, 1) := by decide +kernel
theorem dX12_words_16 : decode cX12_words 16 = .ok (.aload_n 0, 1) := by decide +kernel
theorem dX12_words_17 : decode cX12_words 17 = .ok (.getfield 105, 3) := by decide +kernel
theorem dX12_words_20 : decode cX12_words 20 = .ok (.iload_n 1, 1) := by decide +kernel
theorem dX12_words_21 : decode cX12_words 21 = .ok (.laload, 1) := by decide +kernel
theorem dX12_words_22 : decode cX12_words 22 = .ok (.ladd, 1) := by decide +kernel
theorem dX12_words_23 : decode cX12_words 23 = .ok (.lcmp, 1) := by decide +kernel
theorem dX12_words_24 : decode cX12_words 24 = .ok (.ifCond .ge 125, 3) := by decide +kernel
theorem dX12_words_27 : decode cX12_words 27 = .ok (.aload_n 0, 1) := by decide +kernel
theorem dX12_words_28 : decode cX12_words 28 = .ok (.getfield 23, 3) := by decide +kernel
theorem dX12_words_31 : decode cX12_words 31 = .ok (.ifCond .ne 118, 3) := by decide +kernel
theorem dX12_words_34 : decode cX12_words 34 = .ok (.iconst 0, 1) := by decide +kernel
theorem dX12_words_35 : decode cX12_words 35 = .ok (.istore_n 3, 1) := by decide +kernel
theorem dX12_words_36 : decode cX12_words 36 = .ok (.iload_n 3, 1) := by decide +kernel
theorem dX12_words_37 : decode cX12_words 37 = .ok (.aload_n 0, 1) := by decide +kernel
theorem dX12_words_38 : decode cX12_words 38 = .ok (.getfield 441, 3) := by decide +kernel
theorem dX12_words_41 : decode cX12_words 41 = .ok (.if_icmp .ge 61, 3) := by decide +kernel
theorem dX12_words_44 : decode cX12_words 44 = .ok (.aload_n 0, 1) := by decide +kernel
theorem dX12_words_45 : decode cX12_words 45 = .ok (.getfield 444, 3) := by decide +kernel
theorem dX12_words_48 : decode cX12_words 48 = .ok (.iload_n 3, 1) := by decide +kernel
theorem dX12_words_49 : decode cX12_words 49 = .ok (.iaload, 1) := by decide +kernel
theorem dX12_words_50 : decode cX12_words 50 = .ok (.aload_n 0, 1) := by decide +kernel
theorem dX12_words_51 : decode cX12_words 51 = .ok (.getfield 344, 3) := by decide +kernel
theorem dX12_words_54 : decode cX12_words 54 = .ok (.if_icmp .ne 42, 3) := by decide +kernel
theorem dX12_words_57 : decode cX12_words 57 = .ok (.aload_n 0, 1) := by decide +kernel
theorem dX12_words_58 : decode cX12_words 58 = .ok (.getfield 420, 3) := by decide +kernel
theorem dX12_words_61 : decode cX12_words 61 = .ok (.iload_n 3, 1) := by decide +kernel
theorem dX12_words_62 : decode cX12_words 62 = .ok (.iaload, 1) := by decide +kernel
theorem dX12_words_63 : decode cX12_words 63 = .ok (.ifCond .eq 33, 3) := by decide +kernel
theorem dX12_words_66 : decode cX12_words 66 = .ok (.aload_n 0, 1) := by decide +kernel
theorem dX12_words_67 : decode cX12_words 67 = .ok (.getfield 450, 3) := by decide +kernel
theorem dX12_words_70 : decode cX12_words 70 = .ok (.iload_n 3, 1) := by decide +kernel
theorem dX12_words_71 : decode cX12_words 71 = .ok (.baload, 1) := by decide +kernel
theorem dX12_words_72 : decode cX12_words 72 = .ok (.ifCond .ne 24, 3) := by decide +kernel
theorem dX12_words_75 : decode cX12_words 75 = .ok (.aload_n 0, 1) := by decide +kernel
theorem dX12_words_76 : decode cX12_words 76 = .ok (.getfield 459, 3) := by decide +kernel
theorem dX12_words_79 : decode cX12_words 79 = .ok (.iconst 3, 1) := by decide +kernel
theorem dX12_words_80 : decode cX12_words 80 = .ok (.iload_n 3, 1) := by decide +kernel
theorem dX12_words_81 : decode cX12_words 81 = .ok (.imul, 1) := by decide +kernel
theorem dX12_words_82 : decode cX12_words 82 = .ok (.aload_n 0, 1) := by decide +kernel
theorem dX12_words_83 : decode cX12_words 83 = .ok (.getfield 93, 3) := by decide +kernel
theorem dX12_words_86 : decode cX12_words 86 = .ok (.iload_n 1, 1) := by decide +kernel
theorem dX12_words_87 : decode cX12_words 87 = .ok (.iaload, 1) := by decide +kernel
theorem dX12_words_88 : decode cX12_words 88 = .ok (.iadd, 1) := by decide +kernel
theorem dX12_words_89 : decode cX12_words 89 = .ok (.iconst 1, 1) := by decide +kernel
theorem dX12_words_90 : decode cX12_words 90 = .ok (.isub, 1) := by decide +kernel
theorem dX12_words_91 : decode cX12_words 91 = .ok (.iaload, 1) := by decide +kernel
theorem dX12_words_92 : decode cX12_words 92 = .ok (.iconst (-1), 1) := by decide +kernel
theorem dX12_words_93 : decode cX12_words 93 = .ok (.if_icmp .eq 9, 3) := by decide +kernel
theorem dX12_words_96 : decode cX12_words 96 = .ok (.iinc 3 1, 3) := by decide +kernel
theorem dX12_words_99 : decode cX12_words 99 = .ok (.goto (-63), 3) := by decide +kernel
theorem dX12_words_102 : decode cX12_words 102 = .ok (.iload_n 3, 1) := by decide +kernel
theorem dX12_words_103 : decode cX12_words 103 = .ok (.aload_n 0, 1) := by decide +kernel
theorem dX12_words_104 : decode cX12_words 104 = .ok (.getfield 441, 3) := by decide +kernel
theorem dX12_words_107 : decode cX12_words 107 = .ok (.if_icmp .ne 18, 3) := by decide +kernel
theorem dX12_words_110 : decode cX12_words 110 = .ok (.aload_n 0, 1) := by decide +kernel
theorem dX12_words_111 : decode cX12_words 111 = .ok (.bipush 8, 2) := by decide +kernel
theorem dX12_words_113 : decode cX12_words 113 = .ok (.aload_n 0, 1) := by decide +kernel
theorem dX12_words_114 : decode cX12_words 114 = .ok (.getfield 221, 3) := by decide +kernel
theorem dX12_words_117 : decode cX12_words 117 = .ok (.iload_n 2, 1) := by decide +kernel
theorem dX12_words_118 : decode cX12_words 118 = .ok (.iaload, 1) := by decide +kernel
theorem dX12_words_119 : decode cX12_words 119 = .ok (.invokevirtual 50, 3) := by decide +kernel
theorem dX12_words_122 : decode cX12_words 122 = .ok (.goto 21, 3) := by decide +kernel
theorem dX12_words_125 : decode cX12_words 125 = .ok (.aload_n 0, 1) := by decide +kernel
theorem dX12_words_126 : decode cX12_words 126 = .ok (.getfield 459, 3) := by decide +kernel
theorem dX12_words_129 : decode cX12_words 129 = .ok (.iconst 3, 1) := by decide +kernel
theorem dX12_words_130 : decode cX12_words 130 = .ok (.iload_n 3, 1) := by decide +kernel
theorem dX12_words_131 : decode cX12_words 131 = .ok (.imul, 1) := by decide +kernel
theorem dX12_words_132 : decode cX12_words 132 = .ok (.aload_n 0, 1) := by decide +kernel
theorem dX12_words_133 : decode cX12_words 133 = .ok (.getfield 93, 3) := by decide +kernel
theorem dX12_words_136 : decode cX12_words 136 = .ok (.iload_n 1, 1) := by decide +kernel
theorem dX12_words_137 : decode cX12_words 137 = .ok (.iaload, 1) := by decide +kernel
theorem dX12_words_138 : decode cX12_words 138 = .ok (.iadd, 1) := by decide +kernel
theorem dX12_words_139 : decode cX12_words 139 = .ok (.iconst 1, 1) := by decide +kernel
theorem dX12_words_140 : decode cX12_words 140 = .ok (.isub, 1) := by decide +kernel
theorem dX12_words_141 : decode cX12_words 141 = .ok (.iload_n 2, 1) := by decide +kernel
theorem dX12_words_142 : decode cX12_words 142 = .ok (.iastore, 1) := by decide +kernel
theorem dX12_words_143 : decode cX12_words 143 = .ok (.iinc 2 1, 3) := by decide +kernel
theorem dX12_words_146 : decode cX12_words 146 = .ok (.goto (-139), 3) := by decide +kernel
theorem dX12_words_149 : decode cX12_words 149 = .ok (.return_, 1) := by decide +kernel
abbrev rm_X12_words : Room := { frames := 1, cells := 0, slots := 0, locals := 22 }
def wp_X12_words (a : Nat) (p1 : Int32) (S : PS) (Q : PS → Prop) : Prop :=
  (∃ b1, fR S 108 a = some b1 ∧ (vp_in p1 (aN S b1) ∧ (∀ v2, v2 = aI S 45 b1 (p1).toNatClampNeg → (∀ P7_3 : Int32 → PS → Prop, (∀ (x2_4 : Int32) (S5 : PS),
 (∃ b6, fR S5 108 a = some b6 ∧ (vp_in p1 (aN S5 b6) ∧ (∃ b7, fR S5 111 a = some b7 ∧ (vp_in p1 (aN S5 b7) ∧ (if ((aI S5 45 b6 (p1).toNatClampNeg).toInt64) + (aL S5 48 b7 (p1).toNatClampNeg) ≤ x2_4.toInt64 then
 Q S5
 else
 (if fI S5 102 a = 0 then
 (∀ P36_8 : Int32 → PS → Prop, (∀ (x3_9 : Int32) (S10 : PS),
 (∀ K102_12 : PS → Prop, (∀ (S11 : PS),
 (∀ K143_14 : PS → Prop, (∀ (S13 : PS),
 (∀ v15, v15 = x2_4 + 1 → P7_3 v15 S13)
 → K143_14 S13) →
 (if x3_9 = fI S11 146 a then
 (∃ b19, fR S11 118 a = some b19 ∧ (vp_in x2_4 (aN S11 b19) ∧ wp_X12_bad a 8 (aI S11 53 b19 (x2_4).toNatClampNeg) S11 (fun (S20 : PS) => 
 K143_14 S20)))
 else
 (∃ b16, fR S11 145 a = some b16 ∧ (∃ b17, fR S11 107 a = some b17 ∧ (vp_in p1 (aN S11 b17) ∧ (vp_in ((((3 : Int32) * x3_9) + (aI S11 44 b17 (p1).toNatClampNeg)) - 1) (aN S11 b16) ∧ ∀ S18, S18 = wI S11 75 b16 ((((3 : Int32) * x3_9) + (aI S11 44 b17 (p1).toNatClampNeg)) - 1).toNatClampNeg x2_4 → K143_14 S18))))))
 → K102_12 S11) →
 (if fI S10 146 a ≤ x3_9 then
 K102_12 S10
 else
 (∃ b21, fR S10 135 a = some b21 ∧ (vp_in x3_9 (aN S10 b21) ∧ (∀ K96_23 : PS → Prop, (∀ (S22 : PS),
 (∀ v24, v24 = x3_9 + 1 → P36_8 v24 S22)
 → K96_23 S22) →
 (if aI S10 65 b21 (x3_9).toNatClampNeg = fI S10 155 a then
 (∃ b25, fR S10 136 a = some b25 ∧ (vp_in x3_9 (aN S10 b25) ∧ (if aI S10 66 b25 (x3_9).toNatClampNeg = 0 then
 K96_23 S10
 else
 (∃ b26, fR S10 138 a = some b26 ∧ (vp_in x3_9 (aN S10 b26) ∧ (if aI S10 68 b26 (x3_9).toNatClampNeg = 0 then
 (∃ b27, fR S10 145 a = some b27 ∧ (∃ b28, fR S10 107 a = some b28 ∧ (vp_in p1 (aN S10 b28) ∧ (vp_in ((((3 : Int32) * x3_9) + (aI S10 44 b28 (p1).toNatClampNeg)) - 1) (aN S10 b27) ∧ (if aI S10 75 b27 ((((3 : Int32) * x3_9) + (aI S10 44 b28 (p1).toNatClampNeg)) - 1).toNatClampNeg = (-1) then
 K102_12 S10
 else
 K96_23 S10)))))
 else
 K96_23 S10))))))
 else
 K96_23 S10))))))
 → P36_8 x3_9 S10) → P36_8 0 S5)
 else
 Q S5))))))
 → P7_3 x2_4 S5) → P7_3 v2 S))))
set_option maxRecDepth 100000 in
set_option maxHeartbeats 4000000 in
theorem c_X12_words {l : Launch} {E : EE} {A : Nat → Prop} {a : Nat} {p1 : Int32} {S : PS} {Q : PS → Prop} (r_a : Rf S a 9) (h : wp_X12_words a p1 S Q) : MtV l yX12_words (.code yX12_words cX12_words 4 none) rm_X12_words E A [.ref a, .int p1] S Q := by
  refine MtV.of (by decide) (Nat.le_of_ble_eq_true rfl) (fun X F hQ hN => ?_)
  show VV X (0, 0) S [(0, .ref a), (1, .int p1)] [] 0
  unfold wp_X12_words at h
  refine v_aload_n F dX12_words_0 0 rfl rfl ?_
  refine g_X12_96 F r_a h dX12_words_1 (fun b1 r_b1 h => ?_)
  refine v_iload_n F dX12_words_4 1 rfl rfl ?_
  refine v_iald F r_b1 o_45 h dX12_words_5 (fun h => ?_)
  refine v_topi (fun v2 e_v2 => ?_)
  have h := h v2 e_v2
  refine v_istore_n (lv1 := [(2, .int v2), (0, .ref a), (1, .int p1)]) F dX12_words_6 rfl (by rw [hN]; decide) rfl ?_
  refine v_sub [1, 2, 0] rfl ?_
  refine h (fun (x2_4 : Int32) (S5 : PS) => Rf S5 a 9 → VV X (0, 0) S5 [(0, .ref a), (1, .int p1), (2, .int x2_4)] [] 7) (fun x2_4 S5 h r_a => ?_) r_a
  refine v_iload_n F dX12_words_7 2 rfl rfl ?_
  refine v_i2l F dX12_words_8 ?_
  refine v_aload_n F dX12_words_9 0 rfl rfl ?_
  refine g_X12_96 F r_a h dX12_words_10 (fun b6 r_b6 h => ?_)
  refine v_iload_n F dX12_words_13 1 rfl rfl ?_
  refine v_iald F r_b6 o_45 h dX12_words_14 (fun h => ?_)
  refine v_i2l F dX12_words_15 ?_
  refine v_aload_n F dX12_words_16 0 rfl rfl ?_
  refine g_X12_105 F r_a h dX12_words_17 (fun b7 r_b7 h => ?_)
  refine v_iload_n F dX12_words_20 1 rfl rfl ?_
  refine v_lald F r_b7 o_48 h dX12_words_21 (fun h => ?_)
  refine v_ladd F dX12_words_22 ?_
  refine v_lcmp_ge (tgt := 149) F dX12_words_23 dX12_words_24 (by decide) h (fun h => ?_) (fun h => ?_)
  · exact v_vret F hQ h (by decide) dX12_words_149
  · refine v_aload_n F dX12_words_27 0 rfl rfl ?_
    refine g_X12_23 F r_a dX12_words_28 ?_
    refine v_if_ne (tgt := 149) F dX12_words_31 (by decide) h (fun h => ?_) (fun h => ?_)
    · exact v_vret F hQ h (by decide) dX12_words_149
    · refine v_iconst (v := 0) F dX12_words_34 (by decide) ?_
      refine v_istore_n (lv1 := [(3, .int 0), (0, .ref a), (1, .int p1), (2, .int x2_4)]) F dX12_words_35 rfl (by rw [hN]; decide) rfl ?_
      refine v_sub [1, 2, 3, 0] rfl ?_
      refine h (fun (x3_9 : Int32) (S10 : PS) => Rf S10 a 9 → VV X (0, 0) S10 [(0, .ref a), (1, .int p1), (2, .int x2_4), (3, .int x3_9)] [] 36) (fun x3_9 S10 h r_a => ?_) r_a
      refine v_iload_n F dX12_words_36 3 rfl rfl ?_
      refine v_aload_n F dX12_words_37 0 rfl rfl ?_
      refine g_X12_441 F r_a dX12_words_38 ?_
      have h := h (fun (S11 : PS) => Rf S11 a 9 → VV X (0, 0) S11 [(0, .ref a), (1, .int p1), (2, .int x2_4), (3, .int x3_9)] [] 102) (by
        intro S11 h r_a
        refine v_iload_n F dX12_words_102 3 rfl rfl ?_
        refine v_aload_n F dX12_words_103 0 rfl rfl ?_
        refine g_X12_441 F r_a dX12_words_104 ?_
        have h := h (fun (S13 : PS) => Rf S13 a 9 → VV X (0, 0) S13 [(0, .ref a), (1, .int p1), (2, .int x2_4)] [] 143) (by
          intro S13 h r_a
          obtain ⟨v15, e_v15⟩ : ∃ y : Int32, y = x2_4 + 1 := ⟨_, rfl⟩
          have h := h v15 e_v15
          refine v_iinc (v := v15) (lv1 := [(2, .int v15), (0, .ref a), (1, .int p1)]) F dX12_words_143 (q := 2) rfl (by rw [e_v15]; rfl) (by rw [hN]; decide) rfl ?_
          refine v_goto (tgt := 7) F dX12_words_146 (by decide) ?_
          exact v_sub [1, 2, 0] rfl (h r_a))
        refine v_icmp_ne (tgt := 125) F dX12_words_107 (by decide) h (fun h => ?_) (fun h => ?_)
        · refine v_aload_n F dX12_words_125 0 rfl rfl ?_
          refine g_X12_459 F r_a h dX12_words_126 (fun b16 r_b16 h => ?_)
          refine v_iconst (v := 3) F dX12_words_129 (by decide) ?_
          refine v_iload_n F dX12_words_130 3 rfl rfl ?_
          refine v_imul F dX12_words_131 ?_
          refine v_aload_n F dX12_words_132 0 rfl rfl ?_
          refine g_X12_93 F r_a h dX12_words_133 (fun b17 r_b17 h => ?_)
          refine v_iload_n F dX12_words_136 1 rfl rfl ?_
          refine v_iald F r_b17 o_44 h dX12_words_137 (fun h => ?_)
          refine v_iadd F dX12_words_138 ?_
          refine v_iconst (v := 1) F dX12_words_139 (by decide) ?_
          refine v_isub F dX12_words_140 ?_
          refine v_iload_n F dX12_words_141 2 rfl rfl ?_
          refine v_iast F r_b16 o_75 h dX12_words_142 (fun S18 h hE => ?_)
          have r_a := r_a.tr hE
          exact v_sub [0, 1, 2] rfl (h r_a)
        · refine v_aload_n F dX12_words_110 0 rfl rfl ?_
          refine v_bipush (v := 8) F dX12_words_111 (by decide) ?_
          refine v_aload_n F dX12_words_113 0 rfl rfl ?_
          refine g_X12_221 F r_a h dX12_words_114 (fun b19 r_b19 h => ?_)
          refine v_iload_n F dX12_words_117 2 rfl rfl ?_
          refine v_iald F r_b19 o_53 h dX12_words_118 (fun h => ?_)
          refine v_cV0 (v_runV F k_X12_50 rfl (c_X12_bad r_a h) r_a rfl rfl (Nat.le_of_ble_eq_true rfl) (by decide) (by decide) dX12_words_119) ⟨rfl, rfl⟩ (fun  S20 h hE => ?_)
          have r_a := r_a.tr hE
          refine v_goto (tgt := 143) F dX12_words_122 (by decide) ?_
          exact v_sub [0, 1, 2] rfl (h r_a))
      refine v_icmp_ge (tgt := 102) F dX12_words_41 (by decide) h (fun h => ?_) (fun h => ?_)
      · exact v_sub [0, 1, 2, 3] rfl (h r_a)
      · refine v_aload_n F dX12_words_44 0 rfl rfl ?_
        refine g_X12_444 F r_a h dX12_words_45 (fun b21 r_b21 h => ?_)
        refine v_iload_n F dX12_words_48 3 rfl rfl ?_
        refine v_iald F r_b21 o_65 h dX12_words_49 (fun h => ?_)
        refine v_aload_n F dX12_words_50 0 rfl rfl ?_
        refine g_X12_344 F r_a dX12_words_51 ?_
        have h := h (fun (S22 : PS) => Rf S22 a 9 → VV X (0, 0) S22 [(0, .ref a), (1, .int p1), (2, .int x2_4), (3, .int x3_9)] [] 96) (by
          intro S22 h r_a
          obtain ⟨v24, e_v24⟩ : ∃ y : Int32, y = x3_9 + 1 := ⟨_, rfl⟩
          have h := h v24 e_v24
          refine v_iinc (v := v24) (lv1 := [(3, .int v24), (0, .ref a), (1, .int p1), (2, .int x2_4)]) F dX12_words_96 (q := 3) rfl (by rw [e_v24]; rfl) (by rw [hN]; decide) rfl ?_
          refine v_goto (tgt := 36) F dX12_words_99 (by decide) ?_
          exact v_sub [1, 2, 3, 0] rfl (h r_a))
        refine v_icmp_ne (tgt := 96) F dX12_words_54 (by decide) h (fun h => ?_) (fun h => ?_)
        · exact v_sub [0, 1, 2, 3] rfl (h r_a)
        · refine v_aload_n F dX12_words_57 0 rfl rfl ?_
          refine g_X12_420 F r_a h dX12_words_58 (fun b25 r_b25 h => ?_)
          refine v_iload_n F dX12_words_61 3 rfl rfl ?_
          refine v_iald F r_b25 o_66 h dX12_words_62 (fun h => ?_)
          refine v_if_eq (tgt := 96) F dX12_words_63 (by decide) h (fun h => ?_) (fun h => ?_)
          · exact v_sub [0, 1, 2, 3] rfl (h r_a)
          · refine v_aload_n F dX12_words_66 0 rfl rfl ?_
            refine g_X12_450 F r_a h dX12_words_67 (fun b26 r_b26 h => ?_)
            refine v_iload_n F dX12_words_70 3 rfl rfl ?_
            refine v_zald F r_b26 o_68 h dX12_words_71 (fun h => ?_)
            refine v_if_ne (tgt := 96) F dX12_words_72 (by decide) h (fun h => ?_) (fun h => ?_)
            · exact v_sub [0, 1, 2, 3] rfl (h r_a)
            · refine v_aload_n F dX12_words_75 0 rfl rfl ?_
              refine g_X12_459 F r_a h dX12_words_76 (fun b27 r_b27 h => ?_)
              refine v_iconst (v := 3) F dX12_words_79 (by decide) ?_
              refine v_iload_n F dX12_words_80 3 rfl rfl ?_
              refine v_imul F dX12_words_81 ?_
              refine v_aload_n F dX12_words_82 0 rfl rfl ?_
              refine g_X12_93 F r_a h dX12_words_83 (fun b28 r_b28 h => ?_)
              refine v_iload_n F dX12_words_86 1 rfl rfl ?_
              refine v_iald F r_b28 o_44 h dX12_words_87 (fun h => ?_)
              refine v_iadd F dX12_words_88 ?_
              refine v_iconst (v := 1) F dX12_words_89 (by decide) ?_
              refine v_isub F dX12_words_90 ?_
              refine v_iald F r_b27 o_75 h dX12_words_91 (fun h => ?_)
              refine v_iconst (v := (-1)) F dX12_words_92 (by decide) ?_
              refine v_icmp_eq (tgt := 102) F dX12_words_93 (by decide) h (fun h => ?_) (fun h => ?_)
              · exact v_sub [0, 1, 2, 3] rfl (h r_a)
              · exact v_sub [0, 1, 2, 3] rfl (h r_a)
theorem dX12_use_0 : decode cX12_use 0 = .ok (.aload_n 0, 1) := by decide +kernel
theorem dX12_use_1 : decode cX12_use 1 = .ok (.getfield 387, 3) := by decide +kernel
theorem dX12_use_4 : decode cX12_use 4 = .ok (.bipush 24, 2) := by decide +kernel
theorem dX12_use_6 : decode cX12_use 6 = .ok (.if_icmp .ne 15, 3) := by decide +kernel
theorem dX12_use_9 : decode cX12_use 9 = .ok (.aload_n 0, 1) := by decide +kernel
theorem dX12_use_10 : decode cX12_use 10 = .ok (.iconst 5, 1) := by decide +kernel
theorem dX12_use_11 : decode cX12_use 11 = .ok (.aload_n 0, 1) := by decide +kernel
theorem dX12_use_12 : decode cX12_use 12 = .ok (.getfield 90, 3) := by decide +kernel
theorem dX12_use_15 : decode cX12_use 15 = .ok (.iload_n 1, 1) := by decide +kernel
theorem dX12_use_16 : decode cX12_use 16 = .ok (.iaload, 1) := by decide +kernel
theorem dX12_use_17 : decode cX12_use 17 = .ok (.invokevirtual 50, 3) := by decide +kernel
theorem dX12_use_20 : decode cX12_use 20 = .ok (.return_, 1) := by decide +kernel
theorem dX12_use_21 : decode cX12_use 21 = .ok (.aload_n 0, 1) := by decide +kernel
theorem dX12_use_22 : decode cX12_use 22 = .ok (.dup, 1) := by decide +kernel
theorem dX12_use_23 : decode cX12_use 23 = .ok (.getfield 387, 3) := by decide +kernel
theorem dX12_use_26 : decode cX12_use 26 = .ok (.iconst 1, 1) := by decide +kernel
theorem dX12_use_27 : decode cX12_use 27 = .ok (.iadd, 1) := by decide +kernel
theorem dX12_use_28 : decode cX12_use 28 = .ok (.putfield 387, 3) := by decide +kernel
theorem dX12_use_31 : decode cX12_use 31 = .ok (.aload_n 0, 1) := by decide +kernel
theorem dX12_use_32 : decode cX12_use 32 = .ok (.getfield 93, 3) := by decide +kernel
theorem dX12_use_35 : decode cX12_use 35 = .ok (.iload_n 1, 1) := by decide +kernel
theorem dX12_use_36 : decode cX12_use 36 = .ok (.iaload, 1) := by decide +kernel
theorem dX12_use_37 : decode cX12_use 37 = .ok (.ifCond .ge 53, 3) := by decide +kernel
theorem dX12_use_40 : decode cX12_use 40 = .ok (.aload_n 0, 1) := by decide +kernel
theorem dX12_use_41 : decode cX12_use 41 = .ok (.getfield 496, 3) := by decide +kernel
theorem dX12_use_44 : decode cX12_use 44 = .ok (.iload_n 2, 1) := by decide +kernel
theorem dX12_use_45 : decode cX12_use 45 = .ok (.iaload, 1) := by decide +kernel
theorem dX12_use_46 : decode cX12_use 46 = .ok (.istore_n 3, 1) := by decide +kernel
theorem dX12_use_47 : decode cX12_use 47 = .ok (.iconst (-1), 1) := by decide +kernel
theorem dX12_use_48 : decode cX12_use 48 = .ok (.aload_n 0, 1) := by decide +kernel
theorem dX12_use_49 : decode cX12_use 49 = .ok (.getfield 93, 3) := by decide +kernel
theorem dX12_use_52 : decode cX12_use 52 = .ok (.iload_n 1, 1) := by decide +kernel
theorem dX12_use_53 : decode cX12_use 53 = .ok (.iaload, 1) := by decide +kernel
theorem dX12_use_54 : decode cX12_use 54 = .ok (.isub, 1) := by decide +kernel
theorem dX12_use_55 : decode cX12_use 55 = .ok (.istore 4, 2) := by decide +kernel
theorem dX12_use_57 : decode cX12_use 57 = .ok (.iload 4, 2) := by decide +kernel
theorem dX12_use_59 : decode cX12_use 59 = .ok (.ifCond .le 16, 3) := by decide +kernel
theorem dX12_use_62 : decode cX12_use 62 = .ok (.aload_n 0, 1) := by decide +kernel
theorem dX12_use_63 : decode cX12_use 63 = .ok (.getfield 102, 3) := by decide +kernel
theorem dX12_use_66 : decode cX12_use 66 = .ok (.iload_n 3, 1) := by decide +kernel
theorem dX12_use_67 : decode cX12_use 67 = .ok (.iaload, 1) := by decide +kernel
theorem dX12_use_68 : decode cX12_use 68 = .ok (.istore_n 3, 1) := by decide +kernel
theorem dX12_use_69 : decode cX12_use 69 = .ok (.iinc 4 (-1), 3) := by decide +kernel
theorem dX12_use_72 : decode cX12_use 72 = .ok (.goto (-15), 3) := by decide +kernel
theorem dX12_use_75 : decode cX12_use 75 = .ok (.aload_n 0, 1) := by decide +kernel
theorem dX12_use_76 : decode cX12_use 76 = .ok (.iload_n 1, 1) := by decide +kernel
theorem dX12_use_77 : decode cX12_use 77 = .ok (.iload_n 3, 1) := by decide +kernel
theorem dX12_use_78 : decode cX12_use 78 = .ok (.aload_n 0, 1) := by decide +kernel
theorem dX12_use_79 : decode cX12_use 79 = .ok (.getfield 499, 3) := by decide +kernel
theorem dX12_use_82 : decode cX12_use 82 = .ok (.iload_n 2, 1) := by decide +kernel
theorem dX12_use_83 : decode cX12_use 83 = .ok (.iaload, 1) := by decide +kernel
theorem dX12_use_84 : decode cX12_use 84 = .ok (.invokevirtual 294, 3) := by decide +kernel
theorem dX12_use_87 : decode cX12_use 87 = .ok (.goto 60, 3) := by decide +kernel
theorem dX12_use_90 : decode cX12_use 90 = .ok (.aload_n 0, 1) := by decide +kernel
theorem dX12_use_91 : decode cX12_use 91 = .ok (.getfield 496, 3) := by decide +kernel
theorem dX12_use_94 : decode cX12_use 94 = .ok (.aload_n 0, 1) := by decide +kernel
theorem dX12_use_95 : decode cX12_use 95 = .ok (.getfield 390, 3) := by decide +kernel
theorem dX12_use_98 : decode cX12_use 98 = .ok (.aload_n 0, 1) := by decide +kernel
theorem dX12_use_99 : decode cX12_use 99 = .ok (.getfield 99, 3) := by decide +kernel
theorem dX12_use_102 : decode cX12_use 102 = .ok (.iload_n 1, 1) := by decide +kernel
theorem dX12_use_103 : decode cX12_use 103 = .ok (.iaload, 1) := by decide +kernel
theorem dX12_use_104 : decode cX12_use 104 = .ok (.iastore, 1) := by decide +kernel
theorem dX12_use_105 : decode cX12_use 105 = .ok (.aload_n 0, 1) := by decide +kernel
theorem dX12_use_106 : decode cX12_use 106 = .ok (.getfield 499, 3) := by decide +kernel
theorem dX12_use_109 : decode cX12_use 109 = .ok (.aload_n 0, 1) := by decide +kernel
theorem dX12_use_110 : decode cX12_use 110 = .ok (.getfield 390, 3) := by decide +kernel
theorem dX12_use_113 : decode cX12_use 113 = .ok (.iload_n 2, 1) := by decide +kernel
theorem dX12_use_114 : decode cX12_use 114 = .ok (.iastore, 1) := by decide +kernel
theorem dX12_use_115 : decode cX12_use 115 = .ok (.aload_n 0, 1) := by decide +kernel
theorem dX12_use_116 : decode cX12_use 116 = .ok (.dup, 1) := by decide +kernel
theorem dX12_use_117 : decode cX12_use 117 = .ok (.getfield 390, 3) := by decide +kernel
theorem dX12_use_120 : decode cX12_use 120 = .ok (.iconst 1, 1) := by decide +kernel
theorem dX12_use_121 : decode cX12_use 121 = .ok (.iadd, 1) := by decide +kernel
theorem dX12_use_122 : decode cX12_use 122 = .ok (.putfield 390, 3) := by decide +kernel
theorem dX12_use_125 : decode cX12_use 125 = .ok (.aload_n 0, 1) := by decide +kernel
theorem dX12_use_126 : decode cX12_use 126 = .ok (.iload_n 1, 1) := by decide +kernel
theorem dX12_use_127 : decode cX12_use 127 = .ok (.aload_n 0, 1) := by decide +kernel
theorem dX12_use_128 : decode cX12_use 128 = .ok (.getfield 265, 3) := by decide +kernel
theorem dX12_use_131 : decode cX12_use 131 = .ok (.aload_n 0, 1) := by decide +kernel
theorem dX12_use_132 : decode cX12_use 132 = .ok (.getfield 93, 3) := by decide +kernel
theorem dX12_use_135 : decode cX12_use 135 = .ok (.iload_n 1, 1) := by decide +kernel
theorem dX12_use_136 : decode cX12_use 136 = .ok (.iaload, 1) := by decide +kernel
theorem dX12_use_137 : decode cX12_use 137 = .ok (.iaload, 1) := by decide +kernel
theorem dX12_use_138 : decode cX12_use 138 = .ok (.aload_n 0, 1) := by decide +kernel
theorem dX12_use_139 : decode cX12_use 139 = .ok (.getfield 390, 3) := by decide +kernel
theorem dX12_use_142 : decode cX12_use 142 = .ok (.iconst 1, 1) := by decide +kernel
theorem dX12_use_143 : decode cX12_use 143 = .ok (.isub, 1) := by decide +kernel
theorem dX12_use_144 : decode cX12_use 144 = .ok (.invokevirtual 294, 3) := by decide +kernel
theorem dX12_use_147 : decode cX12_use 147 = .ok (.return_, 1) := by decide +kernel
abbrev rm_X12_use : Room := { frames := 1, cells := 0, slots := 0, locals := 23 }
def wp_X12_use (a : Nat) (p1 : Int32) (p2 : Int32) (S : PS) (Q : PS → Prop) : Prop :=
  (if fI S 166 a = 24 then
 (∃ b25, fR S 106 a = some b25 ∧ (vp_in p1 (aN S b25) ∧ wp_X12_bad a 5 (aI S 43 b25 (p1).toNatClampNeg) S (fun (S26 : PS) => 
 Q S26)))
 else
 (∀ S1, S1 = sI S 166 a ((fI S 166 a) + 1) → (∃ b2, fR S1 107 a = some b2 ∧ (vp_in p1 (aN S1 b2) ∧ (if 0 ≤ aI S1 44 b2 (p1).toNatClampNeg then
 (∃ b3, fR S1 167 a = some b3 ∧ (∃ b4, fR S1 109 a = some b4 ∧ (vp_in p1 (aN S1 b4) ∧ (vp_in (fI S1 169 a) (aN S1 b3) ∧ ∀ S5, S5 = wI S1 81 b3 (fI S1 169 a).toNatClampNeg (aI S1 46 b4 (p1).toNatClampNeg) → (∃ b6, fR S5 168 a = some b6 ∧ (vp_in (fI S5 169 a) (aN S5 b6) ∧ ∀ S7, S7 = wI S5 82 b6 (fI S5 169 a).toNatClampNeg p2 → (∀ S8, S8 = sI S7 169 a ((fI S7 169 a) + 1) → (∃ b9, fR S8 123 a = some b9 ∧ (∃ b10, fR S8 107 a = some b10 ∧ (vp_in p1 (aN S8 b10) ∧ (vp_in (aI S8 44 b10 (p1).toNatClampNeg) (aN S8 b9) ∧ wp_X12_enter a p1 (aI S8 57 b9 (aI S8 44 b10 (p1).toNatClampNeg).toNatClampNeg) ((fI S8 169 a) - 1) S8 (fun (S11 : PS) => 
 Q S11))))))))))))
 else
 (∃ b12, fR S1 167 a = some b12 ∧ (vp_in p2 (aN S1 b12) ∧ (∀ v13, v13 = aI S1 81 b12 (p2).toNatClampNeg → (∃ b14, fR S1 107 a = some b14 ∧ (vp_in p1 (aN S1 b14) ∧ (∀ v15, v15 = (-1) - (aI S1 44 b14 (p1).toNatClampNeg) → (∀ P57_16 : Int32 → Int32 → PS → Prop, (∀ (x3_17 : Int32) (x4_18 : Int32) (S19 : PS),
 (if x4_18 ≤ 0 then
 (∃ b20, fR S19 168 a = some b20 ∧ (vp_in p2 (aN S19 b20) ∧ wp_X12_enter a p1 x3_17 (aI S19 82 b20 (p2).toNatClampNeg) S19 (fun (S21 : PS) => 
 Q S21)))
 else
 (∃ b22, fR S19 110 a = some b22 ∧ (vp_in x3_17 (aN S19 b22) ∧ (∀ v23, v23 = aI S19 47 b22 (x3_17).toNatClampNeg → (∀ v24, v24 = x4_18 + (-1) → P57_16 v23 v24 S19)))))
 → P57_16 x3_17 x4_18 S19) → P57_16 v13 v15 S1))))))))))))
set_option maxRecDepth 100000 in
set_option maxHeartbeats 4000000 in
theorem c_X12_use {l : Launch} {E : EE} {A : Nat → Prop} {a : Nat} {p1 : Int32} {p2 : Int32} {S : PS} {Q : PS → Prop} (r_a : Rf S a 9) (h : wp_X12_use a p1 p2 S Q) : MtV l yX12_use (.code yX12_use cX12_use 5 none) rm_X12_use E A [.ref a, .int p1, .int p2] S Q := by
  refine MtV.of (by decide) (Nat.le_of_ble_eq_true rfl) (fun X F hQ hN => ?_)
  show VV X (0, 0) S [(0, .ref a), (1, .int p1), (2, .int p2)] [] 0
  unfold wp_X12_use at h
  refine v_aload_n F dX12_use_0 0 rfl rfl ?_
  refine g_X12_387 F r_a dX12_use_1 ?_
  refine v_bipush (v := 24) F dX12_use_4 (by decide) ?_
  refine v_icmp_ne (tgt := 21) F dX12_use_6 (by decide) h (fun h => ?_) (fun h => ?_)
  · refine v_aload_n F dX12_use_21 0 rfl rfl ?_
    refine v_dup F dX12_use_22 rfl ?_
    refine g_X12_387 F r_a dX12_use_23 ?_
    refine v_iconst (v := 1) F dX12_use_26 (by decide) ?_
    refine v_iadd F dX12_use_27 ?_
    refine p_X12_387 F r_a h dX12_use_28 (fun S1 h hE => ?_)
    have r_a := r_a.tr hE
    refine v_aload_n F dX12_use_31 0 rfl rfl ?_
    refine g_X12_93 F r_a h dX12_use_32 (fun b2 r_b2 h => ?_)
    refine v_iload_n F dX12_use_35 1 rfl rfl ?_
    refine v_iald F r_b2 o_44 h dX12_use_36 (fun h => ?_)
    refine v_if_ge (tgt := 90) F dX12_use_37 (by decide) h (fun h => ?_) (fun h => ?_)
    · refine v_aload_n F dX12_use_90 0 rfl rfl ?_
      refine g_X12_496 F r_a h dX12_use_91 (fun b3 r_b3 h => ?_)
      refine v_aload_n F dX12_use_94 0 rfl rfl ?_
      refine g_X12_390 F r_a dX12_use_95 ?_
      refine v_aload_n F dX12_use_98 0 rfl rfl ?_
      refine g_X12_99 F r_a h dX12_use_99 (fun b4 r_b4 h => ?_)
      refine v_iload_n F dX12_use_102 1 rfl rfl ?_
      refine v_iald F r_b4 o_46 h dX12_use_103 (fun h => ?_)
      refine v_iast F r_b3 o_81 h dX12_use_104 (fun S5 h hE => ?_)
      have r_a := r_a.tr hE
      refine v_aload_n F dX12_use_105 0 rfl rfl ?_
      refine g_X12_499 F r_a h dX12_use_106 (fun b6 r_b6 h => ?_)
      refine v_aload_n F dX12_use_109 0 rfl rfl ?_
      refine g_X12_390 F r_a dX12_use_110 ?_
      refine v_iload_n F dX12_use_113 2 rfl rfl ?_
      refine v_iast F r_b6 o_82 h dX12_use_114 (fun S7 h hE => ?_)
      have r_a := r_a.tr hE
      refine v_aload_n F dX12_use_115 0 rfl rfl ?_
      refine v_dup F dX12_use_116 rfl ?_
      refine g_X12_390 F r_a dX12_use_117 ?_
      refine v_iconst (v := 1) F dX12_use_120 (by decide) ?_
      refine v_iadd F dX12_use_121 ?_
      refine p_X12_390 F r_a h dX12_use_122 (fun S8 h hE => ?_)
      have r_a := r_a.tr hE
      refine v_aload_n F dX12_use_125 0 rfl rfl ?_
      refine v_iload_n F dX12_use_126 1 rfl rfl ?_
      refine v_aload_n F dX12_use_127 0 rfl rfl ?_
      refine g_X12_265 F r_a h dX12_use_128 (fun b9 r_b9 h => ?_)
      refine v_aload_n F dX12_use_131 0 rfl rfl ?_
      refine g_X12_93 F r_a h dX12_use_132 (fun b10 r_b10 h => ?_)
      refine v_iload_n F dX12_use_135 1 rfl rfl ?_
      refine v_iald F r_b10 o_44 h dX12_use_136 (fun h => ?_)
      refine v_iald F r_b9 o_57 h dX12_use_137 (fun h => ?_)
      refine v_aload_n F dX12_use_138 0 rfl rfl ?_
      refine g_X12_390 F r_a dX12_use_139 ?_
      refine v_iconst (v := 1) F dX12_use_142 (by decide) ?_
      refine v_isub F dX12_use_143 ?_
      refine v_cV0 (v_runV F k_X12_294 rfl (c_X12_enter r_a h) r_a rfl rfl (Nat.le_of_ble_eq_true rfl) (by decide) (by decide) dX12_use_144) ⟨rfl, rfl⟩ (fun  S11 h hE => ?_)
      have r_a := r_a.tr hE
      exact v_vret F hQ h (by decide) dX12_use_147
    · refine v_aload_n F dX12_use_40 0 rfl rfl ?_
      refine g_X12_496 F r_a h dX12_use_41 (fun b12 r_b12 h => ?_)
      refine v_iload_n F dX12_use_44 2 rfl rfl ?_
      refine v_iald F r_b12 o_81 h dX12_use_45 (fun h => ?_)
      refine v_topi (fun v13 e_v13 => ?_)
      have h := h v13 e_v13
      refine v_istore_n (lv1 := [(3, .int v13), (0, .ref a), (1, .int p1), (2, .int p2)]) F dX12_use_46 rfl (by rw [hN]; decide) rfl ?_
      refine v_iconst (v := (-1)) F dX12_use_47 (by decide) ?_
      refine v_aload_n F dX12_use_48 1 rfl rfl ?_
      refine g_X12_93 F r_a h dX12_use_49 (fun b14 r_b14 h => ?_)
      refine v_iload_n F dX12_use_52 2 rfl rfl ?_
      refine v_iald F r_b14 o_44 h dX12_use_53 (fun h => ?_)
      refine v_isub F dX12_use_54 ?_
      refine v_topi (fun v15 e_v15 => ?_)
      have h := h v15 e_v15
      refine v_istore (lv1 := [(4, .int v15), (3, .int v13), (0, .ref a), (1, .int p1), (2, .int p2)]) F dX12_use_55 (by rw [hN]; decide) rfl ?_
      refine v_sub [2, 3, 4, 1, 0] rfl ?_
      refine h (fun (x3_17 : Int32) (x4_18 : Int32) (S19 : PS) => Rf S19 a 9 → VV X (0, 0) S19 [(0, .ref a), (1, .int p1), (2, .int p2), (3, .int x3_17), (4, .int x4_18)] [] 57) (fun x3_17 x4_18 S19 h r_a => ?_) r_a
      refine v_iload F dX12_use_57 4 rfl ?_
      refine v_if_le (tgt := 75) F dX12_use_59 (by decide) h (fun h => ?_) (fun h => ?_)
      · refine v_aload_n F dX12_use_75 0 rfl rfl ?_
        refine v_iload_n F dX12_use_76 1 rfl rfl ?_
        refine v_iload_n F dX12_use_77 3 rfl rfl ?_
        refine v_aload_n F dX12_use_78 0 rfl rfl ?_
        refine g_X12_499 F r_a h dX12_use_79 (fun b20 r_b20 h => ?_)
        refine v_iload_n F dX12_use_82 2 rfl rfl ?_
        refine v_iald F r_b20 o_82 h dX12_use_83 (fun h => ?_)
        refine v_cV0 (v_runV F k_X12_294 rfl (c_X12_enter r_a h) r_a rfl rfl (Nat.le_of_ble_eq_true rfl) (by decide) (by decide) dX12_use_84) ⟨rfl, rfl⟩ (fun  S21 h hE => ?_)
        have r_a := r_a.tr hE
        refine v_goto (tgt := 147) F dX12_use_87 (by decide) ?_
        exact v_vret F hQ h (by decide) dX12_use_147
      · refine v_aload_n F dX12_use_62 0 rfl rfl ?_
        refine g_X12_102 F r_a h dX12_use_63 (fun b22 r_b22 h => ?_)
        refine v_iload_n F dX12_use_66 3 rfl rfl ?_
        refine v_iald F r_b22 o_47 h dX12_use_67 (fun h => ?_)
        refine v_topi (fun v23 e_v23 => ?_)
        have h := h v23 e_v23
        refine v_istore_n (lv1 := [(3, .int v23), (0, .ref a), (1, .int p1), (2, .int p2), (4, .int x4_18)]) F dX12_use_68 rfl (by rw [hN]; decide) rfl ?_
        obtain ⟨v24, e_v24⟩ : ∃ y : Int32, y = x4_18 + (-1) := ⟨_, rfl⟩
        have h := h v24 e_v24
        refine v_iinc (v := v24) (lv1 := [(4, .int v24), (3, .int v23), (0, .ref a), (1, .int p1), (2, .int p2)]) F dX12_use_69 (q := 4) rfl (by rw [e_v24]; rfl) (by rw [hN]; decide) rfl ?_
        refine v_goto (tgt := 57) F dX12_use_72 (by decide) ?_
        exact v_sub [2, 3, 4, 1, 0] rfl (h r_a)
  · refine v_aload_n F dX12_use_9 0 rfl rfl ?_
    refine v_iconst (v := 5) F dX12_use_10 (by decide) ?_
    refine v_aload_n F dX12_use_11 0 rfl rfl ?_
    refine g_X12_90 F r_a h dX12_use_12 (fun b25 r_b25 h => ?_)
    refine v_iload_n F dX12_use_15 1 rfl rfl ?_
    refine v_iald F r_b25 o_43 h dX12_use_16 (fun h => ?_)
    refine v_cV0 (v_runV F k_X12_50 rfl (c_X12_bad r_a h) r_a rfl rfl (Nat.le_of_ble_eq_true rfl) (by decide) (by decide) dX12_use_17) ⟨rfl, rfl⟩ (fun  S26 h hE => ?_)
    have r_a := r_a.tr hE
    exact v_vret F hQ h (by decide) dX12_use_20
theorem dX12_begin_0 : decode cX12_begin 0 = .ok (.aload_n 0, 1) := by decide +kernel
theorem dX12_begin_1 : decode cX12_begin 1 = .ok (.getfield 282, 3) := by decide +kernel
theorem dX12_begin_4 : decode cX12_begin 4 = .ok (.istore_n 3, 1) := by decide +kernel
theorem dX12_begin_5 : decode cX12_begin 5 = .ok (.aload_n 0, 1) := by decide +kernel
theorem dX12_begin_6 : decode cX12_begin 6 = .ok (.getfield 86, 3) := by decide +kernel
theorem dX12_begin_9 : decode cX12_begin 9 = .ok (.iload_n 1, 1) := by decide +kernel
theorem dX12_begin_10 : decode cX12_begin 10 = .ok (.iaload, 1) := by decide +kernel
theorem dX12_begin_11 : decode cX12_begin 11 = .ok (.tableswitch 317 0 10 #[57, 65, 91, 99, 140, 181, 190, 235, 300, 317, 308], 57) := by decide +kernel
theorem dX12_begin_68 : decode cX12_begin 68 = .ok (.aload_n 0, 1) := by decide +kernel
theorem dX12_begin_69 : decode cX12_begin 69 = .ok (.iload_n 1, 1) := by decide +kernel
theorem dX12_begin_70 : decode cX12_begin 70 = .ok (.invokevirtual 306, 3) := by decide +kernel
theorem dX12_begin_73 : decode cX12_begin 73 = .ok (.goto 255, 3) := by decide +kernel
theorem dX12_begin_76 : decode cX12_begin 76 = .ok (.aload_n 0, 1) := by decide +kernel
theorem dX12_begin_77 : decode cX12_begin 77 = .ok (.aload_n 0, 1) := by decide +kernel
theorem dX12_begin_78 : decode cX12_begin 78 = .ok (.getfield 309, 3) := by decide +kernel
theorem dX12_begin_81 : decode cX12_begin 81 = .ok (.invokevirtual 313, 3) := by decide +kernel
theorem dX12_begin_84 : decode cX12_begin 84 = .ok (.ifCond .ne 244, 3) := by decide +kernel
theorem dX12_begin_87 : decode cX12_begin 87 = .ok (.aload_n 0, 1) := by decide +kernel
theorem dX12_begin_88 : decode cX12_begin 88 = .ok (.bipush 7, 2) := by decide +kernel
theorem dX12_begin_90 : decode cX12_begin 90 = .ok (.aload_n 0, 1) := by decide +kernel
theorem dX12_begin_91 : decode cX12_begin 91 = .ok (.getfield 90, 3) := by decide +kernel
theorem dX12_begin_94 : decode cX12_begin 94 = .ok (.iload_n 1, 1) := by decide +kernel
theorem dX12_begin_95 : decode cX12_begin 95 = .ok (.iaload, 1) := by decide +kernel
theorem dX12_begin_96 : decode cX12_begin 96 = .ok (.invokevirtual 50, 3) := by decide +kernel
theorem dX12_begin_99 : decode cX12_begin 99 = .ok (.goto 229, 3) := by decide +kernel
theorem dX12_begin_102 : decode cX12_begin 102 = .ok (.aload_n 0, 1) := by decide +kernel
theorem dX12_begin_103 : decode cX12_begin 103 = .ok (.iload_n 1, 1) := by decide +kernel
theorem dX12_begin_104 : decode cX12_begin 104 = .ok (.invokevirtual 317, 3) := by decide +kernel
theorem dX12_begin_107 : decode cX12_begin 107 = .ok (.goto 221, 3) := by decide +kernel
theorem dX12_begin_110 : decode cX12_begin 110 = .ok (.aload_n 0, 1) := by decide +kernel
theorem dX12_begin_111 : decode cX12_begin 111 = .ok (.getfield 320, 3) := by decide +kernel
theorem dX12_begin_114 : decode cX12_begin 114 = .ok (.iload_n 3, 1) := by decide +kernel
theorem dX12_begin_115 : decode cX12_begin 115 = .ok (.aload_n 0, 1) := by decide +kernel
theorem dX12_begin_116 : decode cX12_begin 116 = .ok (.getfield 323, 3) := by decide +kernel
theorem dX12_begin_119 : decode cX12_begin 119 = .ok (.iastore, 1) := by decide +kernel
theorem dX12_begin_120 : decode cX12_begin 120 = .ok (.aload_n 0, 1) := by decide +kernel
theorem dX12_begin_121 : decode cX12_begin 121 = .ok (.bipush 28, 2) := by decide +kernel
theorem dX12_begin_123 : decode cX12_begin 123 = .ok (.putfield 323, 3) := by decide +kernel
theorem dX12_begin_126 : decode cX12_begin 126 = .ok (.aload_n 0, 1) := by decide +kernel
theorem dX12_begin_127 : decode cX12_begin 127 = .ok (.dup, 1) := by decide +kernel
theorem dX12_begin_128 : decode cX12_begin 128 = .ok (.getfield 326, 3) := by decide +kernel
theorem dX12_begin_131 : decode cX12_begin 131 = .ok (.iconst 1, 1) := by decide +kernel
theorem dX12_begin_132 : decode cX12_begin 132 = .ok (.iadd, 1) := by decide +kernel
theorem dX12_begin_133 : decode cX12_begin 133 = .ok (.putfield 326, 3) := by decide +kernel
theorem dX12_begin_136 : decode cX12_begin 136 = .ok (.aload_n 0, 1) := by decide +kernel
theorem dX12_begin_137 : decode cX12_begin 137 = .ok (.iload_n 1, 1) := by decide +kernel
theorem dX12_begin_138 : decode cX12_begin 138 = .ok (.aload_n 0, 1) := by decide +kernel
theorem dX12_begin_139 : decode cX12_begin 139 = .ok (.getfield 99, 3) := by decide +kernel
theorem dX12_begin_142 : decode cX12_begin 142 = .ok (.iload_n 1, 1) := by decide +kernel
theorem dX12_begin_143 : decode cX12_begin 143 = .ok (.iaload, 1) := by decide +kernel
theorem dX12_begin_144 : decode cX12_begin 144 = .ok (.iload_n 2, 1) := by decide +kernel
theorem dX12_begin_145 : decode cX12_begin 145 = .ok (.invokevirtual 294, 3) := by decide +kernel
theorem dX12_begin_148 : decode cX12_begin 148 = .ok (.goto 180, 3) := by decide +kernel
theorem dX12_begin_151 : decode cX12_begin 151 = .ok (.aload_n 0, 1) := by decide +kernel
theorem dX12_begin_152 : decode cX12_begin 152 = .ok (.getfield 329, 3) := by decide +kernel
theorem dX12_begin_155 : decode cX12_begin 155 = .ok (.iload_n 3, 1) := by decide +kernel
theorem dX12_begin_156 : decode cX12_begin 156 = .ok (.aload_n 0, 1) := by decide +kernel
theorem dX12_begin_157 : decode cX12_begin 157 = .ok (.getfield 93, 3) := by decide +kernel
theorem dX12_begin_160 : decode cX12_begin 160 = .ok (.iload_n 1, 1) := by decide +kernel
theorem dX12_begin_161 : decode cX12_begin 161 = .ok (.iaload, 1) := by decide +kernel
theorem dX12_begin_162 : decode cX12_begin 162 = .ok (.iastore, 1) := by decide +kernel
theorem dX12_begin_163 : decode cX12_begin 163 = .ok (.aload_n 0, 1) := by decide +kernel
theorem dX12_begin_164 : decode cX12_begin 164 = .ok (.getfield 93, 3) := by decide +kernel
theorem dX12_begin_167 : decode cX12_begin 167 = .ok (.iload_n 1, 1) := by decide +kernel
theorem dX12_begin_168 : decode cX12_begin 168 = .ok (.iaload, 1) := by decide +kernel
theorem dX12_begin_169 : decode cX12_begin 169 = .ok (.ifCond .le 159, 3) := by decide +kernel
theorem dX12_begin_172 : decode cX12_begin 172 = .ok (.aload_n 0, 1) := by decide +kernel
theorem dX12_begin_173 : decode cX12_begin 173 = .ok (.iload_n 1, 1) := by decide +kernel
theorem dX12_begin_174 : decode cX12_begin 174 = .ok (.invokevirtual 300, 3) := by decide +kernel
theorem dX12_begin_177 : decode cX12_begin 177 = .ok (.aload_n 0, 1) := by decide +kernel
theorem dX12_begin_178 : decode cX12_begin 178 = .ok (.iload_n 1, 1) := by decide +kernel
theorem dX12_begin_179 : decode cX12_begin 179 = .ok (.aload_n 0, 1) := by decide +kernel
theorem dX12_begin_180 : decode cX12_begin 180 = .ok (.getfield 99, 3) := by decide +kernel
theorem dX12_begin_183 : decode cX12_begin 183 = .ok (.iload_n 1, 1) := by decide +kernel
theorem dX12_begin_184 : decode cX12_begin 184 = .ok (.iaload, 1) := by decide +kernel
theorem dX12_begin_185 : decode cX12_begin 185 = .ok (.iload_n 2, 1) := by decide +kernel
theorem dX12_begin_186 : decode cX12_begin 186 = .ok (.invokevirtual 294, 3) := by decide +kernel
theorem dX12_begin_189 : decode cX12_begin 189 = .ok (.goto 139, 3) := by decide +kernel
theorem dX12_begin_192 : decode cX12_begin 192 = .ok (.aload_n 0, 1) := by decide +kernel
theorem dX12_begin_193 : decode cX12_begin 193 = .ok (.iload_n 1, 1) := by decide +kernel
theorem dX12_begin_194 : decode cX12_begin 194 = .ok (.iload_n 2, 1) := by decide +kernel
theorem dX12_begin_195 : decode cX12_begin 195 = .ok (.invokevirtual 332, 3) := by decide +kernel
theorem dX12_begin_198 : decode cX12_begin 198 = .ok (.goto 130, 3) := by decide +kernel
theorem dX12_begin_201 : decode cX12_begin 201 = .ok (.aload_n 0, 1) := by decide +kernel
theorem dX12_begin_202 : decode cX12_begin 202 = .ok (.dup, 1) := by decide +kernel
theorem dX12_begin_203 : decode cX12_begin 203 = .ok (.getfield 335, 3) := by decide +kernel
theorem dX12_begin_206 : decode cX12_begin 206 = .ok (.aload_n 0, 1) := by decide +kernel
theorem dX12_begin_207 : decode cX12_begin 207 = .ok (.getfield 93, 3) := by decide +kernel
theorem dX12_begin_210 : decode cX12_begin 210 = .ok (.iload_n 1, 1) := by decide +kernel
theorem dX12_begin_211 : decode cX12_begin 211 = .ok (.iaload, 1) := by decide +kernel
theorem dX12_begin_212 : decode cX12_begin 212 = .ok (.iadd, 1) := by decide +kernel
theorem dX12_begin_213 : decode cX12_begin 213 = .ok (.putfield 335, 3) := by decide +kernel
theorem dX12_begin_216 : decode cX12_begin 216 = .ok (.aload_n 0, 1) := by decide +kernel
theorem dX12_begin_217 : decode cX12_begin 217 = .ok (.dup, 1) := by decide +kernel
theorem dX12_begin_218 : decode cX12_begin 218 = .ok (.getfield 338, 3) := by decide +kernel
theorem dX12_begin_221 : decode cX12_begin 221 = .ok (.aload_n 0, 1) := by decide +kernel
theorem dX12_begin_222 : decode cX12_begin 222 = .ok (.getfield 96, 3) := by decide +kernel
theorem dX12_begin_225 : decode cX12_begin 225 = .ok (.iload_n 1, 1) := by decide +kernel
theorem dX12_begin_226 : decode cX12_begin 226 = .ok (.iaload, 1) := by decide +kernel
theorem dX12_begin_227 : decode cX12_begin 227 = .ok (.iadd, 1) := by decide +kernel
theorem dX12_begin_228 : decode cX12_begin 228 = .ok (.putfield 338, 3) := by decide +kernel
theorem dX12_begin_231 : decode cX12_begin 231 = .ok (.aload_n 0, 1) := by decide +kernel
theorem dX12_begin_232 : decode cX12_begin 232 = .ok (.iload_n 1, 1) := by decide +kernel
theorem dX12_begin_233 : decode cX12_begin 233 = .ok (.aload_n 0, 1) := by decide +kernel
theorem dX12_begin_234 : decode cX12_begin 234 = .ok (.getfield 99, 3) := by decide +kernel
theorem dX12_begin_237 : decode cX12_begin 237 = .ok (.iload_n 1, 1) := by decide +kernel
theorem dX12_begin_238 : decode cX12_begin 238 = .ok (.iaload, 1) := by decide +kernel
theorem dX12_begin_239 : decode cX12_begin 239 = .ok (.iload_n 2, 1) := by decide +kernel
theorem dX12_begin_240 : decode cX12_begin 240 = .ok (.invokevirtual 294, 3) := by decide +kernel
theorem dX12_begin_243 : decode cX12_begin 243 = .ok (.goto 85, 3) := by decide +kernel
theorem dX12_begin_246 : decode cX12_begin 246 = .ok (.aload_n 0, 1) := by decide +kernel
theorem dX12_begin_247 : decode cX12_begin 247 = .ok (.getfield 341, 3) := by decide +kernel
theorem dX12_begin_250 : decode cX12_begin 250 = .ok (.iload_n 3, 1) := by decide +kernel
theorem dX12_begin_251 : decode cX12_begin 251 = .ok (.aload_n 0, 1) := by decide +kernel
theorem dX12_begin_252 : decode cX12_begin 252 = .ok (.getfield 344, 3) := by decide +kernel
theorem dX12_begin_255 : decode cX12_begin 255 = .ok (.iastore, 1) := by decide +kernel
theorem dX12_begin_256 : decode cX12_begin 256 = .ok (.aload_n 0, 1) := by decide +kernel
theorem dX12_begin_257 : decode cX12_begin 257 = .ok (.getfield 347, 3) := by decide +kernel
theorem dX12_begin_260 : decode cX12_begin 260 = .ok (.iload_n 3, 1) := by decide +kernel
theorem dX12_begin_261 : decode cX12_begin 261 = .ok (.aload_n 0, 1) := by decide +kernel
theorem dX12_begin_262 : decode cX12_begin 262 = .ok (.getfield 309, 3) := by decide +kernel
theorem dX12_begin_265 : decode cX12_begin 265 = .ok (.lastore, 1) := by decide +kernel
theorem dX12_begin_266 : decode cX12_begin 266 = .ok (.aload_n 0, 1) := by decide +kernel
theorem dX12_begin_267 : decode cX12_begin 267 = .ok (.getfield 350, 3) := by decide +kernel
theorem dX12_begin_270 : decode cX12_begin 270 = .ok (.iload_n 3, 1) := by decide +kernel
theorem dX12_begin_271 : decode cX12_begin 271 = .ok (.aload_n 0, 1) := by decide +kernel
theorem dX12_begin_272 : decode cX12_begin 272 = .ok (.getfield 353, 3) := by decide +kernel
theorem dX12_begin_275 : decode cX12_begin 275 = .ok (.lastore, 1) := by decide +kernel
theorem dX12_begin_276 : decode cX12_begin 276 = .ok (.aload_n 0, 1) := by decide +kernel
theorem dX12_begin_277 : decode cX12_begin 277 = .ok (.getfield 320, 3) := by decide +kernel
theorem dX12_begin_280 : decode cX12_begin 280 = .ok (.iload_n 3, 1) := by decide +kernel
theorem dX12_begin_281 : decode cX12_begin 281 = .ok (.aload_n 0, 1) := by decide +kernel
theorem dX12_begin_282 : decode cX12_begin 282 = .ok (.getfield 323, 3) := by decide +kernel
theorem dX12_begin_285 : decode cX12_begin 285 = .ok (.iastore, 1) := by decide +kernel
theorem dX12_begin_286 : decode cX12_begin 286 = .ok (.aload_n 0, 1) := by decide +kernel
theorem dX12_begin_287 : decode cX12_begin 287 = .ok (.dup, 1) := by decide +kernel
theorem dX12_begin_288 : decode cX12_begin 288 = .ok (.getfield 356, 3) := by decide +kernel
theorem dX12_begin_291 : decode cX12_begin 291 = .ok (.iconst 1, 1) := by decide +kernel
theorem dX12_begin_292 : decode cX12_begin 292 = .ok (.iadd, 1) := by decide +kernel
theorem dX12_begin_293 : decode cX12_begin 293 = .ok (.putfield 356, 3) := by decide +kernel
theorem dX12_begin_296 : decode cX12_begin 296 = .ok (.aload_n 0, 1) := by decide +kernel
theorem dX12_begin_297 : decode cX12_begin 297 = .ok (.iload_n 1, 1) := by decide +kernel
theorem dX12_begin_298 : decode cX12_begin 298 = .ok (.aload_n 0, 1) := by decide +kernel
theorem dX12_begin_299 : decode cX12_begin 299 = .ok (.getfield 99, 3) := by decide +kernel
theorem dX12_begin_302 : decode cX12_begin 302 = .ok (.iload_n 1, 1) := by decide +kernel
theorem dX12_begin_303 : decode cX12_begin 303 = .ok (.iaload, 1) := by decide +kernel
theorem dX12_begin_304 : decode cX12_begin 304 = .ok (.iload_n 2, 1) := by decide +kernel
theorem dX12_begin_305 : decode cX12_begin 305 = .ok (.invokevirtual 294, 3) := by decide +kernel
theorem dX12_begin_308 : decode cX12_begin 308 = .ok (.goto 20, 3) := by decide +kernel
theorem dX12_begin_311 : decode cX12_begin 311 = .ok (.aload_n 0, 1) := by decide +kernel
theorem dX12_begin_312 : decode cX12_begin 312 = .ok (.iload_n 1, 1) := by decide +kernel
theorem dX12_begin_313 : decode cX12_begin 313 = .ok (.invokevirtual 359, 3) := by decide +kernel
theorem dX12_begin_316 : decode cX12_begin 316 = .ok (.goto 12, 3) := by decide +kernel
theorem dX12_begin_319 : decode cX12_begin 319 = .ok (.aload_n 0, 1) := by decide +kernel
theorem dX12_begin_320 : decode cX12_begin 320 = .ok (.iload_n 1, 1) := by decide +kernel
theorem dX12_begin_321 : decode cX12_begin 321 = .ok (.iload_n 2, 1) := by decide +kernel
theorem dX12_begin_322 : decode cX12_begin 322 = .ok (.invokevirtual 362, 3) := by decide +kernel
theorem dX12_begin_325 : decode cX12_begin 325 = .ok (.goto 3, 3) := by decide +kernel
theorem dX12_begin_328 : decode cX12_begin 328 = .ok (.return_, 1) := by decide +kernel
abbrev rm_X12_begin : Room := { frames := 3, cells := 0, slots := 0, locals := 78 }
def wp_X12_begin (a : Nat) (p1 : Int32) (p2 : Int32) (S : PS) (Q : PS → Prop) : Prop :=
  (∀ v1, v1 = fI S 188 a → (∃ b2, fR S 105 a = some b2 ∧ (vp_in p1 (aN S b2) ∧ (if aI S 42 b2 (p1).toNatClampNeg = 0 then
 wp_X12_sound a p1 S (fun (S3 : PS) => 
 Q S3)
 else (if aI S 42 b2 (p1).toNatClampNeg = 1 then
 wp_X12_isBar a (fL S 156 a) S (fun (r6 : Int32) (S5 : PS) => 
 (if r6 = 0 then
 (∃ b7, fR S5 106 a = some b7 ∧ (vp_in p1 (aN S5 b7) ∧ wp_X12_bad a 7 (aI S5 43 b7 (p1).toNatClampNeg) S5 (fun (S8 : PS) => 
 Q S8)))
 else
 Q S5))
 else (if aI S 42 b2 (p1).toNatClampNeg = 2 then
 wp_X12_meter a p1 S (fun (S10 : PS) => 
 Q S10)
 else (if aI S 42 b2 (p1).toNatClampNeg = 3 then
 (∃ b12, fR S 177 a = some b12 ∧ (vp_in v1 (aN S b12) ∧ ∀ S13, S13 = wI S 90 b12 (v1).toNatClampNeg (fI S 158 a) → (∀ S14, S14 = sI S13 158 a 28 → (∀ S15, S15 = sI S14 159 a ((fI S14 159 a) + 1) → (∃ b16, fR S15 109 a = some b16 ∧ (vp_in p1 (aN S15 b16) ∧ wp_X12_enter a p1 (aI S15 46 b16 (p1).toNatClampNeg) p2 S15 (fun (S17 : PS) => 
 Q S17)))))))
 else (if aI S 42 b2 (p1).toNatClampNeg = 4 then
 (∃ b19, fR S 176 a = some b19 ∧ (∃ b20, fR S 107 a = some b20 ∧ (vp_in p1 (aN S b20) ∧ (vp_in v1 (aN S b19) ∧ ∀ S21, S21 = wI S 89 b19 (v1).toNatClampNeg (aI S 44 b20 (p1).toNatClampNeg) → (∃ b22, fR S21 107 a = some b22 ∧ (vp_in p1 (aN S21 b22) ∧ (if aI S21 44 b22 (p1).toNatClampNeg ≤ 0 then
 Q S21
 else
 wp_X12_step a p1 S21 (fun (S23 : PS) => 
 (∃ b24, fR S23 109 a = some b24 ∧ (vp_in p1 (aN S23 b24) ∧ wp_X12_enter a p1 (aI S23 46 b24 (p1).toNatClampNeg) p2 S23 (fun (S25 : PS) => 
 Q S25)))))))))))
 else (if aI S 42 b2 (p1).toNatClampNeg = 5 then
 wp_X12_tuplet a p1 p2 S (fun (S27 : PS) => 
 Q S27)
 else (if aI S 42 b2 (p1).toNatClampNeg = 6 then
 (∃ b29, fR S 107 a = some b29 ∧ (vp_in p1 (aN S b29) ∧ (∀ S30, S30 = sI S 163 a ((fI S 163 a) + (aI S 44 b29 (p1).toNatClampNeg)) → (∃ b31, fR S30 108 a = some b31 ∧ (vp_in p1 (aN S30 b31) ∧ (∀ S32, S32 = sI S30 164 a ((fI S30 164 a) + (aI S30 45 b31 (p1).toNatClampNeg)) → (∃ b33, fR S32 109 a = some b33 ∧ (vp_in p1 (aN S32 b33) ∧ wp_X12_enter a p1 (aI S32 46 b33 (p1).toNatClampNeg) p2 S32 (fun (S34 : PS) => 
 Q S34)))))))))
 else (if aI S 42 b2 (p1).toNatClampNeg = 7 then
 (∃ b36, fR S 178 a = some b36 ∧ (vp_in v1 (aN S b36) ∧ ∀ S37, S37 = wI S 91 b36 (v1).toNatClampNeg (fI S 155 a) → (∃ b38, fR S37 183 a = some b38 ∧ (vp_in v1 (aN S37 b38) ∧ ∀ S39, S39 = wL S37 96 b38 (v1).toNatClampNeg (fL S37 156 a) → (∃ b40, fR S39 184 a = some b40 ∧ (vp_in v1 (aN S39 b40) ∧ ∀ S41, S41 = wL S39 97 b40 (v1).toNatClampNeg (fL S39 157 a) → (∃ b42, fR S41 177 a = some b42 ∧ (vp_in v1 (aN S41 b42) ∧ ∀ S43, S43 = wI S41 90 b42 (v1).toNatClampNeg (fI S41 158 a) → (∀ S44, S44 = sI S43 165 a ((fI S43 165 a) + 1) → (∃ b45, fR S44 109 a = some b45 ∧ (vp_in p1 (aN S44 b45) ∧ wp_X12_enter a p1 (aI S44 46 b45 (p1).toNatClampNeg) p2 S44 (fun (S46 : PS) => 
 Q S46))))))))))))
 else (if aI S 42 b2 (p1).toNatClampNeg = 8 then
 wp_X12_words a p1 S (fun (S48 : PS) => 
 Q S48)
 else (if aI S 42 b2 (p1).toNatClampNeg = 9 then
 Q S
 else (if aI S 42 b2 (p1).toNatClampNeg = 10 then
 wp_X12_use a p1 p2 S (fun (S51 : PS) => 
 Q S51)
 else Q S))))))))))))))
set_option maxRecDepth 100000 in
set_option maxHeartbeats 4000000 in
theorem c_X12_begin {l : Launch} {E : EE} {A : Nat → Prop} {a : Nat} {p1 : Int32} {p2 : Int32} {S : PS} {Q : PS → Prop} (r_a : Rf S a 9) (h : wp_X12_begin a p1 p2 S Q) : MtV l yX12_begin (.code yX12_begin cX12_begin 4 none) rm_X12_begin E A [.ref a, .int p1, .int p2] S Q := by
  refine MtV.of (by decide) (Nat.le_of_ble_eq_true rfl) (fun X F hQ hN => ?_)
  show VV X (0, 0) S [(0, .ref a), (1, .int p1), (2, .int p2)] [] 0
  unfold wp_X12_begin at h
  refine v_aload_n F dX12_begin_0 0 rfl rfl ?_
  refine g_X12_282 F r_a dX12_begin_1 ?_
  refine v_topi (fun v1 e_v1 => ?_)
  have h := h v1 e_v1
  refine v_istore_n (lv1 := [(3, .int v1), (0, .ref a), (1, .int p1), (2, .int p2)]) F dX12_begin_4 rfl (by rw [hN]; decide) rfl ?_
  refine v_aload_n F dX12_begin_5 1 rfl rfl ?_
  refine g_X12_86 F r_a h dX12_begin_6 (fun b2 r_b2 h => ?_)
  refine v_iload_n F dX12_begin_9 2 rfl rfl ?_
  refine v_iald F r_b2 o_42 h dX12_begin_10 (fun h => ?_)
  refine v_case h (fun e4 h => ?_) (fun e4 h => ?_)
  · refine v_tableIn (tgt := 68) F dX12_begin_11 (by rw [e4]; decide) (by rw [e4]; decide) (by rw [e4]; rfl) (by decide) ?_
    refine v_aload_n F dX12_begin_68 1 rfl rfl ?_
    refine v_iload_n F dX12_begin_69 2 rfl rfl ?_
    refine v_cV0 (v_runV F k_X12_306 rfl (c_X12_sound r_a h) r_a rfl rfl (Nat.le_of_ble_eq_true rfl) (by decide) (by decide) dX12_begin_70) ⟨rfl, rfl⟩ (fun  S3 h hE => ?_)
    have r_a := r_a.tr hE
    refine v_goto (tgt := 328) F dX12_begin_73 (by decide) ?_
    exact v_vret F hQ h (by decide) dX12_begin_328
  refine v_case h (fun e9 h => ?_) (fun e9 h => ?_)
  · refine v_tableIn (tgt := 76) F dX12_begin_11 (by rw [e9]; decide) (by rw [e9]; decide) (by rw [e9]; rfl) (by decide) ?_
    refine v_aload_n F dX12_begin_76 1 rfl rfl ?_
    refine v_aload_n F dX12_begin_77 1 rfl rfl ?_
    refine g_X12_309 F r_a dX12_begin_78 ?_
    refine v_cI0 (v_runV F k_X12_313 rfl (c_X12_isBar r_a h) r_a rfl rfl (Nat.le_of_ble_eq_true rfl) (by decide) (by decide) dX12_begin_81) ⟨rfl, rfl⟩ (fun r6 S5 h hE => ?_)
    obtain ⟨nz_r6, h⟩ := h
    have r_a := r_a.tr hE
    refine v_if_ne (tgt := 328) F dX12_begin_84 (by decide) h (fun h => ?_) (fun h => ?_)
    · exact v_vret F hQ h (by decide) dX12_begin_328
    · refine v_aload_n F dX12_begin_87 1 rfl rfl ?_
      refine v_bipush (v := 7) F dX12_begin_88 (by decide) ?_
      refine v_aload_n F dX12_begin_90 1 rfl rfl ?_
      refine g_X12_90 F r_a h dX12_begin_91 (fun b7 r_b7 h => ?_)
      refine v_iload_n F dX12_begin_94 2 rfl rfl ?_
      refine v_iald F r_b7 o_43 h dX12_begin_95 (fun h => ?_)
      refine v_cV0 (v_runV F k_X12_50 rfl (c_X12_bad r_a h) r_a rfl rfl (Nat.le_of_ble_eq_true rfl) (by decide) (by decide) dX12_begin_96) ⟨rfl, rfl⟩ (fun  S8 h hE => ?_)
      have r_a := r_a.tr hE
      refine v_goto (tgt := 328) F dX12_begin_99 (by decide) ?_
      exact v_vret F hQ h (by decide) dX12_begin_328
  refine v_case h (fun e11 h => ?_) (fun e11 h => ?_)
  · refine v_tableIn (tgt := 102) F dX12_begin_11 (by rw [e11]; decide) (by rw [e11]; decide) (by rw [e11]; rfl) (by decide) ?_
    refine v_aload_n F dX12_begin_102 1 rfl rfl ?_
    refine v_iload_n F dX12_begin_103 2 rfl rfl ?_
    refine v_cV0 (v_runV F k_X12_317 rfl (c_X12_meter r_a h) r_a rfl rfl (Nat.le_of_ble_eq_true rfl) (by decide) (by decide) dX12_begin_104) ⟨rfl, rfl⟩ (fun  S10 h hE => ?_)
    have r_a := r_a.tr hE
    refine v_goto (tgt := 328) F dX12_begin_107 (by decide) ?_
    exact v_vret F hQ h (by decide) dX12_begin_328
  refine v_case h (fun e18 h => ?_) (fun e18 h => ?_)
  · refine v_tableIn (tgt := 110) F dX12_begin_11 (by rw [e18]; decide) (by rw [e18]; decide) (by rw [e18]; rfl) (by decide) ?_
    refine v_aload_n F dX12_begin_110 1 rfl rfl ?_
    refine g_X12_320 F r_a h dX12_begin_111 (fun b12 r_b12 h => ?_)
    refine v_iload_n F dX12_begin_114 0 rfl rfl ?_
    refine v_aload_n F dX12_begin_115 1 rfl rfl ?_
    refine g_X12_323 F r_a dX12_begin_116 ?_
    refine v_iast F r_b12 o_90 h dX12_begin_119 (fun S13 h hE => ?_)
    have r_a := r_a.tr hE
    refine v_aload_n F dX12_begin_120 1 rfl rfl ?_
    refine v_bipush (v := 28) F dX12_begin_121 (by decide) ?_
    refine p_X12_323 F r_a h dX12_begin_123 (fun S14 h hE => ?_)
    have r_a := r_a.tr hE
    refine v_aload_n F dX12_begin_126 1 rfl rfl ?_
    refine v_dup F dX12_begin_127 rfl ?_
    refine g_X12_326 F r_a dX12_begin_128 ?_
    refine v_iconst (v := 1) F dX12_begin_131 (by decide) ?_
    refine v_iadd F dX12_begin_132 ?_
    refine p_X12_326 F r_a h dX12_begin_133 (fun S15 h hE => ?_)
    have r_a := r_a.tr hE
    refine v_aload_n F dX12_begin_136 1 rfl rfl ?_
    refine v_iload_n F dX12_begin_137 2 rfl rfl ?_
    refine v_aload_n F dX12_begin_138 1 rfl rfl ?_
    refine g_X12_99 F r_a h dX12_begin_139 (fun b16 r_b16 h => ?_)
    refine v_iload_n F dX12_begin_142 2 rfl rfl ?_
    refine v_iald F r_b16 o_46 h dX12_begin_143 (fun h => ?_)
    refine v_iload_n F dX12_begin_144 3 rfl rfl ?_
    refine v_cV0 (v_runV F k_X12_294 rfl (c_X12_enter r_a h) r_a rfl rfl (Nat.le_of_ble_eq_true rfl) (by decide) (by decide) dX12_begin_145) ⟨rfl, rfl⟩ (fun  S17 h hE => ?_)
    have r_a := r_a.tr hE
    refine v_goto (tgt := 328) F dX12_begin_148 (by decide) ?_
    exact v_vret F hQ h (by decide) dX12_begin_328
  refine v_case h (fun e26 h => ?_) (fun e26 h => ?_)
  · refine v_tableIn (tgt := 151) F dX12_begin_11 (by rw [e26]; decide) (by rw [e26]; decide) (by rw [e26]; rfl) (by decide) ?_
    refine v_aload_n F dX12_begin_151 1 rfl rfl ?_
    refine g_X12_329 F r_a h dX12_begin_152 (fun b19 r_b19 h => ?_)
    refine v_iload_n F dX12_begin_155 0 rfl rfl ?_
    refine v_aload_n F dX12_begin_156 1 rfl rfl ?_
    refine g_X12_93 F r_a h dX12_begin_157 (fun b20 r_b20 h => ?_)
    refine v_iload_n F dX12_begin_160 2 rfl rfl ?_
    refine v_iald F r_b20 o_44 h dX12_begin_161 (fun h => ?_)
    refine v_iast F r_b19 o_89 h dX12_begin_162 (fun S21 h hE => ?_)
    have r_a := r_a.tr hE
    refine v_aload_n F dX12_begin_163 1 rfl rfl ?_
    refine g_X12_93 F r_a h dX12_begin_164 (fun b22 r_b22 h => ?_)
    refine v_iload_n F dX12_begin_167 2 rfl rfl ?_
    refine v_iald F r_b22 o_44 h dX12_begin_168 (fun h => ?_)
    refine v_if_le (tgt := 328) F dX12_begin_169 (by decide) h (fun h => ?_) (fun h => ?_)
    · exact v_vret F hQ h (by decide) dX12_begin_328
    · refine v_aload_n F dX12_begin_172 1 rfl rfl ?_
      refine v_iload_n F dX12_begin_173 2 rfl rfl ?_
      refine v_cV0 (v_runV F k_X12_300 rfl (c_X12_step r_a h) r_a rfl rfl (Nat.le_of_ble_eq_true rfl) (by decide) (by decide) dX12_begin_174) ⟨rfl, rfl⟩ (fun  S23 h hE => ?_)
      have r_a := r_a.tr hE
      refine v_aload_n F dX12_begin_177 1 rfl rfl ?_
      refine v_iload_n F dX12_begin_178 2 rfl rfl ?_
      refine v_aload_n F dX12_begin_179 1 rfl rfl ?_
      refine g_X12_99 F r_a h dX12_begin_180 (fun b24 r_b24 h => ?_)
      refine v_iload_n F dX12_begin_183 2 rfl rfl ?_
      refine v_iald F r_b24 o_46 h dX12_begin_184 (fun h => ?_)
      refine v_iload_n F dX12_begin_185 3 rfl rfl ?_
      refine v_cV0 (v_runV F k_X12_294 rfl (c_X12_enter r_a h) r_a rfl rfl (Nat.le_of_ble_eq_true rfl) (by decide) (by decide) dX12_begin_186) ⟨rfl, rfl⟩ (fun  S25 h hE => ?_)
      have r_a := r_a.tr hE
      refine v_goto (tgt := 328) F dX12_begin_189 (by decide) ?_
      exact v_vret F hQ h (by decide) dX12_begin_328
  refine v_case h (fun e28 h => ?_) (fun e28 h => ?_)
  · refine v_tableIn (tgt := 192) F dX12_begin_11 (by rw [e28]; decide) (by rw [e28]; decide) (by rw [e28]; rfl) (by decide) ?_
    refine v_aload_n F dX12_begin_192 1 rfl rfl ?_
    refine v_iload_n F dX12_begin_193 2 rfl rfl ?_
    refine v_iload_n F dX12_begin_194 3 rfl rfl ?_
    refine v_cV0 (v_runV F k_X12_332 rfl (c_X12_tuplet r_a h) r_a rfl rfl (Nat.le_of_ble_eq_true rfl) (by decide) (by decide) dX12_begin_195) ⟨rfl, rfl⟩ (fun  S27 h hE => ?_)
    have r_a := r_a.tr hE
    refine v_goto (tgt := 328) F dX12_begin_198 (by decide) ?_
    exact v_vret F hQ h (by decide) dX12_begin_328
  refine v_case h (fun e35 h => ?_) (fun e35 h => ?_)
  · refine v_tableIn (tgt := 201) F dX12_begin_11 (by rw [e35]; decide) (by rw [e35]; decide) (by rw [e35]; rfl) (by decide) ?_
    refine v_aload_n F dX12_begin_201 1 rfl rfl ?_
    refine v_dup F dX12_begin_202 rfl ?_
    refine g_X12_335 F r_a dX12_begin_203 ?_
    refine v_aload_n F dX12_begin_206 1 rfl rfl ?_
    refine g_X12_93 F r_a h dX12_begin_207 (fun b29 r_b29 h => ?_)
    refine v_iload_n F dX12_begin_210 2 rfl rfl ?_
    refine v_iald F r_b29 o_44 h dX12_begin_211 (fun h => ?_)
    refine v_iadd F dX12_begin_212 ?_
    refine p_X12_335 F r_a h dX12_begin_213 (fun S30 h hE => ?_)
    have r_a := r_a.tr hE
    refine v_aload_n F dX12_begin_216 1 rfl rfl ?_
    refine v_dup F dX12_begin_217 rfl ?_
    refine g_X12_338 F r_a dX12_begin_218 ?_
    refine v_aload_n F dX12_begin_221 1 rfl rfl ?_
    refine g_X12_96 F r_a h dX12_begin_222 (fun b31 r_b31 h => ?_)
    refine v_iload_n F dX12_begin_225 2 rfl rfl ?_
    refine v_iald F r_b31 o_45 h dX12_begin_226 (fun h => ?_)
    refine v_iadd F dX12_begin_227 ?_
    refine p_X12_338 F r_a h dX12_begin_228 (fun S32 h hE => ?_)
    have r_a := r_a.tr hE
    refine v_aload_n F dX12_begin_231 1 rfl rfl ?_
    refine v_iload_n F dX12_begin_232 2 rfl rfl ?_
    refine v_aload_n F dX12_begin_233 1 rfl rfl ?_
    refine g_X12_99 F r_a h dX12_begin_234 (fun b33 r_b33 h => ?_)
    refine v_iload_n F dX12_begin_237 2 rfl rfl ?_
    refine v_iald F r_b33 o_46 h dX12_begin_238 (fun h => ?_)
    refine v_iload_n F dX12_begin_239 3 rfl rfl ?_
    refine v_cV0 (v_runV F k_X12_294 rfl (c_X12_enter r_a h) r_a rfl rfl (Nat.le_of_ble_eq_true rfl) (by decide) (by decide) dX12_begin_240) ⟨rfl, rfl⟩ (fun  S34 h hE => ?_)
    have r_a := r_a.tr hE
    refine v_goto (tgt := 328) F dX12_begin_243 (by decide) ?_
    exact v_vret F hQ h (by decide) dX12_begin_328
  refine v_case h (fun e47 h => ?_) (fun e47 h => ?_)
  · refine v_tableIn (tgt := 246) F dX12_begin_11 (by rw [e47]; decide) (by rw [e47]; decide) (by rw [e47]; rfl) (by decide) ?_
    refine v_aload_n F dX12_begin_246 1 rfl rfl ?_
    refine g_X12_341 F r_a h dX12_begin_247 (fun b36 r_b36 h => ?_)
    refine v_iload_n F dX12_begin_250 0 rfl rfl ?_
    refine v_aload_n F dX12_begin_251 1 rfl rfl ?_
    refine g_X12_344 F r_a dX12_begin_252 ?_
    refine v_iast F r_b36 o_91 h dX12_begin_255 (fun S37 h hE => ?_)
    have r_a := r_a.tr hE
    refine v_aload_n F dX12_begin_256 1 rfl rfl ?_
    refine g_X12_347 F r_a h dX12_begin_257 (fun b38 r_b38 h => ?_)
    refine v_iload_n F dX12_begin_260 0 rfl rfl ?_
    refine v_aload_n F dX12_begin_261 1 rfl rfl ?_
    refine g_X12_309 F r_a dX12_begin_262 ?_
    refine v_last F r_b38 o_96 h dX12_begin_265 (fun S39 h hE => ?_)
    have r_a := r_a.tr hE
    refine v_aload_n F dX12_begin_266 1 rfl rfl ?_
    refine g_X12_350 F r_a h dX12_begin_267 (fun b40 r_b40 h => ?_)
    refine v_iload_n F dX12_begin_270 0 rfl rfl ?_
    refine v_aload_n F dX12_begin_271 1 rfl rfl ?_
    refine g_X12_353 F r_a dX12_begin_272 ?_
    refine v_last F r_b40 o_97 h dX12_begin_275 (fun S41 h hE => ?_)
    have r_a := r_a.tr hE
    refine v_aload_n F dX12_begin_276 1 rfl rfl ?_
    refine g_X12_320 F r_a h dX12_begin_277 (fun b42 r_b42 h => ?_)
    refine v_iload_n F dX12_begin_280 0 rfl rfl ?_
    refine v_aload_n F dX12_begin_281 1 rfl rfl ?_
    refine g_X12_323 F r_a dX12_begin_282 ?_
    refine v_iast F r_b42 o_90 h dX12_begin_285 (fun S43 h hE => ?_)
    have r_a := r_a.tr hE
    refine v_aload_n F dX12_begin_286 1 rfl rfl ?_
    refine v_dup F dX12_begin_287 rfl ?_
    refine g_X12_356 F r_a dX12_begin_288 ?_
    refine v_iconst (v := 1) F dX12_begin_291 (by decide) ?_
    refine v_iadd F dX12_begin_292 ?_
    refine p_X12_356 F r_a h dX12_begin_293 (fun S44 h hE => ?_)
    have r_a := r_a.tr hE
    refine v_aload_n F dX12_begin_296 1 rfl rfl ?_
    refine v_iload_n F dX12_begin_297 2 rfl rfl ?_
    refine v_aload_n F dX12_begin_298 1 rfl rfl ?_
    refine g_X12_99 F r_a h dX12_begin_299 (fun b45 r_b45 h => ?_)
    refine v_iload_n F dX12_begin_302 2 rfl rfl ?_
    refine v_iald F r_b45 o_46 h dX12_begin_303 (fun h => ?_)
    refine v_iload_n F dX12_begin_304 3 rfl rfl ?_
    refine v_cV0 (v_runV F k_X12_294 rfl (c_X12_enter r_a h) r_a rfl rfl (Nat.le_of_ble_eq_true rfl) (by decide) (by decide) dX12_begin_305) ⟨rfl, rfl⟩ (fun  S46 h hE => ?_)
    have r_a := r_a.tr hE
    refine v_goto (tgt := 328) F dX12_begin_308 (by decide) ?_
    exact v_vret F hQ h (by decide) dX12_begin_328
  refine v_case h (fun e49 h => ?_) (fun e49 h => ?_)
  · refine v_tableIn (tgt := 311) F dX12_begin_11 (by rw [e49]; decide) (by rw [e49]; decide) (by rw [e49]; rfl) (by decide) ?_
    refine v_aload_n F dX12_begin_311 1 rfl rfl ?_
    refine v_iload_n F dX12_begin_312 2 rfl rfl ?_
    refine v_cV0 (v_runV F k_X12_359 rfl (c_X12_words r_a h) r_a rfl rfl (Nat.le_of_ble_eq_true rfl) (by decide) (by decide) dX12_begin_313) ⟨rfl, rfl⟩ (fun  S48 h hE => ?_)
    have r_a := r_a.tr hE
    refine v_goto (tgt := 328) F dX12_begin_316 (by decide) ?_
    exact v_vret F hQ h (by decide) dX12_begin_328
  refine v_case h (fun e50 h => ?_) (fun e50 h => ?_)
  · refine v_tableIn (tgt := 328) F dX12_begin_11 (by rw [e50]; decide) (by rw [e50]; decide) (by rw [e50]; rfl) (by decide) ?_
    exact v_vret F hQ h (by decide) dX12_begin_328
  refine v_case h (fun e52 h => ?_) (fun e52 h => ?_)
  · refine v_tableIn (tgt := 319) F dX12_begin_11 (by rw [e52]; decide) (by rw [e52]; decide) (by rw [e52]; rfl) (by decide) ?_
    refine v_aload_n F dX12_begin_319 1 rfl rfl ?_
    refine v_iload_n F dX12_begin_320 2 rfl rfl ?_
    refine v_iload_n F dX12_begin_321 3 rfl rfl ?_
    refine v_cV0 (v_runV F k_X12_362 rfl (c_X12_use r_a h) r_a rfl rfl (Nat.le_of_ble_eq_true rfl) (by decide) (by decide) dX12_begin_322) ⟨rfl, rfl⟩ (fun  S51 h hE => ?_)
    have r_a := r_a.tr hE
    refine v_goto (tgt := 328) F dX12_begin_325 (by decide) ?_
    exact v_vret F hQ h (by decide) dX12_begin_328
  refine v_tableOut (tgt := 328) F dX12_begin_11 (by have q0 := lv_neT (a := 0) e4 rfl; have q1 := lv_neT (a := 1) e9 rfl; have q2 := lv_neT (a := 2) e11 rfl; have q3 := lv_neT (a := 3) e18 rfl; have q4 := lv_neT (a := 4) e26 rfl; have q5 := lv_neT (a := 5) e28 rfl; have q6 := lv_neT (a := 6) e35 rfl; have q7 := lv_neT (a := 7) e47 rfl; have q8 := lv_neT (a := 8) e49 rfl; have q9 := lv_neT (a := 9) e50 rfl; have q10 := lv_neT (a := 10) e52 rfl; omega) (by decide) ?_
  exact v_vret F hQ h (by decide) dX12_begin_328
theorem dX12_performAll_0 : decode cX12_performAll 0 = .ok (.aload_n 0, 1) := by decide +kernel
theorem dX12_performAll_1 : decode cX12_performAll 1 = .ok (.iconst 0, 1) := by decide +kernel
theorem dX12_performAll_2 : decode cX12_performAll 2 = .ok (.putfield 282, 3) := by decide +kernel
theorem dX12_performAll_5 : decode cX12_performAll 5 = .ok (.aload_n 0, 1) := by decide +kernel
theorem dX12_performAll_6 : decode cX12_performAll 6 = .ok (.iconst (-1), 1) := by decide +kernel
theorem dX12_performAll_7 : decode cX12_performAll 7 = .ok (.iload_n 1, 1) := by decide +kernel
theorem dX12_performAll_8 : decode cX12_performAll 8 = .ok (.iconst (-1), 1) := by decide +kernel
theorem dX12_performAll_9 : decode cX12_performAll 9 = .ok (.invokevirtual 294, 3) := by decide +kernel
theorem dX12_performAll_12 : decode cX12_performAll 12 = .ok (.aload_n 0, 1) := by decide +kernel
theorem dX12_performAll_13 : decode cX12_performAll 13 = .ok (.getfield 282, 3) := by decide +kernel
theorem dX12_performAll_16 : decode cX12_performAll 16 = .ok (.ifCond .le 81, 3) := by decide +kernel
theorem dX12_performAll_19 : decode cX12_performAll 19 = .ok (.aload_n 0, 1) := by decide +kernel
theorem dX12_performAll_20 : decode cX12_performAll 20 = .ok (.getfield 23, 3) := by decide +kernel
theorem dX12_performAll_23 : decode cX12_performAll 23 = .ok (.ifCond .ne 74, 3) := by decide +kernel
theorem dX12_performAll_26 : decode cX12_performAll 26 = .ok (.aload_n 0, 1) := by decide +kernel
theorem dX12_performAll_27 : decode cX12_performAll 27 = .ok (.getfield 282, 3) := by decide +kernel
theorem dX12_performAll_30 : decode cX12_performAll 30 = .ok (.iconst 1, 1) := by decide +kernel
theorem dX12_performAll_31 : decode cX12_performAll 31 = .ok (.isub, 1) := by decide +kernel
theorem dX12_performAll_32 : decode cX12_performAll 32 = .ok (.istore_n 2, 1) := by decide +kernel
theorem dX12_performAll_33 : decode cX12_performAll 33 = .ok (.aload_n 0, 1) := by decide +kernel
theorem dX12_performAll_34 : decode cX12_performAll 34 = .ok (.getfield 285, 3) := by decide +kernel
theorem dX12_performAll_37 : decode cX12_performAll 37 = .ok (.iload_n 2, 1) := by decide +kernel
theorem dX12_performAll_38 : decode cX12_performAll 38 = .ok (.iaload, 1) := by decide +kernel
theorem dX12_performAll_39 : decode cX12_performAll 39 = .ok (.istore_n 3, 1) := by decide +kernel
theorem dX12_performAll_40 : decode cX12_performAll 40 = .ok (.iload_n 3, 1) := by decide +kernel
theorem dX12_performAll_41 : decode cX12_performAll 41 = .ok (.iconst (-1), 1) := by decide +kernel
theorem dX12_performAll_42 : decode cX12_performAll 42 = .ok (.if_icmp .ne 17, 3) := by decide +kernel
theorem dX12_performAll_45 : decode cX12_performAll 45 = .ok (.aload_n 0, 1) := by decide +kernel
theorem dX12_performAll_46 : decode cX12_performAll 46 = .ok (.iload_n 2, 1) := by decide +kernel
theorem dX12_performAll_47 : decode cX12_performAll 47 = .ok (.aload_n 0, 1) := by decide +kernel
theorem dX12_performAll_48 : decode cX12_performAll 48 = .ok (.getfield 279, 3) := by decide +kernel
theorem dX12_performAll_51 : decode cX12_performAll 51 = .ok (.iload_n 2, 1) := by decide +kernel
theorem dX12_performAll_52 : decode cX12_performAll 52 = .ok (.iaload, 1) := by decide +kernel
theorem dX12_performAll_53 : decode cX12_performAll 53 = .ok (.invokevirtual 297, 3) := by decide +kernel
theorem dX12_performAll_56 : decode cX12_performAll 56 = .ok (.goto 38, 3) := by decide +kernel
theorem dX12_performAll_59 : decode cX12_performAll 59 = .ok (.aload_n 0, 1) := by decide +kernel
theorem dX12_performAll_60 : decode cX12_performAll 60 = .ok (.getfield 285, 3) := by decide +kernel
theorem dX12_performAll_63 : decode cX12_performAll 63 = .ok (.iload_n 2, 1) := by decide +kernel
theorem dX12_performAll_64 : decode cX12_performAll 64 = .ok (.aload_n 0, 1) := by decide +kernel
theorem dX12_performAll_65 : decode cX12_performAll 65 = .ok (.getfield 102, 3) := by decide +kernel
theorem dX12_performAll_68 : decode cX12_performAll 68 = .ok (.iload_n 3, 1) := by decide +kernel
theorem dX12_performAll_69 : decode cX12_performAll 69 = .ok (.iaload, 1) := by decide +kernel
theorem dX12_performAll_70 : decode cX12_performAll 70 = .ok (.iastore, 1) := by decide +kernel
theorem dX12_performAll_71 : decode cX12_performAll 71 = .ok (.aload_n 0, 1) := by decide +kernel
theorem dX12_performAll_72 : decode cX12_performAll 72 = .ok (.iload_n 3, 1) := by decide +kernel
theorem dX12_performAll_73 : decode cX12_performAll 73 = .ok (.invokevirtual 300, 3) := by decide +kernel
theorem dX12_performAll_76 : decode cX12_performAll 76 = .ok (.aload_n 0, 1) := by decide +kernel
theorem dX12_performAll_77 : decode cX12_performAll 77 = .ok (.getfield 23, 3) := by decide +kernel
theorem dX12_performAll_80 : decode cX12_performAll 80 = .ok (.ifCond .ne 14, 3) := by decide +kernel
theorem dX12_performAll_83 : decode cX12_performAll 83 = .ok (.aload_n 0, 1) := by decide +kernel
theorem dX12_performAll_84 : decode cX12_performAll 84 = .ok (.iload_n 3, 1) := by decide +kernel
theorem dX12_performAll_85 : decode cX12_performAll 85 = .ok (.aload_n 0, 1) := by decide +kernel
theorem dX12_performAll_86 : decode cX12_performAll 86 = .ok (.getfield 291, 3) := by decide +kernel
theorem dX12_performAll_89 : decode cX12_performAll 89 = .ok (.iload_n 2, 1) := by decide +kernel
theorem dX12_performAll_90 : decode cX12_performAll 90 = .ok (.iaload, 1) := by decide +kernel
theorem dX12_performAll_91 : decode cX12_performAll 91 = .ok (.invokevirtual 303, 3) := by decide +kernel
theorem dX12_performAll_94 : decode cX12_performAll 94 = .ok (.goto (-82), 3) := by decide +kernel
theorem dX12_performAll_97 : decode cX12_performAll 97 = .ok (.return_, 1) := by decide +kernel
abbrev rm_X12_performAll : Room := { frames := 4, cells := 0, slots := 0, locals := 101 }
def wp_X12_performAll (a : Nat) (p1 : Int32) (S : PS) (Q : PS → Prop) : Prop :=
  (∀ S1, S1 = sI S 188 a 0 → wp_X12_enter a (-1) p1 (-1) S1 (fun (S2 : PS) => 
 (∀ P12_3 : PS → Prop, (∀ (S4 : PS),
 (if fI S4 188 a ≤ 0 then
 Q S4
 else
 (if fI S4 102 a = 0 then
 (∀ v5, v5 = (fI S4 188 a) - 1 → (∃ b6, fR S4 173 a = some b6 ∧ (vp_in v5 (aN S4 b6) ∧ (∀ v7, v7 = aI S4 86 b6 (v5).toNatClampNeg → (if v7 = (-1) then
 (∃ b14, fR S4 174 a = some b14 ∧ (vp_in v5 (aN S4 b14) ∧ wp_X12_leave a v5 (aI S4 87 b14 (v5).toNatClampNeg) S4 (fun (S15 : PS) => 
 P12_3 S15)))
 else
 (∃ b8, fR S4 173 a = some b8 ∧ (∃ b9, fR S4 110 a = some b9 ∧ (vp_in v7 (aN S4 b9) ∧ (vp_in v5 (aN S4 b8) ∧ ∀ S10, S10 = wI S4 86 b8 (v5).toNatClampNeg (aI S4 47 b9 (v7).toNatClampNeg) → wp_X12_step a v7 S10 (fun (S11 : PS) => 
 (if fI S11 102 a = 0 then
 (∃ b12, fR S11 175 a = some b12 ∧ (vp_in v5 (aN S11 b12) ∧ wp_X12_begin a v7 (aI S11 88 b12 (v5).toNatClampNeg) S11 (fun (S13 : PS) => 
 P12_3 S13)))
 else
 P12_3 S11)))))))))))
 else
 Q S4))
 → P12_3 S4) → P12_3 S2)))
set_option maxRecDepth 100000 in
set_option maxHeartbeats 4000000 in
theorem c_X12_performAll {l : Launch} {E : EE} {A : Nat → Prop} {a : Nat} {p1 : Int32} {S : PS} {Q : PS → Prop} (r_a : Rf S a 9) (h : wp_X12_performAll a p1 S Q) : MtV l yX12_performAll (.code yX12_performAll cX12_performAll 4 none) rm_X12_performAll E A [.ref a, .int p1] S Q := by
  refine MtV.of (by decide) (Nat.le_of_ble_eq_true rfl) (fun X F hQ hN => ?_)
  show VV X (0, 0) S [(0, .ref a), (1, .int p1)] [] 0
  unfold wp_X12_performAll at h
  refine v_aload_n F dX12_performAll_0 0 rfl rfl ?_
  refine v_iconst (v := 0) F dX12_performAll_1 (by decide) ?_
  refine p_X12_282 F r_a h dX12_performAll_2 (fun S1 h hE => ?_)
  have r_a := r_a.tr hE
  refine v_aload_n F dX12_performAll_5 0 rfl rfl ?_
  refine v_iconst (v := (-1)) F dX12_performAll_6 (by decide) ?_
  refine v_iload_n F dX12_performAll_7 1 rfl rfl ?_
  refine v_iconst (v := (-1)) F dX12_performAll_8 (by decide) ?_
  refine v_cV0 (v_runV F k_X12_294 rfl (c_X12_enter r_a h) r_a rfl rfl (Nat.le_of_ble_eq_true rfl) (by decide) (by decide) dX12_performAll_9) ⟨rfl, rfl⟩ (fun  S2 h hE => ?_)
  have r_a := r_a.tr hE
  refine v_sub [0] rfl ?_
  refine h (fun (S4 : PS) => Rf S4 a 9 → VV X (0, 0) S4 [(0, .ref a)] [] 12) (fun S4 h r_a => ?_) r_a
  refine v_aload_n F dX12_performAll_12 0 rfl rfl ?_
  refine g_X12_282 F r_a dX12_performAll_13 ?_
  refine v_if_le (tgt := 97) F dX12_performAll_16 (by decide) h (fun h => ?_) (fun h => ?_)
  · exact v_vret F hQ h (by decide) dX12_performAll_97
  · refine v_aload_n F dX12_performAll_19 0 rfl rfl ?_
    refine g_X12_23 F r_a dX12_performAll_20 ?_
    refine v_if_ne (tgt := 97) F dX12_performAll_23 (by decide) h (fun h => ?_) (fun h => ?_)
    · exact v_vret F hQ h (by decide) dX12_performAll_97
    · refine v_aload_n F dX12_performAll_26 0 rfl rfl ?_
      refine g_X12_282 F r_a dX12_performAll_27 ?_
      refine v_iconst (v := 1) F dX12_performAll_30 (by decide) ?_
      refine v_isub F dX12_performAll_31 ?_
      refine v_topi (fun v5 e_v5 => ?_)
      have h := h v5 e_v5
      refine v_istore_n (lv1 := [(2, .int v5), (0, .ref a)]) F dX12_performAll_32 rfl (by rw [hN]; decide) rfl ?_
      refine v_aload_n F dX12_performAll_33 1 rfl rfl ?_
      refine g_X12_285 F r_a h dX12_performAll_34 (fun b6 r_b6 h => ?_)
      refine v_iload_n F dX12_performAll_37 0 rfl rfl ?_
      refine v_iald F r_b6 o_86 h dX12_performAll_38 (fun h => ?_)
      refine v_topi (fun v7 e_v7 => ?_)
      have h := h v7 e_v7
      refine v_istore_n (lv1 := [(3, .int v7), (2, .int v5), (0, .ref a)]) F dX12_performAll_39 rfl (by rw [hN]; decide) rfl ?_
      refine v_iload_n F dX12_performAll_40 0 rfl rfl ?_
      refine v_iconst (v := (-1)) F dX12_performAll_41 (by decide) ?_
      refine v_icmp_ne (tgt := 59) F dX12_performAll_42 (by decide) h (fun h => ?_) (fun h => ?_)
      · refine v_aload_n F dX12_performAll_59 2 rfl rfl ?_
        refine g_X12_285 F r_a h dX12_performAll_60 (fun b8 r_b8 h => ?_)
        refine v_iload_n F dX12_performAll_63 1 rfl rfl ?_
        refine v_aload_n F dX12_performAll_64 2 rfl rfl ?_
        refine g_X12_102 F r_a h dX12_performAll_65 (fun b9 r_b9 h => ?_)
        refine v_iload_n F dX12_performAll_68 0 rfl rfl ?_
        refine v_iald F r_b9 o_47 h dX12_performAll_69 (fun h => ?_)
        refine v_iast F r_b8 o_86 h dX12_performAll_70 (fun S10 h hE => ?_)
        have r_a := r_a.tr hE
        refine v_aload_n F dX12_performAll_71 2 rfl rfl ?_
        refine v_iload_n F dX12_performAll_72 0 rfl rfl ?_
        refine v_cV0 (v_runV F k_X12_300 rfl (c_X12_step r_a h) r_a rfl rfl (Nat.le_of_ble_eq_true rfl) (by decide) (by decide) dX12_performAll_73) ⟨rfl, rfl⟩ (fun  S11 h hE => ?_)
        have r_a := r_a.tr hE
        refine v_aload_n F dX12_performAll_76 2 rfl rfl ?_
        refine g_X12_23 F r_a dX12_performAll_77 ?_
        refine v_if_ne (tgt := 94) F dX12_performAll_80 (by decide) h (fun h => ?_) (fun h => ?_)
        · refine v_goto (tgt := 12) F dX12_performAll_94 (by decide) ?_
          exact v_sub [2] rfl (h r_a)
        · refine v_aload_n F dX12_performAll_83 2 rfl rfl ?_
          refine v_iload_n F dX12_performAll_84 0 rfl rfl ?_
          refine v_aload_n F dX12_performAll_85 2 rfl rfl ?_
          refine g_X12_291 F r_a h dX12_performAll_86 (fun b12 r_b12 h => ?_)
          refine v_iload_n F dX12_performAll_89 1 rfl rfl ?_
          refine v_iald F r_b12 o_88 h dX12_performAll_90 (fun h => ?_)
          refine v_cV0 (v_runV F k_X12_303 rfl (c_X12_begin r_a h) r_a rfl rfl (Nat.le_of_ble_eq_true rfl) (by decide) (by decide) dX12_performAll_91) ⟨rfl, rfl⟩ (fun  S13 h hE => ?_)
          have r_a := r_a.tr hE
          refine v_goto (tgt := 12) F dX12_performAll_94 (by decide) ?_
          exact v_sub [2] rfl (h r_a)
      · refine v_aload_n F dX12_performAll_45 2 rfl rfl ?_
        refine v_iload_n F dX12_performAll_46 1 rfl rfl ?_
        refine v_aload_n F dX12_performAll_47 2 rfl rfl ?_
        refine g_X12_279 F r_a h dX12_performAll_48 (fun b14 r_b14 h => ?_)
        refine v_iload_n F dX12_performAll_51 1 rfl rfl ?_
        refine v_iald F r_b14 o_87 h dX12_performAll_52 (fun h => ?_)
        refine v_cV0 (v_runV F k_X12_297 rfl (c_X12_leave r_a h) r_a rfl rfl (Nat.le_of_ble_eq_true rfl) (by decide) (by decide) dX12_performAll_53) ⟨rfl, rfl⟩ (fun  S15 h hE => ?_)
        have r_a := r_a.tr hE
        refine v_goto (tgt := 94) F dX12_performAll_56 (by decide) ?_
        refine v_goto (tgt := 12) F dX12_performAll_94 (by decide) ?_
        exact v_sub [2] rfl (h r_a)
theorem dX12_readText_0 : decode cX12_readText 0 = .ok (.aload_n 0, 1) := by decide +kernel
theorem dX12_readText_1 : decode cX12_readText 1 = .ok (.iconst 0, 1) := by decide +kernel
theorem dX12_readText_2 : decode cX12_readText 2 = .ok (.putfield 29, 3) := by decide +kernel
theorem dX12_readText_5 : decode cX12_readText 5 = .ok (.aload_n 0, 1) := by decide +kernel
theorem dX12_readText_6 : decode cX12_readText 6 = .ok (.iconst 0, 1) := by decide +kernel
theorem dX12_readText_7 : decode cX12_readText 7 = .ok (.putfield 83, 3) := by decide +kernel
theorem dX12_readText_10 : decode cX12_readText 10 = .ok (.aload_n 0, 1) := by decide +kernel
theorem dX12_readText_11 : decode cX12_readText 11 = .ok (.iconst 0, 1) := by decide +kernel
theorem dX12_readText_12 : decode cX12_readText 12 = .ok (.putfield 189, 3) := by decide +kernel
theorem dX12_readText_15 : decode cX12_readText 15 = .ok (.aload_n 0, 1) := by decide +kernel
theorem dX12_readText_16 : decode cX12_readText 16 = .ok (.iconst 0, 1) := by decide +kernel
theorem dX12_readText_17 : decode cX12_readText 17 = .ok (.putfield 214, 3) := by decide +kernel
theorem dX12_readText_20 : decode cX12_readText 20 = .ok (.aload_n 0, 1) := by decide +kernel
theorem dX12_readText_21 : decode cX12_readText 21 = .ok (.iconst 0, 1) := by decide +kernel
theorem dX12_readText_22 : decode cX12_readText 22 = .ok (.putfield 230, 3) := by decide +kernel
theorem dX12_readText_25 : decode cX12_readText 25 = .ok (.aload_n 0, 1) := by decide +kernel
theorem dX12_readText_26 : decode cX12_readText 26 = .ok (.iconst 0, 1) := by decide +kernel
theorem dX12_readText_27 : decode cX12_readText 27 = .ok (.putfield 246, 3) := by decide +kernel
theorem dX12_readText_30 : decode cX12_readText 30 = .ok (.aload_n 0, 1) := by decide +kernel
theorem dX12_readText_31 : decode cX12_readText 31 = .ok (.iconst 0, 1) := by decide +kernel
theorem dX12_readText_32 : decode cX12_readText 32 = .ok (.putfield 243, 3) := by decide +kernel
theorem dX12_readText_35 : decode cX12_readText 35 = .ok (.aload_n 0, 1) := by decide +kernel
theorem dX12_readText_36 : decode cX12_readText 36 = .ok (.invokevirtual 568, 3) := by decide +kernel
theorem dX12_readText_39 : decode cX12_readText 39 = .ok (.istore_n 1, 1) := by decide +kernel
theorem dX12_readText_40 : decode cX12_readText 40 = .ok (.aload_n 0, 1) := by decide +kernel
theorem dX12_readText_41 : decode cX12_readText 41 = .ok (.getfield 23, 3) := by decide +kernel
theorem dX12_readText_44 : decode cX12_readText 44 = .ok (.ifCond .ne 23, 3) := by decide +kernel
theorem dX12_readText_47 : decode cX12_readText 47 = .ok (.aload_n 0, 1) := by decide +kernel
theorem dX12_readText_48 : decode cX12_readText 48 = .ok (.getfield 29, 3) := by decide +kernel
theorem dX12_readText_51 : decode cX12_readText 51 = .ok (.aload_n 0, 1) := by decide +kernel
theorem dX12_readText_52 : decode cX12_readText 52 = .ok (.getfield 32, 3) := by decide +kernel
theorem dX12_readText_55 : decode cX12_readText 55 = .ok (.if_icmp .ge 12, 3) := by decide +kernel
theorem dX12_readText_58 : decode cX12_readText 58 = .ok (.aload_n 0, 1) := by decide +kernel
theorem dX12_readText_59 : decode cX12_readText 59 = .ok (.iconst 1, 1) := by decide +kernel
theorem dX12_readText_60 : decode cX12_readText 60 = .ok (.aload_n 0, 1) := by decide +kernel
theorem dX12_readText_61 : decode cX12_readText 61 = .ok (.getfield 29, 3) := by decide +kernel
theorem dX12_readText_64 : decode cX12_readText 64 = .ok (.invokevirtual 50, 3) := by decide +kernel
theorem dX12_readText_67 : decode cX12_readText 67 = .ok (.aload_n 0, 1) := by decide +kernel
theorem dX12_readText_68 : decode cX12_readText 68 = .ok (.getfield 23, 3) := by decide +kernel
theorem dX12_readText_71 : decode cX12_readText 71 = .ok (.ifCond .le 4, 3) := by decide +kernel
theorem dX12_readText_74 : decode cX12_readText 74 = .ok (.return_, 1) := by decide +kernel
theorem dX12_readText_75 : decode cX12_readText 75 = .ok (.aload_n 0, 1) := by decide +kernel
theorem dX12_readText_76 : decode cX12_readText 76 = .ok (.iconst 0, 1) := by decide +kernel
theorem dX12_readText_77 : decode cX12_readText 77 = .ok (.putfield 441, 3) := by decide +kernel
theorem dX12_readText_80 : decode cX12_readText 80 = .ok (.aload_n 0, 1) := by decide +kernel
theorem dX12_readText_81 : decode cX12_readText 81 = .ok (.iconst 1, 1) := by decide +kernel
theorem dX12_readText_82 : decode cX12_readText 82 = .ok (.putfield 490, 3) := by decide +kernel
theorem dX12_readText_85 : decode cX12_readText 85 = .ok (.aload_n 0, 1) := by decide +kernel
theorem dX12_readText_86 : decode cX12_readText 86 = .ok (.getfield 493, 3) := by decide +kernel
theorem dX12_readText_89 : decode cX12_readText 89 = .ok (.iconst 0, 1) := by decide +kernel
theorem dX12_readText_90 : decode cX12_readText 90 = .ok (.lconst 0, 1) := by decide +kernel
theorem dX12_readText_91 : decode cX12_readText 91 = .ok (.lastore, 1) := by decide +kernel
theorem dX12_readText_92 : decode cX12_readText 92 = .ok (.aload_n 0, 1) := by decide +kernel
theorem dX12_readText_93 : decode cX12_readText 93 = .ok (.getfield 432, 3) := by decide +kernel
theorem dX12_readText_96 : decode cX12_readText 96 = .ok (.iconst 0, 1) := by decide +kernel
theorem dX12_readText_97 : decode cX12_readText 97 = .ok (.iconst (-1), 1) := by decide +kernel
theorem dX12_readText_98 : decode cX12_readText 98 = .ok (.iastore, 1) := by decide +kernel
theorem dX12_readText_99 : decode cX12_readText 99 = .ok (.aload_n 0, 1) := by decide +kernel
theorem dX12_readText_100 : decode cX12_readText 100 = .ok (.iconst 1, 1) := by decide +kernel
theorem dX12_readText_101 : decode cX12_readText 101 = .ok (.putfield 462, 3) := by decide +kernel
theorem dX12_readText_104 : decode cX12_readText 104 = .ok (.aload_n 0, 1) := by decide +kernel
theorem dX12_readText_105 : decode cX12_readText 105 = .ok (.getfield 465, 3) := by decide +kernel
theorem dX12_readText_108 : decode cX12_readText 108 = .ok (.iconst 0, 1) := by decide +kernel
theorem dX12_readText_109 : decode cX12_readText 109 = .ok (.lconst 0, 1) := by decide +kernel
theorem dX12_readText_110 : decode cX12_readText 110 = .ok (.lastore, 1) := by decide +kernel
theorem dX12_readText_111 : decode cX12_readText 111 = .ok (.aload_n 0, 1) := by decide +kernel
theorem dX12_readText_112 : decode cX12_readText 112 = .ok (.getfield 468, 3) := by decide +kernel
theorem dX12_readText_115 : decode cX12_readText 115 = .ok (.iconst 0, 1) := by decide +kernel
theorem dX12_readText_116 : decode cX12_readText 116 = .ok (.iconst 4, 1) := by decide +kernel
theorem dX12_readText_117 : decode cX12_readText 117 = .ok (.iastore, 1) := by decide +kernel
theorem dX12_readText_118 : decode cX12_readText 118 = .ok (.aload_n 0, 1) := by decide +kernel
theorem dX12_readText_119 : decode cX12_readText 119 = .ok (.getfield 471, 3) := by decide +kernel
theorem dX12_readText_122 : decode cX12_readText 122 = .ok (.iconst 0, 1) := by decide +kernel
theorem dX12_readText_123 : decode cX12_readText 123 = .ok (.iconst 4, 1) := by decide +kernel
theorem dX12_readText_124 : decode cX12_readText 124 = .ok (.iastore, 1) := by decide +kernel
theorem dX12_readText_125 : decode cX12_readText 125 = .ok (.aload_n 0, 1) := by decide +kernel
theorem dX12_readText_126 : decode cX12_readText 126 = .ok (.iconst 0, 1) := by decide +kernel
theorem dX12_readText_127 : decode cX12_readText 127 = .ok (.putfield 276, 3) := by decide +kernel
theorem dX12_readText_130 : decode cX12_readText 130 = .ok (.aload_n 0, 1) := by decide +kernel
theorem dX12_readText_131 : decode cX12_readText 131 = .ok (.iconst 0, 1) := by decide +kernel
theorem dX12_readText_132 : decode cX12_readText 132 = .ok (.putfield 344, 3) := by decide +kernel
theorem dX12_readText_135 : decode cX12_readText 135 = .ok (.aload_n 0, 1) := by decide +kernel
theorem dX12_readText_136 : decode cX12_readText 136 = .ok (.lconst 0, 1) := by decide +kernel
theorem dX12_readText_137 : decode cX12_readText 137 = .ok (.putfield 309, 3) := by decide +kernel
theorem dX12_readText_140 : decode cX12_readText 140 = .ok (.aload_n 0, 1) := by decide +kernel
theorem dX12_readText_141 : decode cX12_readText 141 = .ok (.ldc2_w 571, 3) := by decide +kernel
theorem dX12_readText_144 : decode cX12_readText 144 = .ok (.putfield 353, 3) := by decide +kernel
theorem dX12_readText_147 : decode cX12_readText 147 = .ok (.aload_n 0, 1) := by decide +kernel
theorem dX12_readText_148 : decode cX12_readText 148 = .ok (.bipush 28, 2) := by decide +kernel
theorem dX12_readText_150 : decode cX12_readText 150 = .ok (.putfield 323, 3) := by decide +kernel
theorem dX12_readText_153 : decode cX12_readText 153 = .ok (.aload_n 0, 1) := by decide +kernel
theorem dX12_readText_154 : decode cX12_readText 154 = .ok (.iconst 0, 1) := by decide +kernel
theorem dX12_readText_155 : decode cX12_readText 155 = .ok (.putfield 326, 3) := by decide +kernel
theorem dX12_readText_158 : decode cX12_readText 158 = .ok (.aload_n 0, 1) := by decide +kernel
theorem dX12_readText_159 : decode cX12_readText 159 = .ok (.iconst 0, 1) := by decide +kernel
theorem dX12_readText_160 : decode cX12_readText 160 = .ok (.putfield 368, 3) := by decide +kernel
theorem dX12_readText_163 : decode cX12_readText 163 = .ok (.aload_n 0, 1) := by decide +kernel
theorem dX12_readText_164 : decode cX12_readText 164 = .ok (.lconst 1, 1) := by decide +kernel
theorem dX12_readText_165 : decode cX12_readText 165 = .ok (.putfield 374, 3) := by decide +kernel
theorem dX12_readText_168 : decode cX12_readText 168 = .ok (.aload_n 0, 1) := by decide +kernel
theorem dX12_readText_169 : decode cX12_readText 169 = .ok (.lconst 1, 1) := by decide +kernel
theorem dX12_readText_170 : decode cX12_readText 170 = .ok (.putfield 380, 3) := by decide +kernel
theorem dX12_readText_173 : decode cX12_readText 173 = .ok (.aload_n 0, 1) := by decide +kernel
theorem dX12_readText_174 : decode cX12_readText 174 = .ok (.iconst 0, 1) := by decide +kernel
theorem dX12_readText_175 : decode cX12_readText 175 = .ok (.putfield 335, 3) := by decide +kernel
theorem dX12_readText_178 : decode cX12_readText 178 = .ok (.aload_n 0, 1) := by decide +kernel
theorem dX12_readText_179 : decode cX12_readText 179 = .ok (.iconst 0, 1) := by decide +kernel
theorem dX12_readText_180 : decode cX12_readText 180 = .ok (.putfield 338, 3) := by decide +kernel
theorem dX12_readText_183 : decode cX12_readText 183 = .ok (.aload_n 0, 1) := by decide +kernel
theorem dX12_readText_184 : decode cX12_readText 184 = .ok (.iconst 0, 1) := by decide +kernel
theorem dX12_readText_185 : decode cX12_readText 185 = .ok (.putfield 356, 3) := by decide +kernel
theorem dX12_readText_188 : decode cX12_readText 188 = .ok (.aload_n 0, 1) := by decide +kernel
theorem dX12_readText_189 : decode cX12_readText 189 = .ok (.iconst 0, 1) := by decide +kernel
theorem dX12_readText_190 : decode cX12_readText 190 = .ok (.putfield 387, 3) := by decide +kernel
theorem dX12_readText_193 : decode cX12_readText 193 = .ok (.aload_n 0, 1) := by decide +kernel
theorem dX12_readText_194 : decode cX12_readText 194 = .ok (.iconst 0, 1) := by decide +kernel
theorem dX12_readText_195 : decode cX12_readText 195 = .ok (.putfield 390, 3) := by decide +kernel
theorem dX12_readText_198 : decode cX12_readText 198 = .ok (.aload_n 0, 1) := by decide +kernel
theorem dX12_readText_199 : decode cX12_readText 199 = .ok (.iload_n 1, 1) := by decide +kernel
theorem dX12_readText_200 : decode cX12_readText 200 = .ok (.invokevirtual 573, 3) := by decide +kernel
theorem dX12_readText_203 : decode cX12_readText 203 = .ok (.return_, 1) := by decide +kernel
abbrev rm_X12_readText : Room := { frames := 7, cells := 0, slots := 0, locals := 174 }
def wp_X12_readText (a : Nat) (S : PS) (Q : PS → Prop) : Prop :=
  (∀ S1, S1 = sI S 101 a 0 → (∀ S2, S2 = sI S1 113 a 0 → (∀ S3, S3 = sI S2 117 a 0 → (∀ S4, S4 = sI S3 120 a 0 → (∀ S5, S5 = sI S4 125 a 0 → (∀ S6, S6 = sI S5 126 a 0 → (∀ S7, S7 = sI S6 129 a 0 → wp_X12_readAll a S7 (fun (r9 : Int32) (S8 : PS) => 
 (∀ K67_11 : PS → Prop, (∀ (S10 : PS),
 (if fI S10 102 a ≤ 0 then
 (∀ S12, S12 = sI S10 146 a 0 → (∀ S13, S13 = sI S12 149 a 1 → (∃ b14, fR S13 147 a = some b14 ∧ (vp_in 0 (aN S13 b14) ∧ ∀ S15, S15 = wL S13 76 b14 (0 : Int32).toNatClampNeg 0 → (∃ b16, fR S15 148 a = some b16 ∧ (vp_in 0 (aN S15 b16) ∧ ∀ S17, S17 = wI S15 77 b16 (0 : Int32).toNatClampNeg (-1) → (∀ S18, S18 = sI S17 153 a 1 → (∃ b19, fR S18 150 a = some b19 ∧ (vp_in 0 (aN S18 b19) ∧ ∀ S20, S20 = wL S18 78 b19 (0 : Int32).toNatClampNeg 0 → (∃ b21, fR S20 151 a = some b21 ∧ (vp_in 0 (aN S20 b21) ∧ ∀ S22, S22 = wI S20 79 b21 (0 : Int32).toNatClampNeg 4 → (∃ b23, fR S22 152 a = some b23 ∧ (vp_in 0 (aN S22 b23) ∧ ∀ S24, S24 = wI S22 80 b23 (0 : Int32).toNatClampNeg 4 → (∀ S25, S25 = sI S24 154 a 0 → (∀ S26, S26 = sI S25 155 a 0 → (∀ S27, S27 = sL S26 156 a 0 → (∀ S28, S28 = sL S27 157 a 967680 → (∀ S29, S29 = sI S28 158 a 28 → (∀ S30, S30 = sI S29 159 a 0 → (∀ S31, S31 = sI S30 160 a 0 → (∀ S32, S32 = sL S31 161 a 1 → (∀ S33, S33 = sL S32 162 a 1 → (∀ S34, S34 = sI S33 163 a 0 → (∀ S35, S35 = sI S34 164 a 0 → (∀ S36, S36 = sI S35 165 a 0 → (∀ S37, S37 = sI S36 166 a 0 → (∀ S38, S38 = sI S37 169 a 0 → wp_X12_performAll a r9 S38 (fun (S39 : PS) => 
 Q S39))))))))))))))))))))))))))))
 else
 Q S10)
 → K67_11 S10) →
 (if fI S8 102 a = 0 then
 (if fI S8 100 a ≤ fI S8 101 a then
 K67_11 S8
 else
 wp_X12_bad a 1 (fI S8 101 a) S8 (fun (S40 : PS) => 
 K67_11 S40))
 else
 K67_11 S8))))))))))
set_option maxRecDepth 100000 in
set_option maxHeartbeats 4000000 in
theorem c_X12_readText {l : Launch} {E : EE} {A : Nat → Prop} {a : Nat} {S : PS} {Q : PS → Prop} (r_a : Rf S a 9) (h : wp_X12_readText a S Q) : MtV l yX12_readText (.code yX12_readText cX12_readText 2 none) rm_X12_readText E A [.ref a] S Q := by
  refine MtV.of (by decide) (Nat.le_of_ble_eq_true rfl) (fun X F hQ hN => ?_)
  show VV X (0, 0) S [(0, .ref a)] [] 0
  unfold wp_X12_readText at h
  refine v_aload_n F dX12_readText_0 0 rfl rfl ?_
  refine v_iconst (v := 0) F dX12_readText_1 (by decide) ?_
  refine p_X12_29 F r_a h dX12_readText_2 (fun S1 h hE => ?_)
  have r_a := r_a.tr hE
  refine v_aload_n F dX12_readText_5 0 rfl rfl ?_
  refine v_iconst (v := 0) F dX12_readText_6 (by decide) ?_
  refine p_X12_83 F r_a h dX12_readText_7 (fun S2 h hE => ?_)
  have r_a := r_a.tr hE
  refine v_aload_n F dX12_readText_10 0 rfl rfl ?_
  refine v_iconst (v := 0) F dX12_readText_11 (by decide) ?_
  refine p_X12_189 F r_a h dX12_readText_12 (fun S3 h hE => ?_)
  have r_a := r_a.tr hE
  refine v_aload_n F dX12_readText_15 0 rfl rfl ?_
  refine v_iconst (v := 0) F dX12_readText_16 (by decide) ?_
  refine p_X12_214 F r_a h dX12_readText_17 (fun S4 h hE => ?_)
  have r_a := r_a.tr hE
  refine v_aload_n F dX12_readText_20 0 rfl rfl ?_
  refine v_iconst (v := 0) F dX12_readText_21 (by decide) ?_
  refine p_X12_230 F r_a h dX12_readText_22 (fun S5 h hE => ?_)
  have r_a := r_a.tr hE
  refine v_aload_n F dX12_readText_25 0 rfl rfl ?_
  refine v_iconst (v := 0) F dX12_readText_26 (by decide) ?_
  refine p_X12_246 F r_a rfl rfl h dX12_readText_27 (fun S6 h hE => ?_)
  have r_a := r_a.tr hE
  refine v_aload_n F dX12_readText_30 0 rfl rfl ?_
  refine v_iconst (v := 0) F dX12_readText_31 (by decide) ?_
  refine p_X12_243 F r_a h dX12_readText_32 (fun S7 h hE => ?_)
  have r_a := r_a.tr hE
  refine v_aload_n F dX12_readText_35 0 rfl rfl ?_
  refine v_cI0 (v_runV F k_X12_568 rfl (c_X12_readAll r_a h) r_a rfl rfl (Nat.le_of_ble_eq_true rfl) (by decide) (by decide) dX12_readText_36) ⟨rfl, rfl⟩ (fun r9 S8 h hE => ?_)
  have r_a := r_a.tr hE
  refine v_istore_n (lv1 := [(1, .int r9), (0, .ref a)]) F dX12_readText_39 rfl (by rw [hN]; decide) rfl ?_
  refine v_aload_n F dX12_readText_40 1 rfl rfl ?_
  refine g_X12_23 F r_a dX12_readText_41 ?_
  have h := h (fun (S10 : PS) => Rf S10 a 9 → VV X (0, 0) S10 [(0, .ref a), (1, .int r9)] [] 67) (by
    intro S10 h r_a
    refine v_aload_n F dX12_readText_67 0 rfl rfl ?_
    refine g_X12_23 F r_a dX12_readText_68 ?_
    refine v_if_le (tgt := 75) F dX12_readText_71 (by decide) h (fun h => ?_) (fun h => ?_)
    · refine v_aload_n F dX12_readText_75 0 rfl rfl ?_
      refine v_iconst (v := 0) F dX12_readText_76 (by decide) ?_
      refine p_X12_441 F r_a h dX12_readText_77 (fun S12 h hE => ?_)
      have r_a := r_a.tr hE
      refine v_aload_n F dX12_readText_80 0 rfl rfl ?_
      refine v_iconst (v := 1) F dX12_readText_81 (by decide) ?_
      refine p_X12_490 F r_a h dX12_readText_82 (fun S13 h hE => ?_)
      have r_a := r_a.tr hE
      refine v_aload_n F dX12_readText_85 0 rfl rfl ?_
      refine g_X12_493 F r_a h dX12_readText_86 (fun b14 r_b14 h => ?_)
      refine v_iconst (v := 0) F dX12_readText_89 (by decide) ?_
      refine v_lconst (v := 0) F dX12_readText_90 (by decide) ?_
      refine v_last F r_b14 o_76 h dX12_readText_91 (fun S15 h hE => ?_)
      have r_a := r_a.tr hE
      refine v_aload_n F dX12_readText_92 0 rfl rfl ?_
      refine g_X12_432 F r_a h dX12_readText_93 (fun b16 r_b16 h => ?_)
      refine v_iconst (v := 0) F dX12_readText_96 (by decide) ?_
      refine v_iconst (v := (-1)) F dX12_readText_97 (by decide) ?_
      refine v_iast F r_b16 o_77 h dX12_readText_98 (fun S17 h hE => ?_)
      have r_a := r_a.tr hE
      refine v_aload_n F dX12_readText_99 0 rfl rfl ?_
      refine v_iconst (v := 1) F dX12_readText_100 (by decide) ?_
      refine p_X12_462 F r_a h dX12_readText_101 (fun S18 h hE => ?_)
      have r_a := r_a.tr hE
      refine v_aload_n F dX12_readText_104 0 rfl rfl ?_
      refine g_X12_465 F r_a h dX12_readText_105 (fun b19 r_b19 h => ?_)
      refine v_iconst (v := 0) F dX12_readText_108 (by decide) ?_
      refine v_lconst (v := 0) F dX12_readText_109 (by decide) ?_
      refine v_last F r_b19 o_78 h dX12_readText_110 (fun S20 h hE => ?_)
      have r_a := r_a.tr hE
      refine v_aload_n F dX12_readText_111 0 rfl rfl ?_
      refine g_X12_468 F r_a h dX12_readText_112 (fun b21 r_b21 h => ?_)
      refine v_iconst (v := 0) F dX12_readText_115 (by decide) ?_
      refine v_iconst (v := 4) F dX12_readText_116 (by decide) ?_
      refine v_iast F r_b21 o_79 h dX12_readText_117 (fun S22 h hE => ?_)
      have r_a := r_a.tr hE
      refine v_aload_n F dX12_readText_118 0 rfl rfl ?_
      refine g_X12_471 F r_a h dX12_readText_119 (fun b23 r_b23 h => ?_)
      refine v_iconst (v := 0) F dX12_readText_122 (by decide) ?_
      refine v_iconst (v := 4) F dX12_readText_123 (by decide) ?_
      refine v_iast F r_b23 o_80 h dX12_readText_124 (fun S24 h hE => ?_)
      have r_a := r_a.tr hE
      refine v_aload_n F dX12_readText_125 0 rfl rfl ?_
      refine v_iconst (v := 0) F dX12_readText_126 (by decide) ?_
      refine p_X12_276 F r_a h dX12_readText_127 (fun S25 h hE => ?_)
      have r_a := r_a.tr hE
      refine v_aload_n F dX12_readText_130 0 rfl rfl ?_
      refine v_iconst (v := 0) F dX12_readText_131 (by decide) ?_
      refine p_X12_344 F r_a h dX12_readText_132 (fun S26 h hE => ?_)
      have r_a := r_a.tr hE
      refine v_aload_n F dX12_readText_135 0 rfl rfl ?_
      refine v_lconst (v := 0) F dX12_readText_136 (by decide) ?_
      refine p_X12_309 F r_a h dX12_readText_137 (fun S27 h hE => ?_)
      have r_a := r_a.tr hE
      refine v_aload_n F dX12_readText_140 0 rfl rfl ?_
      refine v_ldc2 F kc_X12_571 dX12_readText_141 ?_
      refine p_X12_353 F r_a h dX12_readText_144 (fun S28 h hE => ?_)
      have r_a := r_a.tr hE
      refine v_aload_n F dX12_readText_147 0 rfl rfl ?_
      refine v_bipush (v := 28) F dX12_readText_148 (by decide) ?_
      refine p_X12_323 F r_a h dX12_readText_150 (fun S29 h hE => ?_)
      have r_a := r_a.tr hE
      refine v_aload_n F dX12_readText_153 0 rfl rfl ?_
      refine v_iconst (v := 0) F dX12_readText_154 (by decide) ?_
      refine p_X12_326 F r_a h dX12_readText_155 (fun S30 h hE => ?_)
      have r_a := r_a.tr hE
      refine v_aload_n F dX12_readText_158 0 rfl rfl ?_
      refine v_iconst (v := 0) F dX12_readText_159 (by decide) ?_
      refine p_X12_368 F r_a h dX12_readText_160 (fun S31 h hE => ?_)
      have r_a := r_a.tr hE
      refine v_aload_n F dX12_readText_163 0 rfl rfl ?_
      refine v_lconst (v := 1) F dX12_readText_164 (by decide) ?_
      refine p_X12_374 F r_a h dX12_readText_165 (fun S32 h hE => ?_)
      have r_a := r_a.tr hE
      refine v_aload_n F dX12_readText_168 0 rfl rfl ?_
      refine v_lconst (v := 1) F dX12_readText_169 (by decide) ?_
      refine p_X12_380 F r_a h dX12_readText_170 (fun S33 h hE => ?_)
      have r_a := r_a.tr hE
      refine v_aload_n F dX12_readText_173 0 rfl rfl ?_
      refine v_iconst (v := 0) F dX12_readText_174 (by decide) ?_
      refine p_X12_335 F r_a h dX12_readText_175 (fun S34 h hE => ?_)
      have r_a := r_a.tr hE
      refine v_aload_n F dX12_readText_178 0 rfl rfl ?_
      refine v_iconst (v := 0) F dX12_readText_179 (by decide) ?_
      refine p_X12_338 F r_a h dX12_readText_180 (fun S35 h hE => ?_)
      have r_a := r_a.tr hE
      refine v_aload_n F dX12_readText_183 0 rfl rfl ?_
      refine v_iconst (v := 0) F dX12_readText_184 (by decide) ?_
      refine p_X12_356 F r_a h dX12_readText_185 (fun S36 h hE => ?_)
      have r_a := r_a.tr hE
      refine v_aload_n F dX12_readText_188 0 rfl rfl ?_
      refine v_iconst (v := 0) F dX12_readText_189 (by decide) ?_
      refine p_X12_387 F r_a h dX12_readText_190 (fun S37 h hE => ?_)
      have r_a := r_a.tr hE
      refine v_aload_n F dX12_readText_193 0 rfl rfl ?_
      refine v_iconst (v := 0) F dX12_readText_194 (by decide) ?_
      refine p_X12_390 F r_a h dX12_readText_195 (fun S38 h hE => ?_)
      have r_a := r_a.tr hE
      refine v_aload_n F dX12_readText_198 0 rfl rfl ?_
      refine v_iload_n F dX12_readText_199 1 rfl rfl ?_
      refine v_cV0 (v_runV F k_X12_573 rfl (c_X12_performAll r_a h) r_a rfl rfl (Nat.le_of_ble_eq_true rfl) (by decide) (by decide) dX12_readText_200) ⟨rfl, rfl⟩ (fun  S39 h hE => ?_)
      have r_a := r_a.tr hE
      exact v_vret F hQ h (by decide) dX12_readText_203
    · exact v_vret F hQ h (by decide) dX12_readText_74)
  refine v_if_ne (tgt := 67) F dX12_readText_44 (by decide) h (fun h => ?_) (fun h => ?_)
  · exact v_sub [1, 0] rfl (h r_a)
  · refine v_aload_n F dX12_readText_47 1 rfl rfl ?_
    refine g_X12_29 F r_a dX12_readText_48 ?_
    refine v_aload_n F dX12_readText_51 1 rfl rfl ?_
    refine g_X12_32 F r_a dX12_readText_52 ?_
    refine v_icmp_ge (tgt := 67) F dX12_readText_55 (by decide) h (fun h => ?_) (fun h => ?_)
    · exact v_sub [1, 0] rfl (h r_a)
    · refine v_aload_n F dX12_readText_58 1 rfl rfl ?_
      refine v_iconst (v := 1) F dX12_readText_59 (by decide) ?_
      refine v_aload_n F dX12_readText_60 1 rfl rfl ?_
      refine g_X12_29 F r_a dX12_readText_61 ?_
      refine v_cV0 (v_runV F k_X12_50 rfl (c_X12_bad r_a h) r_a rfl rfl (Nat.le_of_ble_eq_true rfl) (by decide) (by decide) dX12_readText_64) ⟨rfl, rfl⟩ (fun  S40 h hE => ?_)
      have r_a := r_a.tr hE
      exact v_sub [1, 0] rfl (h r_a)
theorem dX12_tell_0 : decode cX12_tell 0 = .ok (.iconst 0, 1) := by decide +kernel
theorem dX12_tell_1 : decode cX12_tell 1 = .ok (.istore_n 1, 1) := by decide +kernel
theorem dX12_tell_2 : decode cX12_tell 2 = .ok (.iload_n 1, 1) := by decide +kernel
theorem dX12_tell_3 : decode cX12_tell 3 = .ok (.aload_n 0, 1) := by decide +kernel
theorem dX12_tell_4 : decode cX12_tell 4 = .ok (.getfield 32, 3) := by decide +kernel
theorem dX12_tell_7 : decode cX12_tell 7 = .ok (.if_icmp .ge 21, 3) := by decide +kernel
theorem dX12_tell_10 : decode cX12_tell 10 = .ok (.aload_n 0, 1) := by decide +kernel
theorem dX12_tell_11 : decode cX12_tell 11 = .ok (.getfield 507, 3) := by decide +kernel
theorem dX12_tell_14 : decode cX12_tell 14 = .ok (.iload_n 1, 1) := by decide +kernel
theorem dX12_tell_15 : decode cX12_tell 15 = .ok (.aload_n 0, 1) := by decide +kernel
theorem dX12_tell_16 : decode cX12_tell 16 = .ok (.getfield 35, 3) := by decide +kernel
theorem dX12_tell_19 : decode cX12_tell 19 = .ok (.iload_n 1, 1) := by decide +kernel
theorem dX12_tell_20 : decode cX12_tell 20 = .ok (.baload, 1) := by decide +kernel
theorem dX12_tell_21 : decode cX12_tell 21 = .ok (.bastore, 1) := by decide +kernel
theorem dX12_tell_22 : decode cX12_tell 22 = .ok (.iinc 1 1, 3) := by decide +kernel
theorem dX12_tell_25 : decode cX12_tell 25 = .ok (.goto (-23), 3) := by decide +kernel
theorem dX12_tell_28 : decode cX12_tell 28 = .ok (.iconst 0, 1) := by decide +kernel
theorem dX12_tell_29 : decode cX12_tell 29 = .ok (.istore_n 1, 1) := by decide +kernel
theorem dX12_tell_30 : decode cX12_tell 30 = .ok (.iload_n 1, 1) := by decide +kernel
theorem dX12_tell_31 : decode cX12_tell 31 = .ok (.aload_n 0, 1) := by decide +kernel
theorem dX12_tell_32 : decode cX12_tell 32 = .ok (.getfield 441, 3) := by decide +kernel
theorem dX12_tell_35 : decode cX12_tell 35 = .ok (.if_icmp .ge 249, 3) := by decide +kernel
theorem dX12_tell_38 : decode cX12_tell 38 = .ok (.aload_n 0, 1) := by decide +kernel
theorem dX12_tell_39 : decode cX12_tell 39 = .ok (.getfield 510, 3) := by decide +kernel
theorem dX12_tell_42 : decode cX12_tell 42 = .ok (.iload_n 1, 1) := by decide +kernel
theorem dX12_tell_43 : decode cX12_tell 43 = .ok (.aload_n 0, 1) := by decide +kernel
theorem dX12_tell_44 : decode cX12_tell 44 = .ok (.getfield 444, 3) := by decide +kernel
theorem dX12_tell_47 : decode cX12_tell 47 = .ok (.iload_n 1, 1) := by decide +kernel
theorem dX12_tell_48 : decode cX12_tell 48 = .ok (.iaload, 1) := by decide +kernel
theorem dX12_tell_49 : decode cX12_tell 49 = .ok (.iastore, 1) := by decide +kernel
theorem dX12_tell_50 : decode cX12_tell 50 = .ok (.aload_n 0, 1) := by decide +kernel
theorem dX12_tell_51 : decode cX12_tell 51 = .ok (.getfield 513, 3) := by decide +kernel
theorem dX12_tell_54 : decode cX12_tell 54 = .ok (.iload_n 1, 1) := by decide +kernel
theorem dX12_tell_55 : decode cX12_tell 55 = .ok (.aload_n 0, 1) := by decide +kernel
theorem dX12_tell_56 : decode cX12_tell 56 = .ok (.getfield 420, 3) := by decide +kernel
theorem dX12_tell_59 : decode cX12_tell 59 = .ok (.iload_n 1, 1) := by decide +kernel
theorem dX12_tell_60 : decode cX12_tell 60 = .ok (.iaload, 1) := by decide +kernel
theorem dX12_tell_61 : decode cX12_tell 61 = .ok (.iastore, 1) := by decide +kernel
theorem dX12_tell_62 : decode cX12_tell 62 = .ok (.aload_n 0, 1) := by decide +kernel
theorem dX12_tell_63 : decode cX12_tell 63 = .ok (.getfield 516, 3) := by decide +kernel
theorem dX12_tell_66 : decode cX12_tell 66 = .ok (.iload_n 1, 1) := by decide +kernel
theorem dX12_tell_67 : decode cX12_tell 67 = .ok (.aload_n 0, 1) := by decide +kernel
theorem dX12_tell_68 : decode cX12_tell 68 = .ok (.getfield 447, 3) := by decide +kernel
theorem dX12_tell_71 : decode cX12_tell 71 = .ok (.iload_n 1, 1) := by decide +kernel
theorem dX12_tell_72 : decode cX12_tell 72 = .ok (.baload, 1) := by decide +kernel
theorem dX12_tell_73 : decode cX12_tell 73 = .ok (.bastore, 1) := by decide +kernel
theorem dX12_tell_74 : decode cX12_tell 74 = .ok (.aload_n 0, 1) := by decide +kernel
theorem dX12_tell_75 : decode cX12_tell 75 = .ok (.getfield 519, 3) := by decide +kernel
theorem dX12_tell_78 : decode cX12_tell 78 = .ok (.iload_n 1, 1) := by decide +kernel
theorem dX12_tell_79 : decode cX12_tell 79 = .ok (.aload_n 0, 1) := by decide +kernel
theorem dX12_tell_80 : decode cX12_tell 80 = .ok (.getfield 450, 3) := by decide +kernel
theorem dX12_tell_83 : decode cX12_tell 83 = .ok (.iload_n 1, 1) := by decide +kernel
theorem dX12_tell_84 : decode cX12_tell 84 = .ok (.baload, 1) := by decide +kernel
theorem dX12_tell_85 : decode cX12_tell 85 = .ok (.bastore, 1) := by decide +kernel
theorem dX12_tell_86 : decode cX12_tell 86 = .ok (.aload_n 0, 1) := by decide +kernel
theorem dX12_tell_87 : decode cX12_tell 87 = .ok (.getfield 522, 3) := by decide +kernel
theorem dX12_tell_90 : decode cX12_tell 90 = .ok (.iload_n 1, 1) := by decide +kernel
theorem dX12_tell_91 : decode cX12_tell 91 = .ok (.aload_n 0, 1) := by decide +kernel
theorem dX12_tell_92 : decode cX12_tell 92 = .ok (.getfield 453, 3) := by decide +kernel
theorem dX12_tell_95 : decode cX12_tell 95 = .ok (.iload_n 1, 1) := by decide +kernel
theorem dX12_tell_96 : decode cX12_tell 96 = .ok (.laload, 1) := by decide +kernel
theorem dX12_tell_97 : decode cX12_tell 97 = .ok (.lastore, 1) := by decide +kernel
theorem dX12_tell_98 : decode cX12_tell 98 = .ok (.aload_n 0, 1) := by decide +kernel
theorem dX12_tell_99 : decode cX12_tell 99 = .ok (.getfield 525, 3) := by decide +kernel
theorem dX12_tell_102 : decode cX12_tell 102 = .ok (.iload_n 1, 1) := by decide +kernel
theorem dX12_tell_103 : decode cX12_tell 103 = .ok (.aload_n 0, 1) := by decide +kernel
theorem dX12_tell_104 : decode cX12_tell 104 = .ok (.getfield 456, 3) := by decide +kernel
theorem dX12_tell_107 : decode cX12_tell 107 = .ok (.iload_n 1, 1) := by decide +kernel
theorem dX12_tell_108 : decode cX12_tell 108 = .ok (.laload, 1) := by decide +kernel
theorem dX12_tell_109 : decode cX12_tell 109 = .ok (.lastore, 1) := by decide +kernel
theorem dX12_tell_110 : decode cX12_tell 110 = .ok (.bipush 6, 2) := by decide +kernel
theorem dX12_tell_112 : decode cX12_tell 112 = .ok (.iload_n 1, 1) := by decide +kernel
theorem dX12_tell_113 : decode cX12_tell 113 = .ok (.imul, 1) := by decide +kernel
theorem dX12_tell_114 : decode cX12_tell 114 = .ok (.istore_n 2, 1) := by decide +kernel
theorem dX12_tell_115 : decode cX12_tell 115 = .ok (.iload_n 2, 1) := by decide +kernel
theorem dX12_tell_116 : decode cX12_tell 116 = .ok (.bipush 6, 2) := by decide +kernel
theorem dX12_tell_118 : decode cX12_tell 118 = .ok (.iload_n 1, 1) := by decide +kernel
theorem dX12_tell_119 : decode cX12_tell 119 = .ok (.imul, 1) := by decide +kernel
theorem dX12_tell_120 : decode cX12_tell 120 = .ok (.aload_n 0, 1) := by decide +kernel
theorem dX12_tell_121 : decode cX12_tell 121 = .ok (.getfield 420, 3) := by decide +kernel
theorem dX12_tell_124 : decode cX12_tell 124 = .ok (.iload_n 1, 1) := by decide +kernel
theorem dX12_tell_125 : decode cX12_tell 125 = .ok (.iaload, 1) := by decide +kernel
theorem dX12_tell_126 : decode cX12_tell 126 = .ok (.iadd, 1) := by decide +kernel
theorem dX12_tell_127 : decode cX12_tell 127 = .ok (.if_icmp .ge 45, 3) := by decide +kernel
theorem dX12_tell_130 : decode cX12_tell 130 = .ok (.aload_n 0, 1) := by decide +kernel
theorem dX12_tell_131 : decode cX12_tell 131 = .ok (.getfield 528, 3) := by decide +kernel
theorem dX12_tell_134 : decode cX12_tell 134 = .ok (.iload_n 2, 1) := by decide +kernel
theorem dX12_tell_135 : decode cX12_tell 135 = .ok (.aload_n 0, 1) := by decide +kernel
theorem dX12_tell_136 : decode cX12_tell 136 = .ok (.getfield 423, 3) := by decide +kernel
theorem dX12_tell_139 : decode cX12_tell 139 = .ok (.iload_n 2, 1) := by decide +kernel
theorem dX12_tell_140 : decode cX12_tell 140 = .ok (.iaload, 1) := by decide +kernel
theorem dX12_tell_141 : decode cX12_tell 141 = .ok (.iastore, 1) := by decide +kernel
theorem dX12_tell_142 : decode cX12_tell 142 = .ok (.aload_n 0, 1) := by decide +kernel
theorem dX12_tell_143 : decode cX12_tell 143 = .ok (.getfield 531, 3) := by decide +kernel
theorem dX12_tell_146 : decode cX12_tell 146 = .ok (.iload_n 2, 1) := by decide +kernel
theorem dX12_tell_147 : decode cX12_tell 147 = .ok (.aload_n 0, 1) := by decide +kernel
theorem dX12_tell_148 : decode cX12_tell 148 = .ok (.getfield 426, 3) := by decide +kernel
theorem dX12_tell_151 : decode cX12_tell 151 = .ok (.iload_n 2, 1) := by decide +kernel
theorem dX12_tell_152 : decode cX12_tell 152 = .ok (.iaload, 1) := by decide +kernel
theorem dX12_tell_153 : decode cX12_tell 153 = .ok (.iastore, 1) := by decide +kernel
theorem dX12_tell_154 : decode cX12_tell 154 = .ok (.aload_n 0, 1) := by decide +kernel
theorem dX12_tell_155 : decode cX12_tell 155 = .ok (.getfield 534, 3) := by decide +kernel
theorem dX12_tell_158 : decode cX12_tell 158 = .ok (.iload_n 2, 1) := by decide +kernel
theorem dX12_tell_159 : decode cX12_tell 159 = .ok (.aload_n 0, 1) := by decide +kernel
theorem dX12_tell_160 : decode cX12_tell 160 = .ok (.getfield 429, 3) := by decide +kernel
theorem dX12_tell_163 : decode cX12_tell 163 = .ok (.iload_n 2, 1) := by decide +kernel
theorem dX12_tell_164 : decode cX12_tell 164 = .ok (.iaload, 1) := by decide +kernel
theorem dX12_tell_165 : decode cX12_tell 165 = .ok (.iastore, 1) := by decide +kernel
theorem dX12_tell_166 : decode cX12_tell 166 = .ok (.iinc 2 1, 3) := by decide +kernel
theorem dX12_tell_169 : decode cX12_tell 169 = .ok (.goto (-54), 3) := by decide +kernel
theorem dX12_tell_172 : decode cX12_tell 172 = .ok (.iconst 3, 1) := by decide +kernel
theorem dX12_tell_173 : decode cX12_tell 173 = .ok (.iload_n 1, 1) := by decide +kernel
theorem dX12_tell_174 : decode cX12_tell 174 = .ok (.imul, 1) := by decide +kernel
theorem dX12_tell_175 : decode cX12_tell 175 = .ok (.istore_n 2, 1) := by decide +kernel
theorem dX12_tell_176 : decode cX12_tell 176 = .ok (.iload_n 2, 1) := by decide +kernel
theorem dX12_tell_177 : decode cX12_tell 177 = .ok (.iconst 3, 1) := by decide +kernel
theorem dX12_tell_178 : decode cX12_tell 178 = .ok (.iload_n 1, 1) := by decide +kernel
theorem dX12_tell_179 : decode cX12_tell 179 = .ok (.imul, 1) := by decide +kernel
theorem dX12_tell_180 : decode cX12_tell 180 = .ok (.iconst 3, 1) := by decide +kernel
theorem dX12_tell_181 : decode cX12_tell 181 = .ok (.iadd, 1) := by decide +kernel
theorem dX12_tell_182 : decode cX12_tell 182 = .ok (.if_icmp .ge 96, 3) := by decide +kernel
theorem dX12_tell_185 : decode cX12_tell 185 = .ok (.aload_n 0, 1) := by decide +kernel
theorem dX12_tell_186 : decode cX12_tell 186 = .ok (.getfield 459, 3) := by decide +kernel
theorem dX12_tell_189 : decode cX12_tell 189 = .ok (.iload_n 2, 1) := by decide +kernel
theorem dX12_tell_190 : decode cX12_tell 190 = .ok (.iaload, 1) := by decide +kernel
theorem dX12_tell_191 : decode cX12_tell 191 = .ok (.istore_n 3, 1) := by decide +kernel
theorem dX12_tell_192 : decode cX12_tell 192 = .ok (.iload_n 3, 1) := by decide +kernel
theorem dX12_tell_193 : decode cX12_tell 193 = .ok (.iconst (-1), 1) := by decide +kernel
theorem dX12_tell_194 : decode cX12_tell 194 = .ok (.if_icmp .eq 33, 3) := by decide +kernel
theorem dX12_tell_197 : decode cX12_tell 197 = .ok (.aload_n 0, 1) := by decide +kernel
theorem dX12_tell_198 : decode cX12_tell 198 = .ok (.getfield 224, 3) := by decide +kernel
theorem dX12_tell_201 : decode cX12_tell 201 = .ok (.iload_n 3, 1) := by decide +kernel
theorem dX12_tell_202 : decode cX12_tell 202 = .ok (.iaload, 1) := by decide +kernel
theorem dX12_tell_203 : decode cX12_tell 203 = .ok (.iconst 1, 1) := by decide +kernel
theorem dX12_tell_204 : decode cX12_tell 204 = .ok (.if_icmp .ne 19, 3) := by decide +kernel
theorem dX12_tell_207 : decode cX12_tell 207 = .ok (.aload_n 0, 1) := by decide +kernel
theorem dX12_tell_208 : decode cX12_tell 208 = .ok (.getfield 35, 3) := by decide +kernel
theorem dX12_tell_211 : decode cX12_tell 211 = .ok (.aload_n 0, 1) := by decide +kernel
theorem dX12_tell_212 : decode cX12_tell 212 = .ok (.getfield 221, 3) := by decide +kernel
theorem dX12_tell_215 : decode cX12_tell 215 = .ok (.iload_n 3, 1) := by decide +kernel
theorem dX12_tell_216 : decode cX12_tell 216 = .ok (.iaload, 1) := by decide +kernel
theorem dX12_tell_217 : decode cX12_tell 217 = .ok (.baload, 1) := by decide +kernel
theorem dX12_tell_218 : decode cX12_tell 218 = .ok (.bipush 95, 2) := by decide +kernel
theorem dX12_tell_220 : decode cX12_tell 220 = .ok (.if_icmp .eq 7, 3) := by decide +kernel
theorem dX12_tell_223 : decode cX12_tell 223 = .ok (.iconst 1, 1) := by decide +kernel
theorem dX12_tell_224 : decode cX12_tell 224 = .ok (.goto 4, 3) := by decide +kernel
theorem dX12_tell_227 : decode cX12_tell 227 = .ok (.iconst 0, 1) := by decide +kernel
theorem dX12_tell_228 : decode cX12_tell 228 = .ok (.istore 4, 2) := by decide +kernel
theorem dX12_tell_230 : decode cX12_tell 230 = .ok (.aload_n 0, 1) := by decide +kernel
theorem dX12_tell_231 : decode cX12_tell 231 = .ok (.getfield 537, 3) := by decide +kernel
theorem dX12_tell_234 : decode cX12_tell 234 = .ok (.iload_n 2, 1) := by decide +kernel
theorem dX12_tell_235 : decode cX12_tell 235 = .ok (.iload 4, 2) := by decide +kernel
theorem dX12_tell_237 : decode cX12_tell 237 = .ok (.ifCond .eq 12, 3) := by decide +kernel
theorem dX12_tell_240 : decode cX12_tell 240 = .ok (.aload_n 0, 1) := by decide +kernel
theorem dX12_tell_241 : decode cX12_tell 241 = .ok (.getfield 221, 3) := by decide +kernel
theorem dX12_tell_244 : decode cX12_tell 244 = .ok (.iload_n 3, 1) := by decide +kernel
theorem dX12_tell_245 : decode cX12_tell 245 = .ok (.iaload, 1) := by decide +kernel
theorem dX12_tell_246 : decode cX12_tell 246 = .ok (.goto 4, 3) := by decide +kernel
theorem dX12_tell_249 : decode cX12_tell 249 = .ok (.iconst 0, 1) := by decide +kernel
theorem dX12_tell_250 : decode cX12_tell 250 = .ok (.iastore, 1) := by decide +kernel
theorem dX12_tell_251 : decode cX12_tell 251 = .ok (.aload_n 0, 1) := by decide +kernel
theorem dX12_tell_252 : decode cX12_tell 252 = .ok (.getfield 540, 3) := by decide +kernel
theorem dX12_tell_255 : decode cX12_tell 255 = .ok (.iload_n 2, 1) := by decide +kernel
theorem dX12_tell_256 : decode cX12_tell 256 = .ok (.iload 4, 2) := by decide +kernel
theorem dX12_tell_258 : decode cX12_tell 258 = .ok (.ifCond .eq 12, 3) := by decide +kernel
theorem dX12_tell_261 : decode cX12_tell 261 = .ok (.aload_n 0, 1) := by decide +kernel
theorem dX12_tell_262 : decode cX12_tell 262 = .ok (.getfield 224, 3) := by decide +kernel
theorem dX12_tell_265 : decode cX12_tell 265 = .ok (.iload_n 3, 1) := by decide +kernel
theorem dX12_tell_266 : decode cX12_tell 266 = .ok (.iaload, 1) := by decide +kernel
theorem dX12_tell_267 : decode cX12_tell 267 = .ok (.goto 4, 3) := by decide +kernel
theorem dX12_tell_270 : decode cX12_tell 270 = .ok (.iconst 0, 1) := by decide +kernel
theorem dX12_tell_271 : decode cX12_tell 271 = .ok (.iastore, 1) := by decide +kernel
theorem dX12_tell_272 : decode cX12_tell 272 = .ok (.iinc 2 1, 3) := by decide +kernel
theorem dX12_tell_275 : decode cX12_tell 275 = .ok (.goto (-99), 3) := by decide +kernel
theorem dX12_tell_278 : decode cX12_tell 278 = .ok (.iinc 1 1, 3) := by decide +kernel
theorem dX12_tell_281 : decode cX12_tell 281 = .ok (.goto (-251), 3) := by decide +kernel
theorem dX12_tell_284 : decode cX12_tell 284 = .ok (.iconst 0, 1) := by decide +kernel
theorem dX12_tell_285 : decode cX12_tell 285 = .ok (.istore_n 1, 1) := by decide +kernel
theorem dX12_tell_286 : decode cX12_tell 286 = .ok (.iload_n 1, 1) := by decide +kernel
theorem dX12_tell_287 : decode cX12_tell 287 = .ok (.aload_n 0, 1) := by decide +kernel
theorem dX12_tell_288 : decode cX12_tell 288 = .ok (.getfield 490, 3) := by decide +kernel
theorem dX12_tell_291 : decode cX12_tell 291 = .ok (.if_icmp .ge 21, 3) := by decide +kernel
theorem dX12_tell_294 : decode cX12_tell 294 = .ok (.aload_n 0, 1) := by decide +kernel
theorem dX12_tell_295 : decode cX12_tell 295 = .ok (.getfield 546, 3) := by decide +kernel
theorem dX12_tell_298 : decode cX12_tell 298 = .ok (.iload_n 1, 1) := by decide +kernel
theorem dX12_tell_299 : decode cX12_tell 299 = .ok (.aload_n 0, 1) := by decide +kernel
theorem dX12_tell_300 : decode cX12_tell 300 = .ok (.getfield 493, 3) := by decide +kernel
theorem dX12_tell_303 : decode cX12_tell 303 = .ok (.iload_n 1, 1) := by decide +kernel
theorem dX12_tell_304 : decode cX12_tell 304 = .ok (.laload, 1) := by decide +kernel
theorem dX12_tell_305 : decode cX12_tell 305 = .ok (.lastore, 1) := by decide +kernel
theorem dX12_tell_306 : decode cX12_tell 306 = .ok (.iinc 1 1, 3) := by decide +kernel
theorem dX12_tell_309 : decode cX12_tell 309 = .ok (.goto (-23), 3) := by decide +kernel
theorem dX12_tell_312 : decode cX12_tell 312 = .ok (.iconst 0, 1) := by decide +kernel
theorem dX12_tell_313 : decode cX12_tell 313 = .ok (.istore_n 1, 1) := by decide +kernel
theorem dX12_tell_314 : decode cX12_tell 314 = .ok (.iload_n 1, 1) := by decide +kernel
theorem dX12_tell_315 : decode cX12_tell 315 = .ok (.aload_n 0, 1) := by decide +kernel
theorem dX12_tell_316 : decode cX12_tell 316 = .ok (.getfield 462, 3) := by decide +kernel
theorem dX12_tell_319 : decode cX12_tell 319 = .ok (.if_icmp .ge 45, 3) := by decide +kernel
theorem dX12_tell_322 : decode cX12_tell 322 = .ok (.aload_n 0, 1) := by decide +kernel
theorem dX12_tell_323 : decode cX12_tell 323 = .ok (.getfield 549, 3) := by decide +kernel
theorem dX12_tell_326 : decode cX12_tell 326 = .ok (.iload_n 1, 1) := by decide +kernel
theorem dX12_tell_327 : decode cX12_tell 327 = .ok (.aload_n 0, 1) := by decide +kernel
theorem dX12_tell_328 : decode cX12_tell 328 = .ok (.getfield 465, 3) := by decide +kernel
theorem dX12_tell_331 : decode cX12_tell 331 = .ok (.iload_n 1, 1) := by decide +kernel
theorem dX12_tell_332 : decode cX12_tell 332 = .ok (.laload, 1) := by decide +kernel
theorem dX12_tell_333 : decode cX12_tell 333 = .ok (.lastore, 1) := by decide +kernel
theorem dX12_tell_334 : decode cX12_tell 334 = .ok (.aload_n 0, 1) := by decide +kernel
theorem dX12_tell_335 : decode cX12_tell 335 = .ok (.getfield 552, 3) := by decide +kernel
theorem dX12_tell_338 : decode cX12_tell 338 = .ok (.iload_n 1, 1) := by decide +kernel
theorem dX12_tell_339 : decode cX12_tell 339 = .ok (.aload_n 0, 1) := by decide +kernel
theorem dX12_tell_340 : decode cX12_tell 340 = .ok (.getfield 468, 3) := by decide +kernel
theorem dX12_tell_343 : decode cX12_tell 343 = .ok (.iload_n 1, 1) := by decide +kernel
theorem dX12_tell_344 : decode cX12_tell 344 = .ok (.iaload, 1) := by decide +kernel
theorem dX12_tell_345 : decode cX12_tell 345 = .ok (.iastore, 1) := by decide +kernel
theorem dX12_tell_346 : decode cX12_tell 346 = .ok (.aload_n 0, 1) := by decide +kernel
theorem dX12_tell_347 : decode cX12_tell 347 = .ok (.getfield 555, 3) := by decide +kernel
theorem dX12_tell_350 : decode cX12_tell 350 = .ok (.iload_n 1, 1) := by decide +kernel
theorem dX12_tell_351 : decode cX12_tell 351 = .ok (.aload_n 0, 1) := by decide +kernel
theorem dX12_tell_352 : decode cX12_tell 352 = .ok (.getfield 471, 3) := by decide +kernel
theorem dX12_tell_355 : decode cX12_tell 355 = .ok (.iload_n 1, 1) := by decide +kernel
theorem dX12_tell_356 : decode cX12_tell 356 = .ok (.iaload, 1) := by decide +kernel
theorem dX12_tell_357 : decode cX12_tell 357 = .ok (.iastore, 1) := by decide +kernel
theorem dX12_tell_358 : decode cX12_tell 358 = .ok (.iinc 1 1, 3) := by decide +kernel
theorem dX12_tell_361 : decode cX12_tell 361 = .ok (.goto (-47), 3) := by decide +kernel
theorem dX12_tell_364 : decode cX12_tell 364 = .ok (.aload_n 0, 1) := by decide +kernel
theorem dX12_tell_365 : decode cX12_tell 365 = .ok (.aload_n 0, 1) := by decide +kernel
theorem dX12_tell_366 : decode cX12_tell 366 = .ok (.getfield 441, 3) := by decide +kernel
theorem dX12_tell_369 : decode cX12_tell 369 = .ok (.putfield 576, 3) := by decide +kernel
theorem dX12_tell_372 : decode cX12_tell 372 = .ok (.aload_n 0, 1) := by decide +kernel
theorem dX12_tell_373 : decode cX12_tell 373 = .ok (.aload_n 0, 1) := by decide +kernel
theorem dX12_tell_374 : decode cX12_tell 374 = .ok (.getfield 490, 3) := by decide +kernel
theorem dX12_tell_377 : decode cX12_tell 377 = .ok (.putfield 558, 3) := by decide +kernel
theorem dX12_tell_380 : decode cX12_tell 380 = .ok (.aload_n 0, 1) := by decide +kernel
theorem dX12_tell_381 : decode cX12_tell 381 = .ok (.aload_n 0, 1) := by decide +kernel
theorem dX12_tell_382 : decode cX12_tell 382 = .ok (.getfield 230, 3) := by decide +kernel
theorem dX12_tell_385 : decode cX12_tell 385 = .ok (.putfield 579, 3) := by decide +kernel
theorem dX12_tell_388 : decode cX12_tell 388 = .ok (.aload_n 0, 1) := by decide +kernel
theorem dX12_tell_389 : decode cX12_tell 389 = .ok (.aload_n 0, 1) := by decide +kernel
theorem dX12_tell_390 : decode cX12_tell 390 = .ok (.getfield 276, 3) := by decide +kernel
theorem dX12_tell_393 : decode cX12_tell 393 = .ok (.putfield 582, 3) := by decide +kernel
theorem dX12_tell_396 : decode cX12_tell 396 = .ok (.aload_n 0, 1) := by decide +kernel
theorem dX12_tell_397 : decode cX12_tell 397 = .ok (.aload_n 0, 1) := by decide +kernel
theorem dX12_tell_398 : decode cX12_tell 398 = .ok (.getfield 462, 3) := by decide +kernel
theorem dX12_tell_401 : decode cX12_tell 401 = .ok (.putfield 561, 3) := by decide +kernel
theorem dX12_tell_404 : decode cX12_tell 404 = .ok (.aload_n 0, 1) := by decide +kernel
theorem dX12_tell_405 : decode cX12_tell 405 = .ok (.aload_n 0, 1) := by decide +kernel
theorem dX12_tell_406 : decode cX12_tell 406 = .ok (.getfield 309, 3) := by decide +kernel
theorem dX12_tell_409 : decode cX12_tell 409 = .ok (.putfield 585, 3) := by decide +kernel
theorem dX12_tell_412 : decode cX12_tell 412 = .ok (.iconst 0, 1) := by decide +kernel
theorem dX12_tell_413 : decode cX12_tell 413 = .ok (.istore_n 1, 1) := by decide +kernel
theorem dX12_tell_414 : decode cX12_tell 414 = .ok (.iload_n 1, 1) := by decide +kernel
theorem dX12_tell_415 : decode cX12_tell 415 = .ok (.aload_n 0, 1) := by decide +kernel
theorem dX12_tell_416 : decode cX12_tell 416 = .ok (.getfield 576, 3) := by decide +kernel
theorem dX12_tell_419 : decode cX12_tell 419 = .ok (.if_icmp .ge 137, 3) := by decide +kernel
theorem dX12_tell_422 : decode cX12_tell 422 = .ok (.iconst 0, 1) := by decide +kernel
theorem dX12_tell_423 : decode cX12_tell 423 = .ok (.istore_n 2, 1) := by decide +kernel
theorem dX12_tell_424 : decode cX12_tell 424 = .ok (.iconst 0, 1) := by decide +kernel
theorem dX12_tell_425 : decode cX12_tell 425 = .ok (.istore_n 3, 1) := by decide +kernel
theorem dX12_tell_426 : decode cX12_tell 426 = .ok (.iload_n 3, 1) := by decide +kernel
theorem dX12_tell_427 : decode cX12_tell 427 = .ok (.aload_n 0, 1) := by decide +kernel
theorem dX12_tell_428 : decode cX12_tell 428 = .ok (.getfield 576, 3) := by decide +kernel
theorem dX12_tell_431 : decode cX12_tell 431 = .ok (.if_icmp .ge 112, 3) := by decide +kernel
theorem dX12_tell_434 : decode cX12_tell 434 = .ok (.aload_n 0, 1) := by decide +kernel
theorem dX12_tell_435 : decode cX12_tell 435 = .ok (.getfield 522, 3) := by decide +kernel
theorem dX12_tell_438 : decode cX12_tell 438 = .ok (.iload_n 3, 1) := by decide +kernel
theorem dX12_tell_439 : decode cX12_tell 439 = .ok (.laload, 1) := by decide +kernel
theorem dX12_tell_440 : decode cX12_tell 440 = .ok (.aload_n 0, 1) := by decide +kernel
theorem dX12_tell_441 : decode cX12_tell 441 = .ok (.getfield 522, 3) := by decide +kernel
theorem dX12_tell_444 : decode cX12_tell 444 = .ok (.iload_n 1, 1) := by decide +kernel
theorem dX12_tell_445 : decode cX12_tell 445 = .ok (.laload, 1) := by decide +kernel
theorem dX12_tell_446 : decode cX12_tell 446 = .ok (.lcmp, 1) := by decide +kernel
theorem dX12_tell_447 : decode cX12_tell 447 = .ok (.ifCond .eq 27, 3) := by decide +kernel
theorem dX12_tell_450 : decode cX12_tell 450 = .ok (.aload_n 0, 1) := by decide +kernel
theorem dX12_tell_451 : decode cX12_tell 451 = .ok (.getfield 522, 3) := by decide +kernel
theorem dX12_tell_454 : decode cX12_tell 454 = .ok (.iload_n 3, 1) := by decide +kernel
theorem dX12_tell_455 : decode cX12_tell 455 = .ok (.laload, 1) := by decide +kernel
theorem dX12_tell_456 : decode cX12_tell 456 = .ok (.aload_n 0, 1) := by decide +kernel
theorem dX12_tell_457 : decode cX12_tell 457 = .ok (.getfield 522, 3) := by decide +kernel
theorem dX12_tell_460 : decode cX12_tell 460 = .ok (.iload_n 1, 1) := by decide +kernel
theorem dX12_tell_461 : decode cX12_tell 461 = .ok (.laload, 1) := by decide +kernel
theorem dX12_tell_462 : decode cX12_tell 462 = .ok (.lcmp, 1) := by decide +kernel
theorem dX12_tell_463 : decode cX12_tell 463 = .ok (.ifCond .ge 7, 3) := by decide +kernel
theorem dX12_tell_466 : decode cX12_tell 466 = .ok (.iconst 1, 1) := by decide +kernel
theorem dX12_tell_467 : decode cX12_tell 467 = .ok (.goto 55, 3) := by decide +kernel
theorem dX12_tell_470 : decode cX12_tell 470 = .ok (.iconst 0, 1) := by decide +kernel
theorem dX12_tell_471 : decode cX12_tell 471 = .ok (.goto 51, 3) := by decide +kernel
theorem dX12_tell_474 : decode cX12_tell 474 = .ok (.aload_n 0, 1) := by decide +kernel
theorem dX12_tell_475 : decode cX12_tell 475 = .ok (.getfield 510, 3) := by decide +kernel
theorem dX12_tell_478 : decode cX12_tell 478 = .ok (.iload_n 3, 1) := by decide +kernel
theorem dX12_tell_479 : decode cX12_tell 479 = .ok (.iaload, 1) := by decide +kernel
theorem dX12_tell_480 : decode cX12_tell 480 = .ok (.aload_n 0, 1) := by decide +kernel
theorem dX12_tell_481 : decode cX12_tell 481 = .ok (.getfield 510, 3) := by decide +kernel
theorem dX12_tell_484 : decode cX12_tell 484 = .ok (.iload_n 1, 1) := by decide +kernel
theorem dX12_tell_485 : decode cX12_tell 485 = .ok (.iaload, 1) := by decide +kernel
theorem dX12_tell_486 : decode cX12_tell 486 = .ok (.if_icmp .eq 26, 3) := by decide +kernel
theorem dX12_tell_489 : decode cX12_tell 489 = .ok (.aload_n 0, 1) := by decide +kernel
theorem dX12_tell_490 : decode cX12_tell 490 = .ok (.getfield 510, 3) := by decide +kernel
theorem dX12_tell_493 : decode cX12_tell 493 = .ok (.iload_n 3, 1) := by decide +kernel
theorem dX12_tell_494 : decode cX12_tell 494 = .ok (.iaload, 1) := by decide +kernel
theorem dX12_tell_495 : decode cX12_tell 495 = .ok (.aload_n 0, 1) := by decide +kernel
theorem dX12_tell_496 : decode cX12_tell 496 = .ok (.getfield 510, 3) := by decide +kernel
theorem dX12_tell_499 : decode cX12_tell 499 = .ok (.iload_n 1, 1) := by decide +kernel
theorem dX12_tell_500 : decode cX12_tell 500 = .ok (.iaload, 1) := by decide +kernel
theorem dX12_tell_501 : decode cX12_tell 501 = .ok (.if_icmp .ge 7, 3) := by decide +kernel
theorem dX12_tell_504 : decode cX12_tell 504 = .ok (.iconst 1, 1) := by decide +kernel
theorem dX12_tell_505 : decode cX12_tell 505 = .ok (.goto 17, 3) := by decide +kernel
theorem dX12_tell_508 : decode cX12_tell 508 = .ok (.iconst 0, 1) := by decide +kernel
theorem dX12_tell_509 : decode cX12_tell 509 = .ok (.goto 13, 3) := by decide +kernel
theorem dX12_tell_512 : decode cX12_tell 512 = .ok (.iload_n 3, 1) := by decide +kernel
theorem dX12_tell_513 : decode cX12_tell 513 = .ok (.iload_n 1, 1) := by decide +kernel
theorem dX12_tell_514 : decode cX12_tell 514 = .ok (.if_icmp .ge 7, 3) := by decide +kernel
theorem dX12_tell_517 : decode cX12_tell 517 = .ok (.iconst 1, 1) := by decide +kernel
theorem dX12_tell_518 : decode cX12_tell 518 = .ok (.goto 4, 3) := by decide +kernel
theorem dX12_tell_521 : decode cX12_tell 521 = .ok (.iconst 0, 1) := by decide +kernel
theorem dX12_tell_522 : decode cX12_tell 522 = .ok (.istore 4, 2) := by decide +kernel
theorem dX12_tell_524 : decode cX12_tell 524 = .ok (.iload_n 2, 1) := by decide +kernel
theorem dX12_tell_525 : decode cX12_tell 525 = .ok (.iload 4, 2) := by decide +kernel
theorem dX12_tell_527 : decode cX12_tell 527 = .ok (.ifCond .eq 7, 3) := by decide +kernel
theorem dX12_tell_530 : decode cX12_tell 530 = .ok (.iconst 1, 1) := by decide +kernel
theorem dX12_tell_531 : decode cX12_tell 531 = .ok (.goto 4, 3) := by decide +kernel
theorem dX12_tell_534 : decode cX12_tell 534 = .ok (.iconst 0, 1) := by decide +kernel
theorem dX12_tell_535 : decode cX12_tell 535 = .ok (.iadd, 1) := by decide +kernel
theorem dX12_tell_536 : decode cX12_tell 536 = .ok (.istore_n 2, 1) := by decide +kernel
theorem dX12_tell_537 : decode cX12_tell 537 = .ok (.iinc 3 1, 3) := by decide +kernel
theorem dX12_tell_540 : decode cX12_tell 540 = .ok (.goto (-114), 3) := by decide +kernel
theorem dX12_tell_543 : decode cX12_tell 543 = .ok (.aload_n 0, 1) := by decide +kernel
theorem dX12_tell_544 : decode cX12_tell 544 = .ok (.getfield 543, 3) := by decide +kernel
theorem dX12_tell_547 : decode cX12_tell 547 = .ok (.iload_n 2, 1) := by decide +kernel
theorem dX12_tell_548 : decode cX12_tell 548 = .ok (.iload_n 1, 1) := by decide +kernel
theorem dX12_tell_549 : decode cX12_tell 549 = .ok (.iastore, 1) := by decide +kernel
theorem dX12_tell_550 : decode cX12_tell 550 = .ok (.iinc 1 1, 3) := by decide +kernel
theorem dX12_tell_553 : decode cX12_tell 553 = .ok (.goto (-139), 3) := by decide +kernel
theorem dX12_tell_556 : decode cX12_tell 556 = .ok (.return_, 1) := by decide +kernel
abbrev rm_X12_tell : Room := { frames := 0, cells := 0, slots := 0, locals := 0 }
def wp_X12_tell (a : Nat) (S : PS) (Q : PS → Prop) : Prop :=
  (∀ P2_1 : Int32 → PS → Prop, (∀ (x1_2 : Int32) (S3 : PS),
 (if fI S3 100 a ≤ x1_2 then
 (∀ P30_4 : Int32 → PS → Prop, (∀ (x1_5 : Int32) (S6 : PS),
 (if fI S6 146 a ≤ x1_5 then
 (∀ P286_7 : Int32 → PS → Prop, (∀ (x1_8 : Int32) (S9 : PS),
 (if fI S9 149 a ≤ x1_8 then
 (∀ P314_10 : Int32 → PS → Prop, (∀ (x1_11 : Int32) (S12 : PS),
 (if fI S12 153 a ≤ x1_11 then
 (∀ S13, S13 = sI S12 206 a (fI S12 146 a) → (∀ S14, S14 = sI S13 207 a (fI S13 149 a) → (∀ S15, S15 = sI S14 208 a (fI S14 125 a) → (∀ S16, S16 = sI S15 209 a (fI S15 154 a) → (∀ S17, S17 = sI S16 210 a (fI S16 153 a) → (∀ S18, S18 = sL S17 211 a (fL S17 156 a) → (∀ P414_19 : Int32 → PS → Prop, (∀ (x1_20 : Int32) (S21 : PS),
 (if fI S21 206 a ≤ x1_20 then
 Q S21
 else
 (∀ P426_22 : Int32 → Int32 → PS → Prop, (∀ (x2_23 : Int32) (x3_24 : Int32) (S25 : PS),
 (if fI S25 206 a ≤ x3_24 then
 (∃ b26, fR S25 201 a = some b26 ∧ (vp_in x2_23 (aN S25 b26) ∧ ∀ S27, S27 = wI S25 113 b26 (x2_23).toNatClampNeg x1_20 → (∀ v28, v28 = x1_20 + 1 → P414_19 v28 S27)))
 else
 (∃ b29, fR S25 194 a = some b29 ∧ (vp_in x3_24 (aN S25 b29) ∧ (∃ b30, fR S25 194 a = some b30 ∧ (vp_in x1_20 (aN S25 b30) ∧ (∀ K522_33 : Int32 → PS → Prop, (∀ (t31 : Int32) (S32 : PS),
 (∀ K535_37 : Int32 → Int32 → PS → Prop, (∀ (t34 : Int32) (t35 : Int32) (S36 : PS),
 (∀ v38, v38 = t34 + t35 → (∀ v39, v39 = x3_24 + 1 → P426_22 v38 v39 S36))
 → K535_37 t34 t35 S36) →
 (if t31 = 0 then
 K535_37 x2_23 0 S32
 else
 K535_37 x2_23 1 S32))
 → K522_33 t31 S32) →
 (if aL S25 106 b29 (x3_24).toNatClampNeg = aL S25 106 b30 (x1_20).toNatClampNeg then
 (∃ b40, fR S25 190 a = some b40 ∧ (vp_in x3_24 (aN S25 b40) ∧ (∃ b41, fR S25 190 a = some b41 ∧ (vp_in x1_20 (aN S25 b41) ∧ (if aI S25 102 b40 (x3_24).toNatClampNeg = aI S25 102 b41 (x1_20).toNatClampNeg then
 (if x1_20 ≤ x3_24 then
 K522_33 0 S25
 else
 K522_33 1 S25)
 else
 (∃ b42, fR S25 190 a = some b42 ∧ (vp_in x3_24 (aN S25 b42) ∧ (∃ b43, fR S25 190 a = some b43 ∧ (vp_in x1_20 (aN S25 b43) ∧ (if aI S25 102 b43 (x1_20).toNatClampNeg ≤ aI S25 102 b42 (x3_24).toNatClampNeg then
 K522_33 0 S25
 else
 K522_33 1 S25))))))))))
 else
 (∃ b44, fR S25 194 a = some b44 ∧ (vp_in x3_24 (aN S25 b44) ∧ (∃ b45, fR S25 194 a = some b45 ∧ (vp_in x1_20 (aN S25 b45) ∧ (if aL S25 106 b45 (x1_20).toNatClampNeg ≤ aL S25 106 b44 (x3_24).toNatClampNeg then
 K522_33 0 S25
 else
 K522_33 1 S25))))))))))))
 → P426_22 x2_23 x3_24 S25) → P426_22 0 0 S21))
 → P414_19 x1_20 S21) → P414_19 0 S18)))))))
 else
 (∃ b46, fR S12 203 a = some b46 ∧ (∃ b47, fR S12 150 a = some b47 ∧ (vp_in x1_11 (aN S12 b47) ∧ (vp_in x1_11 (aN S12 b46) ∧ ∀ S48, S48 = wL S12 115 b46 (x1_11).toNatClampNeg (aL S12 78 b47 (x1_11).toNatClampNeg) → (∃ b49, fR S48 204 a = some b49 ∧ (∃ b50, fR S48 151 a = some b50 ∧ (vp_in x1_11 (aN S48 b50) ∧ (vp_in x1_11 (aN S48 b49) ∧ ∀ S51, S51 = wI S48 116 b49 (x1_11).toNatClampNeg (aI S48 79 b50 (x1_11).toNatClampNeg) → (∃ b52, fR S51 205 a = some b52 ∧ (∃ b53, fR S51 152 a = some b53 ∧ (vp_in x1_11 (aN S51 b53) ∧ (vp_in x1_11 (aN S51 b52) ∧ ∀ S54, S54 = wI S51 117 b52 (x1_11).toNatClampNeg (aI S51 80 b53 (x1_11).toNatClampNeg) → (∀ v55, v55 = x1_11 + 1 → P314_10 v55 S54))))))))))))))
 → P314_10 x1_11 S12) → P314_10 0 S9)
 else
 (∃ b56, fR S9 202 a = some b56 ∧ (∃ b57, fR S9 147 a = some b57 ∧ (vp_in x1_8 (aN S9 b57) ∧ (vp_in x1_8 (aN S9 b56) ∧ ∀ S58, S58 = wL S9 114 b56 (x1_8).toNatClampNeg (aL S9 76 b57 (x1_8).toNatClampNeg) → (∀ v59, v59 = x1_8 + 1 → P286_7 v59 S58))))))
 → P286_7 x1_8 S9) → P286_7 0 S6)
 else
 (∃ b60, fR S6 190 a = some b60 ∧ (∃ b61, fR S6 135 a = some b61 ∧ (vp_in x1_5 (aN S6 b61) ∧ (vp_in x1_5 (aN S6 b60) ∧ ∀ S62, S62 = wI S6 102 b60 (x1_5).toNatClampNeg (aI S6 65 b61 (x1_5).toNatClampNeg) → (∃ b63, fR S62 191 a = some b63 ∧ (∃ b64, fR S62 136 a = some b64 ∧ (vp_in x1_5 (aN S62 b64) ∧ (vp_in x1_5 (aN S62 b63) ∧ ∀ S65, S65 = wI S62 103 b63 (x1_5).toNatClampNeg (aI S62 66 b64 (x1_5).toNatClampNeg) → (∃ b66, fR S65 192 a = some b66 ∧ (∃ b67, fR S65 137 a = some b67 ∧ (vp_in x1_5 (aN S65 b67) ∧ (vp_in x1_5 (aN S65 b66) ∧ ∀ S68, S68 = wI S65 104 b66 (x1_5).toNatClampNeg (vp_nar .boolean (aI S65 67 b67 (x1_5).toNatClampNeg)) → (∃ b69, fR S68 193 a = some b69 ∧ (∃ b70, fR S68 138 a = some b70 ∧ (vp_in x1_5 (aN S68 b70) ∧ (vp_in x1_5 (aN S68 b69) ∧ ∀ S71, S71 = wI S68 105 b69 (x1_5).toNatClampNeg (vp_nar .boolean (aI S68 68 b70 (x1_5).toNatClampNeg)) → (∃ b72, fR S71 194 a = some b72 ∧ (∃ b73, fR S71 139 a = some b73 ∧ (vp_in x1_5 (aN S71 b73) ∧ (vp_in x1_5 (aN S71 b72) ∧ ∀ S74, S74 = wL S71 106 b72 (x1_5).toNatClampNeg (aL S71 69 b73 (x1_5).toNatClampNeg) → (∃ b75, fR S74 195 a = some b75 ∧ (∃ b76, fR S74 140 a = some b76 ∧ (vp_in x1_5 (aN S74 b76) ∧ (vp_in x1_5 (aN S74 b75) ∧ ∀ S77, S77 = wL S74 107 b75 (x1_5).toNatClampNeg (aL S74 70 b76 (x1_5).toNatClampNeg) → (∀ v78, v78 = (6 : Int32) * x1_5 → (∀ P115_79 : Int32 → PS → Prop, (∀ (x2_80 : Int32) (S81 : PS),
 (∃ b82, fR S81 136 a = some b82 ∧ (vp_in x1_5 (aN S81 b82) ∧ (if ((6 : Int32) * x1_5) + (aI S81 66 b82 (x1_5).toNatClampNeg) ≤ x2_80 then
 (∀ v83, v83 = (3 : Int32) * x1_5 → (∀ P176_84 : Int32 → PS → Prop, (∀ (x2_85 : Int32) (S86 : PS),
 (if ((3 : Int32) * x1_5) + 3 ≤ x2_85 then
 (∀ v87, v87 = x1_5 + 1 → P30_4 v87 S86)
 else
 (∃ b88, fR S86 145 a = some b88 ∧ (vp_in x2_85 (aN S86 b88) ∧ (∀ v89, v89 = aI S86 75 b88 (x2_85).toNatClampNeg → (∀ K228_92 : Int32 → PS → Prop, (∀ (t90 : Int32) (S91 : PS),
 (∃ b93, fR S91 199 a = some b93 ∧ (∀ K250_98 : Nat → Int32 → Int32 → PS → Prop, (∀ (t94 : Nat) (t95 : Int32) (t96 : Int32) (S97 : PS),
 (vp_in t95 (aN S97 t94) ∧ ∀ S99, S99 = wI S97 111 t94 (t95).toNatClampNeg t96 → (∃ b100, fR S99 200 a = some b100 ∧ (∀ K271_105 : Nat → Int32 → Int32 → PS → Prop, (∀ (t101 : Nat) (t102 : Int32) (t103 : Int32) (S104 : PS),
 (vp_in t102 (aN S104 t101) ∧ ∀ S106, S106 = wI S104 112 t101 (t102).toNatClampNeg t103 → (∀ v107, v107 = x2_85 + 1 → P176_84 v107 S106))
 → K271_105 t101 t102 t103 S104) →
 (if t90 = 0 then
 K271_105 b100 x2_85 0 S99
 else
 (∃ b108, fR S99 119 a = some b108 ∧ (vp_in v89 (aN S99 b108) ∧ K271_105 b100 x2_85 (aI S99 54 b108 (v89).toNatClampNeg) S99))))))
 → K250_98 t94 t95 t96 S97) →
 (if t90 = 0 then
 K250_98 b93 x2_85 0 S91
 else
 (∃ b109, fR S91 118 a = some b109 ∧ (vp_in v89 (aN S91 b109) ∧ K250_98 b93 x2_85 (aI S91 53 b109 (v89).toNatClampNeg) S91)))))
 → K228_92 t90 S91) →
 (if v89 = (-1) then
 K228_92 0 S86
 else
 (∃ b110, fR S86 119 a = some b110 ∧ (vp_in v89 (aN S86 b110) ∧ (if aI S86 54 b110 (v89).toNatClampNeg = 1 then
 (∃ b111, fR S86 99 a = some b111 ∧ (∃ b112, fR S86 118 a = some b112 ∧ (vp_in v89 (aN S86 b112) ∧ (vp_in (aI S86 53 b112 (v89).toNatClampNeg) (aN S86 b111) ∧ (if aI S86 41 b111 (aI S86 53 b112 (v89).toNatClampNeg).toNatClampNeg = 95 then
 K228_92 0 S86
 else
 K228_92 1 S86)))))
 else
 K228_92 1 S86)))))))))
 → P176_84 x2_85 S86) → P176_84 v83 S81))
 else
 (∃ b113, fR S81 196 a = some b113 ∧ (∃ b114, fR S81 142 a = some b114 ∧ (vp_in x2_80 (aN S81 b114) ∧ (vp_in x2_80 (aN S81 b113) ∧ ∀ S115, S115 = wI S81 108 b113 (x2_80).toNatClampNeg (aI S81 72 b114 (x2_80).toNatClampNeg) → (∃ b116, fR S115 197 a = some b116 ∧ (∃ b117, fR S115 143 a = some b117 ∧ (vp_in x2_80 (aN S115 b117) ∧ (vp_in x2_80 (aN S115 b116) ∧ ∀ S118, S118 = wI S115 109 b116 (x2_80).toNatClampNeg (aI S115 73 b117 (x2_80).toNatClampNeg) → (∃ b119, fR S118 198 a = some b119 ∧ (∃ b120, fR S118 144 a = some b120 ∧ (vp_in x2_80 (aN S118 b120) ∧ (vp_in x2_80 (aN S118 b119) ∧ ∀ S121, S121 = wI S118 110 b119 (x2_80).toNatClampNeg (aI S118 74 b120 (x2_80).toNatClampNeg) → (∀ v122, v122 = x2_80 + 1 → P115_79 v122 S121))))))))))))))))
 → P115_79 x2_80 S81) → P115_79 v78 S77)))))))))))))))))))))))))))
 → P30_4 x1_5 S6) → P30_4 0 S3)
 else
 (∃ b123, fR S3 189 a = some b123 ∧ (∃ b124, fR S3 99 a = some b124 ∧ (vp_in x1_2 (aN S3 b124) ∧ (vp_in x1_2 (aN S3 b123) ∧ ∀ S125, S125 = wI S3 101 b123 (x1_2).toNatClampNeg (vp_nar .byte (aI S3 41 b124 (x1_2).toNatClampNeg)) → (∀ v126, v126 = x1_2 + 1 → P2_1 v126 S125))))))
 → P2_1 x1_2 S3) → P2_1 0 S)
set_option maxRecDepth 100000 in
set_option maxHeartbeats 4000000 in
theorem c_X12_tell {l : Launch} {E : EE} {A : Nat → Prop} {a : Nat} {S : PS} {Q : PS → Prop} (r_a : Rf S a 9) (h : wp_X12_tell a S Q) : MtV l yX12_tell (.code yX12_tell cX12_tell 5 none) rm_X12_tell E A [.ref a] S Q := by
  refine MtV.of (by decide) (Nat.le_of_ble_eq_true rfl) (fun X F hQ hN => ?_)
  show VV X (0, 0) S [(0, .ref a)] [] 0
  unfold wp_X12_tell at h
  refine v_iconst (v := 0) F dX12_tell_0 (by decide) ?_
  refine v_istore_n (lv1 := [(1, .int 0), (0, .ref a)]) F dX12_tell_1 rfl (by rw [hN]; decide) rfl ?_
  refine v_sub [1, 0] rfl ?_
  refine h (fun (x1_2 : Int32) (S3 : PS) => Rf S3 a 9 → VV X (0, 0) S3 [(0, .ref a), (1, .int x1_2)] [] 2) (fun x1_2 S3 h r_a => ?_) r_a
  refine v_iload_n F dX12_tell_2 1 rfl rfl ?_
  refine v_aload_n F dX12_tell_3 0 rfl rfl ?_
  refine g_X12_32 F r_a dX12_tell_4 ?_
  refine v_icmp_ge (tgt := 28) F dX12_tell_7 (by decide) h (fun h => ?_) (fun h => ?_)
  · refine v_iconst (v := 0) F dX12_tell_28 (by decide) ?_
    refine v_istore_n (lv1 := [(1, .int 0), (0, .ref a)]) F dX12_tell_29 rfl (by rw [hN]; decide) rfl ?_
    refine v_sub [1, 0] rfl ?_
    refine h (fun (x1_5 : Int32) (S6 : PS) => Rf S6 a 9 → VV X (0, 0) S6 [(0, .ref a), (1, .int x1_5)] [] 30) (fun x1_5 S6 h r_a => ?_) r_a
    refine v_iload_n F dX12_tell_30 1 rfl rfl ?_
    refine v_aload_n F dX12_tell_31 0 rfl rfl ?_
    refine g_X12_441 F r_a dX12_tell_32 ?_
    refine v_icmp_ge (tgt := 284) F dX12_tell_35 (by decide) h (fun h => ?_) (fun h => ?_)
    · refine v_iconst (v := 0) F dX12_tell_284 (by decide) ?_
      refine v_istore_n (lv1 := [(1, .int 0), (0, .ref a)]) F dX12_tell_285 rfl (by rw [hN]; decide) rfl ?_
      refine v_sub [1, 0] rfl ?_
      refine h (fun (x1_8 : Int32) (S9 : PS) => Rf S9 a 9 → VV X (0, 0) S9 [(0, .ref a), (1, .int x1_8)] [] 286) (fun x1_8 S9 h r_a => ?_) r_a
      refine v_iload_n F dX12_tell_286 1 rfl rfl ?_
      refine v_aload_n F dX12_tell_287 0 rfl rfl ?_
      refine g_X12_490 F r_a dX12_tell_288 ?_
      refine v_icmp_ge (tgt := 312) F dX12_tell_291 (by decide) h (fun h => ?_) (fun h => ?_)
      · refine v_iconst (v := 0) F dX12_tell_312 (by decide) ?_
        refine v_istore_n (lv1 := [(1, .int 0), (0, .ref a)]) F dX12_tell_313 rfl (by rw [hN]; decide) rfl ?_
        refine v_sub [1, 0] rfl ?_
        refine h (fun (x1_11 : Int32) (S12 : PS) => Rf S12 a 9 → VV X (0, 0) S12 [(0, .ref a), (1, .int x1_11)] [] 314) (fun x1_11 S12 h r_a => ?_) r_a
        refine v_iload_n F dX12_tell_314 1 rfl rfl ?_
        refine v_aload_n F dX12_tell_315 0 rfl rfl ?_
        refine g_X12_462 F r_a dX12_tell_316 ?_
        refine v_icmp_ge (tgt := 364) F dX12_tell_319 (by decide) h (fun h => ?_) (fun h => ?_)
        · refine v_aload_n F dX12_tell_364 0 rfl rfl ?_
          refine v_aload_n F dX12_tell_365 0 rfl rfl ?_
          refine g_X12_441 F r_a dX12_tell_366 ?_
          refine p_X12_576 F r_a h dX12_tell_369 (fun S13 h hE => ?_)
          have r_a := r_a.tr hE
          refine v_aload_n F dX12_tell_372 0 rfl rfl ?_
          refine v_aload_n F dX12_tell_373 0 rfl rfl ?_
          refine g_X12_490 F r_a dX12_tell_374 ?_
          refine p_X12_558 F r_a h dX12_tell_377 (fun S14 h hE => ?_)
          have r_a := r_a.tr hE
          refine v_aload_n F dX12_tell_380 0 rfl rfl ?_
          refine v_aload_n F dX12_tell_381 0 rfl rfl ?_
          refine g_X12_230 F r_a dX12_tell_382 ?_
          refine p_X12_579 F r_a h dX12_tell_385 (fun S15 h hE => ?_)
          have r_a := r_a.tr hE
          refine v_aload_n F dX12_tell_388 0 rfl rfl ?_
          refine v_aload_n F dX12_tell_389 0 rfl rfl ?_
          refine g_X12_276 F r_a dX12_tell_390 ?_
          refine p_X12_582 F r_a h dX12_tell_393 (fun S16 h hE => ?_)
          have r_a := r_a.tr hE
          refine v_aload_n F dX12_tell_396 0 rfl rfl ?_
          refine v_aload_n F dX12_tell_397 0 rfl rfl ?_
          refine g_X12_462 F r_a dX12_tell_398 ?_
          refine p_X12_561 F r_a h dX12_tell_401 (fun S17 h hE => ?_)
          have r_a := r_a.tr hE
          refine v_aload_n F dX12_tell_404 0 rfl rfl ?_
          refine v_aload_n F dX12_tell_405 0 rfl rfl ?_
          refine g_X12_309 F r_a dX12_tell_406 ?_
          refine p_X12_585 F r_a h dX12_tell_409 (fun S18 h hE => ?_)
          have r_a := r_a.tr hE
          refine v_iconst (v := 0) F dX12_tell_412 (by decide) ?_
          refine v_istore_n (lv1 := [(1, .int 0), (0, .ref a)]) F dX12_tell_413 rfl (by rw [hN]; decide) rfl ?_
          refine v_sub [1, 0] rfl ?_
          refine h (fun (x1_20 : Int32) (S21 : PS) => Rf S21 a 9 → VV X (0, 0) S21 [(0, .ref a), (1, .int x1_20)] [] 414) (fun x1_20 S21 h r_a => ?_) r_a
          refine v_iload_n F dX12_tell_414 1 rfl rfl ?_
          refine v_aload_n F dX12_tell_415 0 rfl rfl ?_
          refine g_X12_576 F r_a dX12_tell_416 ?_
          refine v_icmp_ge (tgt := 556) F dX12_tell_419 (by decide) h (fun h => ?_) (fun h => ?_)
          · exact v_vret F hQ h (by decide) dX12_tell_556
          · refine v_iconst (v := 0) F dX12_tell_422 (by decide) ?_
            refine v_istore_n (lv1 := [(2, .int 0), (0, .ref a), (1, .int x1_20)]) F dX12_tell_423 rfl (by rw [hN]; decide) rfl ?_
            refine v_iconst (v := 0) F dX12_tell_424 (by decide) ?_
            refine v_istore_n (lv1 := [(3, .int 0), (2, .int 0), (0, .ref a), (1, .int x1_20)]) F dX12_tell_425 rfl (by rw [hN]; decide) rfl ?_
            refine v_sub [2, 3, 1, 0] rfl ?_
            refine h (fun (x2_23 : Int32) (x3_24 : Int32) (S25 : PS) => Rf S25 a 9 → VV X (0, 0) S25 [(0, .ref a), (1, .int x1_20), (2, .int x2_23), (3, .int x3_24)] [] 426) (fun x2_23 x3_24 S25 h r_a => ?_) r_a
            refine v_iload_n F dX12_tell_426 3 rfl rfl ?_
            refine v_aload_n F dX12_tell_427 0 rfl rfl ?_
            refine g_X12_576 F r_a dX12_tell_428 ?_
            refine v_icmp_ge (tgt := 543) F dX12_tell_431 (by decide) h (fun h => ?_) (fun h => ?_)
            · refine v_aload_n F dX12_tell_543 0 rfl rfl ?_
              refine g_X12_543 F r_a h dX12_tell_544 (fun b26 r_b26 h => ?_)
              refine v_iload_n F dX12_tell_547 2 rfl rfl ?_
              refine v_iload_n F dX12_tell_548 1 rfl rfl ?_
              refine v_iast F r_b26 o_113 h dX12_tell_549 (fun S27 h hE => ?_)
              have r_a := r_a.tr hE
              obtain ⟨v28, e_v28⟩ : ∃ y : Int32, y = x1_20 + 1 := ⟨_, rfl⟩
              have h := h v28 e_v28
              refine v_iinc (v := v28) (lv1 := [(1, .int v28), (0, .ref a), (2, .int x2_23), (3, .int x3_24)]) F dX12_tell_550 (q := 1) rfl (by rw [e_v28]; rfl) (by rw [hN]; decide) rfl ?_
              refine v_goto (tgt := 414) F dX12_tell_553 (by decide) ?_
              exact v_sub [1, 0] rfl (h r_a)
            · refine v_aload_n F dX12_tell_434 0 rfl rfl ?_
              refine g_X12_522 F r_a h dX12_tell_435 (fun b29 r_b29 h => ?_)
              refine v_iload_n F dX12_tell_438 3 rfl rfl ?_
              refine v_lald F r_b29 o_106 h dX12_tell_439 (fun h => ?_)
              refine v_aload_n F dX12_tell_440 0 rfl rfl ?_
              refine g_X12_522 F r_a h dX12_tell_441 (fun b30 r_b30 h => ?_)
              refine v_iload_n F dX12_tell_444 1 rfl rfl ?_
              refine v_lald F r_b30 o_106 h dX12_tell_445 (fun h => ?_)
              have h := h (fun (t31 : Int32) (S32 : PS) => Rf S32 a 9 → VV X (0, 0) S32 [(0, .ref a), (1, .int x1_20), (2, .int x2_23), (3, .int x3_24)] [.int t31] 522) (by
                intro t31 S32 h r_a
                refine v_istore (lv1 := [(4, .int t31), (0, .ref a), (1, .int x1_20), (2, .int x2_23), (3, .int x3_24)]) F dX12_tell_522 (by rw [hN]; decide) rfl ?_
                refine v_iload_n F dX12_tell_524 3 rfl rfl ?_
                refine v_iload F dX12_tell_525 0 rfl ?_
                have h := h (fun (t34 : Int32) (t35 : Int32) (S36 : PS) => Rf S36 a 9 → VV X (0, 0) S36 [(0, .ref a), (1, .int x1_20), (3, .int x3_24)] [.int t35, .int t34] 535) (by
                  intro t34 t35 S36 h r_a
                  refine v_iadd F dX12_tell_535 ?_
                  refine v_topi (fun v38 e_v38 => ?_)
                  have h := h v38 e_v38
                  refine v_istore_n (lv1 := [(2, .int v38), (0, .ref a), (1, .int x1_20), (3, .int x3_24)]) F dX12_tell_536 rfl (by rw [hN]; decide) rfl ?_
                  obtain ⟨v39, e_v39⟩ : ∃ y : Int32, y = x3_24 + 1 := ⟨_, rfl⟩
                  have h := h v39 e_v39
                  refine v_iinc (v := v39) (lv1 := [(3, .int v39), (2, .int v38), (0, .ref a), (1, .int x1_20)]) F dX12_tell_537 (q := 3) rfl (by rw [e_v39]; rfl) (by rw [hN]; decide) rfl ?_
                  refine v_goto (tgt := 426) F dX12_tell_540 (by decide) ?_
                  exact v_sub [2, 3, 1, 0] rfl (h r_a))
                refine v_if_eq (tgt := 534) F dX12_tell_527 (by decide) h (fun h => ?_) (fun h => ?_)
                · refine v_iconst (v := 0) F dX12_tell_534 (by decide) ?_
                  exact v_sub [1, 2, 4] rfl (h r_a)
                · refine v_iconst (v := 1) F dX12_tell_530 (by decide) ?_
                  refine v_goto (tgt := 535) F dX12_tell_531 (by decide) ?_
                  exact v_sub [1, 2, 4] rfl (h r_a))
              refine v_lcmp_eq (tgt := 474) F dX12_tell_446 dX12_tell_447 (by decide) h (fun h => ?_) (fun h => ?_)
              · refine v_aload_n F dX12_tell_474 0 rfl rfl ?_
                refine g_X12_510 F r_a h dX12_tell_475 (fun b40 r_b40 h => ?_)
                refine v_iload_n F dX12_tell_478 3 rfl rfl ?_
                refine v_iald F r_b40 o_102 h dX12_tell_479 (fun h => ?_)
                refine v_aload_n F dX12_tell_480 0 rfl rfl ?_
                refine g_X12_510 F r_a h dX12_tell_481 (fun b41 r_b41 h => ?_)
                refine v_iload_n F dX12_tell_484 1 rfl rfl ?_
                refine v_iald F r_b41 o_102 h dX12_tell_485 (fun h => ?_)
                refine v_icmp_eq (tgt := 512) F dX12_tell_486 (by decide) h (fun h => ?_) (fun h => ?_)
                · refine v_iload_n F dX12_tell_512 3 rfl rfl ?_
                  refine v_iload_n F dX12_tell_513 1 rfl rfl ?_
                  refine v_icmp_ge (tgt := 521) F dX12_tell_514 (by decide) h (fun h => ?_) (fun h => ?_)
                  · refine v_iconst (v := 0) F dX12_tell_521 (by decide) ?_
                    exact v_sub [0, 1, 2, 3] rfl (h r_a)
                  · refine v_iconst (v := 1) F dX12_tell_517 (by decide) ?_
                    refine v_goto (tgt := 522) F dX12_tell_518 (by decide) ?_
                    exact v_sub [0, 1, 2, 3] rfl (h r_a)
                · refine v_aload_n F dX12_tell_489 0 rfl rfl ?_
                  refine g_X12_510 F r_a h dX12_tell_490 (fun b42 r_b42 h => ?_)
                  refine v_iload_n F dX12_tell_493 3 rfl rfl ?_
                  refine v_iald F r_b42 o_102 h dX12_tell_494 (fun h => ?_)
                  refine v_aload_n F dX12_tell_495 0 rfl rfl ?_
                  refine g_X12_510 F r_a h dX12_tell_496 (fun b43 r_b43 h => ?_)
                  refine v_iload_n F dX12_tell_499 1 rfl rfl ?_
                  refine v_iald F r_b43 o_102 h dX12_tell_500 (fun h => ?_)
                  refine v_icmp_ge (tgt := 508) F dX12_tell_501 (by decide) h (fun h => ?_) (fun h => ?_)
                  · refine v_iconst (v := 0) F dX12_tell_508 (by decide) ?_
                    refine v_goto (tgt := 522) F dX12_tell_509 (by decide) ?_
                    exact v_sub [0, 1, 2, 3] rfl (h r_a)
                  · refine v_iconst (v := 1) F dX12_tell_504 (by decide) ?_
                    refine v_goto (tgt := 522) F dX12_tell_505 (by decide) ?_
                    exact v_sub [0, 1, 2, 3] rfl (h r_a)
              · refine v_aload_n F dX12_tell_450 0 rfl rfl ?_
                refine g_X12_522 F r_a h dX12_tell_451 (fun b44 r_b44 h => ?_)
                refine v_iload_n F dX12_tell_454 3 rfl rfl ?_
                refine v_lald F r_b44 o_106 h dX12_tell_455 (fun h => ?_)
                refine v_aload_n F dX12_tell_456 0 rfl rfl ?_
                refine g_X12_522 F r_a h dX12_tell_457 (fun b45 r_b45 h => ?_)
                refine v_iload_n F dX12_tell_460 1 rfl rfl ?_
                refine v_lald F r_b45 o_106 h dX12_tell_461 (fun h => ?_)
                refine v_lcmp_ge (tgt := 470) F dX12_tell_462 dX12_tell_463 (by decide) h (fun h => ?_) (fun h => ?_)
                · refine v_iconst (v := 0) F dX12_tell_470 (by decide) ?_
                  refine v_goto (tgt := 522) F dX12_tell_471 (by decide) ?_
                  exact v_sub [0, 1, 2, 3] rfl (h r_a)
                · refine v_iconst (v := 1) F dX12_tell_466 (by decide) ?_
                  refine v_goto (tgt := 522) F dX12_tell_467 (by decide) ?_
                  exact v_sub [0, 1, 2, 3] rfl (h r_a)
        · refine v_aload_n F dX12_tell_322 0 rfl rfl ?_
          refine g_X12_549 F r_a h dX12_tell_323 (fun b46 r_b46 h => ?_)
          refine v_iload_n F dX12_tell_326 1 rfl rfl ?_
          refine v_aload_n F dX12_tell_327 0 rfl rfl ?_
          refine g_X12_465 F r_a h dX12_tell_328 (fun b47 r_b47 h => ?_)
          refine v_iload_n F dX12_tell_331 1 rfl rfl ?_
          refine v_lald F r_b47 o_78 h dX12_tell_332 (fun h => ?_)
          refine v_last F r_b46 o_115 h dX12_tell_333 (fun S48 h hE => ?_)
          have r_a := r_a.tr hE
          refine v_aload_n F dX12_tell_334 0 rfl rfl ?_
          refine g_X12_552 F r_a h dX12_tell_335 (fun b49 r_b49 h => ?_)
          refine v_iload_n F dX12_tell_338 1 rfl rfl ?_
          refine v_aload_n F dX12_tell_339 0 rfl rfl ?_
          refine g_X12_468 F r_a h dX12_tell_340 (fun b50 r_b50 h => ?_)
          refine v_iload_n F dX12_tell_343 1 rfl rfl ?_
          refine v_iald F r_b50 o_79 h dX12_tell_344 (fun h => ?_)
          refine v_iast F r_b49 o_116 h dX12_tell_345 (fun S51 h hE => ?_)
          have r_a := r_a.tr hE
          refine v_aload_n F dX12_tell_346 0 rfl rfl ?_
          refine g_X12_555 F r_a h dX12_tell_347 (fun b52 r_b52 h => ?_)
          refine v_iload_n F dX12_tell_350 1 rfl rfl ?_
          refine v_aload_n F dX12_tell_351 0 rfl rfl ?_
          refine g_X12_471 F r_a h dX12_tell_352 (fun b53 r_b53 h => ?_)
          refine v_iload_n F dX12_tell_355 1 rfl rfl ?_
          refine v_iald F r_b53 o_80 h dX12_tell_356 (fun h => ?_)
          refine v_iast F r_b52 o_117 h dX12_tell_357 (fun S54 h hE => ?_)
          have r_a := r_a.tr hE
          obtain ⟨v55, e_v55⟩ : ∃ y : Int32, y = x1_11 + 1 := ⟨_, rfl⟩
          have h := h v55 e_v55
          refine v_iinc (v := v55) (lv1 := [(1, .int v55), (0, .ref a)]) F dX12_tell_358 (q := 1) rfl (by rw [e_v55]; rfl) (by rw [hN]; decide) rfl ?_
          refine v_goto (tgt := 314) F dX12_tell_361 (by decide) ?_
          exact v_sub [1, 0] rfl (h r_a)
      · refine v_aload_n F dX12_tell_294 0 rfl rfl ?_
        refine g_X12_546 F r_a h dX12_tell_295 (fun b56 r_b56 h => ?_)
        refine v_iload_n F dX12_tell_298 1 rfl rfl ?_
        refine v_aload_n F dX12_tell_299 0 rfl rfl ?_
        refine g_X12_493 F r_a h dX12_tell_300 (fun b57 r_b57 h => ?_)
        refine v_iload_n F dX12_tell_303 1 rfl rfl ?_
        refine v_lald F r_b57 o_76 h dX12_tell_304 (fun h => ?_)
        refine v_last F r_b56 o_114 h dX12_tell_305 (fun S58 h hE => ?_)
        have r_a := r_a.tr hE
        obtain ⟨v59, e_v59⟩ : ∃ y : Int32, y = x1_8 + 1 := ⟨_, rfl⟩
        have h := h v59 e_v59
        refine v_iinc (v := v59) (lv1 := [(1, .int v59), (0, .ref a)]) F dX12_tell_306 (q := 1) rfl (by rw [e_v59]; rfl) (by rw [hN]; decide) rfl ?_
        refine v_goto (tgt := 286) F dX12_tell_309 (by decide) ?_
        exact v_sub [1, 0] rfl (h r_a)
    · refine v_aload_n F dX12_tell_38 0 rfl rfl ?_
      refine g_X12_510 F r_a h dX12_tell_39 (fun b60 r_b60 h => ?_)
      refine v_iload_n F dX12_tell_42 1 rfl rfl ?_
      refine v_aload_n F dX12_tell_43 0 rfl rfl ?_
      refine g_X12_444 F r_a h dX12_tell_44 (fun b61 r_b61 h => ?_)
      refine v_iload_n F dX12_tell_47 1 rfl rfl ?_
      refine v_iald F r_b61 o_65 h dX12_tell_48 (fun h => ?_)
      refine v_iast F r_b60 o_102 h dX12_tell_49 (fun S62 h hE => ?_)
      have r_a := r_a.tr hE
      refine v_aload_n F dX12_tell_50 0 rfl rfl ?_
      refine g_X12_513 F r_a h dX12_tell_51 (fun b63 r_b63 h => ?_)
      refine v_iload_n F dX12_tell_54 1 rfl rfl ?_
      refine v_aload_n F dX12_tell_55 0 rfl rfl ?_
      refine g_X12_420 F r_a h dX12_tell_56 (fun b64 r_b64 h => ?_)
      refine v_iload_n F dX12_tell_59 1 rfl rfl ?_
      refine v_iald F r_b64 o_66 h dX12_tell_60 (fun h => ?_)
      refine v_iast F r_b63 o_103 h dX12_tell_61 (fun S65 h hE => ?_)
      have r_a := r_a.tr hE
      refine v_aload_n F dX12_tell_62 0 rfl rfl ?_
      refine g_X12_516 F r_a h dX12_tell_63 (fun b66 r_b66 h => ?_)
      refine v_iload_n F dX12_tell_66 1 rfl rfl ?_
      refine v_aload_n F dX12_tell_67 0 rfl rfl ?_
      refine g_X12_447 F r_a h dX12_tell_68 (fun b67 r_b67 h => ?_)
      refine v_iload_n F dX12_tell_71 1 rfl rfl ?_
      refine v_zald F r_b67 o_67 h dX12_tell_72 (fun h => ?_)
      refine v_zast F r_b66 o_104 h dX12_tell_73 (fun S68 h hE => ?_)
      have r_a := r_a.tr hE
      refine v_aload_n F dX12_tell_74 0 rfl rfl ?_
      refine g_X12_519 F r_a h dX12_tell_75 (fun b69 r_b69 h => ?_)
      refine v_iload_n F dX12_tell_78 1 rfl rfl ?_
      refine v_aload_n F dX12_tell_79 0 rfl rfl ?_
      refine g_X12_450 F r_a h dX12_tell_80 (fun b70 r_b70 h => ?_)
      refine v_iload_n F dX12_tell_83 1 rfl rfl ?_
      refine v_zald F r_b70 o_68 h dX12_tell_84 (fun h => ?_)
      refine v_zast F r_b69 o_105 h dX12_tell_85 (fun S71 h hE => ?_)
      have r_a := r_a.tr hE
      refine v_aload_n F dX12_tell_86 0 rfl rfl ?_
      refine g_X12_522 F r_a h dX12_tell_87 (fun b72 r_b72 h => ?_)
      refine v_iload_n F dX12_tell_90 1 rfl rfl ?_
      refine v_aload_n F dX12_tell_91 0 rfl rfl ?_
      refine g_X12_453 F r_a h dX12_tell_92 (fun b73 r_b73 h => ?_)
      refine v_iload_n F dX12_tell_95 1 rfl rfl ?_
      refine v_lald F r_b73 o_69 h dX12_tell_96 (fun h => ?_)
      refine v_last F r_b72 o_106 h dX12_tell_97 (fun S74 h hE => ?_)
      have r_a := r_a.tr hE
      refine v_aload_n F dX12_tell_98 0 rfl rfl ?_
      refine g_X12_525 F r_a h dX12_tell_99 (fun b75 r_b75 h => ?_)
      refine v_iload_n F dX12_tell_102 1 rfl rfl ?_
      refine v_aload_n F dX12_tell_103 0 rfl rfl ?_
      refine g_X12_456 F r_a h dX12_tell_104 (fun b76 r_b76 h => ?_)
      refine v_iload_n F dX12_tell_107 1 rfl rfl ?_
      refine v_lald F r_b76 o_70 h dX12_tell_108 (fun h => ?_)
      refine v_last F r_b75 o_107 h dX12_tell_109 (fun S77 h hE => ?_)
      have r_a := r_a.tr hE
      refine v_bipush (v := 6) F dX12_tell_110 (by decide) ?_
      refine v_iload_n F dX12_tell_112 1 rfl rfl ?_
      refine v_imul F dX12_tell_113 ?_
      refine v_topi (fun v78 e_v78 => ?_)
      have h := h v78 e_v78
      refine v_istore_n (lv1 := [(2, .int v78), (0, .ref a), (1, .int x1_5)]) F dX12_tell_114 rfl (by rw [hN]; decide) rfl ?_
      refine v_sub [1, 2, 0] rfl ?_
      refine h (fun (x2_80 : Int32) (S81 : PS) => Rf S81 a 9 → VV X (0, 0) S81 [(0, .ref a), (1, .int x1_5), (2, .int x2_80)] [] 115) (fun x2_80 S81 h r_a => ?_) r_a
      refine v_iload_n F dX12_tell_115 2 rfl rfl ?_
      refine v_bipush (v := 6) F dX12_tell_116 (by decide) ?_
      refine v_iload_n F dX12_tell_118 1 rfl rfl ?_
      refine v_imul F dX12_tell_119 ?_
      refine v_aload_n F dX12_tell_120 0 rfl rfl ?_
      refine g_X12_420 F r_a h dX12_tell_121 (fun b82 r_b82 h => ?_)
      refine v_iload_n F dX12_tell_124 1 rfl rfl ?_
      refine v_iald F r_b82 o_66 h dX12_tell_125 (fun h => ?_)
      refine v_iadd F dX12_tell_126 ?_
      refine v_icmp_ge (tgt := 172) F dX12_tell_127 (by decide) h (fun h => ?_) (fun h => ?_)
      · refine v_iconst (v := 3) F dX12_tell_172 (by decide) ?_
        refine v_iload_n F dX12_tell_173 1 rfl rfl ?_
        refine v_imul F dX12_tell_174 ?_
        refine v_topi (fun v83 e_v83 => ?_)
        have h := h v83 e_v83
        refine v_istore_n (lv1 := [(2, .int v83), (0, .ref a), (1, .int x1_5)]) F dX12_tell_175 rfl (by rw [hN]; decide) rfl ?_
        refine v_sub [1, 2, 0] rfl ?_
        refine h (fun (x2_85 : Int32) (S86 : PS) => Rf S86 a 9 → VV X (0, 0) S86 [(0, .ref a), (1, .int x1_5), (2, .int x2_85)] [] 176) (fun x2_85 S86 h r_a => ?_) r_a
        refine v_iload_n F dX12_tell_176 2 rfl rfl ?_
        refine v_iconst (v := 3) F dX12_tell_177 (by decide) ?_
        refine v_iload_n F dX12_tell_178 1 rfl rfl ?_
        refine v_imul F dX12_tell_179 ?_
        refine v_iconst (v := 3) F dX12_tell_180 (by decide) ?_
        refine v_iadd F dX12_tell_181 ?_
        refine v_icmp_ge (tgt := 278) F dX12_tell_182 (by decide) h (fun h => ?_) (fun h => ?_)
        · obtain ⟨v87, e_v87⟩ : ∃ y : Int32, y = x1_5 + 1 := ⟨_, rfl⟩
          have h := h v87 e_v87
          refine v_iinc (v := v87) (lv1 := [(1, .int v87), (0, .ref a), (2, .int x2_85)]) F dX12_tell_278 (q := 1) rfl (by rw [e_v87]; rfl) (by rw [hN]; decide) rfl ?_
          refine v_goto (tgt := 30) F dX12_tell_281 (by decide) ?_
          exact v_sub [1, 0] rfl (h r_a)
        · refine v_aload_n F dX12_tell_185 0 rfl rfl ?_
          refine g_X12_459 F r_a h dX12_tell_186 (fun b88 r_b88 h => ?_)
          refine v_iload_n F dX12_tell_189 2 rfl rfl ?_
          refine v_iald F r_b88 o_75 h dX12_tell_190 (fun h => ?_)
          refine v_topi (fun v89 e_v89 => ?_)
          have h := h v89 e_v89
          refine v_istore_n (lv1 := [(3, .int v89), (0, .ref a), (1, .int x1_5), (2, .int x2_85)]) F dX12_tell_191 rfl (by rw [hN]; decide) rfl ?_
          refine v_iload_n F dX12_tell_192 0 rfl rfl ?_
          refine v_iconst (v := (-1)) F dX12_tell_193 (by decide) ?_
          have h := h (fun (t90 : Int32) (S91 : PS) => Rf S91 a 9 → VV X (0, 0) S91 [(0, .ref a), (1, .int x1_5), (2, .int x2_85), (3, .int v89)] [.int t90] 228) (by
            intro t90 S91 h r_a
            refine v_istore (lv1 := [(4, .int t90), (0, .ref a), (1, .int x1_5), (2, .int x2_85), (3, .int v89)]) F dX12_tell_228 (by rw [hN]; decide) rfl ?_
            refine v_aload_n F dX12_tell_230 1 rfl rfl ?_
            refine g_X12_537 F r_a h dX12_tell_231 (fun b93 r_b93 h => ?_)
            refine v_iload_n F dX12_tell_234 3 rfl rfl ?_
            refine v_iload F dX12_tell_235 0 rfl ?_
            have h := h (fun (t94 : Nat) (t95 : Int32) (t96 : Int32) (S97 : PS) => Rf S97 a 9 → Rf S97 t94 111 → VV X (0, 0) S97 [(0, .ref a), (1, .int x1_5), (2, .int x2_85), (3, .int v89), (4, .int t90)] [.int t96, .int t95, .ref t94] 250) (by
              intro t94 t95 t96 S97 h r_a r_t94
              refine v_iast F r_t94 o_111 h dX12_tell_250 (fun S99 h hE => ?_)
              have r_a := r_a.tr hE
              refine v_aload_n F dX12_tell_251 0 rfl rfl ?_
              refine g_X12_540 F r_a h dX12_tell_252 (fun b100 r_b100 h => ?_)
              refine v_iload_n F dX12_tell_255 2 rfl rfl ?_
              refine v_iload F dX12_tell_256 4 rfl ?_
              have h := h (fun (t101 : Nat) (t102 : Int32) (t103 : Int32) (S104 : PS) => Rf S104 a 9 → Rf S104 t101 112 → VV X (0, 0) S104 [(0, .ref a), (1, .int x1_5), (2, .int x2_85)] [.int t103, .int t102, .ref t101] 271) (by
                intro t101 t102 t103 S104 h r_a r_t101
                refine v_iast F r_t101 o_112 h dX12_tell_271 (fun S106 h hE => ?_)
                have r_a := r_a.tr hE
                obtain ⟨v107, e_v107⟩ : ∃ y : Int32, y = x2_85 + 1 := ⟨_, rfl⟩
                have h := h v107 e_v107
                refine v_iinc (v := v107) (lv1 := [(2, .int v107), (0, .ref a), (1, .int x1_5)]) F dX12_tell_272 (q := 2) rfl (by rw [e_v107]; rfl) (by rw [hN]; decide) rfl ?_
                refine v_goto (tgt := 176) F dX12_tell_275 (by decide) ?_
                exact v_sub [1, 2, 0] rfl (h r_a))
              refine v_if_eq (tgt := 270) F dX12_tell_258 (by decide) h (fun h => ?_) (fun h => ?_)
              · refine v_iconst (v := 0) F dX12_tell_270 (by decide) ?_
                exact v_sub [0, 1, 2] rfl (h r_a r_b100)
              · refine v_aload_n F dX12_tell_261 0 rfl rfl ?_
                refine g_X12_224 F r_a h dX12_tell_262 (fun b108 r_b108 h => ?_)
                refine v_iload_n F dX12_tell_265 3 rfl rfl ?_
                refine v_iald F r_b108 o_54 h dX12_tell_266 (fun h => ?_)
                refine v_goto (tgt := 271) F dX12_tell_267 (by decide) ?_
                exact v_sub [0, 1, 2] rfl (h r_a r_b100))
            refine v_if_eq (tgt := 249) F dX12_tell_237 (by decide) h (fun h => ?_) (fun h => ?_)
            · refine v_iconst (v := 0) F dX12_tell_249 (by decide) ?_
              exact v_sub [1, 2, 3, 4, 0] rfl (h r_a r_b93)
            · refine v_aload_n F dX12_tell_240 1 rfl rfl ?_
              refine g_X12_221 F r_a h dX12_tell_241 (fun b109 r_b109 h => ?_)
              refine v_iload_n F dX12_tell_244 4 rfl rfl ?_
              refine v_iald F r_b109 o_53 h dX12_tell_245 (fun h => ?_)
              refine v_goto (tgt := 250) F dX12_tell_246 (by decide) ?_
              exact v_sub [1, 2, 3, 4, 0] rfl (h r_a r_b93))
          refine v_icmp_eq (tgt := 227) F dX12_tell_194 (by decide) h (fun h => ?_) (fun h => ?_)
          · refine v_iconst (v := 0) F dX12_tell_227 (by decide) ?_
            exact v_sub [1, 2, 3, 0] rfl (h r_a)
          · refine v_aload_n F dX12_tell_197 1 rfl rfl ?_
            refine g_X12_224 F r_a h dX12_tell_198 (fun b110 r_b110 h => ?_)
            refine v_iload_n F dX12_tell_201 0 rfl rfl ?_
            refine v_iald F r_b110 o_54 h dX12_tell_202 (fun h => ?_)
            refine v_iconst (v := 1) F dX12_tell_203 (by decide) ?_
            refine v_icmp_ne (tgt := 223) F dX12_tell_204 (by decide) h (fun h => ?_) (fun h => ?_)
            · refine v_iconst (v := 1) F dX12_tell_223 (by decide) ?_
              refine v_goto (tgt := 228) F dX12_tell_224 (by decide) ?_
              exact v_sub [1, 2, 3, 0] rfl (h r_a)
            · refine v_aload_n F dX12_tell_207 1 rfl rfl ?_
              refine g_X12_35 F r_a h dX12_tell_208 (fun b111 r_b111 h => ?_)
              refine v_aload_n F dX12_tell_211 1 rfl rfl ?_
              refine g_X12_221 F r_a h dX12_tell_212 (fun b112 r_b112 h => ?_)
              refine v_iload_n F dX12_tell_215 0 rfl rfl ?_
              refine v_iald F r_b112 o_53 h dX12_tell_216 (fun h => ?_)
              refine v_bald F r_b111 o_41 h dX12_tell_217 (fun h => ?_)
              refine v_bipush (v := 95) F dX12_tell_218 (by decide) ?_
              refine v_icmp_eq (tgt := 227) F dX12_tell_220 (by decide) h (fun h => ?_) (fun h => ?_)
              · refine v_iconst (v := 0) F dX12_tell_227 (by decide) ?_
                exact v_sub [1, 2, 3, 0] rfl (h r_a)
              · refine v_iconst (v := 1) F dX12_tell_223 (by decide) ?_
                refine v_goto (tgt := 228) F dX12_tell_224 (by decide) ?_
                exact v_sub [1, 2, 3, 0] rfl (h r_a)
      · refine v_aload_n F dX12_tell_130 0 rfl rfl ?_
        refine g_X12_528 F r_a h dX12_tell_131 (fun b113 r_b113 h => ?_)
        refine v_iload_n F dX12_tell_134 2 rfl rfl ?_
        refine v_aload_n F dX12_tell_135 0 rfl rfl ?_
        refine g_X12_423 F r_a h dX12_tell_136 (fun b114 r_b114 h => ?_)
        refine v_iload_n F dX12_tell_139 2 rfl rfl ?_
        refine v_iald F r_b114 o_72 h dX12_tell_140 (fun h => ?_)
        refine v_iast F r_b113 o_108 h dX12_tell_141 (fun S115 h hE => ?_)
        have r_a := r_a.tr hE
        refine v_aload_n F dX12_tell_142 0 rfl rfl ?_
        refine g_X12_531 F r_a h dX12_tell_143 (fun b116 r_b116 h => ?_)
        refine v_iload_n F dX12_tell_146 2 rfl rfl ?_
        refine v_aload_n F dX12_tell_147 0 rfl rfl ?_
        refine g_X12_426 F r_a h dX12_tell_148 (fun b117 r_b117 h => ?_)
        refine v_iload_n F dX12_tell_151 2 rfl rfl ?_
        refine v_iald F r_b117 o_73 h dX12_tell_152 (fun h => ?_)
        refine v_iast F r_b116 o_109 h dX12_tell_153 (fun S118 h hE => ?_)
        have r_a := r_a.tr hE
        refine v_aload_n F dX12_tell_154 0 rfl rfl ?_
        refine g_X12_534 F r_a h dX12_tell_155 (fun b119 r_b119 h => ?_)
        refine v_iload_n F dX12_tell_158 2 rfl rfl ?_
        refine v_aload_n F dX12_tell_159 0 rfl rfl ?_
        refine g_X12_429 F r_a h dX12_tell_160 (fun b120 r_b120 h => ?_)
        refine v_iload_n F dX12_tell_163 2 rfl rfl ?_
        refine v_iald F r_b120 o_74 h dX12_tell_164 (fun h => ?_)
        refine v_iast F r_b119 o_110 h dX12_tell_165 (fun S121 h hE => ?_)
        have r_a := r_a.tr hE
        obtain ⟨v122, e_v122⟩ : ∃ y : Int32, y = x2_80 + 1 := ⟨_, rfl⟩
        have h := h v122 e_v122
        refine v_iinc (v := v122) (lv1 := [(2, .int v122), (0, .ref a), (1, .int x1_5)]) F dX12_tell_166 (q := 2) rfl (by rw [e_v122]; rfl) (by rw [hN]; decide) rfl ?_
        refine v_goto (tgt := 115) F dX12_tell_169 (by decide) ?_
        exact v_sub [1, 2, 0] rfl (h r_a)
  · refine v_aload_n F dX12_tell_10 0 rfl rfl ?_
    refine g_X12_507 F r_a h dX12_tell_11 (fun b123 r_b123 h => ?_)
    refine v_iload_n F dX12_tell_14 1 rfl rfl ?_
    refine v_aload_n F dX12_tell_15 0 rfl rfl ?_
    refine g_X12_35 F r_a h dX12_tell_16 (fun b124 r_b124 h => ?_)
    refine v_iload_n F dX12_tell_19 1 rfl rfl ?_
    refine v_bald F r_b124 o_41 h dX12_tell_20 (fun h => ?_)
    refine v_bast F r_b123 o_101 h dX12_tell_21 (fun S125 h hE => ?_)
    have r_a := r_a.tr hE
    obtain ⟨v126, e_v126⟩ : ∃ y : Int32, y = x1_2 + 1 := ⟨_, rfl⟩
    have h := h v126 e_v126
    refine v_iinc (v := v126) (lv1 := [(1, .int v126), (0, .ref a)]) F dX12_tell_22 (q := 1) rfl (by rw [e_v126]; rfl) (by rw [hN]; decide) rfl ?_
    refine v_goto (tgt := 2) F dX12_tell_25 (by decide) ?_
    exact v_sub [1, 0] rfl (h r_a)
