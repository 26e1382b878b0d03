def RJ0 : String := "java/lang/String"
abbrev cJ0_length_8abf5 : ByteArray := prog_24_method_54_code
def yJ0_length_8abf5 : MethodName := ⟨RJ0, "length", "()I"⟩
abbrev cJ0_charAt_5068e : ByteArray := prog_24_method_56_code
def yJ0_charAt_5068e : MethodName := ⟨RJ0, "charAt", "(I)C"⟩
abbrev cJ0_indexOf_0f7a4 : ByteArray := prog_24_method_79_code
def yJ0_indexOf_0f7a4 : MethodName := ⟨RJ0, "indexOf", "(I)I"⟩
abbrev cJ0_indexOf_7cf53 : ByteArray := prog_24_method_80_code
def yJ0_indexOf_7cf53 : MethodName := ⟨RJ0, "indexOf", "(II)I"⟩
abbrev cJ0_coder_7d493 : ByteArray := prog_24_method_152_code
def yJ0_coder_7d493 : MethodName := ⟨RJ0, "coder", "()B"⟩
abbrev cJ0_isLatin1_aae02 : ByteArray := prog_24_method_154_code
def yJ0_isLatin1_aae02 : MethodName := ⟨RJ0, "isLatin1", "()Z"⟩
abbrev cJ0_checkIndex_df160 : ByteArray := prog_24_method_155_code
def yJ0_checkIndex_df160 : MethodName := ⟨RJ0, "checkIndex", "(II)V"⟩
def RJ1 : String := "java/lang/StringLatin1"
abbrev cJ1_charAt_3b067 : ByteArray := prog_25_method_2_code
def yJ1_charAt_3b067 : MethodName := ⟨RJ1, "charAt", "([BI)C"⟩
abbrev cJ1_canEncode_9a6ad : ByteArray := prog_25_method_4_code
def yJ1_canEncode_9a6ad : MethodName := ⟨RJ1, "canEncode", "(I)Z"⟩
abbrev cJ1_indexOf_4cfef : ByteArray := prog_25_method_22_code
def yJ1_indexOf_4cfef : MethodName := ⟨RJ1, "indexOf", "([BIII)I"⟩
abbrev cJ1_indexOfChar_4cfef : ByteArray := prog_25_method_23_code
def yJ1_indexOfChar_4cfef : MethodName := ⟨RJ1, "indexOfChar", "([BIII)I"⟩
def RJ7 : String := "java/util/Arrays"
abbrev cJ7_copyOf_9075b : ByteArray := prog_29_method_121_code
def yJ7_copyOf_9075b : MethodName := ⟨RJ7, "copyOf", "([BI)[B"⟩
def RJ3 : String := "jdk/internal/util/Preconditions"
abbrev cJ3_checkIndex_8e157 : ByteArray := prog_30_method_11_code
def yJ3_checkIndex_8e157 : MethodName := ⟨RJ3, "checkIndex", "(IILjava/util/function/BiFunction;)I"⟩
def lenS : List Nat := [19, 2, 3, 2, 2, 2, 15, 16, 14, 13, 13, 13, 11, 13, 9, 15]
def bytS : List (List Int32) := [[97, 98, 99, 100, 101, 102, 103, 114, 60, 124, 77, 76, 82, 84, 88, 91, 87, 61, 36], [91, 32], [32, 47, 32], [87, 32], [32, 34], [32, 93], [110, 32, 105, 115, 32, 110, 111, 116, 32, 49, 32, 46, 46, 32, 56], [116, 104, 101, 32, 116, 97, 112, 101, 32, 105, 115, 32, 102, 117, 108, 108], [110, 111, 32, 115, 117, 99, 104, 32, 110, 117, 109, 98, 101, 114], [110, 111, 32, 115, 117, 99, 104, 32, 69, 86, 69, 78, 84], [110, 111, 32, 115, 117, 99, 104, 32, 80, 73, 84, 67, 72], [110, 111, 32, 115, 117, 99, 104, 32, 86, 69, 82, 83, 69], [110, 111, 32, 115, 117, 99, 104, 32, 66, 65, 82], [110, 111, 32, 115, 117, 99, 104, 32, 86, 79, 73, 67, 69], [100, 111, 119, 110, 32, 105, 115, 32, 48], [100, 111, 119, 110, 32, 105, 115, 32, 98, 101, 108, 111, 119, 32, 48]]
def ownS : List String := ["OwnText$Reader", "OwnText$Printer", "OwnText$Printer", "OwnText$Printer", "OwnText$Printer", "OwnText$Printer", "OwnText", "OwnText", "OwnText", "OwnText", "OwnText", "OwnText", "OwnText", "OwnText", "OwnText", "OwnText"]
def kS : List Nat := [73, 27, 33, 136, 138, 39, 66, 73, 131, 241, 165, 189, 198, 219, 223, 226]
def txS : List String := ["abcdefgr<|MLRTX[W=$", "[ ", " / ", "W ", " \"", " ]", "n is not 1 .. 8", "the tape is full", "no such number", "no such EVENT", "no such PITCH", "no such VERSE", "no such BAR", "no such VOICE", "down is 0", "down is below 0"]
/-- the String constants: their cells, contents, and two statics of the JDK's -/
def hasStr (E : EE) (adK adV : Nat → Nat) : Prop := ∀ (A : Nat → Prop) (s : State), E.2 A s s.heap → vk_S 16 lenS bytS adK adV A s s.heap ∧ (∀ i, i < 16 → vk_R (ownS.getD i "") (kS.getD i 0) (txS.getD i "") (adK i) s) ∧ va_Z "java/lang/String" "COMPACT_STRINGS" "Z" (.int 1) A s s.heap ∧ va_Zq "jdk/internal/util/Preconditions" "SIOOBE_FORMATTER" "Ljava/util/function/BiFunction;" A s s.heap
section VS
variable {X : XX} {cc : ByteArray} {own : String} {ret : Option FieldType} {rm : Room} {n : Nat × Nat} {S : PS} {lv : List (Nat × Value)} {st : List Value} {pc idx i : Nat} {adK adV : Nat → Nat}
theorem v_ldcS (F : Fx X cc own ret rm) (hS0 : hasStr (xE X) adK adV) (hi : i < 16) (ho : ownS.getD i "" = own ∧ kS.getD i 0 = idx) (hdg : decode cc pc = .ok (.ldc idx, 2)) (kk : VV X n S lv (.ref (adK i) :: st) (pc + 2)) : VV X n S lv st pc := by
  intro hT hE H locs ls hP hD hS hl
  have hR := (hS0 _ _ F.cw).2.1 i hi
  rw [ho.1, ho.2] at hR
  exact va_ldcS F.hx F.hb F.own0 hR hdg (kk hT hE H locs ls hP hD hS hl)
theorem v_sgV (F : Fx X cc own ret rm) (hS0 : hasStr (xE X) adK adV) (hi : i < 16) (hw : Cond.fieldLink own idx "java/lang/String" "value" "[B" ∈ bigW) (hdg : decode cc pc = .ok (.getfield idx, 3)) (kk : VV X n S lv (.ref (adV i) :: st) (pc + 3)) : VV X n S lv (.ref (adK i) :: st) pc := fun hT hE H locs ls hP hD hS hl => vk_getf F.hx F.hb ((hS0 _ _ F.cw).1.1 i hi).2.2.1 hS F.own0 (F.ts _ hw) (fun _ h => h) hdg (kk hT hE H locs ls hP hD hS hl)
theorem v_sgC (F : Fx X cc own ret rm) (hS0 : hasStr (xE X) adK adV) (hi : i < 16) (hw : Cond.fieldLink own idx "java/lang/String" "coder" "B" ∈ bigW) (hdg : decode cc pc = .ok (.getfield idx, 3)) (kk : VV X n S lv (.int 0 :: st) (pc + 3)) : VV X n S lv (.ref (adK i) :: st) pc := fun hT hE H locs ls hP hD hS hl => vk_getf F.hx F.hb ((hS0 _ _ F.cw).1.1 i hi).2.1 hS F.own0 (F.ts _ hw) (fun _ h => h) hdg (kk hT hE H locs ls hP hD hS hl)
theorem v_slen (F : Fx X cc own ret rm) (hS0 : hasStr (xE X) adK adV) (hi : i < 16) (hdg : decode cc pc = .ok (.arraylength, 1)) (kk : VV X n S lv (.int (nI (lenS.getD i 0)) :: st) (pc + 1)) : VV X n S lv (.ref (adV i) :: st) pc := fun hT hE H locs ls hP hD hS hl => va_tlen F.hx F.hb ((hS0 _ _ F.cw).1.1 i hi).2.2.2 hS rfl hdg (kk hT hE H locs ls hP hD hS hl)
theorem v_sbald (F : Fx X cc own ret rm) (hS0 : hasStr (xE X) adK adV) (hi : i < 16) {j : Int32} {Pp : Prop} (h : vp_in j (lenS.getD i 0) ∧ Pp) (hdg : decode cc pc = .ok (.baload, 1)) (kk : Pp → VV X n S lv (.int ((bytS.getD i []).getD j.toNatClampNeg 0) :: st) (pc + 1)) : VV X n S lv (.int j :: .ref (adV i) :: st) pc := fun hT hE H locs ls hP hD hS hl => va_tb F.hx F.hb ((hS0 _ _ F.cw).1.1 i hi).2.2.2 hS h.1 rfl hdg (kk h.2 hT hE H locs ls hP hD hS hl)
theorem v_gCS (F : Fx X cc own ret rm) (hS0 : hasStr (xE X) adK adV) (hw : Cond.fieldLink own idx "java/lang/String" "COMPACT_STRINGS" "Z" ∈ bigW) (hdg : decode cc pc = .ok (.getstatic idx, 3)) (kk : VV X n S lv (.int 1 :: st) (pc + 3)) : VV X n S lv st pc := fun hT hE H locs ls hP hD hS hl => va_gets F.hx F.hb (hS0 _ _ F.cw).2.2.1 hS F.own0 (F.ts _ hw) (fun _ h => h) hdg (kk hT hE H locs ls hP hD hS hl)
theorem v_gFo (F : Fx X cc own ret rm) (hS0 : hasStr (xE X) adK adV) (hw : Cond.fieldLink own idx "jdk/internal/util/Preconditions" "SIOOBE_FORMATTER" "Ljava/util/function/BiFunction;" ∈ bigW) (hdg : decode cc pc = .ok (.getstatic idx, 3)) (k0 : VV X n S lv (.null :: st) (pc + 3)) (k1 : ∀ t : Nat, VV X n S lv (.ref t :: st) (pc + 3)) : VV X n S lv st pc := by
  intro hT hE H locs ls hP hD hS hl
  rcases (hS0 _ _ F.cw).2.2.2 with hZ | ⟨t, hZ⟩
  · exact va_gets F.hx F.hb hZ hS F.own0 (F.ts _ hw) (fun _ h => h) hdg (k0 hT hE H locs ls hP hD hS hl)
  · exact va_gets F.hx F.hb hZ hS F.own0 (F.ts _ hw) (fun _ h => h) hdg (k1 t hT hE H locs ls hP hD hS hl)
theorem v_runVS (F : Fx X cc own ret rm) (hS0 : hasStr (xE X) adK adV) (hi : i < 16) {y : MethodName} {b : ByteArray} {maxL np : Nat} {rt : Option FieldType} (K : Cok own idx y b maxL rt np) (hy : y.cls = "java/lang/String") {rm1 : Room} {As rest : List Value} {Qc : Array Value → State → Outcome → State → Prop} (hM : Met (xl X) y (.code y b maxL rt :: bigW) rm1 (va_Pc (.ref (adK i) :: As) (Inw (xE X) (xA X) S)) Qc rm1.cells rm1.slots (xA X)) (hn : As.length = np) {stk : List Value} (hst : stk = As.reverse ++ .ref (adK i) :: rest) (hroom : (rest.map fun v => v.category).sum ≤ 8) (hR : rm1.frames + 1 ≤ rm.frames ∧ 8 + (maxL + 11) + rm1.locals ≤ rm.locals) (hcs : n.1 + rm1.cells ≤ rm.cells ∧ n.2 + rm1.slots ≤ rm.slots) (hdg : decode cc pc = .ok (.invokevirtual idx, 3)) : RunOk X n S lv stk rest pc rm1.cells rm1.slots (Qc (Value.ref (adK i) :: As).toArray) := by
  subst hst
  intro H locs ls hT hP hD hS hl
  have hrec := vk_recv (hS0 _ _ F.cw).1 hi hS
  refine va_runV (F.fix rfl) hM (C := y.cls) (cwV np F.ts (fun w hw => ?_) rfl rfl rfl ⟨rfl, K.2.2.2.2.2.1, K.2.2.2.2.2.2.1, K.2.2.2.2.2.2.2⟩ (by rw [F.rm0]; exact hR)) ⟨In_blind, by rw [hy]; exact hrec, fun U hU hW => ⟨rfl, In_of F hT hP hD hS hU hW⟩⟩ rfl hn hl.1 rfl (lv_room hroom) hdg (by rw [F.rm0]; exact hcs)
  rcases List.mem_append.mp (show w ∈ _ ++ _ from hw) with h | h
  · rcases List.mem_cons.mp h with rfl | h
    · exact ⟨K.1, good_big K.1⟩
    · rcases List.mem_cons.mp h with rfl | h
      · exact ⟨K.2.1, good_big K.2.1⟩
      · rcases List.mem_cons.mp h with rfl | h
        · exact ⟨K.2.2.1, good_big K.2.2.1⟩
        · rcases List.mem_cons.mp h with rfl | h
          · exact ⟨K.2.2.2.1, good_big K.2.2.2.1⟩
          · cases h
  · exact gi_cons K.2.2.2.2.1 w h
def Mk_mmax (own : String) (idx : Nat) : Prop := Cond.methodLink own idx Lib.Math.max.name ∈ bigW ∧ Cond.static Lib.Math.max.name ∈ bigW ∧ Cond.initialized "java/lang/Math" ∈ bigW ∧ Cond.code Lib.Math.max.name Lib.Math.max.code 2 (some .int) ∈ bigW
theorem v_mmax (F : Fx X cc own ret rm) (K : Mk_mmax own idx) (hf : 1 ≤ rm.frames ∧ n.1 ≤ rm.cells ∧ n.2 ≤ rm.slots) (hl1 : (st.map fun v => v.category).sum + 13 ≤ rm.locals) {x y : Int32} (hdg : decode cc pc = .ok (.invokestatic idx, 3)) (kk : VV X n S lv (.int (if x < y then y else x) :: st) (pc + 3)) : VV X n S lv (.int y :: .int x :: st) pc := fun hT hE H locs ls hP hD hS hl => va_mmax F.hx F.hb (F.ml.trans hl.1.symm) F.own0 (F.ts _ K.1) (F.ts _ K.2.1) (F.ts _ K.2.2.1) (F.ts _ K.2.2.2) (by rw [F.rm0]; exact hf.1) (by rw [F.rm0]; exact hl1) (by rw [F.rm0]; exact hf.2.1) (by rw [F.rm0]; exact hf.2.2) hdg (kk hT hE H locs ls hP hD hS hl)
end VS
theorem MtI.ofJ2 {l : Launch} {y : MethodName} {cc : ByteArray} {maxL : Nat} {ret : Option FieldType} {rm : Room} {E : EE} {A : Nat → Prop} {av : List Value} {S : PS} {Q : Int32 → PS → Prop} (hy : plainFor y = true) (hsl : (lg_sl av).length ≤ maxL) (body : ∀ X : XX, Fx X cc y.cls ret rm → QI X rm Q → XE X l E A maxL y.name → VV X (0, 0) S (lv_args 0 av) [] 0) : MtI l y (.code y cc maxL ret) rm E A av S Q := by
  refine Met.ofWF (cc := cc) (maxL := maxL) (ret := ret) hy rfl ?_
  intro p e s m args below meth c s1 B hml hv
  obtain ⟨rfl, hA, hP, hK, hD, hT, hN, hok, hcw⟩ := hv
  have hts := atoms_spec (ws := .code y cc maxL ret :: bigW) B.pre
  have hl := lv_entry av (n := maxL) hsl
  rw [lg_entry_eq]
  exact body ((p, l, e, _, s, m, _, below, meth, c), E, A, maxL, S, MQ below (va_Qi Q (Outw E A S) A) av.toArray s rm.cells rm.slots A) ⟨B.exec, B.bytes, hml, findClass_of_methodNamed B.named, fun w hw => hts w (List.mem_cons_of_mem _ hw), hK, hA, B.notSynchronized, B.returns, rfl, hN, hok, hcw⟩ rfl ⟨rfl, rfl, rfl, rfl, (name_of_methodNamed B.named B.method).1⟩ hT Ext.rf s.heap [] _ hP hD va_S.rf hl
theorem MtV.ofJ2 {l : Launch} {y : MethodName} {cc : ByteArray} {maxL : Nat} {ret : Option FieldType} {rm : Room} {E : EE} {A : Nat → Prop} {av : List Value} {S : PS} {Q : PS → Prop} (hy : plainFor y = true) (hsl : (lg_sl av).length ≤ maxL) (body : ∀ X : XX, Fx X cc y.cls ret rm → QV X rm Q → XE X l E A maxL y.name → VV X (0, 0) S (lv_args 0 av) [] 0) : MtV l y (.code y cc maxL ret) rm E A av S Q := by
  refine Met.ofWF (cc := cc) (maxL := maxL) (ret := ret) hy rfl ?_
  intro p e s m args below meth c s1 B hml hv
  obtain ⟨rfl, hA, hP, hK, hD, hT, hN, hok, hcw⟩ := hv
  have hts := atoms_spec (ws := .code y cc maxL ret :: bigW) B.pre
  have hl := lv_entry av (n := maxL) hsl
  rw [lg_entry_eq]
  exact body ((p, l, e, _, s, m, _, below, meth, c), E, A, maxL, S, MQ below (va_Qv Q (Outw E A S) A) av.toArray s rm.cells rm.slots A) ⟨B.exec, B.bytes, hml, findClass_of_methodNamed B.named, fun w hw => hts w (List.mem_cons_of_mem _ hw), hK, hA, B.notSynchronized, B.returns, rfl, hN, hok, hcw⟩ rfl ⟨rfl, rfl, rfl, rfl, (name_of_methodNamed B.named B.method).1⟩ hT Ext.rf s.heap [] _ hP hD va_S.rf hl
