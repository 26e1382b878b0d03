def ncP : List (String × String) := [("java/lang/IllegalStateException", "java/lang/IllegalArgumentException"), ("java/lang/IllegalArgumentException", "java/lang/IndexOutOfBoundsException"), ("java/lang/ArithmeticException", "java/lang/IndexOutOfBoundsException"), ("java/lang/IllegalArgumentException", "java/lang/ArithmeticException")]
/-- which exceptions are no others: never changes -/
def hasNc (E : EE) : Prop := ∀ (A : Nat → Prop) (s : State), E.2 A s s.heap → ∀ q ∈ ncP, va_Nc q.1 q.2 s
/-- the machine with an exception of class C under way at pc -/
def VX (X : XX) (n : Nat × Nat) (S : PS) (lv : List (Nat × Value)) (rest : List Value) (pc : Nat) (C : String) (q : Nat) : Prop := TS S → Ext (x0 X) S → ∀ (H : Heap) (locs : List Loc) (ls : Array Slot) (ce : Cell), va_P (xE X).1.1 vwCl (wd (xE X) S) H → va_D (xA X) (wd (xE X) S) → va_S (xA X) (xs X).heap H locs → lv_has ls (xN X) lv → H[q]? = some ce → ce.vm = .none → (xs X).vm.findClass C = some ce.cls → vx_W (xp X) (xl X) (xe X) (xR X) (xs X) (xm X) (xa X) (xb X) (xM X) (xc X) H locs n.1 n.2 (xQ X) (F0 (xm X) pc ls rest) q
section VC
variable {X : XX} {cc : ByteArray} {own : String} {ret : Option FieldType} {rm : Room} {n : Nat × Nat} {S : PS} {lv : List (Nat × Value)} {st : List Value} {pc idx k a : Nat}
theorem x_cIc {stk rest : List Value} {mc ms : Nat} {av : Array Value} {Q : Int32 → PS → Prop} {QX1 : String → PS → Prop} {n1 : Nat × Nat} (hr : RunX X n S lv stk rest pc mc ms (va_Qi Q (Outw (xE X) (xA X) S) (xA X) av) (Xx (xE X) (xA X) S QX1)) (hn : n.1 + mc ≤ n1.1 ∧ n.2 + ms ≤ n1.2) (kx : ∀ (C : String) (S1 : PS) (q : Nat), QX1 C S1 → Ext S S1 → VX X n1 S1 lv rest pc C q) (kk : ∀ (r : Int32) (S1 : PS), Q r S1 → Ext S S1 → VV X n1 S1 lv (.int r :: rest) (pc + 3)) : VV X n S lv stk pc := by
  intro hT hE H locs ls hP hD hS hl
  refine vx_calli (hr H locs ls hT hP hD hS hl) hS (fun q _ h => h) (fun q h => h) (fun q _ h => h) (fun C ce q9 u t H1 locs1 ht hvm hp hB hz hk hS1 hc1 hv1 hcl1 => ?_) (fun r u t H1 locs1 ht hvm hw hB hz hk hS1 => ?_)
  · obtain ⟨hq1, hP1, hK1, hD1, hT1, hE1⟩ := hB
    rw [ht] at hP1
    exact vx_widen hn.1 hn.2 (kx C u q9 hq1 hE1 hT1 (hE.tr hE1) H1 locs1 ls ce hP1 hD1 hS1 hl hc1 hv1 hcl1)
  · obtain ⟨hP1, hK1, hD1, hT1, hE1⟩ := hB
    rw [ht] at hP1
    exact W.widen hn.1 hn.2 (kk r u hw hE1 hT1 (hE.tr hE1) H1 locs1 ls hP1 hD1 hS1 hl)
theorem x_cLc {stk rest : List Value} {mc ms : Nat} {av : Array Value} {Q : Int64 → PS → Prop} {QX1 : String → PS → Prop} {n1 : Nat × Nat} (hr : RunX X n S lv stk rest pc mc ms (va_Ql Q (Outw (xE X) (xA X) S) (xA X) av) (Xx (xE X) (xA X) S QX1)) (hn : n.1 + mc ≤ n1.1 ∧ n.2 + ms ≤ n1.2) (kx : ∀ (C : String) (S1 : PS) (q : Nat), QX1 C S1 → Ext S S1 → VX X n1 S1 lv rest pc C q) (kk : ∀ (r : Int64) (S1 : PS), Q r S1 → Ext S S1 → VV X n1 S1 lv (.long r :: rest) (pc + 3)) : VV X n S lv stk pc := by
  intro hT hE H locs ls hP hD hS hl
  refine vx_calll (hr H locs ls hT hP hD hS hl) hS (fun q _ h => h) (fun q h => h) (fun q _ h => h) (fun C ce q9 u t H1 locs1 ht hvm hp hB hz hk hS1 hc1 hv1 hcl1 => ?_) (fun r u t H1 locs1 ht hvm hw hB hz hk hS1 => ?_)
  · obtain ⟨hq1, hP1, hK1, hD1, hT1, hE1⟩ := hB
    rw [ht] at hP1
    exact vx_widen hn.1 hn.2 (kx C u q9 hq1 hE1 hT1 (hE.tr hE1) H1 locs1 ls ce hP1 hD1 hS1 hl hc1 hv1 hcl1)
  · obtain ⟨hP1, hK1, hD1, hT1, hE1⟩ := hB
    rw [ht] at hP1
    exact W.widen hn.1 hn.2 (kk r u hw hE1 hT1 (hE.tr hE1) H1 locs1 ls hP1 hD1 hS1 hl)
theorem x_catch (F : Fx X cc own ret rm) (hX0 : hasEx (xE X)) (hNc : hasNc (xE X)) {hh : List (Nat × Nat × Nat × Nat)} (hT0 : (xc X).exceptionTable.toList = tableOf hh) {C nm : String} {q : Nat} {rest : List Value} (pre : List ExceptionTableEntry) (x : ExceptionTableEntry) (suf : List ExceptionTableEntry) (hsp : tableOf hh = pre ++ x :: suf) (hpass : ∀ z ∈ pre, z.catchType ≠ 0 ∧ ∃ nm1 : String, Cond.classLink own z.catchType nm1 ∈ bigW ∧ (C, nm1) ∈ ncP) (hcov : covers x pc = true) (hct : x.catchType ≠ 0) (hcl : Cond.classLink own x.catchType nm ∈ bigW) (hca : Cond.castable C nm ∈ exW) (kk : VV X n S lv [.ref q] x.handlerPc) : VX X n S lv rest pc C q := by
  intro hT hE H locs ls ce hP hD hS hl hc1 hv1 hcl1
  refine vx_catch F.own0 pre x suf (hT0.trans hsp) (fun z hz => Or.inr ?_) hcov hct (F.ts _ hcl) (((hX0 _ _ F.cw).1 _ hca).use rfl) hc1 hv1 hcl1 (kk hT hE H locs ls hP hD hS hl)
  obtain ⟨h1, nm1, h2, h3⟩ := hpass z hz
  exact ⟨h1, nm1, F.ts _ h2, hNc _ _ F.cw _ h3⟩
theorem MtI.ofW {l : Launch} {y : MethodName} {cc : ByteArray} {maxL : Nat} {ret : Option FieldType} {hh : List (Nat × Nat × Nat × Nat)} {rm : Room} {E : EE} {A : Nat → Prop} {av : List Value} {S : PS} {Q : Int32 → PS → Prop} (hy : plainName y.cls = true) (hsl : (lg_sl av).length ≤ maxL) (body : ∀ X : XX, Fx X cc y.cls ret rm → QI X rm Q → XE X l E A maxL y.name → (xc X).exceptionTable.toList = tableOf hh → VV X (0, 0) S (lv_args 0 av) [] 0) : MtI l y (.codeWith y cc maxL ret hh) rm E A av S Q := by
  refine va_MetW (cc := cc) (maxL := maxL) (ret := ret) (hh := hh) hy rfl ?_
  intro p e s m args below meth c s1 B hml hv
  obtain ⟨rfl, hA, hP, hK, hD, hT, hN, hok, hcw⟩ := hv
  have hts := atoms_spec (ws := .codeWith y cc maxL ret hh :: bigW) B.pre
  have hl := lv_entry av (n := maxL) hsl
  rw [lg_entry_eq]
  exact body ((p, l, e, _, s, m, _, below, meth, c), E, A, maxL, S, MQ below (va_Qi Q (Outw E A S) A) av.toArray s rm.cells rm.slots A) ⟨B.exec, B.bytes, hml, findClass_of_methodNamed B.named, fun w hw => hts w (List.mem_cons_of_mem _ hw), hK, hA, B.notSynchronized, B.returns, rfl, hN, hok, hcw⟩ rfl ⟨rfl, rfl, rfl, rfl, (name_of_methodNamed B.named B.method).1⟩ (vx_table (x := y) B (hts _ List.mem_cons_self)) hT Ext.rf s.heap [] _ hP hD va_S.rf hl
end VC
theorem kcl_L_13 : Cond.classLink RL 13 "java/lang/IllegalArgumentException" ∈ bigW := bw_5 167 rfl rfl
theorem kca_L_13 : Cond.castable "java/lang/IllegalArgumentException" "java/lang/IllegalArgumentException" ∈ exW := List.mem_filter.mpr ⟨tb_5 175 rfl, rfl⟩
theorem kcl_L_15 : Cond.classLink RL 15 "java/lang/IllegalStateException" ∈ bigW := bw_5 168 rfl rfl
theorem kca_L_15 : Cond.castable "java/lang/IllegalStateException" "java/lang/IllegalStateException" ∈ exW := List.mem_filter.mpr ⟨tb_6 3 rfl, rfl⟩
theorem kcl_L_25 : Cond.classLink RL 25 "java/lang/IndexOutOfBoundsException" ∈ bigW := bw_6 45 rfl rfl
theorem kca_L_25 : Cond.castable "java/lang/IndexOutOfBoundsException" "java/lang/IndexOutOfBoundsException" ∈ exW := List.mem_filter.mpr ⟨tb_6 56 rfl, rfl⟩
theorem kcl_L_43 : Cond.classLink RL 43 "java/lang/ArithmeticException" ∈ bigW := bw_6 130 rfl rfl
theorem kca_L_43 : Cond.castable "java/lang/ArithmeticException" "java/lang/ArithmeticException" ∈ exW := List.mem_filter.mpr ⟨tb_6 138 rfl, rfl⟩
