def isEx : Cond → Bool
  | .declares _ => true
  | .castable _ _ => true
  | _ => false
def exW : List Cond := tables_1.filter isEx
/-- what never changes says of throwing -/
def hasEx (E : EE) : Prop := ∀ (A : Nat → Prop) (s : State), E.2 A s s.heap → (∀ w ∈ exW, va_Nw w s) ∧ vx_Zq Bundle.tN "UNASSIGNED_STACK" Bundle.steD A s s.heap ∧ vx_Zq Bundle.tN "SUPPRESSED_SENTINEL" Bundle.listD A s s.heap
abbrev Xx (E : EE) (A : Nat → Prop) (S : PS) (QX : String → PS → Prop) : String → State → State → Prop := vx_X (fun _ : PS => True) (fun C u t => QX C u ∧ Outw E A S u t) A
abbrev XtI (l : Launch) (y : MethodName) (cd : Cond) (rm : Room) (E : EE) (A : Nat → Prop) (av : List Value) (S : PS) (Q : Int32 → PS → Prop) (QX : String → PS → Prop) : Prop := vx_Met l y (cd :: bigW) rm (va_Pc av (Inw E A S)) (va_Qi Q (Outw E A S) A) (Xx E A S QX) rm.cells rm.slots A
abbrev XtL (l : Launch) (y : MethodName) (cd : Cond) (rm : Room) (E : EE) (A : Nat → Prop) (av : List Value) (S : PS) (Q : Int64 → PS → Prop) (QX : String → PS → Prop) : Prop := vx_Met l y (cd :: bigW) rm (va_Pc av (Inw E A S)) (va_Ql Q (Outw E A S) A) (Xx E A S QX) rm.cells rm.slots A
abbrev XtV (l : Launch) (y : MethodName) (cd : Cond) (rm : Room) (E : EE) (A : Nat → Prop) (av : List Value) (S : PS) (Q : PS → Prop) (QX : String → PS → Prop) : Prop := vx_Met l y (cd :: bigW) rm (va_Pc av (Inw E A S)) (va_Qv Q (Outw E A S) A) (Xx E A S QX) rm.cells rm.slots A
def XQ (X : XX) (rm : Room) (Qc : Array Value → State → Outcome → State → Prop) (QX : String → PS → Prop) : Prop := xQ X = vx_MQ (xb X) Qc (Xx (xE X) (xA X) (x0 X) QX) (xa X) (xs X) rm.cells rm.slots (xA X)
theorem XtI.of {l : Launch} {y : MethodName} {cc : ByteArray} {maxL : Nat} {ret : Option FieldType} {rm : Room} {E : EE} {A : Nat → Prop} {av : List Value} {S : PS} {Q : Int32 → PS → Prop} {QX : String → PS → Prop} (hy : plainName y.cls = true) (hsl : (lg_sl av).length ≤ maxL) (body : ∀ X : XX, Fx X cc y.cls ret rm → XQ X rm (va_Qi Q (Outw (xE X) (xA X) (x0 X)) (xA X)) QX → XE X l E A maxL y.name → (∀ x ∈ (xc X).exceptionTable.toList, False) → VV X (0, 0) S (lv_args 0 av) [] 0) : XtI l y (.code y cc maxL ret) rm E A av S Q QX := by
  refine vx_ofW (cc := cc) (maxL := maxL) (ret := ret) hy rfl ?_
  intro p e s m args below meth c s1 B hml hET hv
  obtain ⟨rfl, hA, hP, hK, hD, hT, hN, hok, hcw⟩ := hv
  have hts := atoms_spec (ws := .code y cc maxL ret :: bigW) B.pre
  have hl := lv_entry av (n := maxL) hsl
  rw [lg_entry_eq]
  exact body ((p, l, e, _, s, m, _, below, meth, c), E, A, maxL, S, vx_MQ below (va_Qi Q (Outw E A S) A) (Xx E A S QX) av.toArray s rm.cells rm.slots A) ⟨B.exec, B.bytes, hml, findClass_of_methodNamed B.named, fun w hw => hts w (List.mem_cons_of_mem _ hw), hK, hA, B.notSynchronized, B.returns, rfl, hN, hok, hcw⟩ rfl ⟨rfl, rfl, rfl, rfl, (name_of_methodNamed B.named B.method).1⟩ hET hT Ext.rf s.heap [] _ hP hD va_S.rf hl
theorem XtL.of {l : Launch} {y : MethodName} {cc : ByteArray} {maxL : Nat} {ret : Option FieldType} {rm : Room} {E : EE} {A : Nat → Prop} {av : List Value} {S : PS} {Q : Int64 → PS → Prop} {QX : String → PS → Prop} (hy : plainName y.cls = true) (hsl : (lg_sl av).length ≤ maxL) (body : ∀ X : XX, Fx X cc y.cls ret rm → XQ X rm (va_Ql Q (Outw (xE X) (xA X) (x0 X)) (xA X)) QX → XE X l E A maxL y.name → (∀ x ∈ (xc X).exceptionTable.toList, False) → VV X (0, 0) S (lv_args 0 av) [] 0) : XtL l y (.code y cc maxL ret) rm E A av S Q QX := by
  refine vx_ofW (cc := cc) (maxL := maxL) (ret := ret) hy rfl ?_
  intro p e s m args below meth c s1 B hml hET hv
  obtain ⟨rfl, hA, hP, hK, hD, hT, hN, hok, hcw⟩ := hv
  have hts := atoms_spec (ws := .code y cc maxL ret :: bigW) B.pre
  have hl := lv_entry av (n := maxL) hsl
  rw [lg_entry_eq]
  exact body ((p, l, e, _, s, m, _, below, meth, c), E, A, maxL, S, vx_MQ below (va_Ql Q (Outw E A S) A) (Xx E A S QX) av.toArray s rm.cells rm.slots A) ⟨B.exec, B.bytes, hml, findClass_of_methodNamed B.named, fun w hw => hts w (List.mem_cons_of_mem _ hw), hK, hA, B.notSynchronized, B.returns, rfl, hN, hok, hcw⟩ rfl ⟨rfl, rfl, rfl, rfl, (name_of_methodNamed B.named B.method).1⟩ hET hT Ext.rf s.heap [] _ hP hD va_S.rf hl
theorem XtV.of {l : Launch} {y : MethodName} {cc : ByteArray} {maxL : Nat} {ret : Option FieldType} {rm : Room} {E : EE} {A : Nat → Prop} {av : List Value} {S : PS} {Q : PS → Prop} {QX : String → PS → Prop} (hy : plainName y.cls = true) (hsl : (lg_sl av).length ≤ maxL) (body : ∀ X : XX, Fx X cc y.cls ret rm → XQ X rm (va_Qv Q (Outw (xE X) (xA X) (x0 X)) (xA X)) QX → XE X l E A maxL y.name → (∀ x ∈ (xc X).exceptionTable.toList, False) → VV X (0, 0) S (lv_args 0 av) [] 0) : XtV l y (.code y cc maxL ret) rm E A av S Q QX := by
  refine vx_ofW (cc := cc) (maxL := maxL) (ret := ret) hy rfl ?_
  intro p e s m args below meth c s1 B hml hET hv
  obtain ⟨rfl, hA, hP, hK, hD, hT, hN, hok, hcw⟩ := hv
  have hts := atoms_spec (ws := .code y cc maxL ret :: bigW) B.pre
  have hl := lv_entry av (n := maxL) hsl
  rw [lg_entry_eq]
  exact body ((p, l, e, _, s, m, _, below, meth, c), E, A, maxL, S, vx_MQ below (va_Qv Q (Outw E A S) A) (Xx E A S QX) av.toArray s rm.cells rm.slots A) ⟨B.exec, B.bytes, hml, findClass_of_methodNamed B.named, fun w hw => hts w (List.mem_cons_of_mem _ hw), hK, hA, B.notSynchronized, B.returns, rfl, hN, hok, hcw⟩ rfl ⟨rfl, rfl, rfl, rfl, (name_of_methodNamed B.named B.method).1⟩ hET hT Ext.rf s.heap [] _ hP hD va_S.rf hl
section VX
variable {X : XX} {cc : ByteArray} {own : String} {ret : Option FieldType} {rm : Room} {n : Nat × Nat} {S : PS} {lv : List (Nat × Value)} {st : List Value} {pc idx k a : Nat} {QX : String → PS → Prop}
theorem x_iret (F : Fx X cc own (some .int) rm) {Q : Int32 → PS → Prop} (hQ : XQ X rm (va_Qi Q (Outw (xE X) (xA X) (x0 X)) (xA X)) QX) {v : Int32} (h : Q v S) (hn : n.1 ≤ rm.cells ∧ n.2 ≤ rm.slots) (hdg : decode cc pc = .ok (.ireturn, 1)) : VV X n S lv [.int v] pc := by
  intro hT hE H locs ls hP hD hS hl
  rw [hQ]
  exact vx_ret (W.widen hn.1 hn.2 (W.iret (v := v) F.hx F.hb F.rt (fun t ht hW => ⟨⟨v, S, rfl, h, by rw [ht]; exact hP, F.K.mv hW, hD, hT, hE⟩, hS.F ht⟩) hS.2.2 hdg F.lk))
theorem x_lret (F : Fx X cc own (some .long) rm) {Q : Int64 → PS → Prop} (hQ : XQ X rm (va_Ql Q (Outw (xE X) (xA X) (x0 X)) (xA X)) QX) {v : Int64} (h : Q v S) (hn : n.1 ≤ rm.cells ∧ n.2 ≤ rm.slots) (hdg : decode cc pc = .ok (.lreturn, 1)) : VV X n S lv [.long v] pc := by
  intro hT hE H locs ls hP hD hS hl
  rw [hQ]
  exact vx_ret (W.widen hn.1 hn.2 (W.lret (v := v) F.hx F.hb F.rt (fun t ht hW => ⟨⟨v, S, rfl, h, by rw [ht]; exact hP, F.K.mv hW, hD, hT, hE⟩, hS.F ht⟩) hS.2.2 hdg F.lk))
theorem x_vret (F : Fx X cc own none rm) {Q : PS → Prop} (hQ : XQ X rm (va_Qv Q (Outw (xE X) (xA X) (x0 X)) (xA X)) QX) (h : Q S) (hn : n.1 ≤ rm.cells ∧ n.2 ≤ rm.slots) (hdg : decode cc pc = .ok (.return_, 1)) : VV X n S lv [] pc := by
  intro hT hE H locs ls hP hD hS hl
  rw [hQ]
  exact vx_ret (W.widen hn.1 hn.2 (W.vret F.hx F.hb F.rt (fun t ht hW => ⟨⟨S, rfl, h, by rw [ht]; exact hP, F.K.mv hW, hD, hT, hE⟩, hS.F ht⟩) hS.2.2 hdg F.lk))
/-- what a throw of a new exception with a text needs of the tables -/
def Tok (own : String) (ik ic : Nat) (cls : String) (names : List String) : Prop := Cond.classLink own ik cls ∈ bigW ∧ Cond.initialized cls ∈ bigW ∧ (∀ w ∈ (vx_atS own ic cls names).filter goodWord, w ∈ bigW) ∧ (∀ w ∈ (vx_atS own ic cls names).filter (fun w => !goodWord w), w ∈ exW) ∧ (∀ w ∈ Cond.classLink own ik cls :: Cond.initialized cls :: vx_atS own ic cls names, vx_ot w = true) ∧ Bundle.fit cls = true ∧ ∀ n ∈ names, Bundle.fit n = true
theorem ex_on {w : Cond} (h : isEx w = true) : w.onTables = true := by cases w <;> first | rfl | cases h
theorem v_thr (F : Fx X cc own ret rm) {adK adV : Nat → Nat} (hS0 : hasStr (xE X) adK adV) (hX0 : hasEx (xE X)) (hl0 : (xl X).stackTraces = false) {Qc : Array Value → State → Outcome → State → Prop} (hQ : XQ X rm Qc QX) (hET : ∀ x ∈ (xc X).exceptionTable.toList, False) {ik is ic i : Nat} {cls : String} {names : List String} (K : Tok own ik ic cls names) (hi : i < 16) (ho : ownS.getD i "" = own ∧ kS.getD i 0 = is) (h : QX cls S) (hfr : names.length + 3 < rm.frames) (hlo : (st.map fun v => v.category).sum + (13 * (names.length + 1) + 43) ≤ rm.locals) (hn : n.1 + 1 ≤ rm.cells ∧ n.2 + 6 ≤ rm.slots) (d0 : decode cc pc = .ok (.new ik, 3)) (d3 : decode cc (pc + 3) = .ok (.dup, 1)) (d4 : decode cc (pc + 4) = .ok (.ldc is, 2)) (d6 : decode cc (pc + 6) = .ok (.invokespecial ic, 3)) (d9 : decode cc (pc + 9) = .ok (.athrow, 1)) : VV X n S lv st pc := by
  intro hT hE H locs ls hP hD hS hl
  rw [hQ]
  obtain ⟨h1, h2, h3, h4, h5, h6, h7⟩ := K
  have hR := (hS0 _ _ F.cw).2.1 i hi
  rw [ho.1, ho.2] at hR
  obtain ⟨hB, hU, hN⟩ := hX0 _ _ F.cw
  refine vx_throwS F.hx F.hb hl0 F.own0 h6 h7 (F.ts _ h1) (F.ts _ h2) hR (vx_hat (fun w hw => F.ts _ (h3 w hw)) h4 (fun w hw => (hB w hw).use (ex_on (List.mem_filter.mp hw).2))) h5 hU hN hS (hl.1.trans F.ml.symm) d0 d3 d4 d6 d9 (fun x hx => (hET x hx).elim) (by rw [F.rm0]; exact hfr) (by rw [F.rm0]; exact hlo) (by rw [F.rm0]; exact hn.1) (by rw [F.rm0]; exact hn.2) F.lk (fun t hvm hz hk => ?_) hS.2.2 hn.1 hn.2
  refine ⟨S, trivial, ⟨h, hP.kept (fun k q hq => hk q.1 ((hP k q hq).lt)), va_K.moved hvm F.K, hD, hT, hE⟩, Nat.le_trans hS.1 hz, fun q hq hA => ?_⟩
  rw [hk q (Nat.lt_of_lt_of_le hq hS.1)]
  exact hS.2.1 q hq hA
/-- a call that may throw, not caught here -/
def RunX (X : XX) (n : Nat × Nat) (S : PS) (lv : List (Nat × Value)) (stk rest : List Value) (pc : Nat) (mc ms : Nat) (Qa : State → Outcome → State → Prop) (XC : String → State → State → Prop) : Prop := ∀ (H : Heap) (locs : List Loc) (ls : Array Slot), TS S → va_P (xE X).1.1 vwCl (wd (xE X) S) H → va_D (xA X) (wd (xE X) S) → va_S (xA X) (xs X).heap H locs → lv_has ls (xN X) lv → vx_Run (xp X) (xl X) (xe X) (xR X) (xs X) (xm X) (xa X) (xb X) (xM X) (xc X) H locs n.1 n.2 mc ms (F0 (xm X) pc ls stk) rest Qa XC (xA X)
theorem x_runV (F : Fx X cc own ret rm) {y : MethodName} {b : ByteArray} {maxL np : Nat} {rt : Option FieldType} (K : Cok own idx y b maxL rt np) {T : u_T} {N : Nat} (hc : vwCl[k]? = some (y.cls, T, N)) {rm1 : Room} {As rest : List Value} {Qc : Array Value → State → Outcome → State → Prop} {XC : String → State → State → Prop} (hM : vx_Met (xl X) y (.code y b maxL rt :: bigW) rm1 (va_Pc (.ref a :: As) (Inw (xE X) (xA X) S)) Qc XC rm1.cells rm1.slots (xA X)) (ha : Rf S a k) (hn : As.length = np) {stk : List Value} (hst : stk = As.reverse ++ .ref a :: rest) (hroom : (rest.map fun v => v.category).sum ≤ 8) (hR : rm1.frames + 1 ≤ rm.frames ∧ 8 + (maxL + 11) + rm1.locals ≤ rm.locals) (hcs : n.1 + rm1.cells ≤ rm.cells ∧ n.2 + rm1.slots ≤ rm.slots) (hdg : decode cc pc = .ok (.invokevirtual idx, 3)) : RunX X n S lv stk rest pc rm1.cells rm1.slots (Qc (Value.ref a :: As).toArray) XC := by
  subst hst
  intro H locs ls hT hP hD hS hl
  obtain ⟨q, hq⟩ := wd_get (E := xE X) ha.1
  rw [cel_obj ha.2 (k10 hc)] at hq
  refine vx_runV (F.fix rfl) hM (C := y.cls) (cwV np F.ts (fun w hw => ?_) rfl rfl rfl ⟨rfl, K.2.2.2.2.2.1, K.2.2.2.2.2.2.1, K.2.2.2.2.2.2.2⟩ (by rw [F.rm0]; exact hR)) ⟨In_blind, va_recv F.K hP hc hq, fun U hU hW => ⟨rfl, In_of F hT hP hD hS hU hW⟩⟩ rfl hn hl.1 rfl (lv_room hroom) hdg (by rw [F.rm0]; exact hcs)
  rcases List.mem_append.mp (show w ∈ _ ++ _ from hw) with h | h
  · rcases List.mem_cons.mp h with rfl | h
    · exact ⟨K.1, good_big K.1⟩
    · rcases List.mem_cons.mp h with rfl | h
      · exact ⟨K.2.1, good_big K.2.1⟩
      · rcases List.mem_cons.mp h with rfl | h
        · exact ⟨K.2.2.1, good_big K.2.2.1⟩
        · rcases List.mem_cons.mp h with rfl | h
          · exact ⟨K.2.2.2.1, good_big K.2.2.2.1⟩
          · cases h
  · exact gi_cons K.2.2.2.2.1 w h
theorem x_cV (F : Fx X cc own ret rm) {stk rest : List Value} {mc ms : Nat} {av : Array Value} {Q : PS → Prop} {QX1 : String → PS → Prop} {Qc : Array Value → State → Outcome → State → Prop} (hQ : XQ X rm Qc QX) (hET : ∀ x ∈ (xc X).exceptionTable.toList, False) (hr : RunX X n S lv stk rest pc mc ms (va_Qv Q (Outw (xE X) (xA X) S) (xA X) av) (Xx (xE X) (xA X) S QX1)) (hn : n.1 + mc ≤ rm.cells ∧ n.2 + ms ≤ rm.slots) (kx : ∀ C S1, QX1 C S1 → QX C S1) (kk : ∀ (S1 : PS), Q S1 → Ext S S1 → VV X (n.1 + mc, n.2 + ms) S1 lv rest (pc + 3)) : VV X n S lv stk pc := by
  intro hT hE H locs ls hP hD hS hl
  refine vx_callv (hr H locs ls hT hP hD hS hl) hS (fun q _ h => h) (fun q h => h) (fun q _ h => h) (fun C ce q9 u t H1 locs1 ht hvm hp hB hz hk hS1 hc1 hv1 hcl1 => ?_) (fun u t H1 locs1 ht hvm hw hB hz hk hS1 => ?_)
  · obtain ⟨hq1, hP1, hK1, hD1, hT1, hE1⟩ := hB
    rw [ht] at hP1
    rw [hQ]
    exact vx_out (fun x hx => (hET x hx).elim) F.lk hc1 hv1 hcl1 (fun t2 ht2 hvm2 => ⟨u, trivial, ⟨kx C u hq1, by rw [ht2]; exact hP1, va_K.moved hvm2 F.K, hD1, hT1, hE.tr hE1⟩, hS1.F ht2⟩) hS1.2.2 hn.1 hn.2
  · obtain ⟨hP1, hK1, hD1, hT1, hE1⟩ := hB
    rw [ht] at hP1
    exact kk u hw hE1 hT1 (hE.tr hE1) H1 locs1 ls hP1 hD1 hS1 hl
end VX
