def R_law : String := "OwnTextLaw"
def lw_P (b : Addr) (xs : List Int32) (args : Array Value) (s : State) : Prop := args = #[.ref b] ∧ s.IntsAt b xs ∧ xs.length ≤ 2048 ∧ (Jvm.Cond.and given_1 narrow_1).before args s = true
def lw_Q (_ : Array Value) (s : State) (o : Outcome) (t : State) : Prop := o = .returned (some (.int 1)) ∧ Framed s o t [] 601024 7293034
def lw_Z (below : List Frame) (a : Array Value) (s : State) : State → Prop := fun t => ∃ o, t.status = .running ∧ Ended t below o ∧ lw_Q a s o t
/-- the law's own end, with 1 on the stack, nothing written that was there before, its room as the claim has it -/
theorem lw_ret {p : Program} {l : Launch} {e : Env} {s : State} {m : MethodId} {below : List Frame} {meth : Method} {c : Code} {b : Nat} (hx : p.tables.exec = Jvm.exec) (hb : c.code = code) (hr : meth.sig.returnType = ret) (hlocks : meth.locks = false) {pc : Nat} {H : Heap} {ls : Array Slot} (hdg : decode code pc = .ok (.ireturn, 1)) : W p l e room_1 s m #[Value.ref b] below meth c H [] 601024 7293034 (lw_Z below #[Value.ref b] s) (F0 m pc ls [.int 1]) := by
  intro T hT X
  obtain ⟨fs, hret, hrun, hended, hW, hframe⟩ := X.leave (v := some (.int 1)) (hlocks := hlocks) (fun h => by rw [hr] at h; cases h)
  have hmeth' : T.vm.method? m = some meth := X.method'
  refine ⟨T.setFrames fs, ?_, .returned (some (.int 1)), hrun, hended, rfl, ⟨_, rfl⟩, hW, hframe⟩
  jvm_step X.here [X.here.top, hx, hb, hdg, hmeth', hr, ret, narrow_b1]
  (try refine ⟨rfl, ?_⟩); (try refine ⟨rfl, ?_⟩)
  first | (intro acts; rw [hret _ acts rfl rfl rfl]) | rw [hret _ _ rfl rfl rfl]
  exact Steps.refl _
/-- what holds at the law's entry: the machine, the code, the tables' words (any of lw_tbl by 'hts w (by decide +kernel)'), the script of L ints xs at the cell b, what the Statement gives of the start (any of its parts by flat_of_before) -/
def lw_At (p : Program) (s : State) (m : MethodId) (meth : Method) (c : Code) (b L : Nat) (xs : Nat → Int32) : Prop :=
  p.tables.exec = Jvm.exec ∧ c.code = code ∧ meth.sig.returnType = ret ∧ c.maxLocals = 8 ∧ s.vm.findClass R_law = some m.cls ∧ (∀ w ∈ lw_tbl, w.before #[Value.ref b] s = true) ∧ va_X b L xs s s.heap ∧ b < s.heap.size ∧ meth.locks = false ∧ (Jvm.Cond.and given_1 narrow_1).before #[Value.ref b] s = true
section VL
variable {X : XX} {cc : ByteArray} {own : String} {ret : Option FieldType} {rm : Room} {n : Nat × Nat} {S : PS} {lv : List (Nat × Value)} {st : List Value} {pc idx : Nat} {b L : Nat} {xi : Nat → Int32}
/-- the script: an array of ints that is none of the pool's -/
def Sc (X : XX) (b L : Nat) (xi : Nat → Int32) : Prop := va_X b L xi (xs X) (xs X).heap ∧ b < (xs X).heap.size ∧ ¬ xA X b
theorem v_xlen (F : Fx X cc own ret rm) (hc : Sc X b L xi) (hdg : decode cc pc = .ok (.arraylength, 1)) (kk : VV X n S lv (.int (Int32.ofNat L) :: st) (pc + 1)) : VV X n S lv (.ref b :: st) pc := fun hT hE H locs ls hP hD hS hl => va_slen F.hx F.hb hc.1 hc.2.1 hc.2.2 hS hdg (kk hT hE H locs ls hP hD hS hl)
theorem v_xld (F : Fx X cc own ret rm) (hc : Sc X b L xi) {i : Int32} {Pp : Prop} (h : vp_in i L ∧ Pp) (hdg : decode cc pc = .ok (.iaload, 1)) (kk : Pp → VV X n S lv (.int (xi i.toNatClampNeg) :: st) (pc + 1)) : VV X n S lv (.int i :: .ref b :: st) pc := fun hT hE H locs ls hP hD hS hl => va_sld F.hx F.hb hc.1 hc.2.1 hc.2.2 hS h.1 hdg (kk h.2 hT hE H locs ls hP hD hS hl)
abbrev rm_L_law (k : Nat × Nat) : Room := { frames := 2048, cells := k.1, slots := k.2, locals := 84000 }
theorem v_lawret {k kr : Nat × Nat} (hk0 : k = (601024, 7293034)) (F : Fx X cL_law RL (some .boolean) (rm_L_law k)) (ha : xa X = #[Value.ref b]) (hZ0 : xQ X = lw_Z (xb X) #[Value.ref b] (xs X)) (hA0 : xA X = fun q => (xs X).heap.size ≤ q) (hk : n.1 + kr.1 ≤ k.1 ∧ n.2 + kr.2 ≤ k.2) (hdg : decode cL_law pc = .ok (.ireturn, 1)) : VV X n S lv [.int 1] pc := by
  subst hk0
  intro hT hE H locs ls hP hD hS hl
  have hR : xR X = room_1 := F.rm0
  rw [hZ0, ha, hR]
  refine va_forget (fun q hq => ?_) (W.widen (k := 601024) (n := 7293034) (by have := hk.1; show n.1 ≤ 601024; have h2 : n.1 + kr.1 ≤ 601024 := this; omega) (by have := hk.2; have h2 : n.2 + kr.2 ≤ 7293034 := this; show n.2 ≤ 7293034; omega) (lw_ret F.hx F.hb F.rt F.lk hdg))
  have h1 := hS.2.2 q hq
  rw [hA0] at h1
  exact h1
def SWok (own : String) (idx : Nat) (y : MethodName) (b : ByteArray) (maxL : Nat) (rt : Option FieldType) (hh : List (Nat × Nat × Nat × Nat)) (np : Nat) : Prop := Cond.methodLink own idx y ∈ bigW ∧ Cond.static y ∈ bigW ∧ Cond.initialized y.cls ∈ bigW ∧ Cond.codeWith y b maxL rt hh ∈ bigW ∧ y.cls ≠ "java/lang/invoke/MethodHandle" ∧ y.cls ≠ "java/lang/invoke/VarHandle" ∧ (parseMethodDescriptor y.desc).map (fun d => d.parameters.length) = some np
theorem v_runSW (F : Fx X cc own ret rm) {y : MethodName} {b : ByteArray} {maxL np : Nat} {rt : Option FieldType} {hh : List (Nat × Nat × Nat × Nat)} (K : SWok own idx y b maxL rt hh np) {rm1 : Room} {As rest : List Value} {Qc : Array Value → State → Outcome → State → Prop} (hM : Met (xl X) y (.codeWith y b maxL rt hh :: bigW) rm1 (va_Pc As (Inw (xE X) (xA X) S)) Qc rm1.cells rm1.slots (xA X)) (hn : As.length = np) {stk : List Value} (hst : stk = As.reverse ++ rest) (hroom : (rest.map fun v => v.category).sum ≤ 8) (hR : rm1.frames + 1 ≤ rm.frames ∧ 8 + (maxL + 11) + rm1.locals ≤ rm.locals) (hcs : n.1 + rm1.cells ≤ rm.cells ∧ n.2 + rm1.slots ≤ rm.slots) (hdg : decode cc pc = .ok (.invokestatic idx, 3)) : RunOk X n S lv stk rest pc rm1.cells rm1.slots (Qc As.toArray) := by
  subst hst
  intro H locs ls hT hP hD hS hl
  refine vx_runSW (F.fix rfl) hM (vx_cwSW np F.ts (fun w hw => ?_) rfl rfl rfl ⟨K.2.2.2.2.1, K.2.2.2.2.2.1, K.2.2.2.2.2.2⟩ (by rw [F.rm0]; exact hR)) ⟨In_blind, fun U hU hW => ⟨rfl, In_of F hT hP hD hS hU hW⟩⟩ rfl hn hl.1 rfl (lv_room hroom) hdg (by rw [F.rm0]; exact hcs)
  rcases List.mem_append.mp (show w ∈ _ ++ _ from hw) with h | h
  · rcases List.mem_cons.mp h with rfl | h
    · exact ⟨K.1, good_big K.1⟩
    · rcases List.mem_cons.mp h with rfl | h
      · exact ⟨K.2.1, good_big K.2.1⟩
      · rcases List.mem_cons.mp h with rfl | h
        · exact ⟨K.2.2.1, good_big K.2.2.1⟩
        · cases h
  · exact gi_cons K.2.2.2.1 w h
end VL
