def bigW : List Cond := lw_tbl.filter goodWord
theorem bw_t (n : Nat) {w : Cond} (h : tables_1[n]? = some w) (g : goodWord w = true) : w ∈ bigW := List.mem_filter.mpr ⟨List.mem_append_right _ (List.mem_of_getElem? h), g⟩
theorem bw_s (n : Nat) {q : MethodName × Nat} (h : lw_privs[n]? = some q) (g : goodWord (.selects q.1.cls q.1 q.1) = true) : Cond.selects q.1.cls q.1 q.1 ∈ bigW := List.mem_filter.mpr ⟨List.mem_append_left _ (List.mem_map.mpr ⟨q, List.mem_of_getElem? h, rfl⟩), g⟩

theorem tb_1 (n : Nat) {w : Cond} (h : tables_1_1[n]? = some w) : w ∈ tables_1 := (List.mem_append_left _ (List.mem_of_getElem? h))
theorem bw_1 (n : Nat) {w : Cond} (h : tables_1_1[n]? = some w) (g : goodWord w = true) : w ∈ bigW := List.mem_filter.mpr ⟨List.mem_append_right _ (tb_1 n h), g⟩
theorem tb_2 (n : Nat) {w : Cond} (h : tables_1_2[n]? = some w) : w ∈ tables_1 := (List.mem_append_right _ (List.mem_append_left _ (List.mem_of_getElem? h)))
theorem bw_2 (n : Nat) {w : Cond} (h : tables_1_2[n]? = some w) (g : goodWord w = true) : w ∈ bigW := List.mem_filter.mpr ⟨List.mem_append_right _ (tb_2 n h), g⟩
theorem tb_3 (n : Nat) {w : Cond} (h : tables_1_3[n]? = some w) : w ∈ tables_1 := (List.mem_append_right _ (List.mem_append_right _ (List.mem_append_left _ (List.mem_of_getElem? h))))
theorem bw_3 (n : Nat) {w : Cond} (h : tables_1_3[n]? = some w) (g : goodWord w = true) : w ∈ bigW := List.mem_filter.mpr ⟨List.mem_append_right _ (tb_3 n h), g⟩
theorem tb_4 (n : Nat) {w : Cond} (h : tables_1_4[n]? = some w) : w ∈ tables_1 := (List.mem_append_right _ (List.mem_append_right _ (List.mem_append_right _ (List.mem_append_left _ (List.mem_of_getElem? h)))))
theorem bw_4 (n : Nat) {w : Cond} (h : tables_1_4[n]? = some w) (g : goodWord w = true) : w ∈ bigW := List.mem_filter.mpr ⟨List.mem_append_right _ (tb_4 n h), g⟩
theorem tb_5 (n : Nat) {w : Cond} (h : tables_1_5[n]? = some w) : w ∈ tables_1 := (List.mem_append_right _ (List.mem_append_right _ (List.mem_append_right _ (List.mem_append_right _ (List.mem_append_left _ (List.mem_of_getElem? h))))))
theorem bw_5 (n : Nat) {w : Cond} (h : tables_1_5[n]? = some w) (g : goodWord w = true) : w ∈ bigW := List.mem_filter.mpr ⟨List.mem_append_right _ (tb_5 n h), g⟩
theorem tb_6 (n : Nat) {w : Cond} (h : tables_1_6[n]? = some w) : w ∈ tables_1 := (List.mem_append_right _ (List.mem_append_right _ (List.mem_append_right _ (List.mem_append_right _ (List.mem_append_right _ (List.mem_append_left _ (List.mem_of_getElem? h)))))))
theorem bw_6 (n : Nat) {w : Cond} (h : tables_1_6[n]? = some w) (g : goodWord w = true) : w ∈ bigW := List.mem_filter.mpr ⟨List.mem_append_right _ (tb_6 n h), g⟩
theorem tb_7 (n : Nat) {w : Cond} (h : tables_1_7[n]? = some w) : w ∈ tables_1 := (List.mem_append_right _ (List.mem_append_right _ (List.mem_append_right _ (List.mem_append_right _ (List.mem_append_right _ (List.mem_append_right _ (List.mem_append_left _ (List.mem_of_getElem? h))))))))
theorem bw_7 (n : Nat) {w : Cond} (h : tables_1_7[n]? = some w) (g : goodWord w = true) : w ∈ bigW := List.mem_filter.mpr ⟨List.mem_append_right _ (tb_7 n h), g⟩
theorem tb_8 (n : Nat) {w : Cond} (h : tables_1_8[n]? = some w) : w ∈ tables_1 := (List.mem_append_right _ (List.mem_append_right _ (List.mem_append_right _ (List.mem_append_right _ (List.mem_append_right _ (List.mem_append_right _ (List.mem_append_right _ (List.mem_append_left _ (List.mem_of_getElem? h)))))))))
theorem bw_8 (n : Nat) {w : Cond} (h : tables_1_8[n]? = some w) (g : goodWord w = true) : w ∈ bigW := List.mem_filter.mpr ⟨List.mem_append_right _ (tb_8 n h), g⟩
theorem tb_9 (n : Nat) {w : Cond} (h : tables_1_9[n]? = some w) : w ∈ tables_1 := (List.mem_append_right _ (List.mem_append_right _ (List.mem_append_right _ (List.mem_append_right _ (List.mem_append_right _ (List.mem_append_right _ (List.mem_append_right _ (List.mem_append_right _ (List.mem_of_getElem? h)))))))))
theorem bw_9 (n : Nat) {w : Cond} (h : tables_1_9[n]? = some w) (g : goodWord w = true) : w ∈ bigW := List.mem_filter.mpr ⟨List.mem_append_right _ (tb_9 n h), g⟩
def isNest : Cond → Bool
  | .fieldLinkNest _ _ _ _ _ _ => true
  | .methodLinkNest _ _ _ _ => true
  | _ => false
def nestW : List Cond := tables_1.filter isNest
theorem nw_t (n : Nat) {w : Cond} (h : tables_1[n]? = some w) (g : isNest w = true) : w ∈ nestW := List.mem_filter.mpr ⟨List.mem_of_getElem? h, g⟩

theorem nw_1 (n : Nat) {w : Cond} (h : tables_1_1[n]? = some w) (g : isNest w = true) : w ∈ nestW := List.mem_filter.mpr ⟨tb_1 n h, g⟩
theorem nw_2 (n : Nat) {w : Cond} (h : tables_1_2[n]? = some w) (g : isNest w = true) : w ∈ nestW := List.mem_filter.mpr ⟨tb_2 n h, g⟩
theorem nw_3 (n : Nat) {w : Cond} (h : tables_1_3[n]? = some w) (g : isNest w = true) : w ∈ nestW := List.mem_filter.mpr ⟨tb_3 n h, g⟩
theorem nw_4 (n : Nat) {w : Cond} (h : tables_1_4[n]? = some w) (g : isNest w = true) : w ∈ nestW := List.mem_filter.mpr ⟨tb_4 n h, g⟩
theorem nw_5 (n : Nat) {w : Cond} (h : tables_1_5[n]? = some w) (g : isNest w = true) : w ∈ nestW := List.mem_filter.mpr ⟨tb_5 n h, g⟩
theorem nw_6 (n : Nat) {w : Cond} (h : tables_1_6[n]? = some w) (g : isNest w = true) : w ∈ nestW := List.mem_filter.mpr ⟨tb_6 n h, g⟩
theorem nw_7 (n : Nat) {w : Cond} (h : tables_1_7[n]? = some w) (g : isNest w = true) : w ∈ nestW := List.mem_filter.mpr ⟨tb_7 n h, g⟩
theorem nw_8 (n : Nat) {w : Cond} (h : tables_1_8[n]? = some w) (g : isNest w = true) : w ∈ nestW := List.mem_filter.mpr ⟨tb_8 n h, g⟩
theorem nw_9 (n : Nat) {w : Cond} (h : tables_1_9[n]? = some w) (g : isNest w = true) : w ∈ nestW := List.mem_filter.mpr ⟨tb_9 n h, g⟩
def NW (U : State) : Prop := ∀ w ∈ nestW, va_Nw w U
theorem nest_on {w : Cond} (h : isNest w = true) : w.onTables = true := by cases w <;> first | rfl | cases h
theorem NW.same {u U : State} (h : u.vm = U.vm) (g : NW u) : NW U := fun w hw => (g w hw).same (nest_on (List.mem_filter.mp hw).2) h
theorem NW.warm {s U : State} (hW : s.WarmedH U.vm) (g : NW s) : NW U := by
  intro w hw
  have h1 := (List.mem_filter.mp hw).2
  have h2 := g w hw
  cases w <;> first | exact va_Nw.warmF hW h2 | exact va_Nw.warmM hW h2 | cases h1
/-- what the caller hands over, and what it gets back -/
def CWok (E : EE) : Prop := (∀ (A : Nat → Prop) (s U : State) (H : Heap) (locs : List Loc), E.2 A s s.heap → va_S A s.heap H locs → U.heap = H → s.WarmedH U.vm → E.2 A U U.heap) ∧ ∀ (A : Nat → Prop) (u U : State), u.vm = U.vm → u.heap = U.heap → E.2 A u u.heap → E.2 A U U.heap
def Inw (E : EE) (A : Nat → Prop) (S : PS) (U : State) : Prop := (∀ q, U.heap.size ≤ q → A q) ∧ va_P E.1.1 vwCl (wd E S) U.heap ∧ va_K E.1.1 vwCl (tyE E) U ∧ va_D A (wd E S) ∧ TS S ∧ NW U ∧ CWok E ∧ E.2 A U U.heap
def Outw (E : EE) (A : Nat → Prop) (S S1 : PS) (t : State) : Prop := va_P E.1.1 vwCl (wd E S1) t.heap ∧ va_K E.1.1 vwCl (tyE E) t ∧ va_D A (wd E S1) ∧ TS S1 ∧ Ext S S1
abbrev MtI (l : Launch) (y : MethodName) (cd : Cond) (rm : Room) (E : EE) (A : Nat → Prop) (av : List Value) (S : PS) (Q : Int32 → PS → Prop) : Prop := Met l y (cd :: bigW) rm (va_Pc av (Inw E A S)) (va_Qi Q (Outw E A S) A) rm.cells rm.slots A
abbrev MtL (l : Launch) (y : MethodName) (cd : Cond) (rm : Room) (E : EE) (A : Nat → Prop) (av : List Value) (S : PS) (Q : Int64 → PS → Prop) : Prop := Met l y (cd :: bigW) rm (va_Pc av (Inw E A S)) (va_Ql Q (Outw E A S) A) rm.cells rm.slots A
abbrev MtV (l : Launch) (y : MethodName) (cd : Cond) (rm : Room) (E : EE) (A : Nat → Prop) (av : List Value) (S : PS) (Q : PS → Prop) : Prop := Met l y (cd :: bigW) rm (va_Pc av (Inw E A S)) (va_Qv Q (Outw E A S) A) rm.cells rm.slots A
abbrev MtR (l : Launch) (y : MethodName) (cd : Cond) (rm : Room) (E : EE) (A : Nat → Prop) (av : List Value) (S : PS) (Q : Option Nat → PS → Prop) : Prop := Met l y (cd :: bigW) rm (va_Pc av (Inw E A S)) (va_Qq Q (Outw E A S) A) rm.cells rm.slots A
abbrev Cx : Type := Program × Launch × Env × Room × State × MethodId × Array Value × List Frame × Method × Code
abbrev XX : Type := Cx × EE × (Nat → Prop) × Nat × PS × (State → Prop)
abbrev xp (X : XX) : Program := X.1.1
abbrev xl (X : XX) : Launch := X.1.2.1
abbrev xe (X : XX) : Env := X.1.2.2.1
abbrev xR (X : XX) : Room := X.1.2.2.2.1
abbrev xs (X : XX) : State := X.1.2.2.2.2.1
abbrev xm (X : XX) : MethodId := X.1.2.2.2.2.2.1
abbrev xa (X : XX) : Array Value := X.1.2.2.2.2.2.2.1
abbrev xb (X : XX) : List Frame := X.1.2.2.2.2.2.2.2.1
abbrev xM (X : XX) : Method := X.1.2.2.2.2.2.2.2.2.1
abbrev xc (X : XX) : Code := X.1.2.2.2.2.2.2.2.2.2
abbrev xE (X : XX) : EE := X.2.1
abbrev xA (X : XX) : Nat → Prop := X.2.2.1
abbrev xN (X : XX) : Nat := X.2.2.2.1
abbrev x0 (X : XX) : PS := X.2.2.2.2.1
abbrev xQ (X : XX) : State → Prop := X.2.2.2.2.2
/-- the machine at pc, with a state of the pool, locals, a stack: it comes to the end that X asks for -/
def VV (X : XX) (n : Nat × Nat) (S : PS) (lv : List (Nat × Value)) (st : List Value) (pc : Nat) : Prop := TS S → Ext (x0 X) S → ∀ (H : Heap) (locs : List Loc) (ls : Array Slot), va_P (xE X).1.1 vwCl (wd (xE X) S) H → va_D (xA X) (wd (xE X) S) → va_S (xA X) (xs X).heap H locs → lv_has ls (xN X) lv → W (xp X) (xl X) (xe X) (xR X) (xs X) (xm X) (xa X) (xb X) (xM X) (xc X) H locs n.1 n.2 (xQ X) (F0 (xm X) pc ls st)
/-- what holds all through a method's body -/
def Fx (X : XX) (cc : ByteArray) (own : String) (ret : Option FieldType) (rm : Room) : Prop := (xp X).tables.exec = Jvm.exec ∧ (xc X).code = cc ∧ (xc X).maxLocals = xN X ∧ (xs X).vm.findClass own = some (xm X).cls ∧ (∀ w ∈ bigW, w.before (xa X) (xs X) = true) ∧ va_K (xE X).1.1 vwCl (tyE (xE X)) (xs X) ∧ (∀ q, (xs X).heap.size ≤ q → xA X q) ∧ (xM X).locks = false ∧ (xM X).sig.returnType = ret ∧ xR X = rm ∧ NW (xs X) ∧ CWok (xE X) ∧ (xE X).2 (xA X) (xs X) (xs X).heap
theorem Fx.hx {X : XX} {cc : ByteArray} {ow : String} {rt : Option FieldType} {ro : Room} (F : Fx X cc ow rt ro) : (xp X).tables.exec = Jvm.exec := F.1
theorem Fx.hb {X : XX} {cc : ByteArray} {ow : String} {rt : Option FieldType} {ro : Room} (F : Fx X cc ow rt ro) : (xc X).code = cc := F.2.1
theorem Fx.ml {X : XX} {cc : ByteArray} {ow : String} {rt : Option FieldType} {ro : Room} (F : Fx X cc ow rt ro) : (xc X).maxLocals = xN X := F.2.2.1
theorem Fx.own0 {X : XX} {cc : ByteArray} {ow : String} {rt : Option FieldType} {ro : Room} (F : Fx X cc ow rt ro) : (xs X).vm.findClass ow = some (xm X).cls := F.2.2.2.1
theorem Fx.ts {X : XX} {cc : ByteArray} {ow : String} {rt : Option FieldType} {ro : Room} (F : Fx X cc ow rt ro) : ∀ w ∈ bigW, w.before (xa X) (xs X) = true := F.2.2.2.2.1
theorem Fx.K {X : XX} {cc : ByteArray} {ow : String} {rt : Option FieldType} {ro : Room} (F : Fx X cc ow rt ro) : va_K (xE X).1.1 vwCl (tyE (xE X)) (xs X) := F.2.2.2.2.2.1
theorem Fx.A {X : XX} {cc : ByteArray} {ow : String} {rt : Option FieldType} {ro : Room} (F : Fx X cc ow rt ro) : ∀ q, (xs X).heap.size ≤ q → xA X q := F.2.2.2.2.2.2.1
theorem Fx.lk {X : XX} {cc : ByteArray} {ow : String} {rt : Option FieldType} {ro : Room} (F : Fx X cc ow rt ro) : (xM X).locks = false := F.2.2.2.2.2.2.2.1
theorem Fx.rt {X : XX} {cc : ByteArray} {ow : String} {rt : Option FieldType} {ro : Room} (F : Fx X cc ow rt ro) : (xM X).sig.returnType = rt := F.2.2.2.2.2.2.2.2.1
theorem Fx.rm0 {X : XX} {cc : ByteArray} {ow : String} {rt : Option FieldType} {ro : Room} (F : Fx X cc ow rt ro) : xR X = ro := F.2.2.2.2.2.2.2.2.2.1
theorem Fx.nw {X : XX} {cc : ByteArray} {ow : String} {rt : Option FieldType} {ro : Room} (F : Fx X cc ow rt ro) : NW (xs X) := F.2.2.2.2.2.2.2.2.2.2.1
theorem Fx.ok {X : XX} {cc : ByteArray} {ow : String} {rt : Option FieldType} {ro : Room} (F : Fx X cc ow rt ro) : CWok (xE X) := F.2.2.2.2.2.2.2.2.2.2.2.1
theorem Fx.cw {X : XX} {cc : ByteArray} {ow : String} {rt : Option FieldType} {ro : Room} (F : Fx X cc ow rt ro) : (xE X).2 (xA X) (xs X) (xs X).heap := F.2.2.2.2.2.2.2.2.2.2.2.2
theorem Fx.fix {X : XX} {cc : ByteArray} {ow : String} {rt : Option FieldType} {ro : Room} {nL : Nat} (F : Fx X cc ow rt ro) (h : xN X = nL) : CallFix (xp X) (xm X) (xc X) cc nL (xs X) (xa X) bigW ow := ⟨F.hx, F.hb, F.ml.trans h, F.own0, F.ts⟩
def QI (X : XX) (rm : Room) (Q : Int32 → PS → Prop) : Prop := xQ X = MQ (xb X) (va_Qi Q (Outw (xE X) (xA X) (x0 X)) (xA X)) (xa X) (xs X) rm.cells rm.slots (xA X)
def QL (X : XX) (rm : Room) (Q : Int64 → PS → Prop) : Prop := xQ X = MQ (xb X) (va_Ql Q (Outw (xE X) (xA X) (x0 X)) (xA X)) (xa X) (xs X) rm.cells rm.slots (xA X)
def QV (X : XX) (rm : Room) (Q : PS → Prop) : Prop := xQ X = MQ (xb X) (va_Qv Q (Outw (xE X) (xA X) (x0 X)) (xA X)) (xa X) (xs X) rm.cells rm.slots (xA X)
def QR (X : XX) (rm : Room) (Q : Option Nat → PS → Prop) : Prop := xQ X = MQ (xb X) (va_Qq Q (Outw (xE X) (xA X) (x0 X)) (xA X)) (xa X) (xs X) rm.cells rm.slots (xA X)
theorem MtI.of {l : Launch} {y : MethodName} {cc : ByteArray} {maxL : Nat} {ret : Option FieldType} {rm : Room} {E : EE} {A : Nat → Prop} {av : List Value} {S : PS} {Q : Int32 → PS → Prop} (hy : plainName y.cls = true) (hsl : (lg_sl av).length ≤ maxL) (body : ∀ X : XX, Fx X cc y.cls ret rm → QI X rm Q → xN X = maxL → VV X (0, 0) S (lv_args 0 av) [] 0) : MtI l y (.code y cc maxL ret) rm E A av S Q := by
  refine Met.ofW (cc := cc) (maxL := maxL) (ret := ret) hy rfl ?_
  intro p e s m args below meth c s1 B hml hv
  obtain ⟨rfl, hA, hP, hK, hD, hT, hN, hok, hcw⟩ := hv
  have hts := atoms_spec (ws := .code y cc maxL ret :: bigW) B.pre
  have hl := lv_entry av (n := maxL) hsl
  rw [lg_entry_eq]
  exact body ((p, l, e, _, s, m, _, below, meth, c), E, A, maxL, S, MQ below (va_Qi Q (Outw E A S) A) av.toArray s rm.cells rm.slots A) ⟨B.exec, B.bytes, hml, findClass_of_methodNamed B.named, fun w hw => hts w (List.mem_cons_of_mem _ hw), hK, hA, B.notSynchronized, B.returns, rfl, hN, hok, hcw⟩ rfl rfl hT Ext.rf s.heap [] _ hP hD va_S.rf hl
theorem MtL.of {l : Launch} {y : MethodName} {cc : ByteArray} {maxL : Nat} {ret : Option FieldType} {rm : Room} {E : EE} {A : Nat → Prop} {av : List Value} {S : PS} {Q : Int64 → PS → Prop} (hy : plainName y.cls = true) (hsl : (lg_sl av).length ≤ maxL) (body : ∀ X : XX, Fx X cc y.cls ret rm → QL X rm Q → xN X = maxL → VV X (0, 0) S (lv_args 0 av) [] 0) : MtL l y (.code y cc maxL ret) rm E A av S Q := by
  refine Met.ofW (cc := cc) (maxL := maxL) (ret := ret) hy rfl ?_
  intro p e s m args below meth c s1 B hml hv
  obtain ⟨rfl, hA, hP, hK, hD, hT, hN, hok, hcw⟩ := hv
  have hts := atoms_spec (ws := .code y cc maxL ret :: bigW) B.pre
  have hl := lv_entry av (n := maxL) hsl
  rw [lg_entry_eq]
  exact body ((p, l, e, _, s, m, _, below, meth, c), E, A, maxL, S, MQ below (va_Ql Q (Outw E A S) A) av.toArray s rm.cells rm.slots A) ⟨B.exec, B.bytes, hml, findClass_of_methodNamed B.named, fun w hw => hts w (List.mem_cons_of_mem _ hw), hK, hA, B.notSynchronized, B.returns, rfl, hN, hok, hcw⟩ rfl rfl hT Ext.rf s.heap [] _ hP hD va_S.rf hl
theorem MtV.of {l : Launch} {y : MethodName} {cc : ByteArray} {maxL : Nat} {ret : Option FieldType} {rm : Room} {E : EE} {A : Nat → Prop} {av : List Value} {S : PS} {Q : PS → Prop} (hy : plainName y.cls = true) (hsl : (lg_sl av).length ≤ maxL) (body : ∀ X : XX, Fx X cc y.cls ret rm → QV X rm Q → xN X = maxL → VV X (0, 0) S (lv_args 0 av) [] 0) : MtV l y (.code y cc maxL ret) rm E A av S Q := by
  refine Met.ofW (cc := cc) (maxL := maxL) (ret := ret) hy rfl ?_
  intro p e s m args below meth c s1 B hml hv
  obtain ⟨rfl, hA, hP, hK, hD, hT, hN, hok, hcw⟩ := hv
  have hts := atoms_spec (ws := .code y cc maxL ret :: bigW) B.pre
  have hl := lv_entry av (n := maxL) hsl
  rw [lg_entry_eq]
  exact body ((p, l, e, _, s, m, _, below, meth, c), E, A, maxL, S, MQ below (va_Qv Q (Outw E A S) A) av.toArray s rm.cells rm.slots A) ⟨B.exec, B.bytes, hml, findClass_of_methodNamed B.named, fun w hw => hts w (List.mem_cons_of_mem _ hw), hK, hA, B.notSynchronized, B.returns, rfl, hN, hok, hcw⟩ rfl rfl hT Ext.rf s.heap [] _ hP hD va_S.rf hl
theorem MtR.of {l : Launch} {y : MethodName} {cc : ByteArray} {maxL : Nat} {ret : Option FieldType} {rm : Room} {E : EE} {A : Nat → Prop} {av : List Value} {S : PS} {Q : Option Nat → PS → Prop} (hy : plainName y.cls = true) (hsl : (lg_sl av).length ≤ maxL) (body : ∀ X : XX, Fx X cc y.cls ret rm → QR X rm Q → xN X = maxL → VV X (0, 0) S (lv_args 0 av) [] 0) : MtR l y (.code y cc maxL ret) rm E A av S Q := by
  refine Met.ofW (cc := cc) (maxL := maxL) (ret := ret) hy rfl ?_
  intro p e s m args below meth c s1 B hml hv
  obtain ⟨rfl, hA, hP, hK, hD, hT, hN, hok, hcw⟩ := hv
  have hts := atoms_spec (ws := .code y cc maxL ret :: bigW) B.pre
  have hl := lv_entry av (n := maxL) hsl
  rw [lg_entry_eq]
  exact body ((p, l, e, _, s, m, _, below, meth, c), E, A, maxL, S, MQ below (va_Qq Q (Outw E A S) A) av.toArray s rm.cells rm.slots A) ⟨B.exec, B.bytes, hml, findClass_of_methodNamed B.named, fun w hw => hts w (List.mem_cons_of_mem _ hw), hK, hA, B.notSynchronized, B.returns, rfl, hN, hok, hcw⟩ rfl rfl hT Ext.rf s.heap [] _ hP hD va_S.rf hl
theorem it_t {c A B : Prop} [Decidable c] (hc : c) (h : if c then A else B) : A := by rw [if_pos hc] at h; exact h
theorem it_f {c A B : Prop} [Decidable c] (hc : ¬ c) (h : if c then A else B) : B := by rw [if_neg hc] at h; exact h
section VR
variable {X : XX} {cc : ByteArray} {own : String} {ret : Option FieldType} {rm : Room} {n : Nat × Nat} {S : PS} {lv : List (Nat × Value)} {st : List Value} {pc : Nat}
theorem va_K.mv {E : EE} {s t : State} (h : s.WarmedH t.vm) (hK : va_K E.1.1 vwCl (tyE E) s) : va_K E.1.1 vwCl (tyE E) t := va_K.moved h.alike hK
theorem v_iret (F : Fx X cc own (some .int) rm) {Q : Int32 → PS → Prop} (hQ : QI X rm Q) {v : Int32} (h : Q v S) (hn : n.1 ≤ rm.cells ∧ n.2 ≤ rm.slots) (hdg : decode cc pc = .ok (.ireturn, 1)) : VV X n S lv [.int v] pc := by
  intro hT hE H locs ls hP hD hS hl
  rw [hQ]
  exact W.widen hn.1 hn.2 (W.iret (v := v) F.hx F.hb F.rt (fun t ht hW => ⟨⟨v, S, rfl, h, by rw [ht]; exact hP, F.K.mv hW, hD, hT, hE⟩, hS.F ht⟩) hS.2.2 hdg F.lk)
theorem v_zret {ty : FieldType} (F : Fx X cc own (some ty) rm) {Q : Int32 → PS → Prop} (hQ : QI X rm Q) {v : Int32} (hv : narrow ty (.int v) = .int v) (h : Q v S) (hn : n.1 ≤ rm.cells ∧ n.2 ≤ rm.slots) (hdg : decode cc pc = .ok (.ireturn, 1)) : VV X n S lv [.int v] pc := by
  intro hT hE H locs ls hP hD hS hl
  rw [hQ]
  exact W.widen hn.1 hn.2 (W.zret (v := v) F.hx F.hb F.rt hv (fun t ht hW => ⟨⟨v, S, rfl, h, by rw [ht]; exact hP, F.K.mv hW, hD, hT, hE⟩, hS.F ht⟩) hS.2.2 hdg F.lk)
/-- a boolean answer: the machine keeps its lowest bit -/
def nz (v : Int32) : Prop := narrow .boolean (.int v) = .int v
theorem nz0 : nz 0 := by show narrow .boolean (.int 0) = .int 0; decide
theorem nz1 : nz 1 := by show narrow .boolean (.int 1) = .int 1; decide
theorem v_lret (F : Fx X cc own (some .long) rm) {Q : Int64 → PS → Prop} (hQ : QL X rm Q) {v : Int64} (h : Q v S) (hn : n.1 ≤ rm.cells ∧ n.2 ≤ rm.slots) (hdg : decode cc pc = .ok (.lreturn, 1)) : VV X n S lv [.long v] pc := by
  intro hT hE H locs ls hP hD hS hl
  rw [hQ]
  exact W.widen hn.1 hn.2 (W.lret (v := v) F.hx F.hb F.rt (fun t ht hW => ⟨⟨v, S, rfl, h, by rw [ht]; exact hP, F.K.mv hW, hD, hT, hE⟩, hS.F ht⟩) hS.2.2 hdg F.lk)
theorem v_vret (F : Fx X cc own none rm) {Q : PS → Prop} (hQ : QV X rm Q) (h : Q S) (hn : n.1 ≤ rm.cells ∧ n.2 ≤ rm.slots) (hdg : decode cc pc = .ok (.return_, 1)) : VV X n S lv [] pc := by
  intro hT hE H locs ls hP hD hS hl
  rw [hQ]
  exact W.widen hn.1 hn.2 (W.vret F.hx F.hb F.rt (fun t ht hW => ⟨⟨S, rfl, h, by rw [ht]; exact hP, F.K.mv hW, hD, hT, hE⟩, hS.F ht⟩) hS.2.2 hdg F.lk)
theorem v_aret {C : String} (F : Fx X cc own (some (.object C)) rm) {Q : Option Nat → PS → Prop} (hQ : QR X rm Q) {v : Option Nat} (h : Q v S) (hn : n.1 ≤ rm.cells ∧ n.2 ≤ rm.slots) (hdg : decode cc pc = .ok (.areturn, 1)) : VV X n S lv [va_rf v] pc := by
  intro hT hE H locs ls hP hD hS hl
  rw [hQ]
  exact W.widen hn.1 hn.2 (W.aret (v := va_rf v) F.hx F.hb F.rt (Or.inl ⟨_, rfl⟩) (va_rf_or v) (fun t ht hW => ⟨⟨v, S, rfl, h, by rw [ht]; exact hP, F.K.mv hW, hD, hT, hE⟩, hS.F ht⟩) hS.2.2 hdg F.lk)
theorem v_widen {k : Nat × Nat} (h : n.1 ≤ k.1 ∧ n.2 ≤ k.2) (kk : VV X k S lv st pc) : VV X n S lv st pc := fun hT hE H locs ls hP hD hS hl => W.widen h.1 h.2 (kk hT hE H locs ls hP hD hS hl)
theorem v_sub {lv1 : List (Nat × Value)} (ks : List Nat) (h : lv_pick lv ks = lv1) (kk : VV X n S lv1 st pc) : VV X n S lv st pc := fun hT hE H locs ls hP hD hS hl => kk hT hE H locs ls hP hD hS (lv_sub hl ks h)
theorem v_ts (kk : TS S → VV X n S lv st pc) : VV X n S lv st pc := fun hT => kk hT hT
theorem v_iconst (F : Fx X cc own ret rm) {k : Int} {v : Int32} (hdg : decode cc pc = .ok (.iconst k, 1)) (hv : Int32.ofInt k = v) (kk : VV X n S lv (.int v :: st) (pc + 1)) : VV X n S lv (st) pc := fun hT hE H locs ls hP hD hS hl => lv_iconst F.hx F.hb hdg hv (kk hT hE H locs ls hP hD hS hl)
theorem v_bipush (F : Fx X cc own ret rm) {k : Int} {v : Int32} (hdg : decode cc pc = .ok (.bipush k, 2)) (hv : (Int8.ofInt k).toInt32 = v) (kk : VV X n S lv (.int v :: st) (pc + 2)) : VV X n S lv (st) pc := fun hT hE H locs ls hP hD hS hl => lv_bipush F.hx F.hb hdg hv (kk hT hE H locs ls hP hD hS hl)
theorem v_sipush (F : Fx X cc own ret rm) {k : Int} {v : Int32} (hdg : decode cc pc = .ok (.sipush k, 3)) (hv : (Int16.ofInt k).toInt32 = v) (kk : VV X n S lv (.int v :: st) (pc + 3)) : VV X n S lv (st) pc := fun hT hE H locs ls hP hD hS hl => lv_sipush F.hx F.hb hdg hv (kk hT hE H locs ls hP hD hS hl)
theorem v_lconst (F : Fx X cc own ret rm) {k : Fin 2} {v : Int64} (hdg : decode cc pc = .ok (.lconst k, 1)) (hv : Int64.ofNat (k : Nat) = v) (kk : VV X n S lv (.long v :: st) (pc + 1)) : VV X n S lv (st) pc := fun hT hE H locs ls hP hD hS hl => lv_lconst F.hx F.hb hdg hv (kk hT hE H locs ls hP hD hS hl)
theorem v_iload_n (F : Fx X cc own ret rm) {k : Fin 4} {i : Nat} {x : Int32} (hdg : decode cc pc = .ok (.iload_n k, 1)) (q : Nat) (hl1 : lv[q]? = some (i, .int x)) (hi : (k : Nat) = i) (kk : VV X n S lv (.int x :: st) (pc + 1)) : VV X n S lv (st) pc := fun hT hE H locs ls hP hD hS hl => lv_iload_n F.hx F.hb hdg hi (lv_at hl q hl1) (kk hT hE H locs ls hP hD hS hl)
theorem v_iload (F : Fx X cc own ret rm) {i : Nat} {x : Int32} (hdg : decode cc pc = .ok (.iload i, 2)) (q : Nat) (hl1 : lv[q]? = some (i, .int x)) (kk : VV X n S lv (.int x :: st) (pc + 2)) : VV X n S lv (st) pc := fun hT hE H locs ls hP hD hS hl => lv_iload F.hx F.hb hdg (lv_at hl q hl1) (kk hT hE H locs ls hP hD hS hl)
theorem v_istore_n (F : Fx X cc own ret rm) {k : Fin 4} {i : Nat} {x : Int32} {lv1 : List (Nat × Value)} (hdg : decode cc pc = .ok (.istore_n k, 1)) (hi : (k : Nat) = i) (hi2 : i < xN X) (hl1 : (i, Value.int x) :: lv.filter (fun q => !(q.1 == i) && !(q.1 + 1 == i && q.2.category == 2)) = lv1) (kk : VV X n S lv1 st (pc + 1)) : VV X n S lv (.int x :: st) pc := fun hT hE H locs ls hP hD hS hl => lv_istore_n F.hx F.hb hdg hi hl hi2 hl1 (fun ls hl => kk hT hE H locs ls hP hD hS hl)
theorem v_istore (F : Fx X cc own ret rm) {i : Nat} {x : Int32} {lv1 : List (Nat × Value)} (hdg : decode cc pc = .ok (.istore i, 2)) (hi2 : i < xN X) (hl1 : (i, Value.int x) :: lv.filter (fun q => !(q.1 == i) && !(q.1 + 1 == i && q.2.category == 2)) = lv1) (kk : VV X n S lv1 st (pc + 2)) : VV X n S lv (.int x :: st) pc := fun hT hE H locs ls hP hD hS hl => lv_istore F.hx F.hb hdg hl hi2 hl1 (fun ls hl => kk hT hE H locs ls hP hD hS hl)
theorem v_lload_n (F : Fx X cc own ret rm) {k : Fin 4} {i : Nat} {x : Int64} (hdg : decode cc pc = .ok (.lload_n k, 1)) (q : Nat) (hl1 : lv[q]? = some (i, .long x)) (hi : (k : Nat) = i) (kk : VV X n S lv (.long x :: st) (pc + 1)) : VV X n S lv (st) pc := fun hT hE H locs ls hP hD hS hl => lv_lload_n F.hx F.hb hdg hi (lv_at hl q hl1) (kk hT hE H locs ls hP hD hS hl)
theorem v_lload (F : Fx X cc own ret rm) {i : Nat} {x : Int64} (hdg : decode cc pc = .ok (.lload i, 2)) (q : Nat) (hl1 : lv[q]? = some (i, .long x)) (kk : VV X n S lv (.long x :: st) (pc + 2)) : VV X n S lv (st) pc := fun hT hE H locs ls hP hD hS hl => lv_lload F.hx F.hb hdg (lv_at hl q hl1) (kk hT hE H locs ls hP hD hS hl)
theorem v_lstore_n (F : Fx X cc own ret rm) {k : Fin 4} {i : Nat} {x : Int64} {lv1 : List (Nat × Value)} (hdg : decode cc pc = .ok (.lstore_n k, 1)) (hi : (k : Nat) = i) (hi2 : i + 1 < xN X) (hl1 : (i, Value.long x) :: lv.filter (fun q => !(q.1 == i) && (!(q.1 == i + 1) && !(q.1 + 1 == i && q.2.category == 2))) = lv1) (kk : VV X n S lv1 st (pc + 1)) : VV X n S lv (.long x :: st) pc := fun hT hE H locs ls hP hD hS hl => lv_lstore_n F.hx F.hb hdg hi hl hi2 hl1 (fun ls hl => kk hT hE H locs ls hP hD hS hl)
theorem v_lstore (F : Fx X cc own ret rm) {i : Nat} {x : Int64} {lv1 : List (Nat × Value)} (hdg : decode cc pc = .ok (.lstore i, 2)) (hi2 : i + 1 < xN X) (hl1 : (i, Value.long x) :: lv.filter (fun q => !(q.1 == i) && (!(q.1 == i + 1) && !(q.1 + 1 == i && q.2.category == 2))) = lv1) (kk : VV X n S lv1 st (pc + 2)) : VV X n S lv (.long x :: st) pc := fun hT hE H locs ls hP hD hS hl => lv_lstore F.hx F.hb hdg hl hi2 hl1 (fun ls hl => kk hT hE H locs ls hP hD hS hl)
theorem v_aload_n (F : Fx X cc own ret rm) {k : Fin 4} {i : Nat} {x : Nat} (hdg : decode cc pc = .ok (.aload_n k, 1)) (q : Nat) (hl1 : lv[q]? = some (i, .ref x)) (hi : (k : Nat) = i) (kk : VV X n S lv (.ref x :: st) (pc + 1)) : VV X n S lv (st) pc := fun hT hE H locs ls hP hD hS hl => lv_aload_n F.hx F.hb hdg hi (lv_at hl q hl1) (kk hT hE H locs ls hP hD hS hl)
theorem v_aload (F : Fx X cc own ret rm) {i : Nat} {x : Nat} (hdg : decode cc pc = .ok (.aload i, 2)) (q : Nat) (hl1 : lv[q]? = some (i, .ref x)) (kk : VV X n S lv (.ref x :: st) (pc + 2)) : VV X n S lv (st) pc := fun hT hE H locs ls hP hD hS hl => lv_aload F.hx F.hb hdg (lv_at hl q hl1) (kk hT hE H locs ls hP hD hS hl)
theorem v_astore_n (F : Fx X cc own ret rm) {k : Fin 4} {i : Nat} {x : Nat} {lv1 : List (Nat × Value)} (hdg : decode cc pc = .ok (.astore_n k, 1)) (hi : (k : Nat) = i) (hi2 : i < xN X) (hl1 : (i, Value.ref x) :: lv.filter (fun q => !(q.1 == i) && !(q.1 + 1 == i && q.2.category == 2)) = lv1) (kk : VV X n S lv1 st (pc + 1)) : VV X n S lv (.ref x :: st) pc := fun hT hE H locs ls hP hD hS hl => lv_astore_n F.hx F.hb hdg hi hl hi2 hl1 (fun ls hl => kk hT hE H locs ls hP hD hS hl)
theorem v_astore (F : Fx X cc own ret rm) {i : Nat} {x : Nat} {lv1 : List (Nat × Value)} (hdg : decode cc pc = .ok (.astore i, 2)) (hi2 : i < xN X) (hl1 : (i, Value.ref x) :: lv.filter (fun q => !(q.1 == i) && !(q.1 + 1 == i && q.2.category == 2)) = lv1) (kk : VV X n S lv1 st (pc + 2)) : VV X n S lv (.ref x :: st) pc := fun hT hE H locs ls hP hD hS hl => lv_astore F.hx F.hb hdg hl hi2 hl1 (fun ls hl => kk hT hE H locs ls hP hD hS hl)
theorem v_astore_nN (F : Fx X cc own ret rm) {k : Fin 4} {i : Nat} {lv1 : List (Nat × Value)} (hdg : decode cc pc = .ok (.astore_n k, 1)) (hi : (k : Nat) = i) (hi2 : i < xN X) (hl1 : (i, Value.null) :: lv.filter (fun q => !(q.1 == i) && !(q.1 + 1 == i && q.2.category == 2)) = lv1) (kk : VV X n S lv1 st (pc + 1)) : VV X n S lv (.null :: st) pc := fun hT hE H locs ls hP hD hS hl => lv_astore_nN F.hx F.hb hdg hi hl hi2 hl1 (fun ls hl => kk hT hE H locs ls hP hD hS hl)
theorem v_aload_nN (F : Fx X cc own ret rm) {k : Fin 4} {i : Nat} (hdg : decode cc pc = .ok (.aload_n k, 1)) (q : Nat) (hl1 : lv[q]? = some (i, .null)) (hi : (k : Nat) = i) (kk : VV X n S lv (.null :: st) (pc + 1)) : VV X n S lv st pc := fun hT hE H locs ls hP hD hS hl => lv_aload_nN F.hx F.hb hdg hi (lv_at hl q hl1) (kk hT hE H locs ls hP hD hS hl)
theorem v_astoreN (F : Fx X cc own ret rm) {i : Nat} {lv1 : List (Nat × Value)} (hdg : decode cc pc = .ok (.astore i, 2)) (hi2 : i < xN X) (hl1 : (i, Value.null) :: lv.filter (fun q => !(q.1 == i) && !(q.1 + 1 == i && q.2.category == 2)) = lv1) (kk : VV X n S lv1 st (pc + 2)) : VV X n S lv (.null :: st) pc := fun hT hE H locs ls hP hD hS hl => lv_astoreN F.hx F.hb hdg hl hi2 hl1 (fun ls hl => kk hT hE H locs ls hP hD hS hl)
theorem v_aloadN (F : Fx X cc own ret rm) {i : Nat} (hdg : decode cc pc = .ok (.aload i, 2)) (q : Nat) (hl1 : lv[q]? = some (i, .null)) (kk : VV X n S lv (.null :: st) (pc + 2)) : VV X n S lv st pc := fun hT hE H locs ls hP hD hS hl => lv_aloadN F.hx F.hb hdg (lv_at hl q hl1) (kk hT hE H locs ls hP hD hS hl)
theorem v_iinc (F : Fx X cc own ret rm) {i q : Nat} {k : Int} {x v : Int32} {lv1 : List (Nat × Value)} (hdg : decode cc pc = .ok (.iinc i k, 3)) (hq : lv[q]? = some (i, .int x)) (hv : x + Int32.ofInt k = v) (hi2 : i < xN X) (hl1 : (i, Value.int v) :: lv.filter (fun q => !(q.1 == i) && !(q.1 + 1 == i && q.2.category == 2)) = lv1) (kk : VV X n S lv1 st (pc + 3)) : VV X n S lv st pc := fun hT hE H locs ls hP hD hS hl => lv_iinc F.hx F.hb hdg hl hq hv hi2 hl1 (fun ls hl => kk hT hE H locs ls hP hD hS hl)
theorem v_iadd (F : Fx X cc own ret rm) {x y : Int32} (hdg : decode cc pc = .ok (.iadd, 1)) (kk : VV X n S lv (.int (x + y) :: st) (pc + 1)) : VV X n S lv (.int y :: .int x :: st) pc := fun hT hE H locs ls hP hD hS hl => lv_iadd F.hx F.hb hdg (kk hT hE H locs ls hP hD hS hl)
theorem v_isub (F : Fx X cc own ret rm) {x y : Int32} (hdg : decode cc pc = .ok (.isub, 1)) (kk : VV X n S lv (.int (x - y) :: st) (pc + 1)) : VV X n S lv (.int y :: .int x :: st) pc := fun hT hE H locs ls hP hD hS hl => lv_isub F.hx F.hb hdg (kk hT hE H locs ls hP hD hS hl)
theorem v_imul (F : Fx X cc own ret rm) {x y : Int32} (hdg : decode cc pc = .ok (.imul, 1)) (kk : VV X n S lv (.int (x * y) :: st) (pc + 1)) : VV X n S lv (.int y :: .int x :: st) pc := fun hT hE H locs ls hP hD hS hl => lv_imul F.hx F.hb hdg (kk hT hE H locs ls hP hD hS hl)
theorem v_iand (F : Fx X cc own ret rm) {x y : Int32} (hdg : decode cc pc = .ok (.iand, 1)) (kk : VV X n S lv (.int (x &&& y) :: st) (pc + 1)) : VV X n S lv (.int y :: .int x :: st) pc := fun hT hE H locs ls hP hD hS hl => lv_iand F.hx F.hb hdg (kk hT hE H locs ls hP hD hS hl)
theorem v_ior (F : Fx X cc own ret rm) {x y : Int32} (hdg : decode cc pc = .ok (.ior, 1)) (kk : VV X n S lv (.int (x ||| y) :: st) (pc + 1)) : VV X n S lv (.int y :: .int x :: st) pc := fun hT hE H locs ls hP hD hS hl => lv_ior F.hx F.hb hdg (kk hT hE H locs ls hP hD hS hl)
theorem v_ishl (F : Fx X cc own ret rm) {x y : Int32} (hdg : decode cc pc = .ok (.ishl, 1)) (kk : VV X n S lv (.int (x <<< (y &&& 31)) :: st) (pc + 1)) : VV X n S lv (.int y :: .int x :: st) pc := fun hT hE H locs ls hP hD hS hl => lv_ishl F.hx F.hb hdg (kk hT hE H locs ls hP hD hS hl)
theorem v_ishr (F : Fx X cc own ret rm) {x y : Int32} (hdg : decode cc pc = .ok (.ishr, 1)) (kk : VV X n S lv (.int (x >>> (y &&& 31)) :: st) (pc + 1)) : VV X n S lv (.int y :: .int x :: st) pc := fun hT hE H locs ls hP hD hS hl => lv_ishr F.hx F.hb hdg (kk hT hE H locs ls hP hD hS hl)
theorem v_idiv (F : Fx X cc own ret rm) {x y : Int32} (hdg : decode cc pc = .ok (.idiv, 1)) (hne : ¬ y = 0) (kk : VV X n S lv (.int (x / y) :: st) (pc + 1)) : VV X n S lv (.int y :: .int x :: st) pc := fun hT hE H locs ls hP hD hS hl => lv_idiv F.hx F.hb hdg hne (kk hT hE H locs ls hP hD hS hl)
theorem v_irem (F : Fx X cc own ret rm) {x y : Int32} (hdg : decode cc pc = .ok (.irem, 1)) (hne : ¬ y = 0) (kk : VV X n S lv (.int (x - x / y * y) :: st) (pc + 1)) : VV X n S lv (.int y :: .int x :: st) pc := fun hT hE H locs ls hP hD hS hl => lv_irem F.hx F.hb hdg hne (kk hT hE H locs ls hP hD hS hl)
theorem v_ineg (F : Fx X cc own ret rm) {x : Int32} (hdg : decode cc pc = .ok (.ineg, 1)) (kk : VV X n S lv (.int (-x) :: st) (pc + 1)) : VV X n S lv (.int x :: st) pc := fun hT hE H locs ls hP hD hS hl => lv_ineg F.hx F.hb hdg (kk hT hE H locs ls hP hD hS hl)
theorem v_ladd (F : Fx X cc own ret rm) {x y : Int64} (hdg : decode cc pc = .ok (.ladd, 1)) (kk : VV X n S lv (.long (x + y) :: st) (pc + 1)) : VV X n S lv (.long y :: .long x :: st) pc := fun hT hE H locs ls hP hD hS hl => lv_ladd F.hx F.hb hdg (kk hT hE H locs ls hP hD hS hl)
theorem v_lsub (F : Fx X cc own ret rm) {x y : Int64} (hdg : decode cc pc = .ok (.lsub, 1)) (kk : VV X n S lv (.long (x - y) :: st) (pc + 1)) : VV X n S lv (.long y :: .long x :: st) pc := fun hT hE H locs ls hP hD hS hl => lv_lsub F.hx F.hb hdg (kk hT hE H locs ls hP hD hS hl)
theorem v_lmul (F : Fx X cc own ret rm) {x y : Int64} (hdg : decode cc pc = .ok (.lmul, 1)) (kk : VV X n S lv (.long (x * y) :: st) (pc + 1)) : VV X n S lv (.long y :: .long x :: st) pc := fun hT hE H locs ls hP hD hS hl => lv_lmul F.hx F.hb hdg (kk hT hE H locs ls hP hD hS hl)
theorem v_land (F : Fx X cc own ret rm) {x y : Int64} (hdg : decode cc pc = .ok (.land, 1)) (kk : VV X n S lv (.long (x &&& y) :: st) (pc + 1)) : VV X n S lv (.long y :: .long x :: st) pc := fun hT hE H locs ls hP hD hS hl => lv_land F.hx F.hb hdg (kk hT hE H locs ls hP hD hS hl)
theorem v_lor (F : Fx X cc own ret rm) {x y : Int64} (hdg : decode cc pc = .ok (.lor, 1)) (kk : VV X n S lv (.long (x ||| y) :: st) (pc + 1)) : VV X n S lv (.long y :: .long x :: st) pc := fun hT hE H locs ls hP hD hS hl => lv_lor F.hx F.hb hdg (kk hT hE H locs ls hP hD hS hl)
theorem v_ldiv (F : Fx X cc own ret rm) {x y : Int64} (hdg : decode cc pc = .ok (.ldiv, 1)) (hne : ¬ y = 0) (kk : VV X n S lv (.long (x / y) :: st) (pc + 1)) : VV X n S lv (.long y :: .long x :: st) pc := fun hT hE H locs ls hP hD hS hl => lv_ldiv F.hx F.hb hdg hne (kk hT hE H locs ls hP hD hS hl)
theorem v_lrem (F : Fx X cc own ret rm) {x y : Int64} (hdg : decode cc pc = .ok (.lrem, 1)) (hne : ¬ y = 0) (kk : VV X n S lv (.long (x - x / y * y) :: st) (pc + 1)) : VV X n S lv (.long y :: .long x :: st) pc := fun hT hE H locs ls hP hD hS hl => lv_lrem F.hx F.hb hdg hne (kk hT hE H locs ls hP hD hS hl)
theorem v_lneg (F : Fx X cc own ret rm) {x : Int64} (hdg : decode cc pc = .ok (.lneg, 1)) (kk : VV X n S lv (.long (-x) :: st) (pc + 1)) : VV X n S lv (.long x :: st) pc := fun hT hE H locs ls hP hD hS hl => lv_lneg F.hx F.hb hdg (kk hT hE H locs ls hP hD hS hl)
theorem v_i2l (F : Fx X cc own ret rm) {x : Int32} (hdg : decode cc pc = .ok (.i2l, 1)) (kk : VV X n S lv (.long x.toInt64 :: st) (pc + 1)) : VV X n S lv (.int x :: st) pc := fun hT hE H locs ls hP hD hS hl => lv_i2l F.hx F.hb hdg rfl (kk hT hE H locs ls hP hD hS hl)
theorem v_l2i (F : Fx X cc own ret rm) {x : Int64} (hdg : decode cc pc = .ok (.l2i, 1)) (kk : VV X n S lv (.int x.toInt32 :: st) (pc + 1)) : VV X n S lv (.long x :: st) pc := fun hT hE H locs ls hP hD hS hl => lv_l2i F.hx F.hb hdg rfl (kk hT hE H locs ls hP hD hS hl)
theorem v_i2b (F : Fx X cc own ret rm) {x : Int32} (hdg : decode cc pc = .ok (.i2b, 1)) (kk : VV X n S lv (.int x.toInt8.toInt32 :: st) (pc + 1)) : VV X n S lv (.int x :: st) pc := fun hT hE H locs ls hP hD hS hl => lv_i2b F.hx F.hb hdg rfl (kk hT hE H locs ls hP hD hS hl)
theorem v_i2c (F : Fx X cc own ret rm) {x : Int32} (hdg : decode cc pc = .ok (.i2c, 1)) (kk : VV X n S lv (.int (x.toUInt32 % 65536).toInt32 :: st) (pc + 1)) : VV X n S lv (.int x :: st) pc := fun hT hE H locs ls hP hD hS hl => lv_i2c F.hx F.hb hdg rfl (kk hT hE H locs ls hP hD hS hl)
theorem v_lushr (F : Fx X cc own ret rm) {x : Int64} {y : Int32} (hdg : decode cc pc = .ok (.lushr, 1)) (kk : VV X n S lv (.long (x.toUInt64 >>> (y.toInt64.toUInt64 &&& Int64.toUInt64 63)).toInt64 :: st) (pc + 1)) : VV X n S lv (.int y :: .long x :: st) pc := fun hT hE H locs ls hP hD hS hl => lv_lushr F.hx F.hb hdg rfl (kk hT hE H locs ls hP hD hS hl)
theorem v_lshl (F : Fx X cc own ret rm) {x : Int64} {y : Int32} (hdg : decode cc pc = .ok (.lshl, 1)) (kk : VV X n S lv (.long (x <<< (y.toInt64 &&& 63)) :: st) (pc + 1)) : VV X n S lv (.int y :: .long x :: st) pc := fun hT hE H locs ls hP hD hS hl => lv_lshl F.hx F.hb hdg rfl (kk hT hE H locs ls hP hD hS hl)
theorem v_lshr (F : Fx X cc own ret rm) {x : Int64} {y : Int32} (hdg : decode cc pc = .ok (.lshr, 1)) (kk : VV X n S lv (.long (x >>> (y.toInt64 &&& 63)) :: st) (pc + 1)) : VV X n S lv (.int y :: .long x :: st) pc := fun hT hE H locs ls hP hD hS hl => lv_lshr F.hx F.hb hdg rfl (kk hT hE H locs ls hP hD hS hl)
theorem v_dup (F : Fx X cc own ret rm) {va : Value} (hdg : decode cc pc = .ok (.dup, 1)) (hva : va.category = 1) (kk : VV X n S lv (va :: va :: st) (pc + 1)) : VV X n S lv (va :: st) pc := fun hT hE H locs ls hP hD hS hl => lv_dup F.hx F.hb hdg hva (kk hT hE H locs ls hP hD hS hl)
theorem v_pop (F : Fx X cc own ret rm) {va : Value} (hdg : decode cc pc = .ok (.pop, 1)) (hva : va.category = 1) (kk : VV X n S lv (st) (pc + 1)) : VV X n S lv (va :: st) pc := fun hT hE H locs ls hP hD hS hl => lv_pop F.hx F.hb hdg hva (kk hT hE H locs ls hP hD hS hl)
theorem v_dup2 (F : Fx X cc own ret rm) {va vb : Value} (hdg : decode cc pc = .ok (.dup2, 1)) (hva : va.category = 1) (hvb : vb.category = 1) (kk : VV X n S lv (va :: vb :: va :: vb :: st) (pc + 1)) : VV X n S lv (va :: vb :: st) pc := fun hT hE H locs ls hP hD hS hl => lv_dup2_11 F.hx F.hb hdg hva hvb (kk hT hE H locs ls hP hD hS hl)
theorem v_null (F : Fx X cc own ret rm) (hdg : decode cc pc = .ok (.aconst_null, 1)) (kk : VV X n S lv (.null :: st) (pc + 1)) : VV X n S lv (st) pc := fun hT hE H locs ls hP hD hS hl => lv_null F.hx F.hb hdg (kk hT hE H locs ls hP hD hS hl)
theorem v_ldc (F : Fx X cc own ret rm) {i : Nat} {v : Int32} (hc : Cond.constant own i v ∈ bigW) (hdg : decode cc pc = .ok (.ldc i, 2)) (kk : VV X n S lv (.int v :: st) (pc + 2)) : VV X n S lv st pc := fun hT hE H locs ls hP hD hS hl => lv_ldc F.hx F.hb F.own0 (F.ts _ hc) hdg (kk hT hE H locs ls hP hD hS hl)
theorem v_ldcw (F : Fx X cc own ret rm) {i : Nat} {v : Int32} (hc : Cond.constant own i v ∈ bigW) (hdg : decode cc pc = .ok (.ldc_w i, 3)) (kk : VV X n S lv (.int v :: st) (pc + 3)) : VV X n S lv st pc := fun hT hE H locs ls hP hD hS hl => lv_ldcw F.hx F.hb F.own0 (F.ts _ hc) hdg (kk hT hE H locs ls hP hD hS hl)
theorem v_ldc2 (F : Fx X cc own ret rm) {i : Nat} {v : Int64} (hc : Cond.constantLong own i v ∈ bigW) (hdg : decode cc pc = .ok (.ldc2_w i, 3)) (kk : VV X n S lv (.long v :: st) (pc + 3)) : VV X n S lv st pc := fun hT hE H locs ls hP hD hS hl => lv_ldc2 F.hx F.hb F.own0 (F.ts _ hc) hdg (kk hT hE H locs ls hP hD hS hl)
theorem v_goto (F : Fx X cc own ret rm) {off : Int} {tgt : Nat} (hdg : decode cc pc = .ok (.goto off, 3)) (ht : (pc : Int) + off = (tgt : Int)) (kk : VV X n S lv st tgt) : VV X n S lv st pc := fun hT hE H locs ls hP hD hS hl => lv_goto F.hx F.hb hdg ht (kk hT hE H locs ls hP hD hS hl)
theorem v_if_eq (F : Fx X cc own ret rm) {x : Int32} {off : Int} {tgt : Nat} {A B : Prop} (hdg : decode cc pc = .ok (.ifCond .eq off, 3)) (ht : (pc : Int) + off = (tgt : Int)) (h : if x = 0 then A else B) (kt : A → VV X n S lv st tgt) (kf : B → VV X n S lv st (pc + 3)) : VV X n S lv (.int x :: st) pc := fun hT hE H locs ls hP hD hS hl => lv_if_eq F.hx F.hb hdg ht (fun hc => kt (it_t hc h) hT hE H locs ls hP hD hS hl) (fun hc => kf (it_f hc h) hT hE H locs ls hP hD hS hl)
theorem v_icmp_eq (F : Fx X cc own ret rm) {x y : Int32} {off : Int} {tgt : Nat} {A B : Prop} (hdg : decode cc pc = .ok (.if_icmp .eq off, 3)) (ht : (pc : Int) + off = (tgt : Int)) (h : if x = y then A else B) (kt : A → VV X n S lv st tgt) (kf : B → VV X n S lv st (pc + 3)) : VV X n S lv (.int y :: .int x :: st) pc := fun hT hE H locs ls hP hD hS hl => lv_icmp_eq F.hx F.hb hdg ht (fun hc => kt (it_t hc h) hT hE H locs ls hP hD hS hl) (fun hc => kf (it_f hc h) hT hE H locs ls hP hD hS hl)
theorem v_if_ne (F : Fx X cc own ret rm) {x : Int32} {off : Int} {tgt : Nat} {A B : Prop} (hdg : decode cc pc = .ok (.ifCond .ne off, 3)) (ht : (pc : Int) + off = (tgt : Int)) (h : if x = 0 then A else B) (kt : B → VV X n S lv st tgt) (kf : A → VV X n S lv st (pc + 3)) : VV X n S lv (.int x :: st) pc := fun hT hE H locs ls hP hD hS hl => lv_if_ne F.hx F.hb hdg ht (fun hc => kt (it_f hc h) hT hE H locs ls hP hD hS hl) (fun hc => kf (it_t hc h) hT hE H locs ls hP hD hS hl)
theorem v_icmp_ne (F : Fx X cc own ret rm) {x y : Int32} {off : Int} {tgt : Nat} {A B : Prop} (hdg : decode cc pc = .ok (.if_icmp .ne off, 3)) (ht : (pc : Int) + off = (tgt : Int)) (h : if x = y then A else B) (kt : B → VV X n S lv st tgt) (kf : A → VV X n S lv st (pc + 3)) : VV X n S lv (.int y :: .int x :: st) pc := fun hT hE H locs ls hP hD hS hl => lv_icmp_ne F.hx F.hb hdg ht (fun hc => kt (it_f hc h) hT hE H locs ls hP hD hS hl) (fun hc => kf (it_t hc h) hT hE H locs ls hP hD hS hl)
theorem v_if_lt (F : Fx X cc own ret rm) {x : Int32} {off : Int} {tgt : Nat} {A B : Prop} (hdg : decode cc pc = .ok (.ifCond .lt off, 3)) (ht : (pc : Int) + off = (tgt : Int)) (h : if x < 0 then A else B) (kt : A → VV X n S lv st tgt) (kf : B → VV X n S lv st (pc + 3)) : VV X n S lv (.int x :: st) pc := fun hT hE H locs ls hP hD hS hl => lv_if_lt F.hx F.hb hdg ht (fun hc => kt (it_t hc h) hT hE H locs ls hP hD hS hl) (fun hc => kf (it_f hc h) hT hE H locs ls hP hD hS hl)
theorem v_icmp_lt (F : Fx X cc own ret rm) {x y : Int32} {off : Int} {tgt : Nat} {A B : Prop} (hdg : decode cc pc = .ok (.if_icmp .lt off, 3)) (ht : (pc : Int) + off = (tgt : Int)) (h : if x < y then A else B) (kt : A → VV X n S lv st tgt) (kf : B → VV X n S lv st (pc + 3)) : VV X n S lv (.int y :: .int x :: st) pc := fun hT hE H locs ls hP hD hS hl => lv_icmp_lt F.hx F.hb hdg ht (fun hc => kt (it_t hc h) hT hE H locs ls hP hD hS hl) (fun hc => kf (it_f hc h) hT hE H locs ls hP hD hS hl)
theorem v_if_ge (F : Fx X cc own ret rm) {x : Int32} {off : Int} {tgt : Nat} {A B : Prop} (hdg : decode cc pc = .ok (.ifCond .ge off, 3)) (ht : (pc : Int) + off = (tgt : Int)) (h : if 0 ≤ x then A else B) (kt : A → VV X n S lv st tgt) (kf : B → VV X n S lv st (pc + 3)) : VV X n S lv (.int x :: st) pc := fun hT hE H locs ls hP hD hS hl => lv_if_ge F.hx F.hb hdg ht (fun hc => kt (it_t hc h) hT hE H locs ls hP hD hS hl) (fun hc => kf (it_f hc h) hT hE H locs ls hP hD hS hl)
theorem v_icmp_ge (F : Fx X cc own ret rm) {x y : Int32} {off : Int} {tgt : Nat} {A B : Prop} (hdg : decode cc pc = .ok (.if_icmp .ge off, 3)) (ht : (pc : Int) + off = (tgt : Int)) (h : if y ≤ x then A else B) (kt : A → VV X n S lv st tgt) (kf : B → VV X n S lv st (pc + 3)) : VV X n S lv (.int y :: .int x :: st) pc := fun hT hE H locs ls hP hD hS hl => lv_icmp_ge F.hx F.hb hdg ht (fun hc => kt (it_t hc h) hT hE H locs ls hP hD hS hl) (fun hc => kf (it_f hc h) hT hE H locs ls hP hD hS hl)
theorem v_if_gt (F : Fx X cc own ret rm) {x : Int32} {off : Int} {tgt : Nat} {A B : Prop} (hdg : decode cc pc = .ok (.ifCond .gt off, 3)) (ht : (pc : Int) + off = (tgt : Int)) (h : if 0 < x then A else B) (kt : A → VV X n S lv st tgt) (kf : B → VV X n S lv st (pc + 3)) : VV X n S lv (.int x :: st) pc := fun hT hE H locs ls hP hD hS hl => lv_if_gt F.hx F.hb hdg ht (fun hc => kt (it_t hc h) hT hE H locs ls hP hD hS hl) (fun hc => kf (it_f hc h) hT hE H locs ls hP hD hS hl)
theorem v_icmp_gt (F : Fx X cc own ret rm) {x y : Int32} {off : Int} {tgt : Nat} {A B : Prop} (hdg : decode cc pc = .ok (.if_icmp .gt off, 3)) (ht : (pc : Int) + off = (tgt : Int)) (h : if y < x then A else B) (kt : A → VV X n S lv st tgt) (kf : B → VV X n S lv st (pc + 3)) : VV X n S lv (.int y :: .int x :: st) pc := fun hT hE H locs ls hP hD hS hl => lv_icmp_gt F.hx F.hb hdg ht (fun hc => kt (it_t hc h) hT hE H locs ls hP hD hS hl) (fun hc => kf (it_f hc h) hT hE H locs ls hP hD hS hl)
theorem v_if_le (F : Fx X cc own ret rm) {x : Int32} {off : Int} {tgt : Nat} {A B : Prop} (hdg : decode cc pc = .ok (.ifCond .le off, 3)) (ht : (pc : Int) + off = (tgt : Int)) (h : if x ≤ 0 then A else B) (kt : A → VV X n S lv st tgt) (kf : B → VV X n S lv st (pc + 3)) : VV X n S lv (.int x :: st) pc := fun hT hE H locs ls hP hD hS hl => lv_if_le F.hx F.hb hdg ht (fun hc => kt (it_t hc h) hT hE H locs ls hP hD hS hl) (fun hc => kf (it_f hc h) hT hE H locs ls hP hD hS hl)
theorem v_icmp_le (F : Fx X cc own ret rm) {x y : Int32} {off : Int} {tgt : Nat} {A B : Prop} (hdg : decode cc pc = .ok (.if_icmp .le off, 3)) (ht : (pc : Int) + off = (tgt : Int)) (h : if x ≤ y then A else B) (kt : A → VV X n S lv st tgt) (kf : B → VV X n S lv st (pc + 3)) : VV X n S lv (.int y :: .int x :: st) pc := fun hT hE H locs ls hP hD hS hl => lv_icmp_le F.hx F.hb hdg ht (fun hc => kt (it_t hc h) hT hE H locs ls hP hD hS hl) (fun hc => kf (it_f hc h) hT hE H locs ls hP hD hS hl)
theorem lcm_lt {x y : Int64} : lg_cmp x y < 0 ↔ x < y := by
  unfold lg_cmp
  split
  · rename_i h; exact ⟨fun q => absurd q (by decide), fun q => absurd q (Int64.lt_asymm h)⟩
  · split
    · rename_i h1 h2; subst h2; exact ⟨fun q => absurd q (by decide), fun q => absurd q (Int64.lt_irrefl)⟩
    · rename_i h1 h2
      refine ⟨fun _ => ?_, fun _ => by decide⟩
      have h1 : ¬ y < x := h1
      rw [Int64.lt_iff_toInt_lt] at h1 ⊢
      have : x.toInt ≠ y.toInt := fun q => h2 (Int64.toInt_inj.mp q)
      omega
theorem lcm_eq {x y : Int64} : lg_cmp x y = 0 ↔ x = y := by
  unfold lg_cmp
  split
  · rename_i h; exact ⟨fun q => absurd q (by decide), fun q => by subst q; exact absurd h Int64.lt_irrefl⟩
  · split
    · rename_i h1 h2; exact ⟨fun _ => h2, fun _ => rfl⟩
    · rename_i h1 h2; exact ⟨fun q => absurd q (by decide), fun q => absurd q h2⟩
theorem lcm_gt {x y : Int64} : 0 < lg_cmp x y ↔ y < x := by
  unfold lg_cmp
  split
  · rename_i h; exact ⟨fun _ => h, fun _ => by decide⟩
  · rename_i h
    split
    · exact ⟨fun q => absurd q (by decide), fun q => absurd q h⟩
    · exact ⟨fun q => absurd q (by decide), fun q => absurd q h⟩
theorem lcm_ge {x y : Int64} : 0 ≤ lg_cmp x y ↔ y ≤ x := by
  rw [← Int32.not_lt, lcm_lt, Int64.not_lt]
theorem lcm_le {x y : Int64} : lg_cmp x y ≤ 0 ↔ x ≤ y := by
  rw [← Int32.not_lt, lcm_gt, Int64.not_lt]
theorem v_lcmp_eq (F : Fx X cc own ret rm) {x y : Int64} {off : Int} {tgt : Nat} {A B : Prop} (hd0 : decode cc pc = .ok (.lcmp, 1)) (hdg : decode cc (pc + 1) = .ok (.ifCond .eq off, 3)) (ht : ((pc + 1 : Nat) : Int) + off = (tgt : Int)) (h : if x = y then A else B) (kt : A → VV X n S lv st tgt) (kf : B → VV X n S lv st (pc + 4)) : VV X n S lv (.long y :: .long x :: st) pc := fun hT hE H locs ls hP hD hS hl => W.lcmp F.hx F.hb hd0 (lv_if_eq F.hx F.hb hdg ht (fun hc => kt (it_t (lcm_eq.mp hc) h) hT hE H locs ls hP hD hS hl) (fun hc => kf (it_f (fun q => hc (lcm_eq.mpr q)) h) hT hE H locs ls hP hD hS hl))
theorem v_lcmp_ne (F : Fx X cc own ret rm) {x y : Int64} {off : Int} {tgt : Nat} {A B : Prop} (hd0 : decode cc pc = .ok (.lcmp, 1)) (hdg : decode cc (pc + 1) = .ok (.ifCond .ne off, 3)) (ht : ((pc + 1 : Nat) : Int) + off = (tgt : Int)) (h : if x = y then A else B) (kt : B → VV X n S lv st tgt) (kf : A → VV X n S lv st (pc + 4)) : VV X n S lv (.long y :: .long x :: st) pc := fun hT hE H locs ls hP hD hS hl => W.lcmp F.hx F.hb hd0 (lv_if_ne F.hx F.hb hdg ht (fun hc => kt (it_f (fun q => hc (lcm_eq.mpr q)) h) hT hE H locs ls hP hD hS hl) (fun hc => kf (it_t (lcm_eq.mp hc) h) hT hE H locs ls hP hD hS hl))
theorem v_lcmp_lt (F : Fx X cc own ret rm) {x y : Int64} {off : Int} {tgt : Nat} {A B : Prop} (hd0 : decode cc pc = .ok (.lcmp, 1)) (hdg : decode cc (pc + 1) = .ok (.ifCond .lt off, 3)) (ht : ((pc + 1 : Nat) : Int) + off = (tgt : Int)) (h : if x < y then A else B) (kt : A → VV X n S lv st tgt) (kf : B → VV X n S lv st (pc + 4)) : VV X n S lv (.long y :: .long x :: st) pc := fun hT hE H locs ls hP hD hS hl => W.lcmp F.hx F.hb hd0 (lv_if_lt F.hx F.hb hdg ht (fun hc => kt (it_t (lcm_lt.mp hc) h) hT hE H locs ls hP hD hS hl) (fun hc => kf (it_f (fun q => hc (lcm_lt.mpr q)) h) hT hE H locs ls hP hD hS hl))
theorem v_lcmp_ge (F : Fx X cc own ret rm) {x y : Int64} {off : Int} {tgt : Nat} {A B : Prop} (hd0 : decode cc pc = .ok (.lcmp, 1)) (hdg : decode cc (pc + 1) = .ok (.ifCond .ge off, 3)) (ht : ((pc + 1 : Nat) : Int) + off = (tgt : Int)) (h : if y ≤ x then A else B) (kt : A → VV X n S lv st tgt) (kf : B → VV X n S lv st (pc + 4)) : VV X n S lv (.long y :: .long x :: st) pc := fun hT hE H locs ls hP hD hS hl => W.lcmp F.hx F.hb hd0 (lv_if_ge F.hx F.hb hdg ht (fun hc => kt (it_t (lcm_ge.mp hc) h) hT hE H locs ls hP hD hS hl) (fun hc => kf (it_f (fun q => hc (lcm_ge.mpr q)) h) hT hE H locs ls hP hD hS hl))
theorem v_lcmp_gt (F : Fx X cc own ret rm) {x y : Int64} {off : Int} {tgt : Nat} {A B : Prop} (hd0 : decode cc pc = .ok (.lcmp, 1)) (hdg : decode cc (pc + 1) = .ok (.ifCond .gt off, 3)) (ht : ((pc + 1 : Nat) : Int) + off = (tgt : Int)) (h : if y < x then A else B) (kt : A → VV X n S lv st tgt) (kf : B → VV X n S lv st (pc + 4)) : VV X n S lv (.long y :: .long x :: st) pc := fun hT hE H locs ls hP hD hS hl => W.lcmp F.hx F.hb hd0 (lv_if_gt F.hx F.hb hdg ht (fun hc => kt (it_t (lcm_gt.mp hc) h) hT hE H locs ls hP hD hS hl) (fun hc => kf (it_f (fun q => hc (lcm_gt.mpr q)) h) hT hE H locs ls hP hD hS hl))
theorem v_lcmp_le (F : Fx X cc own ret rm) {x y : Int64} {off : Int} {tgt : Nat} {A B : Prop} (hd0 : decode cc pc = .ok (.lcmp, 1)) (hdg : decode cc (pc + 1) = .ok (.ifCond .le off, 3)) (ht : ((pc + 1 : Nat) : Int) + off = (tgt : Int)) (h : if x ≤ y then A else B) (kt : A → VV X n S lv st tgt) (kf : B → VV X n S lv st (pc + 4)) : VV X n S lv (.long y :: .long x :: st) pc := fun hT hE H locs ls hP hD hS hl => W.lcmp F.hx F.hb hd0 (lv_if_le F.hx F.hb hdg ht (fun hc => kt (it_t (lcm_le.mp hc) h) hT hE H locs ls hP hD hS hl) (fun hc => kf (it_f (fun q => hc (lcm_le.mpr q)) h) hT hE H locs ls hP hD hS hl))
theorem v_topi {x : Int32} (kk : ∀ y : Int32, y = x → VV X n S lv (.int y :: st) pc) : VV X n S lv (.int x :: st) pc := kk x rfl
theorem v_topl {x : Int64} (kk : ∀ y : Int64, y = x → VV X n S lv (.long y :: st) pc) : VV X n S lv (.long x :: st) pc := kk x rfl
theorem v_case {x c : Int32} {A B : Prop} {n1 : Nat × Nat} {stk : List Value} (h : if x = c then A else B) (k1 : x = c → A → VV X n1 S lv stk pc) (k2 : ¬ x = c → B → VV X n1 S lv stk pc) : VV X n1 S lv stk pc := by
  by_cases hc : x = c
  · exact k1 hc (it_t hc h)
  · exact k2 hc (it_f hc h)
theorem v_lookup (F : Fx X cc own ret rm) {dflt : Int} {ps : Array (Int × Int)} {len : Nat} {x : Int32} {off : Int} {tgt : Nat} (hdg : decode cc pc = .ok (.lookupswitch dflt ps, len)) (hp : (ps.toList.zip (ps.toList.drop 1)).all (fun (a, next) => a.1 < next.1) = true) (ho : Op.lookupswitch.offset ps.toList dflt x.toInt = off) (ht : (pc : Int) + off = (tgt : Int)) (kk : VV X n S lv st tgt) : VV X n S lv (.int x :: st) pc := fun hT hE H locs ls hP hD hS hl => lv_lookup F.hx F.hb hdg hp ho ht (kk hT hE H locs ls hP hD hS hl)
theorem v_lookupL (F : Fx X cc own ret rm) {dflt : Int} {ps : Array (Int × Int)} {l : List (Int × Int)} {len : Nat} {x : Int32} {off : Int} {tgt : Nat} (hdg : decode cc pc = .ok (.lookupswitch dflt ps, len)) (hl0 : ps.toList = l) (hp : (l.zip (l.drop 1)).all (fun (a, next) => a.1 < next.1) = true) (ho : Op.lookupswitch.offset l dflt x.toInt = off) (ht : (pc : Int) + off = (tgt : Int)) (kk : VV X n S lv st tgt) : VV X n S lv (.int x :: st) pc := by subst hl0; exact v_lookup F hdg hp ho ht kk
theorem v_tableOut (F : Fx X cc own ret rm) {dflt lo hi : Int} {offs : Array Int} {len : Nat} {x : Int32} {tgt : Nat} (hdg : decode cc pc = .ok (.tableswitch dflt lo hi offs, len)) (h : x.toInt < lo ∨ hi < x.toInt) (ht : (pc : Int) + dflt = (tgt : Int)) (kk : VV X n S lv st tgt) : VV X n S lv (.int x :: st) pc := fun hT hE H locs ls hP hD hS hl => lv_tableOut F.hx F.hb hdg h ht (kk hT hE H locs ls hP hD hS hl)
theorem v_tableIn (F : Fx X cc own ret rm) {dflt lo hi : Int} {offs : Array Int} {len : Nat} {x : Int32} {off : Int} {tgt : Nat} (hdg : decode cc pc = .ok (.tableswitch dflt lo hi offs, len)) (h1 : ¬ x.toInt < lo) (h2 : ¬ hi < x.toInt) (ho : offs[(x.toInt - lo).toNat]? = some off) (ht : (pc : Int) + off = (tgt : Int)) (kk : VV X n S lv st tgt) : VV X n S lv (.int x :: st) pc := fun hT hE H locs ls hP hD hS hl => lv_tableIn F.hx F.hb hdg h1 h2 ho ht (kk hT hE H locs ls hP hD hS hl)
theorem v_ifnull (F : Fx X cc own ret rm) {x : Nat} {off : Int} (hdg : decode cc pc = .ok (.ifnull off, 3)) (kk : VV X n S lv st (pc + 3)) : VV X n S lv (.ref x :: st) pc := fun hT hE H locs ls hP hD hS hl => lv_ifnull F.hx F.hb hdg (kk hT hE H locs ls hP hD hS hl)
theorem v_ifnonnull (F : Fx X cc own ret rm) {x : Nat} {off : Int} {tgt : Nat} (hdg : decode cc pc = .ok (.ifnonnull off, 3)) (ht : (pc : Int) + off = (tgt : Int)) (kk : VV X n S lv st tgt) : VV X n S lv (.ref x :: st) pc := fun hT hE H locs ls hP hD hS hl => lv_ifnonnull F.hx F.hb hdg ht (kk hT hE H locs ls hP hD hS hl)
theorem v_ifnullN (F : Fx X cc own ret rm) {off : Int} {tgt : Nat} (hdg : decode cc pc = .ok (.ifnull off, 3)) (ht : (pc : Int) + off = (tgt : Int)) (kk : VV X n S lv st tgt) : VV X n S lv (.null :: st) pc := fun hT hE H locs ls hP hD hS hl => lv_ifnullN F.hx F.hb hdg ht (kk hT hE H locs ls hP hD hS hl)
theorem v_ifnonnullN (F : Fx X cc own ret rm) {off : Int} (hdg : decode cc pc = .ok (.ifnonnull off, 3)) (kk : VV X n S lv st (pc + 3)) : VV X n S lv (.null :: st) pc := fun hT hE H locs ls hP hD hS hl => lv_ifnonnullN F.hx F.hb hdg (kk hT hE H locs ls hP hD hS hl)
end VR
