theorem MtR.ofJ {l : Launch} {y : MethodName} {cc : ByteArray} {maxL : Nat} {ret : Option FieldType} {rm : Room} {E : EE} {A : Nat → Prop} {av : List Value} {S : PS} {Q : Option Nat → PS → Prop} (hy : plainFor y = true) (hsl : (lg_sl av).length ≤ maxL) (body : ∀ X : XX, Fx X cc y.cls ret rm → QR X rm Q → xN X = maxL → VV X (0, 0) S (lv_args 0 av) [] 0) : MtR l y (.code y cc maxL ret) rm E A av S Q := by
  refine Met.ofWF (cc := cc) (maxL := maxL) (ret := ret) hy rfl ?_
  intro p e s m args below meth c s1 B hml hv
  obtain ⟨rfl, hA, hP, hK, hD, hT, hN, hok, hcw⟩ := hv
  have hts := atoms_spec (ws := .code y cc maxL ret :: bigW) B.pre
  have hl := lv_entry av (n := maxL) hsl
  rw [lg_entry_eq]
  exact body ((p, l, e, _, s, m, _, below, meth, c), E, A, maxL, S, MQ below (va_Qq Q (Outw E A S) A) av.toArray s rm.cells rm.slots A) ⟨B.exec, B.bytes, hml, findClass_of_methodNamed B.named, fun w hw => hts w (List.mem_cons_of_mem _ hw), hK, hA, B.notSynchronized, B.returns, rfl, hN, hok, hcw⟩ rfl rfl hT Ext.rf s.heap [] _ hP hD va_S.rf hl
theorem v_aretA {X : XX} {cc : ByteArray} {own : String} {rm : Room} {n : Nat × Nat} {S : PS} {lv : List (Nat × Value)} {pc : Nat} {T : FieldType} (F : Fx X cc own (some (.array T)) rm) {Q : Option Nat → PS → Prop} (hQ : QR X rm Q) {q : Nat} (h : Q (some q) S) (hn : n.1 ≤ rm.cells ∧ n.2 ≤ rm.slots) (hdg : decode cc pc = .ok (.areturn, 1)) : VV X n S lv [.ref q] pc := by
  intro hT hE H locs ls hP hD hS hl
  rw [hQ]
  exact W.widen hn.1 hn.2 (W.aret (v := .ref q) F.hx F.hb F.rt (Or.inr ⟨_, rfl⟩) (Or.inr ⟨q, rfl⟩) (fun t ht hW => ⟨⟨some q, S, rfl, h, by rw [ht]; exact hP, F.K.mv hW, hD, hT, hE⟩, hS.F ht⟩) hS.2.2 hdg F.lk)
