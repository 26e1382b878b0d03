def nA (S : PS) (r q N : Nat) : PS := (S.1 ++ [q], (fun a => if a = q then r else S.2.1 a), S.2.2.1, S.2.2.2.1, S.2.2.2.2.1, (fun a => if a = q then N else S.2.2.2.2.2.1 a), (fun r1 a i => if a = q then 0 else S.2.2.2.2.2.2.1 r1 a i), (fun r1 a i => if a = q then 0 else S.2.2.2.2.2.2.2.1 r1 a i), (fun r1 a i => if a = q then none else S.2.2.2.2.2.2.2.2 r1 a i))
def nO (S : PS) (k q : Nat) : PS := (S.1 ++ [q], (fun a => if a = q then k else S.2.1 a), (fun j a => if a = q then 0 else S.2.2.1 j a), (fun j a => if a = q then 0 else S.2.2.2.1 j a), (fun j a => if a = q then none else S.2.2.2.2.1 j a), S.2.2.2.2.2)
theorem in_app {L : List Nat} {q a : Nat} (h : a ∈ L ++ [q]) : a ∈ L ∨ a = q := (List.mem_append.mp h).imp id (fun h => List.mem_singleton.mp h)
theorem ne_of_in {L : List Nat} {q a : Nat} (hq : q ∉ L) (h : a ∈ L) : a ≠ q := fun e => hq (e ▸ h)
theorem Ext.mkA {S : PS} {r q N : Nat} (hq : q ∉ pL S) : Ext S (nA S r q N) := fun a h => ⟨List.mem_append_left _ h, if_neg (ne_of_in hq h), if_neg (ne_of_in hq h)⟩
theorem Ext.mkO {S : PS} {k q : Nat} (hq : q ∉ pL S) : Ext S (nO S k q) := fun a h => ⟨List.mem_append_left _ h, if_neg (ne_of_in hq h), rfl⟩
theorem Rf.mkA {S : PS} {r q N : Nat} : Rf (nA S r q N) q r := ⟨List.mem_append_right _ (List.mem_singleton.mpr rfl), if_pos rfl⟩
theorem Rf.mkO {S : PS} {k q : Nat} : Rf (nO S k q) q k := ⟨List.mem_append_right _ (List.mem_singleton.mpr rfl), if_pos rfl⟩
theorem TS.mkA {S : PS} {r q N : Nat} (h : TS S) (hq : q ∉ pL S) (hr : 10 ≤ r) : TS (nA S r q N) := by
  refine ⟨fun a j b ha hk h1 h2 hb => ?_, fun a i b ha hk hb => ?_⟩
  · rcases in_app ha with hL | rfl
    · have e : pK (nA S r q N) a = pK S a := if_neg (ne_of_in hq hL)
      rw [e] at hk h1 h2
      exact (h.1 a j b hL hk h1 h2 hb).tr (Ext.mkA hq)
    · have e : pK (nA S r a N) a = r := if_pos rfl
      rw [e] at hk; omega
  · rcases in_app ha with hL | rfl
    · have e : pK (nA S r q N) a = pK S a := if_neg (ne_of_in hq hL)
      have e2 : aR (nA S r q N) 13 a i = aR S 13 a i := if_neg (ne_of_in hq hL)
      rw [e] at hk; rw [e2] at hb
      exact (h.2 a i b hL hk hb).tr (Ext.mkA hq)
    · have e2 : aR (nA S r a N) 13 a i = none := if_pos rfl
      rw [e2] at hb; cases hb
theorem TS.mkO {S : PS} {k q : Nat} (h : TS S) (hq : q ∉ pL S) (hk10 : k < 10) : TS (nO S k q) := by
  refine ⟨fun a j b ha hk h1 h2 hb => ?_, fun a i b ha hk hb => ?_⟩
  · rcases in_app ha with hL | rfl
    · have e : pK (nO S k q) a = pK S a := if_neg (ne_of_in hq hL)
      have e2 : fR (nO S k q) j a = fR S j a := if_neg (ne_of_in hq hL)
      rw [e] at hk h1 h2; rw [e2] at hb
      exact (h.1 a j b hL hk h1 h2 hb).tr (Ext.mkO hq)
    · have e2 : fR (nO S k a) j a = none := if_pos rfl
      rw [e2] at hb; cases hb
  · rcases in_app ha with hL | rfl
    · have e : pK (nO S k q) a = pK S a := if_neg (ne_of_in hq hL)
      rw [e] at hk
      exact (h.2 a i b hL hk hb).tr (Ext.mkO hq)
    · have e : pK (nO S k a) a = k := if_pos rfl
      rw [e] at hk; omega
theorem nA_i {S : PS} {r q N r1 i : Nat} : aI (nA S r q N) r1 q i = 0 := if_pos rfl
theorem nA_l {S : PS} {r q N r1 i : Nat} : aL (nA S r q N) r1 q i = 0 := if_pos rfl
theorem nA_r {S : PS} {r q N r1 i : Nat} : aR (nA S r q N) r1 q i = none := if_pos rfl
theorem nO_i {S : PS} {k q j : Nat} : fI (nO S k q) j q = 0 := if_pos rfl
theorem nO_l {S : PS} {k q j : Nat} : fL (nO S k q) j q = 0 := if_pos rfl
theorem nO_r {S : PS} {k q j : Nat} : fR (nO S k q) j q = none := if_pos rfl
theorem wd_push {E : EE} {S S1 : PS} {q : Nat} {e : va_E} (hq : q ∉ pL S) (hL : pL S1 = pL S ++ [q]) (he : cel E S1 q = e) (ho : ∀ b, b ≠ q → cel E S1 b = cel E S b) : wd E S ++ [(q, e)] = wd E S1 := by
  unfold wd
  rw [va_pl_push hq, hL]
  refine va_pl_congr fun b => ?_
  by_cases hb : b = q
  · subst hb; rw [va_up_self, he]
  · rw [va_up_ne _ _ hb, ho b hb]
theorem wd_nA {E : EE} {S : PS} {r q N : Nat} (hq : q ∉ pL S) (hr : 10 ≤ r) : wd E S ++ [(q, .inl (E.1.2 (rE r), N, cont (nA S r q N) q r))] = wd E (nA S r q N) := by
  refine wd_push hq rfl ?_ (fun b hb => cel_other (if_neg hb) (if_neg hb) (fun j => rfl) (fun r1 => ?_))
  · rw [cel_arr (S := nA S r q N) (r := r) (if_pos rfl) hr]
    have : aN (nA S r q N) q = N := if_pos rfl
    rw [this]
  · have h1 : aI (nA S r q N) r1 b = aI S r1 b := by funext i; exact if_neg hb
    have h2 : aL (nA S r q N) r1 b = aL S r1 b := by funext i; exact if_neg hb
    have h3 : aR (nA S r q N) r1 b = aR S r1 b := by funext i; exact if_neg hb
    unfold cont; rw [h1, h2, h3]
theorem wd_nO {E : EE} {S : PS} {k q : Nat} (hq : q ∉ pL S) (hk : k < 10) : wd E S ++ [(q, .inr (k, flds (nO S k q) q k))] = wd E (nO S k q) := by
  refine wd_push hq rfl ?_ (fun b hb => cel_other (if_neg hb) rfl (fun j => ?_) (fun r1 => rfl))
  · rw [cel_obj (S := nO S k q) (k := k) (if_pos rfl) hk]
  · have h1 : fI (nO S k q) j b = fI S j b := if_neg hb
    have h2 : fL (nO S k q) j b = fL S j b := if_neg hb
    have h3 : fR (nO S k q) j b = fR S j b := if_neg hb
    unfold fval; rw [h1, h2, h3]
def XE (X : XX) (l : Launch) (E : EE) (A : Nat → Prop) (maxL : Nat) (nm : String) : Prop := xl X = l ∧ xE X = E ∧ xA X = A ∧ xN X = maxL ∧ (xM X).name = nm
theorem MtI.of2 {l : Launch} {y : MethodName} {cc : ByteArray} {maxL : Nat} {ret : Option FieldType} {rm : Room} {E : EE} {A : Nat → Prop} {av : List Value} {S : PS} {Q : Int32 → PS → Prop} (hy : plainName y.cls = true) (hsl : (lg_sl av).length ≤ maxL) (body : ∀ X : XX, Fx X cc y.cls ret rm → QI X rm Q → XE X l E A maxL y.name → VV X (0, 0) S (lv_args 0 av) [] 0) : MtI l y (.code y cc maxL ret) rm E A av S Q := by
  refine Met.ofW (cc := cc) (maxL := maxL) (ret := ret) hy rfl ?_
  intro p e s m args below meth c s1 B hml hv
  obtain ⟨rfl, hA, hP, hK, hD, hT, hN, hok, hcw⟩ := hv
  have hts := atoms_spec (ws := .code y cc maxL ret :: bigW) B.pre
  have hl := lv_entry av (n := maxL) hsl
  rw [lg_entry_eq]
  exact body ((p, l, e, _, s, m, _, below, meth, c), E, A, maxL, S, MQ below (va_Qi Q (Outw E A S) A) av.toArray s rm.cells rm.slots A) ⟨B.exec, B.bytes, hml, findClass_of_methodNamed B.named, fun w hw => hts w (List.mem_cons_of_mem _ hw), hK, hA, B.notSynchronized, B.returns, rfl, hN, hok, hcw⟩ rfl ⟨rfl, rfl, rfl, rfl, (name_of_methodNamed B.named B.method).1⟩ hT Ext.rf s.heap [] _ hP hD va_S.rf hl
theorem MtL.of2 {l : Launch} {y : MethodName} {cc : ByteArray} {maxL : Nat} {ret : Option FieldType} {rm : Room} {E : EE} {A : Nat → Prop} {av : List Value} {S : PS} {Q : Int64 → PS → Prop} (hy : plainName y.cls = true) (hsl : (lg_sl av).length ≤ maxL) (body : ∀ X : XX, Fx X cc y.cls ret rm → QL X rm Q → XE X l E A maxL y.name → VV X (0, 0) S (lv_args 0 av) [] 0) : MtL l y (.code y cc maxL ret) rm E A av S Q := by
  refine Met.ofW (cc := cc) (maxL := maxL) (ret := ret) hy rfl ?_
  intro p e s m args below meth c s1 B hml hv
  obtain ⟨rfl, hA, hP, hK, hD, hT, hN, hok, hcw⟩ := hv
  have hts := atoms_spec (ws := .code y cc maxL ret :: bigW) B.pre
  have hl := lv_entry av (n := maxL) hsl
  rw [lg_entry_eq]
  exact body ((p, l, e, _, s, m, _, below, meth, c), E, A, maxL, S, MQ below (va_Ql Q (Outw E A S) A) av.toArray s rm.cells rm.slots A) ⟨B.exec, B.bytes, hml, findClass_of_methodNamed B.named, fun w hw => hts w (List.mem_cons_of_mem _ hw), hK, hA, B.notSynchronized, B.returns, rfl, hN, hok, hcw⟩ rfl ⟨rfl, rfl, rfl, rfl, (name_of_methodNamed B.named B.method).1⟩ hT Ext.rf s.heap [] _ hP hD va_S.rf hl
theorem MtV.of2 {l : Launch} {y : MethodName} {cc : ByteArray} {maxL : Nat} {ret : Option FieldType} {rm : Room} {E : EE} {A : Nat → Prop} {av : List Value} {S : PS} {Q : PS → Prop} (hy : plainName y.cls = true) (hsl : (lg_sl av).length ≤ maxL) (body : ∀ X : XX, Fx X cc y.cls ret rm → QV X rm Q → XE X l E A maxL y.name → VV X (0, 0) S (lv_args 0 av) [] 0) : MtV l y (.code y cc maxL ret) rm E A av S Q := by
  refine Met.ofW (cc := cc) (maxL := maxL) (ret := ret) hy rfl ?_
  intro p e s m args below meth c s1 B hml hv
  obtain ⟨rfl, hA, hP, hK, hD, hT, hN, hok, hcw⟩ := hv
  have hts := atoms_spec (ws := .code y cc maxL ret :: bigW) B.pre
  have hl := lv_entry av (n := maxL) hsl
  rw [lg_entry_eq]
  exact body ((p, l, e, _, s, m, _, below, meth, c), E, A, maxL, S, MQ below (va_Qv Q (Outw E A S) A) av.toArray s rm.cells rm.slots A) ⟨B.exec, B.bytes, hml, findClass_of_methodNamed B.named, fun w hw => hts w (List.mem_cons_of_mem _ hw), hK, hA, B.notSynchronized, B.returns, rfl, hN, hok, hcw⟩ rfl ⟨rfl, rfl, rfl, rfl, (name_of_methodNamed B.named B.method).1⟩ hT Ext.rf s.heap [] _ hP hD va_S.rf hl
theorem MtR.of2 {l : Launch} {y : MethodName} {cc : ByteArray} {maxL : Nat} {ret : Option FieldType} {rm : Room} {E : EE} {A : Nat → Prop} {av : List Value} {S : PS} {Q : Option Nat → PS → Prop} (hy : plainName y.cls = true) (hsl : (lg_sl av).length ≤ maxL) (body : ∀ X : XX, Fx X cc y.cls ret rm → QR X rm Q → XE X l E A maxL y.name → VV X (0, 0) S (lv_args 0 av) [] 0) : MtR l y (.code y cc maxL ret) rm E A av S Q := by
  refine Met.ofW (cc := cc) (maxL := maxL) (ret := ret) hy rfl ?_
  intro p e s m args below meth c s1 B hml hv
  obtain ⟨rfl, hA, hP, hK, hD, hT, hN, hok, hcw⟩ := hv
  have hts := atoms_spec (ws := .code y cc maxL ret :: bigW) B.pre
  have hl := lv_entry av (n := maxL) hsl
  rw [lg_entry_eq]
  exact body ((p, l, e, _, s, m, _, below, meth, c), E, A, maxL, S, MQ below (va_Qq Q (Outw E A S) A) av.toArray s rm.cells rm.slots A) ⟨B.exec, B.bytes, hml, findClass_of_methodNamed B.named, fun w hw => hts w (List.mem_cons_of_mem _ hw), hK, hA, B.notSynchronized, B.returns, rfl, hN, hok, hcw⟩ rfl ⟨rfl, rfl, rfl, rfl, (name_of_methodNamed B.named B.method).1⟩ hT Ext.rf s.heap [] _ hP hD va_S.rf hl
section VN
variable {X : XX} {cc : ByteArray} {own : String} {ret : Option FieldType} {rm : Room} {n : Nat × Nat} {S : PS} {lv : List (Nat × Value)} {st : List Value} {pc idx k t a : Nat}
theorem v_obj (F : Fx X cc own ret rm) (hl : Cond.methodLink own idx objectInit ∈ bigW) (hi : Cond.instanceMethod objectInit ∈ bigW) (hc : Cond.code objectInit ⟨#[0xb1]⟩ 1 none ∈ bigW) (hr : 1 ≤ rm.frames) (hlo : (st.map fun v => v.category).sum + 12 ≤ rm.locals) (hdg : decode cc pc = .ok (.invokespecial idx, 3)) (kk : VV X n S lv st (pc + 3)) : VV X n S lv (.ref a :: st) pc := fun hT hE H locs ls hP hD hS hl1 => W.objInit F.hx F.hb F.own0 (F.ts _ hl) (F.ts _ hi) (F.ts _ hc) rfl (hl1.1.trans F.ml.symm) rfl hdg (by rw [F.rm0]; exact hr) (by rw [F.rm0]; show 2 * 0 + _ + 12 ≤ _; omega) (kk hT hE H locs ls hP hD hS hl1)
/-- an array class is known by its name -/
theorem arr_same (F : Fx X cc own ret rm) {cA cB : ClassId} {ty : FieldType} {i : Nat} (hi : (tyE (xE X))[i]? = some (cB, ty)) (hne : ∀ C, ty ≠ .object C) {tys : List (ClassId × FieldType)} (hK : va_K (xE X).1.1 vwCl (tys ++ [(cA, ty)]) (xs X)) : cA = cB := by
  have h1 := (hK.2 tys.length (cA, ty) (by simp)).2
  have h2 := (F.K.2 i (cB, ty) hi).2
  cases ty <;> first | exact absurd rfl (hne _) | exact Option.some.inj (h1.symm.trans h2)
theorem v_newa (F : Fx X cc own ret rm) {atype : ArrayType} {ty : FieldType} (hty : newarray.typeOf atype = ty) (hw : Cond.arrayClass (newarray.typeOf atype) ∈ bigW) {r N : Nat} {x : Int32} (hr : 10 ≤ r) (hi : (tyE (xE X))[rE r]? = some ((xE X).1.2 (rE r), ty)) (hne : ∀ C, ty ≠ .object C) (hz : ∀ (S : PS) (q : Nat) (cA : ClassId), vp_cell cA (N, cont (nA S r q N) q r) = arrV cA N (fun _ => defaultValue ty)) (hx0 : ¬ x < 0) (hxN : x.toNatClampNeg = N) (hb : N * componentBytes ty ≤ 536870912) (hc : n.1 + 1 ≤ rm.cells ∧ n.2 + N ≤ rm.slots) (hdg : decode cc pc = .ok (.newarray atype, 2)) {Pp : Nat → PS → Prop} (h : ∀ q, q ∉ pL S → ∀ S1, S1 = nA S r q N → Pp q S1) (kk : ∀ (q : Nat) (S1 : PS), Pp q S1 → Ext S S1 → Rf S1 q r → VV X (n.1 + 1, n.2 + N) S1 lv (.ref q :: st) (pc + 2)) : VV X n S lv (.int x :: st) pc := by
  intro hT hE H locs ls hP hD hS hl
  have hz0 := hz S 0
  refine va_newa (a0 := (N, cont (nA S r 0 N) 0 r)) F.hx F.hb (F.ts _ hw) hty F.K hP hD hS F.A hz0 hx0 hxN hb (by rw [F.rm0]; exact hc.1) (by rw [F.rm0]; exact hc.2) hdg (fun q cA H1 hK1 hP1 hD1 hS1 => ?_)
  have hq : q ∉ pL S := va_pl_fresh2 (X := []) hD1
  have hcA := arr_same F hi hne hK1
  subst hcA
  have hcont : cont (nA S r 0 N) 0 r = cont (nA S r q N) q r := by
    unfold cont
    have e1 : aI (nA S r 0 N) r 0 = aI (nA S r q N) r q := by funext i; rw [nA_i, nA_i]
    have e2 : aL (nA S r 0 N) r 0 = aL (nA S r q N) r q := by funext i; rw [nA_l, nA_l]
    have e3 : aR (nA S r 0 N) r 0 = aR (nA S r q N) r q := by funext i; rw [nA_r, nA_r]
    rw [e1, e2, e3]
  rw [hcont, wd_nA hq hr] at hP1 hD1
  exact kk q _ (h q hq _ rfl) (Ext.mkA hq) Rf.mkA (hT.mkA hq hr) (hE.tr (Ext.mkA hq)) H1 locs ls hP1 hD1 hS1 hl
theorem v_newo (F : Fx X cc own ret rm) {C : String} {T : u_T} {N : Nat} (hc : vwCl[k]? = some (C, T, N)) (hN : N = nf k) (hin : ∀ w ∈ u_ws C T N, w ∈ bigW) (ty : Nat → FieldType) (hty : ∀ k, k < N → parseFieldDescriptor (T k).2.2.1 = some (ty k)) (hcl : Cond.classLink own idx C ∈ bigW) (hins : Cond.instantiable C N ∈ bigW) (hini : Cond.initialized C ∈ bigW) (hz : ∀ (S : PS) (q j : Nat), j < N → defaultValue (ty j) = vp_V (flds (nO S k q) q k) j) (hcs : n.1 + 1 ≤ rm.cells ∧ n.2 + N ≤ rm.slots) (hdg : decode cc pc = .ok (.new idx, 3)) {Pp : Nat → PS → Prop} (h : ∀ q, q ∉ pL S → ∀ S1, S1 = nO S k q → Pp q S1) (kk : ∀ (q : Nat) (S1 : PS), Pp q S1 → Ext S S1 → Rf S1 q k → VV X (n.1 + 1, n.2 + N) S1 lv (.ref q :: st) (pc + 3)) : VV X n S lv st pc := by
  intro hT hE H locs ls hP hD hS hl
  refine va_new F.hx F.hb F.ts hin ty hty F.own0 (F.ts _ hcl) (F.ts _ hins) (F.ts _ hini) F.K hP hD hS F.A hc (fs := flds (nO S k 0) 0 k) (hz S 0) (by rw [F.rm0]; exact hcs.1) (by rw [F.rm0]; exact hcs.2) hdg (fun q H1 hP1 hD1 hS1 => ?_)
  have hq : q ∉ pL S := va_pl_fresh2 (X := []) hD1
  have hf : flds (nO S k 0) 0 k = flds (nO S k q) q k := by
    unfold flds
    congr 1
    funext t
    unfold fval
    have e1 : fI (nO S k 0) (fB k + t) 0 = fI (nO S k q) (fB k + t) q := by rw [nO_i, nO_i]
    have e2 : fL (nO S k 0) (fB k + t) 0 = fL (nO S k q) (fB k + t) q := by rw [nO_l, nO_l]
    have e3 : fR (nO S k 0) (fB k + t) 0 = fR (nO S k q) (fB k + t) q := by rw [nO_r, nO_r]
    rw [e1, e2, e3]
  rw [hf, wd_nO hq (k10 hc)] at hP1 hD1
  exact kk q _ (h q hq _ rfl) (Ext.mkO hq) Rf.mkO (hT.mkO hq (k10 hc)) (hE.tr (Ext.mkO hq)) H1 locs ls hP1 hD1 hS1 hl
def hasAO (E : EE) : Prop := ∀ (A : Nat → Prop) (s : State), E.2 A s s.heap → va_AO "OwnText$Frame" s
theorem v_newq (F : Fx X cc own ret rm) (hO : hasAO (xE X)) {N : Nat} {x : Int32} (hcl : Cond.classLink own idx "OwnText$Frame" ∈ bigW) (hx0 : ¬ x < 0) (hxN : x.toNatClampNeg = N) (hb : N * 4 ≤ 536870912) (hc : n.1 + 1 ≤ rm.cells ∧ n.2 + N ≤ rm.slots) (hdg : decode cc pc = .ok (.anewarray idx, 3)) {Pp : Nat → PS → Prop} (h : ∀ q, q ∉ pL S → ∀ S1, S1 = nA S 13 q N → Pp q S1) (kk : ∀ (q : Nat) (S1 : PS), Pp q S1 → Ext S S1 → Rf S1 q 13 → VV X (n.1 + 1, n.2 + N) S1 lv (.ref q :: st) (pc + 3)) : VV X n S lv (.int x :: st) pc := by
  intro hT hE H locs ls hP hD hS hl
  refine va_newq F.hx F.hb F.own0 (F.ts _ hcl) (hO _ _ F.cw) F.K hP hD hS F.A hx0 hxN hb (by rw [F.rm0]; exact hc.1) (by rw [F.rm0]; exact hc.2) hdg (fun q cA H1 hK1 hP1 hD1 hS1 => ?_)
  have hq : q ∉ pL S := va_pl_fresh2 (X := []) hD1
  have hcA : cA = (xE X).1.2 4 := by
    obtain ⟨_, _, _, _, _, h1⟩ := (hK1.2 (tyE (xE X)).length (cA, .object "OwnText$Frame") (by simp)).2
    obtain ⟨_, _, _, _, _, h2⟩ := (F.K.2 4 ((xE X).1.2 4, .object "OwnText$Frame") rfl).2
    exact Option.some.inj (h1.symm.trans h2)
  subst hcA
  have hw := wd_nA (E := xE X) (N := N) hq (show 10 ≤ 13 by decide)
  have hcont : cont (nA S 13 q N) q 13 = .inr (.inr (.inr (.inr (fun _ => none)))) := by
    rw [cont_q rfl]
    have : aR (nA S 13 q N) 13 q = fun _ => none := by funext i; rw [nA_r]
    rw [this]
  rw [hcont] at hw
  have hw : wd (xE X) S ++ [(q, .inl ((xE X).1.2 4, N, .inr (.inr (.inr (.inr (fun _ => none))))))] = wd (xE X) (nA S 13 q N) := hw
  rw [hw] at hP1 hD1
  exact kk q _ (h q hq _ rfl) (Ext.mkA hq) Rf.mkA (hT.mkA hq (by decide)) (hE.tr (Ext.mkA hq)) H1 locs ls hP1 hD1 hS1 hl
theorem v_runN (F : Fx X cc own ret rm) {y : MethodName} {b : ByteArray} {maxL np : Nat} (K : Cond.methodLinkNest own idx y "OwnText" ∈ nestW ∧ Cond.instanceMethod y ∈ bigW ∧ Cond.initialized y.cls ∈ bigW ∧ Cond.code y b maxL none ∈ bigW ∧ y.name = "<init>" ∧ y.cls ≠ "java/lang/invoke/MethodHandle" ∧ y.cls ≠ "java/lang/invoke/VarHandle" ∧ (parseMethodDescriptor y.desc).map (fun d => d.parameters.length) = some np) {rm1 : Room} {As rest : List Value} {Qc : Array Value → State → Outcome → State → Prop} (hM : Met (xl X) y (.code y b maxL none :: bigW) rm1 (va_Pc (.ref a :: As) (Inw (xE X) (xA X) S)) Qc rm1.cells rm1.slots (xA X)) (hn : As.length = np) {stk : List Value} (hst : stk = As.reverse ++ .ref a :: rest) (hroom : (rest.map fun v => v.category).sum ≤ 8) (hR : rm1.frames + 1 ≤ rm.frames ∧ 8 + (maxL + 11) + rm1.locals ≤ rm.locals) (hcs : n.1 + rm1.cells ≤ rm.cells ∧ n.2 + rm1.slots ≤ rm.slots) (hdg : decode cc pc = .ok (.invokespecial idx, 3)) : RunOk X n S lv stk rest pc rm1.cells rm1.slots (Qc (Value.ref a :: As).toArray) := by
  subst hst
  intro H locs ls hT hP hD hS hl
  exact va_runIN (F.fix rfl) hM ⟨va_cnB np F.ts (gi_cons K.2.2.2.1) rfl rfl rfl (F.nw _ K.1) (F.ts _ K.2.2.1) ⟨K.2.2.2.2.2.1, K.2.2.2.2.2.2.1, K.2.2.2.2.2.2.2⟩ (by rw [F.rm0]; exact hR), K.2.2.2.2.1, F.ts _ K.2.1⟩ ⟨In_blind, fun U hU hW => ⟨rfl, In_of F hT hP hD hS hU hW⟩⟩ rfl hn hl.1 rfl (lv_room hroom) hdg (by rw [F.rm0]; exact hcs)
theorem v_cVn {stk rest : List Value} {mc ms : Nat} {av : Array Value} {Q : PS → Prop} {n1 : Nat × Nat} (hr : RunOk X n S lv stk rest pc mc ms (va_Qv Q (Outw (xE X) (xA X) S) (xA X) av)) (hn : n.1 + mc ≤ n1.1 ∧ n.2 + ms ≤ n1.2) (kk : ∀ (S1 : PS), Q S1 → Ext S S1 → VV X n1 S1 lv rest (pc + 3)) : VV X n S lv stk pc := v_cV hr (fun S1 h1 h2 => v_widen hn (kk S1 h1 h2))
theorem v_putN (F : Fx X cc own ret rm) {ty : FieldType} (G : Pok own idx k t ty) (ha : Rf S a k) (h0 : fT (fB k + t) = 2) (hn : narrow ty .null = .null) (hf : fits ty .null = true) (hdg : decode cc pc = .ok (.putfield idx, 3)) (kk : VV X n (sR S (fB k + t) a none) lv st (pc + 3)) : VV X n S lv (.null :: .ref a :: st) pc := by
  intro hT hE H locs ls hP hD hS hl
  obtain ⟨C, T, N, ty0, hc, hN, ht, hin, hw, hty, hnm, hfi, hpd⟩ := G
  obtain ⟨q, hq⟩ := wd_get (E := xE X) ha.1
  have hq1 := hq
  rw [cel_obj ha.2 (k10 hc)] at hq
  refine va_put F.hx F.hb F.ts hin ty0 hty hnm F.own0 F.K hP hD hS q hq hc t ht (F.ts _ hw) (fun _ h => h) hfi hpd hn hf (by rw [flds_len]; exact hN ▸ ht) hdg (fun H1 locs1 hP hD1 hS => ?_)
  have he := wd_sR (E := xE X) (v := none) hD ha (k10 hc) h0 hq1
  rw [show va_rf none = .null from rfl] at he
  rw [he] at hP hD1
  exact kk (hT.sR (fun x hx => by cases hx)) hE H1 locs1 ls hP hD1 hS hl
end VN
theorem nz_0 (S : PS) (q j : Nat) (h : j < 2) : defaultValue (tyX0 j) = vp_V (flds (nO S 0 q) q 0) j := by
  have e1 : ∀ i, fI (nO S 0 q) i q = 0 := fun i => if_pos rfl
  have e2 : ∀ i, fL (nO S 0 q) i q = 0 := fun i => if_pos rfl
  have e3 : ∀ i, fR (nO S 0 q) i q = none := fun i => if_pos rfl
  have hv : vp_V (flds (nO S 0 q) q 0) j = fval (nO S 0 q) q (fB 0 + j) := by rw [vp_V, List.getD_eq_getElem?_getD, flds_get h]; rfl
  rw [hv, fval, e1, e2, e3]
  have : ∀ j, j < 2 → defaultValue (tyX0 j) = (if fT (fB 0 + j) = 0 then .int 0 else if fT (fB 0 + j) = 1 then .long 0 else va_rf none) := by decide +kernel
  exact this j h
theorem nz_1 (S : PS) (q j : Nat) (h : j < 15) : defaultValue (tyX1 j) = vp_V (flds (nO S 1 q) q 1) j := by
  have e1 : ∀ i, fI (nO S 1 q) i q = 0 := fun i => if_pos rfl
  have e2 : ∀ i, fL (nO S 1 q) i q = 0 := fun i => if_pos rfl
  have e3 : ∀ i, fR (nO S 1 q) i q = none := fun i => if_pos rfl
  have hv : vp_V (flds (nO S 1 q) q 1) j = fval (nO S 1 q) q (fB 1 + j) := by rw [vp_V, List.getD_eq_getElem?_getD, flds_get h]; rfl
  rw [hv, fval, e1, e2, e3]
  have : ∀ j, j < 15 → defaultValue (tyX1 j) = (if fT (fB 1 + j) = 0 then .int 0 else if fT (fB 1 + j) = 1 then .long 0 else va_rf none) := by decide +kernel
  exact this j h
theorem nz_2 (S : PS) (q j : Nat) (h : j < 4) : defaultValue (tyX2 j) = vp_V (flds (nO S 2 q) q 2) j := by
  have e1 : ∀ i, fI (nO S 2 q) i q = 0 := fun i => if_pos rfl
  have e2 : ∀ i, fL (nO S 2 q) i q = 0 := fun i => if_pos rfl
  have e3 : ∀ i, fR (nO S 2 q) i q = none := fun i => if_pos rfl
  have hv : vp_V (flds (nO S 2 q) q 2) j = fval (nO S 2 q) q (fB 2 + j) := by rw [vp_V, List.getD_eq_getElem?_getD, flds_get h]; rfl
  rw [hv, fval, e1, e2, e3]
  have : ∀ j, j < 4 → defaultValue (tyX2 j) = (if fT (fB 2 + j) = 0 then .int 0 else if fT (fB 2 + j) = 1 then .long 0 else va_rf none) := by decide +kernel
  exact this j h
theorem nz_3 (S : PS) (q j : Nat) (h : j < 19) : defaultValue (tyX3 j) = vp_V (flds (nO S 3 q) q 3) j := by
  have e1 : ∀ i, fI (nO S 3 q) i q = 0 := fun i => if_pos rfl
  have e2 : ∀ i, fL (nO S 3 q) i q = 0 := fun i => if_pos rfl
  have e3 : ∀ i, fR (nO S 3 q) i q = none := fun i => if_pos rfl
  have hv : vp_V (flds (nO S 3 q) q 3) j = fval (nO S 3 q) q (fB 3 + j) := by rw [vp_V, List.getD_eq_getElem?_getD, flds_get h]; rfl
  rw [hv, fval, e1, e2, e3]
  have : ∀ j, j < 19 → defaultValue (tyX3 j) = (if fT (fB 3 + j) = 0 then .int 0 else if fT (fB 3 + j) = 1 then .long 0 else va_rf none) := by decide +kernel
  exact this j h
theorem nz_4 (S : PS) (q j : Nat) (h : j < 3) : defaultValue (tyX5 j) = vp_V (flds (nO S 4 q) q 4) j := by
  have e1 : ∀ i, fI (nO S 4 q) i q = 0 := fun i => if_pos rfl
  have e2 : ∀ i, fL (nO S 4 q) i q = 0 := fun i => if_pos rfl
  have e3 : ∀ i, fR (nO S 4 q) i q = none := fun i => if_pos rfl
  have hv : vp_V (flds (nO S 4 q) q 4) j = fval (nO S 4 q) q (fB 4 + j) := by rw [vp_V, List.getD_eq_getElem?_getD, flds_get h]; rfl
  rw [hv, fval, e1, e2, e3]
  have : ∀ j, j < 3 → defaultValue (tyX5 j) = (if fT (fB 4 + j) = 0 then .int 0 else if fT (fB 4 + j) = 1 then .long 0 else va_rf none) := by decide +kernel
  exact this j h
theorem nz_5 (S : PS) (q j : Nat) (h : j < 15) : defaultValue (tyX6 j) = vp_V (flds (nO S 5 q) q 5) j := by
  have e1 : ∀ i, fI (nO S 5 q) i q = 0 := fun i => if_pos rfl
  have e2 : ∀ i, fL (nO S 5 q) i q = 0 := fun i => if_pos rfl
  have e3 : ∀ i, fR (nO S 5 q) i q = none := fun i => if_pos rfl
  have hv : vp_V (flds (nO S 5 q) q 5) j = fval (nO S 5 q) q (fB 5 + j) := by rw [vp_V, List.getD_eq_getElem?_getD, flds_get h]; rfl
  rw [hv, fval, e1, e2, e3]
  have : ∀ j, j < 15 → defaultValue (tyX6 j) = (if fT (fB 5 + j) = 0 then .int 0 else if fT (fB 5 + j) = 1 then .long 0 else va_rf none) := by decide +kernel
  exact this j h
theorem nz_6 (S : PS) (q j : Nat) (h : j < 11) : defaultValue (tyX7 j) = vp_V (flds (nO S 6 q) q 6) j := by
  have e1 : ∀ i, fI (nO S 6 q) i q = 0 := fun i => if_pos rfl
  have e2 : ∀ i, fL (nO S 6 q) i q = 0 := fun i => if_pos rfl
  have e3 : ∀ i, fR (nO S 6 q) i q = none := fun i => if_pos rfl
  have hv : vp_V (flds (nO S 6 q) q 6) j = fval (nO S 6 q) q (fB 6 + j) := by rw [vp_V, List.getD_eq_getElem?_getD, flds_get h]; rfl
  rw [hv, fval, e1, e2, e3]
  have : ∀ j, j < 11 → defaultValue (tyX7 j) = (if fT (fB 6 + j) = 0 then .int 0 else if fT (fB 6 + j) = 1 then .long 0 else va_rf none) := by decide +kernel
  exact this j h
theorem nz_7 (S : PS) (q j : Nat) (h : j < 18) : defaultValue (tyX8 j) = vp_V (flds (nO S 7 q) q 7) j := by
  have e1 : ∀ i, fI (nO S 7 q) i q = 0 := fun i => if_pos rfl
  have e2 : ∀ i, fL (nO S 7 q) i q = 0 := fun i => if_pos rfl
  have e3 : ∀ i, fR (nO S 7 q) i q = none := fun i => if_pos rfl
  have hv : vp_V (flds (nO S 7 q) q 7) j = fval (nO S 7 q) q (fB 7 + j) := by rw [vp_V, List.getD_eq_getElem?_getD, flds_get h]; rfl
  rw [hv, fval, e1, e2, e3]
  have : ∀ j, j < 18 → defaultValue (tyX8 j) = (if fT (fB 7 + j) = 0 then .int 0 else if fT (fB 7 + j) = 1 then .long 0 else va_rf none) := by decide +kernel
  exact this j h
theorem nz_8 (S : PS) (q j : Nat) (h : j < 9) : defaultValue (tyX11 j) = vp_V (flds (nO S 8 q) q 8) j := by
  have e1 : ∀ i, fI (nO S 8 q) i q = 0 := fun i => if_pos rfl
  have e2 : ∀ i, fL (nO S 8 q) i q = 0 := fun i => if_pos rfl
  have e3 : ∀ i, fR (nO S 8 q) i q = none := fun i => if_pos rfl
  have hv : vp_V (flds (nO S 8 q) q 8) j = fval (nO S 8 q) q (fB 8 + j) := by rw [vp_V, List.getD_eq_getElem?_getD, flds_get h]; rfl
  rw [hv, fval, e1, e2, e3]
  have : ∀ j, j < 9 → defaultValue (tyX11 j) = (if fT (fB 8 + j) = 0 then .int 0 else if fT (fB 8 + j) = 1 then .long 0 else va_rf none) := by decide +kernel
  exact this j h
theorem nz_9 (S : PS) (q j : Nat) (h : j < 119) : defaultValue (tyX12 j) = vp_V (flds (nO S 9 q) q 9) j := by
  have e1 : ∀ i, fI (nO S 9 q) i q = 0 := fun i => if_pos rfl
  have e2 : ∀ i, fL (nO S 9 q) i q = 0 := fun i => if_pos rfl
  have e3 : ∀ i, fR (nO S 9 q) i q = none := fun i => if_pos rfl
  have hv : vp_V (flds (nO S 9 q) q 9) j = fval (nO S 9 q) q (fB 9 + j) := by rw [vp_V, List.getD_eq_getElem?_getD, flds_get h]; rfl
  rw [hv, fval, e1, e2, e3]
  have : ∀ j, j < 119 → defaultValue (tyX12 j) = (if fT (fB 9 + j) = 0 then .int 0 else if fT (fB 9 + j) = 1 then .long 0 else va_rf none) := by decide +kernel
  exact this j h
theorem nzA_i {r N : Nat} {ty : FieldType} (h2 : rE r ≠ 2) (h4 : rE r ≠ 4) (hd : defaultValue ty = .int 0) (S : PS) (q : Nat) (cA : ClassId) : vp_cell cA (N, cont (nA S r q N) q r) = arrV cA N (fun _ => defaultValue ty) := by
  rw [cont_i h2 h4, vp_cell_i, hd]
  congr 1
  funext j
  have : aI (nA S r q N) r q j = 0 := if_pos rfl
  rw [this]
theorem nzA_l {r N : Nat} (h2 : rE r = 2) (S : PS) (q : Nat) (cA : ClassId) : vp_cell cA (N, cont (nA S r q N) q r) = arrV cA N (fun _ => defaultValue .long) := by
  rw [cont_l h2, vp_cell_l]
  congr 1
  funext j
  have : aL (nA S r q N) r q j = 0 := if_pos rfl
  rw [this]; rfl
