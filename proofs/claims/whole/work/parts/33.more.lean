def htab (j : Nat) : Int32 := ([0, 2, 4, 5, 7, 9, 11] : List Int32).getD j 0
/-- what never changes says of the half tones -/
def hasHT (E : EE) : Prop := ∀ (A : Nat → Prop) (s : State), E.2 A s s.heap → ∃ t : Nat, va_Z "OwnText" "HALF_TONES" "[I" (.ref t) A s s.heap ∧ va_T .int t 7 (fun j => .int (htab j)) A s s.heap
def HT (X : XX) (t : Nat) : Prop := va_T .int t 7 (fun j => .int (htab j)) (xA X) (xs X) (xs X).heap
/-- all of an array's places anew -/
def wW (S : PS) (r a : Nat) (f : Nat → Int32) : PS := (S.1, S.2.1, S.2.2.1, S.2.2.2.1, S.2.2.2.2.1, S.2.2.2.2.2.1, up2 S.2.2.2.2.2.2.1 r a f, S.2.2.2.2.2.2.2)
theorem TS.wW {S : PS} {r a : Nat} {f : Nat → Int32} (h : TS S) : TS (wW S r a f) := h
theorem Ext.wW {S : PS} {r a : Nat} {f : Nat → Int32} : Ext S (wW S r a f) := fun _ h => ⟨h, rfl, rfl⟩
theorem wd_wW {E : EE} {S : PS} {A : Nat → Prop} {a r n : Nat} {f : Nat → Int32} (hD : va_D A (wd E S)) (ha : Rf S a r) (hr : 10 ≤ r) (h2 : rE r ≠ 2) (h4 : rE r ≠ 4) (hn : (wd E S)[n]? = some (a, cel E S a)) : (wd E S).set n (a, .inl (E.1.2 (rE r), aN S a, .inl f)) = wd E (wW S r a f) :=
  wd_set hD ha.1 hn rfl (by
    rw [cel_arr (S := wW S r a f) (r := r) ha.2 hr, cont_i h2 h4]
    have : aI (wW S r a f) r a = f := up2_s _ _ _ _
    rw [this]; rfl) (fun b hb => cel_other rfl rfl (fun j => rfl) (fun q => by
      have : aI (wW S r a f) q b = aI S q b := up2_n _ _ (Or.inr hb)
      unfold cont; rw [this]; rfl))
theorem Ext.wR {S : PS} {r a i : Nat} {v : Option Nat} : Ext S (wR S r a i v) := fun _ h => ⟨h, rfl, rfl⟩
theorem TS.wR {S : PS} {a i q : Nat} (h : TS S) (hq : Rf S q 1) : TS (wR S 13 a i (some q)) := by
  refine ⟨h.1, fun x j b hx hk hb => ?_⟩
  have hb : up3 S.2.2.2.2.2.2.2.2 13 a i (some q) 13 x j = some b := hb
  unfold up3 at hb
  by_cases hc : (13 : Nat) = 13 ∧ x = a ∧ j = i
  · rw [if_pos hc] at hb
    cases hb
    exact hq
  · rw [if_neg hc] at hb
    exact h.2 x j b hx hk hb
theorem wd_wR {E : EE} {S : PS} {A : Nat → Prop} {a r n i : Nat} {v : Option Nat} (hD : va_D A (wd E S)) (ha : Rf S a r) (hr : 10 ≤ r) (h4 : rE r = 4) (hn : (wd E S)[n]? = some (a, cel E S a)) : (wd E S).set n (a, .inl (E.1.2 (rE r), aN S a, .inr (.inr (.inr (.inr (va_up (aR S r a) i v)))))) = wd E (wR S r a i v) :=
  wd_set hD ha.1 hn rfl (by
    rw [cel_arr (S := wR S r a i v) (r := r) ha.2 hr, cont_q h4]
    have : aR (wR S r a i v) r a = va_up (aR S r a) i v := up3_r _ _ _ _ _
    rw [this]; rfl) (fun b hb => cel_other rfl rfl (fun j => rfl) (fun q => cont_wR_o hb))
theorem Met.ofWF {l : Launch} {y : MethodName} {ws ws' : List Cond} {rm : Room} {Pc : Array Value → State → Prop} {Qc : Array Value → State → Outcome → State → Prop} {mc ms : Nat} {free : Addr → Prop} {cc : ByteArray} {maxL : Nat} {ret : Option FieldType} (hy : plainFor y = true) (hw : ws = Cond.code y cc maxL ret :: ws') (body : ∀ p e s m args below meth c s₁, BodyLoose p l y (headSpec ws rm) cc maxL ret e s m args below meth c s₁ → c.maxLocals = maxL → Pc args s → W p l e (headSpec ws rm).room s m args below meth c s.heap [] 0 0 (MQ below Qc args s mc ms free) (entryFrame m args maxL)) : Met l y ws rm Pc Qc mc ms free := by
  refine MetFree.of_bodySF (code := cc) (maxLocals := maxL) (ret := ret) hy ?_ ?_
  · intro args s m h hn
    obtain ⟨meth, c, h1, h2, h3, h4, h5, h6, -, -⟩ := Cond.code_spec hn (atoms_spec (ws := ws) h _ (by rw [hw]; exact List.mem_cons_self))
    exact ⟨meth, c, h1, h2, h3, h4, h5, h6⟩
  · intro p e s m args below meth c s₁ B hml hP _
    have hh0 : s₁.heap = s.heap := by rw [B.state]; rfl
    obtain ⟨t, a1, o, b1, b2, b3⟩ := body p e s m args below meth c s₁ B hml hP s₁ hh0 (Stand.of_body B)
    exact ⟨t, o, a1, b1, b2, ⟨b3.1, b3.2⟩⟩
theorem MtI.ofJ {l : Launch} {y : MethodName} {cc : ByteArray} {maxL : Nat} {ret : Option FieldType} {rm : Room} {E : EE} {A : Nat → Prop} {av : List Value} {S : PS} {Q : Int32 → PS → Prop} (hy : plainFor y = true) (hsl : (lg_sl av).length ≤ maxL) (body : ∀ X : XX, Fx X cc y.cls ret rm → QI X rm Q → xN X = maxL → VV X (0, 0) S (lv_args 0 av) [] 0) : MtI l y (.code y cc maxL ret) rm E A av S Q := by
  refine Met.ofWF (cc := cc) (maxL := maxL) (ret := ret) hy rfl ?_
  intro p e s m args below meth c s1 B hml hv
  obtain ⟨rfl, hA, hP, hK, hD, hT, hN, hok, hcw⟩ := hv
  have hts := atoms_spec (ws := .code y cc maxL ret :: bigW) B.pre
  have hl := lv_entry av (n := maxL) hsl
  rw [lg_entry_eq]
  exact body ((p, l, e, _, s, m, _, below, meth, c), E, A, maxL, S, MQ below (va_Qi Q (Outw E A S) A) av.toArray s rm.cells rm.slots A) ⟨B.exec, B.bytes, hml, findClass_of_methodNamed B.named, fun w hw => hts w (List.mem_cons_of_mem _ hw), hK, hA, B.notSynchronized, B.returns, rfl, hN, hok, hcw⟩ rfl rfl hT Ext.rf s.heap [] _ hP hD va_S.rf hl
def Cpok (own : String) (idx : Nat) : Prop := Cond.methodLink own idx arraycopyName ∈ bigW ∧ Cond.native arraycopyName ∈ bigW ∧ Cond.static arraycopyName ∈ bigW ∧ Cond.initialized "java/lang/System" ∈ bigW
section VM
variable {X : XX} {cc : ByteArray} {own : String} {ret : Option FieldType} {rm : Room} {n : Nat × Nat} {S : PS} {lv : List (Nat × Value)} {st : List Value} {pc idx k t a : Nat}
theorem v_ixor (F : Fx X cc own ret rm) {x y : Int32} (hdg : decode cc pc = .ok (.ixor, 1)) (kk : VV X n S lv (.int (x ^^^ y) :: st) (pc + 1)) : VV X n S lv (.int y :: .int x :: st) pc := fun hT hE H locs ls hP hD hS hl => lv_ixor F.hx F.hb hdg (kk hT hE H locs ls hP hD hS hl)
theorem v_getHT (F : Fx X cc own ret rm) (hH : hasHT (xE X)) (hw : Cond.fieldLinkNest own idx "OwnText" "HALF_TONES" "[I" "OwnText" ∈ nestW) (hdg : decode cc pc = .ok (.getstatic idx, 3)) (kk : ∀ t, HT X t → VV X n S lv (.ref t :: st) (pc + 3)) : VV X n S lv st pc := by
  intro hT hE H locs ls hP hD hS hl
  obtain ⟨t, hZ, hTt⟩ := hH _ _ F.cw
  exact va_getsN F.hx F.hb hZ hS F.own0 ((F.nw _ hw).use rfl) (fun _ h => h) hdg (kk t hTt hT hE H locs ls hP hD hS hl)
theorem v_htald (F : Fx X cc own ret rm) {t : Nat} {i : Int32} {Pp : Prop} (hH : HT X t) (h : vp_in i 7 ∧ Pp) (hdg : decode cc pc = .ok (.iaload, 1)) (kk : Pp → VV X n S lv (.int (htab i.toNatClampNeg) :: st) (pc + 1)) : VV X n S lv (.int i :: .ref t :: st) pc := fun hT hE H locs ls hP hD hS hl => va_ti F.hx F.hb hH hS h.1 rfl hdg (kk h.2 hT hE H locs ls hP hD hS hl)
theorem v_copyb (F : Fx X cc own ret rm) (K : Cpok own idx) {r0 r1 a0 a1 : Nat} {sp dp m : Int32} (h0 : Rf S a0 r0) (h1 : Rf S a1 r1) (hr0 : 10 ≤ r0 ∧ rE r0 = 0) (hr1 : 10 ≤ r1 ∧ rE r1 = 0) {Pp : PS → Prop} (h : (¬ sp < 0 ∧ ¬ dp < 0 ∧ ¬ m < 0 ∧ sp.toNatClampNeg + m.toNatClampNeg ≤ aN S a0 ∧ dp.toNatClampNeg + m.toNatClampNeg ≤ aN S a1 ∧ ∀ i, i < m.toNatClampNeg → fits .byte (.int (aI S r0 a0 (sp.toNatClampNeg + i))) = true) ∧ ∀ S1, S1 = wW S r1 a1 (va_cpy (aI S r0 a0) (aI S r1 a1) sp.toNatClampNeg dp.toNatClampNeg m.toNatClampNeg) → Pp S1) (hf : 1 ≤ rm.frames) (hlo : (st.map fun v => v.category).sum + (nativeFrameWords "java/lang/System" "arraycopy" 5 + 11) ≤ rm.locals) (hdg : decode cc pc = .ok (.invokestatic idx, 3)) (kk : ∀ S1 : PS, Pp S1 → Ext S S1 → VV X n S1 lv st (pc + 3)) : VV X n S lv (.int m :: .int dp :: .ref a1 :: .int sp :: .ref a0 :: st) pc := by
  intro hT hE H locs ls hP hD hS hl
  obtain ⟨⟨g1, g2, g3, g4, g5, g6⟩, g7⟩ := h
  obtain ⟨q, hq⟩ := wd_get (E := xE X) h0.1
  obtain ⟨q1, hq1⟩ := wd_get (E := xE X) h1.1
  have hq2 := hq1
  rw [cel_arr h0.2 hr0.1, cont_i (by rw [hr0.2]; decide) (by rw [hr0.2]; decide), hr0.2] at hq
  rw [cel_arr h1.2 hr1.1, cont_i (by rw [hr1.2]; decide) (by rw [hr1.2]; decide), hr1.2] at hq1
  refine va_copyi F.hx F.hb (F.ml.trans hl.1.symm) F.own0 (F.ts _ K.1) (F.ts _ K.2.1) (F.ts _ K.2.2.1) (F.ts _ K.2.2.2) F.K hP hD hS q q1 0 0 hq hq1 rfl rfl rfl g1 g2 g3 g4 g5 g6 (by rw [F.rm0]; exact hf) (by rw [F.rm0]; exact hlo) hdg (fun H1 locs1 hP hD1 hS => ?_)
  have he := wd_wW (E := xE X) (f := va_cpy (aI S r0 a0) (aI S r1 a1) sp.toNatClampNeg dp.toNatClampNeg m.toNatClampNeg) hD h1 hr1.1 (by rw [hr1.2]; decide) (by rw [hr1.2]; decide) hq2
  rw [hr1.2] at he
  rw [he] at hP hD1
  exact kk _ (g7 _ rfl) Ext.wW hT.wW hE H1 locs1 ls hP hD1 hS hl
theorem v_aald (F : Fx X cc own ret rm) {b : Nat} {i : Int32} {P0 : Prop} {P1 : Nat → Prop} (hb : Rf S b 13) (h : vp_in i (aN S b) ∧ (aR S 13 b i.toNatClampNeg = none → P0) ∧ ∀ q, aR S 13 b i.toNatClampNeg = some q → P1 q) (hdg : decode cc pc = .ok (.aaload, 1)) (k0 : P0 → VV X n S lv (.null :: st) (pc + 1)) (k1 : ∀ q, Rf S q 1 → P1 q → VV X n S lv (.ref q :: st) (pc + 1)) : VV X n S lv (.int i :: .ref b :: st) pc := by
  intro hT hE H locs ls hP hD hS hl
  obtain ⟨q, hq⟩ := wd_get (E := xE X) hb.1
  rw [cel_arr hb.2 (by decide), cont_q rfl] at hq
  refine va_aldq F.hx F.hb F.K hP q 4 hq rfl h.1 hdg ?_
  cases hz : aR S 13 b i.toNatClampNeg with
  | none => exact k0 (h.2.1 hz) hT hE H locs ls hP hD hS hl
  | some z => exact k1 z (hT.2 b _ z hb.1 hb.2 hz) (h.2.2 z hz) hT hE H locs ls hP hD hS hl
theorem v_aast (F : Fx X cc own ret rm) {b q : Nat} {i : Int32} {Pp : PS → Prop} (hb : Rf S b 13) (hq : Rf S q 1) (h : vp_in i (aN S b) ∧ ∀ S1, S1 = wR S 13 b i.toNatClampNeg (some q) → Pp S1) (hdg : decode cc pc = .ok (.aastore, 1)) (kk : ∀ S1 : PS, Pp S1 → Ext S S1 → VV X n S1 lv st (pc + 1)) : VV X n S lv (.ref q :: .int i :: .ref b :: st) pc := by
  intro hT hE H locs ls hP hD hS hl
  obtain ⟨z, hz⟩ := wd_get (E := xE X) hb.1
  obtain ⟨z1, hz1⟩ := wd_get (E := xE X) hq.1
  have hz2 := hz
  rw [cel_arr hb.2 (by decide), cont_q rfl] at hz
  rw [cel_obj hq.2 (by decide)] at hz1
  refine va_astq F.hx F.hb F.K hP hD hS z 4 z1 1 (r := (RX1, TX1, 15)) hz rfl hz1 rfl h.1 hdg (fun H1 locs1 hP hD1 hS => ?_)
  have he := wd_wR (E := xE X) (i := i.toNatClampNeg) (v := some q) hD hb (by decide) rfl hz2
  rw [he] at hP hD1
  exact kk _ (h.2 _ rfl) Ext.wR (hT.wR hq) hE H1 locs1 ls hP hD1 hS hl
theorem v_aretS {C : String} (F : Fx X cc own (some (.object C)) rm) {Q : Option Nat → PS → Prop} (hQ : QR X rm Q) {q : Nat} (h : Q (some q) S) (hn : n.1 ≤ rm.cells ∧ n.2 ≤ rm.slots) (hdg : decode cc pc = .ok (.areturn, 1)) : VV X n S lv [.ref q] pc := v_aret (v := some q) F hQ h hn hdg
theorem v_aretN {C : String} (F : Fx X cc own (some (.object C)) rm) {Q : Option Nat → PS → Prop} (hQ : QR X rm Q) (h : Q none S) (hn : n.1 ≤ rm.cells ∧ n.2 ≤ rm.slots) (hdg : decode cc pc = .ok (.areturn, 1)) : VV X n S lv [.null] pc := v_aret (v := none) F hQ h hn hdg
theorem v_cRs {stk rest : List Value} {mc ms : Nat} {av : Array Value} {Q : Option Nat → PS → Prop} (hr : RunOk X n S lv stk rest pc mc ms (va_Qq Q (Outw (xE X) (xA X) S) (xA X) av)) (k0 : ∀ S1 : PS, Q none S1 → Ext S S1 → VV X (n.1 + mc, n.2 + ms) S1 lv (.null :: rest) (pc + 3)) (k1 : ∀ (q : Nat) (S1 : PS), Q (some q) S1 → Ext S S1 → VV X (n.1 + mc, n.2 + ms) S1 lv (.ref q :: rest) (pc + 3)) : VV X n S lv stk pc := v_cR hr (fun r S1 h hE => by
  cases r with
  | none => exact k0 S1 h hE
  | some q => exact k1 q S1 h hE)
theorem v_gen {n1 kr K : Nat × Nat} (f : ∀ n : Nat × Nat, (n.1 + kr.1 ≤ K.1 ∧ n.2 + kr.2 ≤ K.2) → VV X n S lv st pc) (hk : n1.1 + kr.1 ≤ K.1 ∧ n1.2 + kr.2 ≤ K.2) : VV X n1 S lv st pc := f n1 hk
theorem kb_00 {kr K : Nat × Nat} (h : n.1 + kr.1 ≤ K.1 ∧ n.2 + kr.2 ≤ K.2) : (n.1 + 0, n.2 + 0).1 + kr.1 ≤ K.1 ∧ (n.1 + 0, n.2 + 0).2 + kr.2 ≤ K.2 := h
theorem kb_ret {kr K : Nat × Nat} (h : n.1 + kr.1 ≤ K.1 ∧ n.2 + kr.2 ≤ K.2) : n.1 ≤ K.1 ∧ n.2 ≤ K.2 := ⟨by omega, by omega⟩
theorem kb_z {kr K : Nat × Nat} (h : n.1 + kr.1 ≤ K.1 ∧ n.2 + kr.2 ≤ K.2) : n.1 + 0 ≤ K.1 ∧ n.2 + 0 ≤ K.2 := ⟨by omega, by omega⟩
theorem kb_c {kr K k1 : Nat × Nat} (h : n.1 + kr.1 ≤ K.1 ∧ n.2 + kr.2 ≤ K.2) (g : k1.1 ≤ kr.1 ∧ k1.2 ≤ kr.2) : n.1 + k1.1 ≤ K.1 ∧ n.2 + k1.2 ≤ K.2 := ⟨by omega, by omega⟩
theorem kb_n {kr K k1 : Nat × Nat} (h : n.1 + kr.1 ≤ K.1 ∧ n.2 + kr.2 ≤ K.2) (g : k1.1 ≤ kr.1 ∧ k1.2 ≤ kr.2) : (n.1 + k1.1, n.2 + k1.2).1 + (kr.1 - k1.1, kr.2 - k1.2).1 ≤ K.1 ∧ (n.1 + k1.1, n.2 + k1.2).2 + (kr.1 - k1.1, kr.2 - k1.2).2 ≤ K.2 := ⟨by show n.1 + k1.1 + (kr.1 - k1.1) ≤ K.1; omega, by show n.2 + k1.2 + (kr.2 - k1.2) ≤ K.2; omega⟩
end VM
