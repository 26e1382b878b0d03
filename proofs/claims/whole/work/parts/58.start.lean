theorem cc5 (i : Nat) (hi : i < 16) : ∀ j, j < lenS.getD i 0 → Cond.eq (.elem (.field (tmS i) "java/lang/String" "value" "[B") (.int (Int32.ofNat j))) (.int ((bytS.getD i []).getD j 0)) ∈ FLT := by
  match i, hi with
  | 0, _ => exact cc5_0
  | 1, _ => exact cc5_1
  | 2, _ => exact cc5_2
  | 3, _ => exact cc5_3
  | 4, _ => exact cc5_4
  | 5, _ => exact cc5_5
  | 6, _ => exact cc5_6
  | 7, _ => exact cc5_7
  | 8, _ => exact cc5_8
  | 9, _ => exact cc5_9
  | 10, _ => exact cc5_10
  | 11, _ => exact cc5_11
  | 12, _ => exact cc5_12
  | 13, _ => exact cc5_13
  | 14, _ => exact cc5_14
  | 15, _ => exact cc5_15
  | n + 16, h => exact absurd h (by omega)
theorem cc6 (i : Nat) (hi : i < 16) : ∀ j, j < 16 → i ≠ j → Cond.not (Cond.eq (tmS i) (tmS j)) ∈ FLT ∨ Cond.not (Cond.eq (tmS j) (tmS i)) ∈ FLT := by
  match i, hi with
  | 0, _ => exact cc6_0
  | 1, _ => exact cc6_1
  | 2, _ => exact cc6_2
  | 3, _ => exact cc6_3
  | 4, _ => exact cc6_4
  | 5, _ => exact cc6_5
  | 6, _ => exact cc6_6
  | 7, _ => exact cc6_7
  | 8, _ => exact cc6_8
  | 9, _ => exact cc6_9
  | 10, _ => exact cc6_10
  | 11, _ => exact cc6_11
  | 12, _ => exact cc6_12
  | 13, _ => exact cc6_13
  | 14, _ => exact cc6_14
  | 15, _ => exact cc6_15
  | n + 16, h => exact absurd h (by omega)
def CW0 (adK adV : Nat → Nat) (t0 : Nat) : (Nat → Prop) → State → Heap → Prop := fun A s H => va_AO "OwnText$Frame" s ∧ (va_Z "OwnText" "HALF_TONES" "[I" (.ref t0) A s H ∧ va_T .int t0 7 (fun j => .int (htab j)) A s H) ∧ (vk_S 16 lenS bytS adK adV A s H ∧ (∀ i, i < 16 → vk_R (ownS.getD i "") (kS.getD i 0) (txS.getD i "") (adK i) s) ∧ va_Z "java/lang/String" "COMPACT_STRINGS" "Z" (.int 1) A s H ∧ va_Zq "jdk/internal/util/Preconditions" "SIOOBE_FORMATTER" "Ljava/util/function/BiFunction;" A s H) ∧ ((∀ w ∈ exW, va_Nw w s) ∧ vx_Zq Bundle.tN "UNASSIGNED_STACK" Bundle.steD A s H ∧ vx_Zq Bundle.tN "SUPPRESSED_SENTINEL" Bundle.listD A s H) ∧ ∀ q ∈ ncP, va_Nc q.1 q.2 s
theorem ex_warm {s U : State} (hW : s.WarmedH U.vm) (g : ∀ w ∈ exW, va_Nw w s) : ∀ w ∈ exW, va_Nw w U := by
  intro w hw
  have h1 := (List.mem_filter.mp hw).2
  have h2 := g w hw
  cases w <;> first | exact va_Nw.warmD hW h2 | exact va_Nw.warmC hW h2 | cases h1
theorem CW0_ok {G : va_G × (Nat → ClassId)} {adK adV : Nat → Nat} {t0 : Nat} : CWok (G, CW0 adK adV t0) := by
  refine ⟨fun A s U H locs h hS hU hW => ?_, fun A u U hv hh h => ?_⟩
  · obtain ⟨h1, ⟨h2, h3⟩, ⟨h4, h5, h6, h7⟩, ⟨h8, h9, h10⟩, h11⟩ := h
    have hq : ∀ a : Nat, a < s.heap.size → ¬ A a → U.heap[a]? = s.heap[a]? := fun a h1 h2 => by rw [hU]; exact hS.2.1 a h1 h2
    have ha := hW.alike
    exact ⟨h1.moved ha, ⟨(h2.moved ha).kept hq, (h3.moved ha).kept hq⟩, ⟨(h4.moved ha).kept hq, fun i hi => (h5 i hi).warm hW, (h6.moved ha).kept hq, (h7.moved ha).kept hq⟩, ⟨ex_warm hW h8, (h9.moved ha).kept hq, (h10.moved ha).kept hq⟩, fun q hq1 => (h11 q hq1).moved ha⟩
  · obtain ⟨h1, ⟨h2, h3⟩, ⟨h4, h5, h6, h7⟩, ⟨h8, h9, h10⟩, h11⟩ := h
    have ha : u.vm.Alike U.vm := by rw [hv]; exact Vm.Alike.refl _
    have hq : ∀ a : Nat, a < u.heap.size → ¬ A a → U.heap[a]? = u.heap[a]? := fun a _ _ => by rw [hh]
    exact ⟨h1.moved ha, ⟨(h2.moved ha).kept hq, (h3.moved ha).kept hq⟩, ⟨(h4.moved ha).kept hq, fun i hi => (h5 i hi).same hv.symm, (h6.moved ha).kept hq, (h7.moved ha).kept hq⟩, ⟨fun w hw => (h8 w hw).same (ex_on (List.mem_filter.mp hw).2) hv, (h9.moved ha).kept hq, (h10.moved ha).kept hq⟩, fun q hq1 => (h11 q hq1).moved ha⟩
theorem C0_AO {G : va_G × (Nat → ClassId)} {adK adV : Nat → Nat} {t0 : Nat} : hasAO (G, CW0 adK adV t0) := fun _ _ h => h.1
theorem C0_HT {G : va_G × (Nat → ClassId)} {adK adV : Nat → Nat} {t0 : Nat} : hasHT (G, CW0 adK adV t0) := fun _ _ h => ⟨t0, h.2.1⟩
theorem C0_Str {G : va_G × (Nat → ClassId)} {adK adV : Nat → Nat} {t0 : Nat} : hasStr (G, CW0 adK adV t0) adK adV := fun _ _ h => h.2.2.1
theorem C0_Ex {G : va_G × (Nat → ClassId)} {adK adV : Nat → Nat} {t0 : Nat} : hasEx (G, CW0 adK adV t0) := fun _ _ h => h.2.2.2.1
theorem C0_Nc {G : va_G × (Nat → ClassId)} {adK adV : Nat → Nat} {t0 : Nat} : hasNc (G, CW0 adK adV t0) := fun _ _ h => h.2.2.2.2
/-- the empty pool -/
def P00 : PS := ([], (fun _ => 0), (fun _ _ => 0), (fun _ _ => 0), (fun _ _ => none), (fun _ => 0), (fun _ _ _ => 0), (fun _ _ _ => 0), (fun _ _ _ => none))
theorem TS00 : TS P00 := ⟨fun a j b ha => (by cases ha), fun a i b ha => (by cases ha)⟩
theorem arr_of {args : Array Value} {s : State} {ty : FieldType} (h : (Cond.arrayClass ty).before args s = true) (hne : ∀ C, ty ≠ .object C) : ∃ cA, ArrOfT s cA ty ∧ va_RA s cA ty := by
  obtain ⟨c, k, comp, h1, h2, h3⟩ := Cond.arrayClass_spec (args := args) (first := s) (o := none) (s := s) (idx := []) h
  refine ⟨c, fun n z => ⟨fun k h => (by cases h), k, h2, comp, h3⟩, ?_⟩
  cases ty <;> first | exact absurd rfl (hne _) | exact h1
theorem arr_ofQ {args : Array Value} {s : State} {C : String} (h : (Cond.arrayOver (.object C)).before args s = true) : ∃ cA, ArrOfT s cA (.object C) ∧ va_RA s cA (.object C) := by
  obtain ⟨comp, c, k, h1, h2, h3, h4, h5⟩ := Cond.arrayOver_spec (args := args) (first := s) (o := none) (s := s) (idx := []) h
  exact ⟨c, fun n z => ⟨fun k h => (by cases h), k, h3, comp, h4⟩, k, comp, h3, h4, h1, h5⟩
theorem CW0_start {p : Program} {s : State} {m : MethodId} {meth : Method} {c : Code} {b L : Nat} {xi : Nat → Int32} (C0 : lw_At p s m meth c b L xi) : ∃ (adK adV : Nat → Nat) (t0 : Nat), CW0 adK adV t0 (fun q => s.heap.size ≤ q) s s.heap := by
  obtain ⟨hx, hb, hr, hml, hown, hts, hX, hbl, hlocks, hgv⟩ := C0
  have hs := flat_of_before _ hgv
  have hA : ∀ a : Nat, a < s.heap.size → ¬ (fun q => s.heap.size ≤ q) a := fun a h1 h2 => absurd h1 (Nat.not_lt.mpr h2)
  have hT := va_Tof (A := fun q => s.heap.size ≤ q) (tm := .static "OwnText" "HALF_TONES" "[I") (ty := .int) (N := 7) (f := fun j => .int (htab j)) (by decide) (hs _ (by decide +kernel)) (va_eqt (hs _ (by decide +kernel))) (fun j hj => by
    match j, hj with
    | 0, _ => exact va_eqt (hs _ (by decide +kernel))
    | 1, _ => exact va_eqt (hs _ (by decide +kernel))
    | 2, _ => exact va_eqt (hs _ (by decide +kernel))
    | 3, _ => exact va_eqt (hs _ (by decide +kernel))
    | 4, _ => exact va_eqt (hs _ (by decide +kernel))
    | 5, _ => exact va_eqt (hs _ (by decide +kernel))
    | 6, _ => exact va_eqt (hs _ (by decide +kernel))) hA
  obtain ⟨t0, ht0, hTt⟩ := hT
  have c1 : ∀ i, i < 16 → Cond.exactly (tmS i) "java/lang/String" ∈ flatC (Jvm.Cond.and given_1 narrow_1) := by decide +kernel
  have c2 : ∀ i, i < 16 → Cond.eq (.field (tmS i) "java/lang/String" "coder" "B") (.int 0) ∈ flatC (Jvm.Cond.and given_1 narrow_1) := by decide +kernel
  have c3 : ∀ i, i < 16 → Cond.arrayOf (.field (tmS i) "java/lang/String" "value" "[B") .byte ∈ flatC (Jvm.Cond.and given_1 narrow_1) := by decide +kernel
  have c4 : ∀ i, i < 16 → Cond.eq (.length (.field (tmS i) "java/lang/String" "value" "[B")) (.int (Int32.ofNat (lenS.getD i 0))) ∈ flatC (Jvm.Cond.and given_1 narrow_1) := by decide +kernel
  have c5 := cc5
  have c6 := cc6
  obtain ⟨adK, adV, hK1, hK2⟩ := vk_Sof (A := fun q => s.heap.size ≤ q) (tm := tmS) (N := 16) (len := lenS) (byt := bytS) (by decide +kernel) (fun i hi => hs _ (c1 i hi)) (fun i hi => hs _ (c2 i hi)) (fun i hi => hs _ (c3 i hi)) (fun i hi => hs _ (c4 i hi)) (fun i hi j hj => hs _ (c5 i hi j hj)) (fun i j hi hj hne => (c6 i hi j hj hne).imp (hs _) (hs _)) hA
  have r1 : ∀ i, i < 16 → Cond.stringRef (ownS.getD i "") (kS.getD i 0) (txS.getD i "") ∈ tables_1 := by decide +kernel
  have tt : ∀ w ∈ tables_1, w.before #[Value.ref b] s = true := fun w hw => hts w (List.mem_append_right _ hw)
  refine ⟨adK, adV, t0, va_AO.of (tt _ (by decide +kernel)), ⟨va_Zref (tt _ (by decide +kernel)) (tt _ (by decide +kernel)) ht0 hA, hTt⟩, ⟨hK1, fun i hi => vk_R.of (A := #[Value.ref b]) (tt _ (r1 i hi)) (hK2 i hi), va_Zof (tt _ (by decide +kernel)) (tt _ (by decide +kernel)) (va_eqi (hs _ (by decide +kernel))) hA, va_Zqof (tt _ (by decide +kernel)) (tt _ (by decide +kernel)) (hs _ (by decide +kernel)) hA⟩, ⟨fun w hw => va_Nw.of (ex_on (List.mem_filter.mp hw).2) (tt w (List.mem_filter.mp hw).1), vx_Zqof (tt _ (by decide +kernel)) (tt _ (by decide +kernel)) (hs _ (by decide +kernel)) hA, vx_Zqof (tt _ (by decide +kernel)) (tt _ (by decide +kernel)) (hs _ (by decide +kernel)) hA⟩, fun q hq => ?_⟩
  have n1 : ∀ q ∈ ncP, Cond.not (.castable q.1 q.2) ∈ flatC (Jvm.Cond.and given_1 narrow_1) := by decide +kernel
  exact va_Nc.of (hs _ (n1 q hq))
/-- THE LAW FROM ITS ENTRY, out of the pure statement -/
theorem start_open (hp : ∀ (L : Nat) (xi : Nat → Int32), L ≤ 2048 → wp_L_law L xi (601024, 7293034) P00) {p : Program} {e : Env} {s : State} {m : MethodId} {below : List Frame} {meth : Method} {c : Code} (l : Launch) (hl0 : l.stackTraces = false) {b L : Nat} {xi : Nat → Int32} (hL : L ≤ 2048) (C0 : lw_At p s m meth c b L xi) : W p l e room_1 s m #[Value.ref b] below meth c s.heap [] 0 0 (lw_Z below #[Value.ref b] s) (entryFrame m ([Value.ref b] : List Value).toArray 8) := by
  obtain ⟨adK, adV, t0, hcw⟩ := CW0_start C0
  obtain ⟨hx, hb, hr, hml, hown, hts, hX, hbl, hlocks, hgv⟩ := C0
  have tt : ∀ w ∈ tables_1, w.before #[Value.ref b] s = true := fun w hw => hts w (List.mem_append_right _ hw)
  have hbw : ∀ w ∈ bigW, w.before #[Value.ref b] s = true := fun w hw => hts w (List.mem_filter.mp hw).1
  obtain ⟨cc0, is0, hn0⟩ := u_known (C := RX0) (T := TX0) (N := 2) (n := 2) hbw in_0 (tt _ (by decide +kernel : Cond.instantiable RX0 2 ∈ tables_1))
  obtain ⟨cc1, is1, hn1⟩ := u_known (C := RX1) (T := TX1) (N := 15) (n := 15) hbw in_1 (tt _ (by decide +kernel : Cond.instantiable RX1 15 ∈ tables_1))
  obtain ⟨cc2, is2, hn2⟩ := u_known (C := RX2) (T := TX2) (N := 4) (n := 4) hbw in_2 (tt _ (by decide +kernel : Cond.instantiable RX2 4 ∈ tables_1))
  obtain ⟨cc3, is3, hn3⟩ := u_known (C := RX3) (T := TX3) (N := 19) (n := 19) hbw in_3 (tt _ (by decide +kernel : Cond.instantiable RX3 19 ∈ tables_1))
  obtain ⟨cc4, is4, hn4⟩ := u_known (C := RX5) (T := TX5) (N := 3) (n := 3) hbw in_4 (tt _ (by decide +kernel : Cond.instantiable RX5 3 ∈ tables_1))
  obtain ⟨cc5, is5, hn5⟩ := u_known (C := RX6) (T := TX6) (N := 15) (n := 15) hbw in_5 (tt _ (by decide +kernel : Cond.instantiable RX6 15 ∈ tables_1))
  obtain ⟨cc6, is6, hn6⟩ := u_known (C := RX7) (T := TX7) (N := 11) (n := 11) hbw in_6 (tt _ (by decide +kernel : Cond.instantiable RX7 11 ∈ tables_1))
  obtain ⟨cc7, is7, hn7⟩ := u_known (C := RX8) (T := TX8) (N := 18) (n := 18) hbw in_7 (tt _ (by decide +kernel : Cond.instantiable RX8 18 ∈ tables_1))
  obtain ⟨cc8, is8, hn8⟩ := u_known (C := RX11) (T := TX11) (N := 9) (n := 9) hbw in_8 (tt _ (by decide +kernel : Cond.instantiable RX11 9 ∈ tables_1))
  obtain ⟨cc9, is9, hn9⟩ := u_known (C := RX12) (T := TX12) (N := 119) (n := 119) hbw in_9 (tt _ (by decide +kernel : Cond.instantiable RX12 119 ∈ tables_1))
  obtain ⟨dC, dI, hKc⟩ : ∃ (dC : Nat → ClassId) (dI : Nat → Nat → Nat), ∀ (k : Nat) (q : vw_C), vwCl[k]? = some q → u_Kn s q.1 q.2.1 q.2.2 (dC k) (dI k) := by
    refine ⟨fun k => [cc0, cc1, cc2, cc3, cc4, cc5, cc6, cc7, cc8, cc9].getD k cc0, fun k => [is0, is1, is2, is3, is4, is5, is6, is7, is8, is9].getD k is0, ?_⟩
    intro k q hq
    match k, hq with
    | 0, hq => cases hq; exact hn0
    | 1, hq => cases hq; exact hn1
    | 2, hq => cases hq; exact hn2
    | 3, hq => cases hq; exact hn3
    | 4, hq => cases hq; exact hn4
    | 5, hq => cases hq; exact hn5
    | 6, hq => cases hq; exact hn6
    | 7, hq => cases hq; exact hn7
    | 8, hq => cases hq; exact hn8
    | 9, hq => cases hq; exact hn9
    | k + 10, hq => simp [vwCl] at hq
  obtain ⟨aB, hB1, hB2⟩ := arr_of (tt (.arrayClass .byte) (by decide +kernel)) (fun C q => by cases q)
  obtain ⟨aI0, hI1, hI2⟩ := arr_of (tt (.arrayClass .int) (by decide +kernel)) (fun C q => by cases q)
  obtain ⟨aJ, hJ1, hJ2⟩ := arr_of (tt (.arrayClass .long) (by decide +kernel)) (fun C q => by cases q)
  obtain ⟨aZ, hZ1, hZ2⟩ := arr_of (tt (.arrayClass .boolean) (by decide +kernel)) (fun C q => by cases q)
  obtain ⟨aQ, hQ1, hQ2⟩ := arr_ofQ (tt (.arrayOver (.object "OwnText$Frame")) (by decide +kernel))
  have hcy : ∃ cy : Nat → ClassId, cy 0 = aB ∧ cy 1 = aI0 ∧ cy 2 = aJ ∧ cy 3 = aZ ∧ cy 4 = aQ := ⟨fun k => [aB, aI0, aJ, aZ, aQ].getD k aB, rfl, rfl, rfl, rfl, rfl⟩
  obtain ⟨cy, e0, e1, e2, e3, e4⟩ := hcy
  have hK : va_K (dC, dI) vwCl (tyE (((dC, dI), cy), CW0 adK adV t0)) s := by
    refine ⟨hKc, fun k q hk => ?_⟩
    match k, hk with
    | 0, hk => cases hk; show ArrOfT s (cy 0) .byte ∧ va_RA s (cy 0) .byte; rw [e0]; exact ⟨hB1, hB2⟩
    | 1, hk => cases hk; show ArrOfT s (cy 1) .int ∧ va_RA s (cy 1) .int; rw [e1]; exact ⟨hI1, hI2⟩
    | 2, hk => cases hk; show ArrOfT s (cy 2) .long ∧ va_RA s (cy 2) .long; rw [e2]; exact ⟨hJ1, hJ2⟩
    | 3, hk => cases hk; show ArrOfT s (cy 3) .boolean ∧ va_RA s (cy 3) .boolean; rw [e3]; exact ⟨hZ1, hZ2⟩
    | 4, hk => cases hk; show ArrOfT s (cy 4) (.object "OwnText$Frame") ∧ va_RA s (cy 4) (.object "OwnText$Frame"); rw [e4]; exact ⟨hQ1, hQ2⟩
    | k + 5, hk => simp [tyE] at hk
  have hl := lv_entry ([.ref b]) (n := 8) (Nat.le_of_ble_eq_true rfl)
  rw [lg_entry_eq]
  have hP : va_P (dC, dI) vwCl (wd (((dC, dI), cy), CW0 adK adV t0) P00) s.heap := fun k q h => by simp [wd, va_pl, P00, pL] at h
  have hD : va_D (fun q : Nat => s.heap.size ≤ q) (wd (((dC, dI), cy), CW0 adK adV t0) P00) := ⟨fun i j p q h => by simp [wd, va_pl, P00, pL] at h, fun k q h => by simp [wd, va_pl, P00, pL] at h⟩
  have V := w_L_law (X := ((p, l, e, room_1, s, m, #[Value.ref b], below, meth, c), (((dC, dI), cy), CW0 adK adV t0), (fun q : Nat => s.heap.size ≤ q), 8, P00, lw_Z below #[Value.ref b] s)) (b := b) (L := L) (xi := xi) (k := (601024, 7293034)) rfl ⟨hx, hb, hml, hown, hbw, hK, fun _ h => h, hlocks, hr, rfl, fun w hw => va_Nw.of (nest_on (List.mem_filter.mp hw).2) (tt w (List.mem_filter.mp hw).1), CW0_ok, hcw⟩ rfl rfl rfl ⟨hX, hbl, Nat.not_le.mpr hbl⟩ rfl (adK := adK) (adV := adV) C0_AO C0_Str C0_Ex hl0 C0_Nc C0_HT (hp L xi hL)
  exact V TS00 Ext.rf s.heap [] _ hP hD va_S.rf hl
