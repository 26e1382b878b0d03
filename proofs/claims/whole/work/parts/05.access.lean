theorem ix_0 : ∀ t, t < 2 → tables_1[([47, 49] : List Nat).getD t 0]? = some (u_lay RX0 TX0 t) ∧ goodWord (u_lay RX0 TX0 t) = true := by decide +kernel
theorem in_0 : ∀ w ∈ u_ws RX0 TX0 2, w ∈ bigW := fun w hw => by obtain ⟨t, ht, rfl⟩ := List.mem_map.mp hw; have h := ix_0 t (List.mem_range.mp ht); exact bw_t _ h.1 h.2
theorem ix_1 : ∀ t, t < 15 → tables_1[([722, 724, 726, 728, 730, 732, 734, 736, 738, 740, 742, 744, 746, 748, 750] : List Nat).getD t 0]? = some (u_lay RX1 TX1 t) ∧ goodWord (u_lay RX1 TX1 t) = true := by decide +kernel
theorem in_1 : ∀ w ∈ u_ws RX1 TX1 15, w ∈ bigW := fun w hw => by obtain ⟨t, ht, rfl⟩ := List.mem_map.mp hw; have h := ix_1 t (List.mem_range.mp ht); exact bw_t _ h.1 h.2
theorem ix_2 : ∀ t, t < 4 → tables_1[([254, 256, 258, 260] : List Nat).getD t 0]? = some (u_lay RX2 TX2 t) ∧ goodWord (u_lay RX2 TX2 t) = true := by decide +kernel
theorem in_2 : ∀ w ∈ u_ws RX2 TX2 4, w ∈ bigW := fun w hw => by obtain ⟨t, ht, rfl⟩ := List.mem_map.mp hw; have h := ix_2 t (List.mem_range.mp ht); exact bw_t _ h.1 h.2
theorem ix_3 : ∀ t, t < 19 → tables_1[([180, 182, 184, 186, 188, 190, 192, 194, 196, 198, 200, 202, 204, 206, 208, 210, 212, 214, 216] : List Nat).getD t 0]? = some (u_lay RX3 TX3 t) ∧ goodWord (u_lay RX3 TX3 t) = true := by decide +kernel
theorem in_3 : ∀ w ∈ u_ws RX3 TX3 19, w ∈ bigW := fun w hw => by obtain ⟨t, ht, rfl⟩ := List.mem_map.mp hw; have h := ix_3 t (List.mem_range.mp ht); exact bw_t _ h.1 h.2
theorem ix_4 : ∀ t, t < 3 → tables_1[([228, 230, 232] : List Nat).getD t 0]? = some (u_lay RX5 TX5 t) ∧ goodWord (u_lay RX5 TX5 t) = true := by decide +kernel
theorem in_4 : ∀ w ∈ u_ws RX5 TX5 3, w ∈ bigW := fun w hw => by obtain ⟨t, ht, rfl⟩ := List.mem_map.mp hw; have h := ix_4 t (List.mem_range.mp ht); exact bw_t _ h.1 h.2
theorem ix_5 : ∀ t, t < 15 → tables_1[([80, 82, 84, 86, 88, 90, 92, 94, 96, 98, 100, 102, 104, 106, 108] : List Nat).getD t 0]? = some (u_lay RX6 TX6 t) ∧ goodWord (u_lay RX6 TX6 t) = true := by decide +kernel
theorem in_5 : ∀ w ∈ u_ws RX6 TX6 15, w ∈ bigW := fun w hw => by obtain ⟨t, ht, rfl⟩ := List.mem_map.mp hw; have h := ix_5 t (List.mem_range.mp ht); exact bw_t _ h.1 h.2
theorem ix_6 : ∀ t, t < 11 → tables_1[([130, 132, 134, 136, 138, 140, 142, 144, 146, 148, 150] : List Nat).getD t 0]? = some (u_lay RX7 TX7 t) ∧ goodWord (u_lay RX7 TX7 t) = true := by decide +kernel
theorem in_6 : ∀ w ∈ u_ws RX7 TX7 11, w ∈ bigW := fun w hw => by obtain ⟨t, ht, rfl⟩ := List.mem_map.mp hw; have h := ix_6 t (List.mem_range.mp ht); exact bw_t _ h.1 h.2
theorem ix_7 : ∀ t, t < 18 → tables_1[([306, 308, 310, 312, 314, 316, 318, 320, 322, 324, 326, 328, 330, 332, 334, 336, 338, 340] : List Nat).getD t 0]? = some (u_lay RX8 TX8 t) ∧ goodWord (u_lay RX8 TX8 t) = true := by decide +kernel
theorem in_7 : ∀ w ∈ u_ws RX8 TX8 18, w ∈ bigW := fun w hw => by obtain ⟨t, ht, rfl⟩ := List.mem_map.mp hw; have h := ix_7 t (List.mem_range.mp ht); exact bw_t _ h.1 h.2
theorem ix_8 : ∀ t, t < 9 → tables_1[([352, 354, 356, 358, 360, 362, 364, 366, 368] : List Nat).getD t 0]? = some (u_lay RX11 TX11 t) ∧ goodWord (u_lay RX11 TX11 t) = true := by decide +kernel
theorem in_8 : ∀ w ∈ u_ws RX11 TX11 9, w ∈ bigW := fun w hw => by obtain ⟨t, ht, rfl⟩ := List.mem_map.mp hw; have h := ix_8 t (List.mem_range.mp ht); exact bw_t _ h.1 h.2
theorem ix_9 : ∀ t, t < 119 → tables_1[([1500, 1502, 1504, 1506, 1508, 1510, 1512, 1514, 1516, 1518, 1520, 1522, 1524, 1526, 1528, 1530, 1532, 1534, 1536, 1538, 1540, 1542, 1544, 1546, 1548, 1550, 1552, 1554, 1556, 1558, 1560, 1562, 1564, 1566, 1568, 1570, 1572, 1574, 1576, 1578, 1580, 1582, 1584, 1586, 1588, 1590, 1592, 1594, 1596, 1598, 1600, 1602, 1604, 1606, 1608, 1610, 1612, 1614, 1616, 1618, 1620, 1622, 1624, 1626, 1628, 1630, 1632, 1634, 1636, 1638, 1640, 1642, 1644, 1646, 1648, 1650, 1652, 1654, 1656, 1658, 1660, 1662, 1664, 1666, 1668, 1670, 1672, 1674, 1676, 1678, 1680, 1682, 1684, 1686, 1688, 1690, 1692, 1694, 1696, 1698, 1700, 1702, 1704, 1706, 1708, 1710, 1712, 1714, 1716, 1718, 1720, 1722, 1724, 1726, 1728, 1730, 1732, 1734, 1736] : List Nat).getD t 0]? = some (u_lay RX12 TX12 t) ∧ goodWord (u_lay RX12 TX12 t) = true := by decide +kernel
theorem in_9 : ∀ w ∈ u_ws RX12 TX12 119, w ∈ bigW := fun w hw => by obtain ⟨t, ht, rfl⟩ := List.mem_map.mp hw; have h := ix_9 t (List.mem_range.mp ht); exact bw_t _ h.1 h.2
/-- a field that a class names by a number of its pool, and may read (write) -/
def Gok (own : String) (idx k t : Nat) : Prop := ∃ (C : String) (T : u_T) (N : Nat), vwCl[k]? = some (C, T, N) ∧ N = nf k ∧ t < N ∧ (∀ w ∈ u_ws C T N, w ∈ bigW) ∧ Cond.fieldLink own idx (T t).1 (T t).2.1 (T t).2.2.1 ∈ bigW
def Gnk (own : String) (idx k t : Nat) : Prop := ∃ (C : String) (T : u_T) (N : Nat), vwCl[k]? = some (C, T, N) ∧ N = nf k ∧ t < N ∧ (∀ w ∈ u_ws C T N, w ∈ bigW) ∧ Cond.fieldLinkNest own idx (T t).1 (T t).2.1 (T t).2.2.1 "OwnText" ∈ nestW
def Pok (own : String) (idx k t : Nat) (ty : FieldType) : Prop := ∃ (C : String) (T : u_T) (N : Nat) (ty0 : Nat → FieldType), vwCl[k]? = some (C, T, N) ∧ N = nf k ∧ t < N ∧ (∀ w ∈ u_ws C T N, w ∈ bigW) ∧ Cond.fieldLink own idx (T t).1 (T t).2.1 (T t).2.2.1 ∈ bigW ∧ (∀ k, k < N → parseFieldDescriptor (T k).2.2.1 = some (ty0 k)) ∧ (∀ a, a < N → ∀ b, b < N → a ≠ b → (T a).2.1 ≠ (T b).2.1) ∧ (T t).2.2.2 = false ∧ parseFieldDescriptor (T t).2.2.1 = some ty
def Pnk (own : String) (idx k t : Nat) (ty : FieldType) : Prop := ∃ (C : String) (T : u_T) (N : Nat) (ty0 : Nat → FieldType), vwCl[k]? = some (C, T, N) ∧ N = nf k ∧ t < N ∧ (∀ w ∈ u_ws C T N, w ∈ bigW) ∧ Cond.fieldLinkNest own idx (T t).1 (T t).2.1 (T t).2.2.1 "OwnText" ∈ nestW ∧ (∀ k, k < N → parseFieldDescriptor (T k).2.2.1 = some (ty0 k)) ∧ (∀ a, a < N → ∀ b, b < N → a ≠ b → (T a).2.1 ≠ (T b).2.1) ∧ (T t).2.2.2 = false ∧ parseFieldDescriptor (T t).2.2.1 = some ty
def Fok (own : String) (idx k t : Nat) (ty : FieldType) : Prop := ∃ (C : String) (T : u_T) (N : Nat) (ty0 : Nat → FieldType), vwCl[k]? = some (C, T, N) ∧ N = nf k ∧ t < N ∧ (∀ w ∈ u_ws C T N, w ∈ bigW) ∧ Cond.fieldLink own idx (T t).1 (T t).2.1 (T t).2.2.1 ∈ bigW ∧ (∀ k, k < N → parseFieldDescriptor (T k).2.2.1 = some (ty0 k)) ∧ (∀ a, a < N → ∀ b, b < N → a ≠ b → (T a).2.1 ≠ (T b).2.1) ∧ (T t).2.2.2 = true ∧ (T t).1 = own ∧ parseFieldDescriptor (T t).2.2.1 = some ty
theorem k10 {k : Nat} {q : vw_C} (h : vwCl[k]? = some q) : k < 10 := (List.getElem?_eq_some_iff.mp h).1
theorem TS.sI {S : PS} {j a : Nat} {v : Int32} (h : TS S) : TS (sI S j a v) := h
theorem TS.sL {S : PS} {j a : Nat} {v : Int64} (h : TS S) : TS (sL S j a v) := h
theorem TS.wI {S : PS} {r a i : Nat} {v : Int32} (h : TS S) : TS (wI S r a i v) := h
theorem TS.wL {S : PS} {r a i : Nat} {v : Int64} (h : TS S) : TS (wL S r a i v) := h
theorem TS.sR {S : PS} {j a : Nat} {v : Option Nat} (h : TS S) (hv : ∀ b, v = some b → Rf S b (fG j)) : TS (sR S j a v) := by
  refine ⟨fun x i b hx hk h1 h2 hb => ?_, h.2⟩
  have hb : up2 S.2.2.2.2.1 j a v i x = some b := hb
  by_cases hq : i = j ∧ x = a
  · rw [hq.1, hq.2, up2_s] at hb
    rw [hq.1]
    exact hv b hb
  · rw [up2_n _ _ (by omega)] at hb
    exact h.1 x i b hx hk h1 h2 hb
theorem Ext.sI {S : PS} {j a : Nat} {v : Int32} : Ext S (sI S j a v) := fun _ h => ⟨h, rfl, rfl⟩
theorem Ext.sL {S : PS} {j a : Nat} {v : Int64} : Ext S (sL S j a v) := fun _ h => ⟨h, rfl, rfl⟩
theorem Ext.sR {S : PS} {j a : Nat} {v : Option Nat} : Ext S (sR S j a v) := fun _ h => ⟨h, rfl, rfl⟩
theorem Ext.wI {S : PS} {r a i : Nat} {v : Int32} : Ext S (wI S r a i v) := fun _ h => ⟨h, rfl, rfl⟩
theorem Ext.wL {S : PS} {r a i : Nat} {v : Int64} : Ext S (wL S r a i v) := fun _ h => ⟨h, rfl, rfl⟩
section VA
variable {X : XX} {cc : ByteArray} {own : String} {ret : Option FieldType} {rm : Room} {n : Nat × Nat} {S : PS} {lv : List (Nat × Value)} {st : List Value} {pc idx k t a : Nat}
theorem v_getf (F : Fx X cc own ret rm) (G : Gok own idx k t) (ha : Rf S a k) {v : Value} (hv : fval S a (fB k + t) = v) (hdg : decode cc pc = .ok (.getfield idx, 3)) (kk : VV X n S lv (v :: st) (pc + 3)) : VV X n S lv (.ref a :: st) pc := by
  intro hT hE H locs ls hP hD hS hl
  obtain ⟨C, T, N, hc, hN, ht, hin, hw⟩ := G
  obtain ⟨q, hq⟩ := wd_get (E := xE X) ha.1
  rw [cel_obj ha.2 (k10 hc)] at hq
  exact va_get F.hx F.hb F.ts hin F.own0 F.K hP q hq hc t ht (F.ts _ hw) (fun _ h => h) (by rw [flds_get (hN ▸ ht), hv]) hdg (kk hT hE H locs ls hP hD hS hl)
theorem v_getn (F : Fx X cc own ret rm) (G : Gnk own idx k t) (ha : Rf S a k) {v : Value} (hv : fval S a (fB k + t) = v) (hdg : decode cc pc = .ok (.getfield idx, 3)) (kk : VV X n S lv (v :: st) (pc + 3)) : VV X n S lv (.ref a :: st) pc := by
  intro hT hE H locs ls hP hD hS hl
  obtain ⟨C, T, N, hc, hN, ht, hin, hw⟩ := G
  obtain ⟨q, hq⟩ := wd_get (E := xE X) ha.1
  rw [cel_obj ha.2 (k10 hc)] at hq
  exact va_getN F.hx F.hb F.ts hin F.own0 F.K hP q hq hc t ht ((F.nw _ hw).use rfl) (fun _ h => h) (by rw [flds_get (hN ▸ ht), hv]) hdg (kk hT hE H locs ls hP hD hS hl)
theorem v_puti (F : Fx X cc own ret rm) {ty : FieldType} (G : Pok own idx k t ty) (ha : Rf S a k) (h0 : fT (fB k + t) = 0) {v : Int32} (hn : narrow ty (.int v) = .int v) (hf : fits ty (.int v) = true) (hdg : decode cc pc = .ok (.putfield idx, 3)) (kk : VV X n (sI S (fB k + t) a v) lv st (pc + 3)) : VV X n S lv (.int v :: .ref a :: st) pc := by
  intro hT hE H locs ls hP hD hS hl
  obtain ⟨C, T, N, ty0, hc, hN, ht, hin, hw, hty, hnm, hfi, hpd⟩ := G
  obtain ⟨q, hq⟩ := wd_get (E := xE X) ha.1
  have hq1 := hq
  rw [cel_obj ha.2 (k10 hc)] at hq
  refine va_put F.hx F.hb F.ts hin ty0 hty hnm F.own0 F.K hP hD hS q hq hc t ht (F.ts _ hw) (fun _ h => h) hfi hpd hn hf (by rw [flds_len]; exact hN ▸ ht) hdg (fun H1 locs1 hP hD1 hS => ?_)
  rw [wd_sI hD ha (k10 hc) h0 hq1] at hP hD1
  exact kk hT.sI hE H1 locs1 ls hP hD1 hS hl
theorem v_putl (F : Fx X cc own ret rm) {ty : FieldType} (G : Pok own idx k t ty) (ha : Rf S a k) (h0 : fT (fB k + t) = 1) {v : Int64} (hn : narrow ty (.long v) = .long v) (hf : fits ty (.long v) = true) (hdg : decode cc pc = .ok (.putfield idx, 3)) (kk : VV X n (sL S (fB k + t) a v) lv st (pc + 3)) : VV X n S lv (.long v :: .ref a :: st) pc := by
  intro hT hE H locs ls hP hD hS hl
  obtain ⟨C, T, N, ty0, hc, hN, ht, hin, hw, hty, hnm, hfi, hpd⟩ := G
  obtain ⟨q, hq⟩ := wd_get (E := xE X) ha.1
  have hq1 := hq
  rw [cel_obj ha.2 (k10 hc)] at hq
  refine va_put F.hx F.hb F.ts hin ty0 hty hnm F.own0 F.K hP hD hS q hq hc t ht (F.ts _ hw) (fun _ h => h) hfi hpd hn hf (by rw [flds_len]; exact hN ▸ ht) hdg (fun H1 locs1 hP hD1 hS => ?_)
  rw [wd_sL hD ha (k10 hc) h0 hq1] at hP hD1
  exact kk hT.sL hE H1 locs1 ls hP hD1 hS hl
theorem v_putr (F : Fx X cc own ret rm) {ty : FieldType} (G : Pok own idx k t ty) (ha : Rf S a k) (h0 : fT (fB k + t) = 2) {b : Nat} (hb : Rf S b (fG (fB k + t))) (hn : narrow ty (.ref b) = .ref b) (hf : fits ty (.ref b) = true) (hdg : decode cc pc = .ok (.putfield idx, 3)) (kk : VV X n (sR S (fB k + t) a (some b)) lv st (pc + 3)) : VV X n S lv (.ref b :: .ref a :: st) pc := by
  intro hT hE H locs ls hP hD hS hl
  obtain ⟨C, T, N, ty0, hc, hN, ht, hin, hw, hty, hnm, hfi, hpd⟩ := G
  obtain ⟨q, hq⟩ := wd_get (E := xE X) ha.1
  have hq1 := hq
  rw [cel_obj ha.2 (k10 hc)] at hq
  refine va_put F.hx F.hb F.ts hin ty0 hty hnm F.own0 F.K hP hD hS q hq hc t ht (F.ts _ hw) (fun _ h => h) hfi hpd hn hf (by rw [flds_len]; exact hN ▸ ht) hdg (fun H1 locs1 hP hD1 hS => ?_)
  have he := wd_sR (E := xE X) (v := some b) hD ha (k10 hc) h0 hq1
  rw [show va_rf (some b) = .ref b from rfl] at he
  rw [he] at hP hD1
  exact kk (hT.sR (fun x hx => by cases hx; exact hb)) hE H1 locs1 ls hP hD1 hS hl
theorem v_putin (F : Fx X cc own ret rm) {ty : FieldType} (G : Pnk own idx k t ty) (ha : Rf S a k) (h0 : fT (fB k + t) = 0) {v : Int32} (hn : narrow ty (.int v) = .int v) (hf : fits ty (.int v) = true) (hdg : decode cc pc = .ok (.putfield idx, 3)) (kk : VV X n (sI S (fB k + t) a v) lv st (pc + 3)) : VV X n S lv (.int v :: .ref a :: st) pc := by
  intro hT hE H locs ls hP hD hS hl
  obtain ⟨C, T, N, ty0, hc, hN, ht, hin, hw, hty, hnm, hfi, hpd⟩ := G
  obtain ⟨q, hq⟩ := wd_get (E := xE X) ha.1
  have hq1 := hq
  rw [cel_obj ha.2 (k10 hc)] at hq
  refine va_putN F.hx F.hb F.ts hin ty0 hty hnm F.own0 F.K hP hD hS q hq hc t ht ((F.nw _ hw).use rfl) (fun _ h => h) hfi hpd hn hf (by rw [flds_len]; exact hN ▸ ht) hdg (fun H1 locs1 hP hD1 hS => ?_)
  rw [wd_sI hD ha (k10 hc) h0 hq1] at hP hD1
  exact kk hT.sI hE H1 locs1 ls hP hD1 hS hl
theorem v_putln (F : Fx X cc own ret rm) {ty : FieldType} (G : Pnk own idx k t ty) (ha : Rf S a k) (h0 : fT (fB k + t) = 1) {v : Int64} (hn : narrow ty (.long v) = .long v) (hf : fits ty (.long v) = true) (hdg : decode cc pc = .ok (.putfield idx, 3)) (kk : VV X n (sL S (fB k + t) a v) lv st (pc + 3)) : VV X n S lv (.long v :: .ref a :: st) pc := by
  intro hT hE H locs ls hP hD hS hl
  obtain ⟨C, T, N, ty0, hc, hN, ht, hin, hw, hty, hnm, hfi, hpd⟩ := G
  obtain ⟨q, hq⟩ := wd_get (E := xE X) ha.1
  have hq1 := hq
  rw [cel_obj ha.2 (k10 hc)] at hq
  refine va_putN F.hx F.hb F.ts hin ty0 hty hnm F.own0 F.K hP hD hS q hq hc t ht ((F.nw _ hw).use rfl) (fun _ h => h) hfi hpd hn hf (by rw [flds_len]; exact hN ▸ ht) hdg (fun H1 locs1 hP hD1 hS => ?_)
  rw [wd_sL hD ha (k10 hc) h0 hq1] at hP hD1
  exact kk hT.sL hE H1 locs1 ls hP hD1 hS hl
theorem v_putrn (F : Fx X cc own ret rm) {ty : FieldType} (G : Pnk own idx k t ty) (ha : Rf S a k) (h0 : fT (fB k + t) = 2) {b : Nat} (hb : Rf S b (fG (fB k + t))) (hn : narrow ty (.ref b) = .ref b) (hf : fits ty (.ref b) = true) (hdg : decode cc pc = .ok (.putfield idx, 3)) (kk : VV X n (sR S (fB k + t) a (some b)) lv st (pc + 3)) : VV X n S lv (.ref b :: .ref a :: st) pc := by
  intro hT hE H locs ls hP hD hS hl
  obtain ⟨C, T, N, ty0, hc, hN, ht, hin, hw, hty, hnm, hfi, hpd⟩ := G
  obtain ⟨q, hq⟩ := wd_get (E := xE X) ha.1
  have hq1 := hq
  rw [cel_obj ha.2 (k10 hc)] at hq
  refine va_putN F.hx F.hb F.ts hin ty0 hty hnm F.own0 F.K hP hD hS q hq hc t ht ((F.nw _ hw).use rfl) (fun _ h => h) hfi hpd hn hf (by rw [flds_len]; exact hN ▸ ht) hdg (fun H1 locs1 hP hD1 hS => ?_)
  have he := wd_sR (E := xE X) (v := some b) hD ha (k10 hc) h0 hq1
  rw [show va_rf (some b) = .ref b from rfl] at he
  rw [he] at hP hD1
  exact kk (hT.sR (fun x hx => by cases hx; exact hb)) hE H1 locs1 ls hP hD1 hS hl
theorem v_putiF (F : Fx X cc own ret rm) {ty : FieldType} (G : Fok own idx k t ty) (hin2 : (xM X).name = "<init>") (ha : Rf S a k) (h0 : fT (fB k + t) = 0) {v : Int32} (hn : narrow ty (.int v) = .int v) (hf : fits ty (.int v) = true) (hdg : decode cc pc = .ok (.putfield idx, 3)) (kk : VV X n (sI S (fB k + t) a v) lv st (pc + 3)) : VV X n S lv (.int v :: .ref a :: st) pc := by
  intro hT hE H locs ls hP hD hS hl
  obtain ⟨C, T, N, ty0, hc, hN, ht, hin, hw, hty, hnm, hfi, hde, hpd⟩ := G
  obtain ⟨q, hq⟩ := wd_get (E := xE X) ha.1
  have hq1 := hq
  rw [cel_obj ha.2 (k10 hc)] at hq
  refine va_putF F.hx F.hb F.ts hin ty0 hty hnm F.own0 F.K hP hD hS q hq hc t ht (F.ts _ hw) (fun _ h => h) hfi hin2 hde hpd hn hf (by rw [flds_len]; exact hN ▸ ht) hdg (fun H1 locs1 hP hD1 hS => ?_)
  rw [wd_sI hD ha (k10 hc) h0 hq1] at hP hD1
  exact kk hT.sI hE H1 locs1 ls hP hD1 hS hl
theorem v_putlF (F : Fx X cc own ret rm) {ty : FieldType} (G : Fok own idx k t ty) (hin2 : (xM X).name = "<init>") (ha : Rf S a k) (h0 : fT (fB k + t) = 1) {v : Int64} (hn : narrow ty (.long v) = .long v) (hf : fits ty (.long v) = true) (hdg : decode cc pc = .ok (.putfield idx, 3)) (kk : VV X n (sL S (fB k + t) a v) lv st (pc + 3)) : VV X n S lv (.long v :: .ref a :: st) pc := by
  intro hT hE H locs ls hP hD hS hl
  obtain ⟨C, T, N, ty0, hc, hN, ht, hin, hw, hty, hnm, hfi, hde, hpd⟩ := G
  obtain ⟨q, hq⟩ := wd_get (E := xE X) ha.1
  have hq1 := hq
  rw [cel_obj ha.2 (k10 hc)] at hq
  refine va_putF F.hx F.hb F.ts hin ty0 hty hnm F.own0 F.K hP hD hS q hq hc t ht (F.ts _ hw) (fun _ h => h) hfi hin2 hde hpd hn hf (by rw [flds_len]; exact hN ▸ ht) hdg (fun H1 locs1 hP hD1 hS => ?_)
  rw [wd_sL hD ha (k10 hc) h0 hq1] at hP hD1
  exact kk hT.sL hE H1 locs1 ls hP hD1 hS hl
theorem v_putrF (F : Fx X cc own ret rm) {ty : FieldType} (G : Fok own idx k t ty) (hin2 : (xM X).name = "<init>") (ha : Rf S a k) (h0 : fT (fB k + t) = 2) {b : Nat} (hb : Rf S b (fG (fB k + t))) (hn : narrow ty (.ref b) = .ref b) (hf : fits ty (.ref b) = true) (hdg : decode cc pc = .ok (.putfield idx, 3)) (kk : VV X n (sR S (fB k + t) a (some b)) lv st (pc + 3)) : VV X n S lv (.ref b :: .ref a :: st) pc := by
  intro hT hE H locs ls hP hD hS hl
  obtain ⟨C, T, N, ty0, hc, hN, ht, hin, hw, hty, hnm, hfi, hde, hpd⟩ := G
  obtain ⟨q, hq⟩ := wd_get (E := xE X) ha.1
  have hq1 := hq
  rw [cel_obj ha.2 (k10 hc)] at hq
  refine va_putF F.hx F.hb F.ts hin ty0 hty hnm F.own0 F.K hP hD hS q hq hc t ht (F.ts _ hw) (fun _ h => h) hfi hin2 hde hpd hn hf (by rw [flds_len]; exact hN ▸ ht) hdg (fun H1 locs1 hP hD1 hS => ?_)
  have he := wd_sR (E := xE X) (v := some b) hD ha (k10 hc) h0 hq1
  rw [show va_rf (some b) = .ref b from rfl] at he
  rw [he] at hP hD1
  exact kk (hT.sR (fun x hx => by cases hx; exact hb)) hE H1 locs1 ls hP hD1 hS hl
theorem v_getI (F : Fx X cc own ret rm) (G : Gok own idx k t) (ha : Rf S a k) (h0 : fT (fB k + t) = 0) (hdg : decode cc pc = .ok (.getfield idx, 3)) (kk : VV X n S lv (.int (fI S (fB k + t) a) :: st) (pc + 3)) : VV X n S lv (.ref a :: st) pc := v_getf F G ha (by simp [fval, h0]) hdg kk
theorem v_getL (F : Fx X cc own ret rm) (G : Gok own idx k t) (ha : Rf S a k) (h0 : fT (fB k + t) = 1) (hdg : decode cc pc = .ok (.getfield idx, 3)) (kk : VV X n S lv (.long (fL S (fB k + t) a) :: st) (pc + 3)) : VV X n S lv (.ref a :: st) pc := v_getf F G ha (by simp [fval, h0]) hdg kk
theorem v_getnI (F : Fx X cc own ret rm) (G : Gnk own idx k t) (ha : Rf S a k) (h0 : fT (fB k + t) = 0) (hdg : decode cc pc = .ok (.getfield idx, 3)) (kk : VV X n S lv (.int (fI S (fB k + t) a) :: st) (pc + 3)) : VV X n S lv (.ref a :: st) pc := v_getn F G ha (by simp [fval, h0]) hdg kk
theorem v_getnL (F : Fx X cc own ret rm) (G : Gnk own idx k t) (ha : Rf S a k) (h0 : fT (fB k + t) = 1) (hdg : decode cc pc = .ok (.getfield idx, 3)) (kk : VV X n S lv (.long (fL S (fB k + t) a) :: st) (pc + 3)) : VV X n S lv (.ref a :: st) pc := v_getn F G ha (by simp [fval, h0]) hdg kk
theorem TS.ref {j b : Nat} (hT : TS S) (ha : Rf S a k) (hk : k < 10) (ht : t < nf k) (hj : fB k + t = j) (h : fR S j a = some b) : Rf S b (fG j) := by
  refine hT.1 a j b ha.1 (by rw [ha.2]; exact hk) ?_ ?_ h
  · rw [ha.2]; omega
  · rw [ha.2]; omega
theorem v_getR (F : Fx X cc own ret rm) (G : Gok own idx k t) (ha : Rf S a k) (h0 : fT (fB k + t) = 2) {Pb : Nat → Prop} (h : ∃ b, fR S (fB k + t) a = some b ∧ Pb b) (hdg : decode cc pc = .ok (.getfield idx, 3)) (kk : ∀ b, Rf S b (fG (fB k + t)) → Pb b → VV X n S lv (.ref b :: st) (pc + 3)) : VV X n S lv (.ref a :: st) pc := by
  obtain ⟨b, hb, hp⟩ := h
  have hk : k < 10 ∧ t < nf k := by obtain ⟨C, T, N, hc, hN, ht, _⟩ := G; exact ⟨k10 hc, hN ▸ ht⟩
  refine v_getf F G ha (v := .ref b) ?_ hdg (v_ts fun hT => kk b (hT.ref ha hk.1 hk.2 rfl hb) hp)
  simp [fval, h0, hb, va_rf]
theorem v_getnR (F : Fx X cc own ret rm) (G : Gnk own idx k t) (ha : Rf S a k) (h0 : fT (fB k + t) = 2) {Pb : Nat → Prop} (h : ∃ b, fR S (fB k + t) a = some b ∧ Pb b) (hdg : decode cc pc = .ok (.getfield idx, 3)) (kk : ∀ b, Rf S b (fG (fB k + t)) → Pb b → VV X n S lv (.ref b :: st) (pc + 3)) : VV X n S lv (.ref a :: st) pc := by
  obtain ⟨b, hb, hp⟩ := h
  have hk : k < 10 ∧ t < nf k := by obtain ⟨C, T, N, hc, hN, ht, _⟩ := G; exact ⟨k10 hc, hN ▸ ht⟩
  refine v_getn F G ha (v := .ref b) ?_ hdg (v_ts fun hT => kk b (hT.ref ha hk.1 hk.2 rfl hb) hp)
  simp [fval, h0, hb, va_rf]
theorem v_iald (F : Fx X cc own ret rm) {r b : Nat} {i : Int32} {Pp : Prop} (hb : Rf S b r) (hr : 10 ≤ r ∧ rE r = 1) (h : vp_in i (aN S b) ∧ Pp) (hdg : decode cc pc = .ok (.iaload, 1)) (kk : Pp → VV X n S lv (.int (aI S r b i.toNatClampNeg) :: st) (pc + 1)) : VV X n S lv (.int i :: .ref b :: st) pc := by
  intro hT hE H locs ls hP hD hS hl
  obtain ⟨q, hq⟩ := wd_get (E := xE X) hb.1
  rw [cel_arr hb.2 hr.1, cont_i (by rw [hr.2]; decide) (by rw [hr.2]; decide), hr.2] at hq
  exact va_iald F.hx F.hb F.K hP q 1 hq rfl h.1 hdg (kk h.2 hT hE H locs ls hP hD hS hl)
theorem v_bald (F : Fx X cc own ret rm) {r b : Nat} {i : Int32} {Pp : Prop} (hb : Rf S b r) (hr : 10 ≤ r ∧ rE r = 0) (h : vp_in i (aN S b) ∧ Pp) (hdg : decode cc pc = .ok (.baload, 1)) (kk : Pp → VV X n S lv (.int (aI S r b i.toNatClampNeg) :: st) (pc + 1)) : VV X n S lv (.int i :: .ref b :: st) pc := by
  intro hT hE H locs ls hP hD hS hl
  obtain ⟨q, hq⟩ := wd_get (E := xE X) hb.1
  rw [cel_arr hb.2 hr.1, cont_i (by rw [hr.2]; decide) (by rw [hr.2]; decide), hr.2] at hq
  exact va_bald F.hx F.hb F.K hP q 0 hq rfl h.1 hdg (kk h.2 hT hE H locs ls hP hD hS hl)
theorem v_zald (F : Fx X cc own ret rm) {r b : Nat} {i : Int32} {Pp : Prop} (hb : Rf S b r) (hr : 10 ≤ r ∧ rE r = 3) (h : vp_in i (aN S b) ∧ Pp) (hdg : decode cc pc = .ok (.baload, 1)) (kk : Pp → VV X n S lv (.int (aI S r b i.toNatClampNeg) :: st) (pc + 1)) : VV X n S lv (.int i :: .ref b :: st) pc := by
  intro hT hE H locs ls hP hD hS hl
  obtain ⟨q, hq⟩ := wd_get (E := xE X) hb.1
  rw [cel_arr hb.2 hr.1, cont_i (by rw [hr.2]; decide) (by rw [hr.2]; decide), hr.2] at hq
  exact va_zald F.hx F.hb F.K hP q 3 hq rfl h.1 hdg (kk h.2 hT hE H locs ls hP hD hS hl)
theorem v_lald (F : Fx X cc own ret rm) {r b : Nat} {i : Int32} {Pp : Prop} (hb : Rf S b r) (hr : 10 ≤ r ∧ rE r = 2) (h : vp_in i (aN S b) ∧ Pp) (hdg : decode cc pc = .ok (.laload, 1)) (kk : Pp → VV X n S lv (.long (aL S r b i.toNatClampNeg) :: st) (pc + 1)) : VV X n S lv (.int i :: .ref b :: st) pc := by
  intro hT hE H locs ls hP hD hS hl
  obtain ⟨q, hq⟩ := wd_get (E := xE X) hb.1
  rw [cel_arr hb.2 hr.1, cont_l hr.2, hr.2] at hq
  exact va_lald F.hx F.hb F.K hP q 2 hq rfl h.1 hdg (kk h.2 hT hE H locs ls hP hD hS hl)
theorem v_alen (F : Fx X cc own ret rm) {r b : Nat} (hb : Rf S b r) (hr : 10 ≤ r ∧ rE r < 5) (hdg : decode cc pc = .ok (.arraylength, 1)) (kk : VV X n S lv (.int (nI (aN S b)) :: st) (pc + 1)) : VV X n S lv (.ref b :: st) pc := by
  intro hT hE H locs ls hP hD hS hl
  obtain ⟨q, hq⟩ := wd_get (E := xE X) hb.1
  rw [cel_arr hb.2 hr.1] at hq
  have : ∃ ty, (tyE (xE X))[rE r]? = some ((xE X).1.2 (rE r), ty) := by
    have h5 := hr.2
    generalize rE r = e at h5
    match e, h5 with
    | 0, _ => exact ⟨_, rfl⟩
    | 1, _ => exact ⟨_, rfl⟩
    | 2, _ => exact ⟨_, rfl⟩
    | 3, _ => exact ⟨_, rfl⟩
    | 4, _ => exact ⟨_, rfl⟩
  obtain ⟨ty, hty⟩ := this
  exact va_alen F.hx F.hb F.K hP q (rE r) hq hty rfl hdg (kk hT hE H locs ls hP hD hS hl)
theorem v_iast (F : Fx X cc own ret rm) {r b : Nat} {i x : Int32} {Pp : PS → Prop} (hb : Rf S b r) (hr : 10 ≤ r ∧ rE r = 1) (h : vp_in i (aN S b) ∧ ∀ S1, S1 = wI S r b i.toNatClampNeg x → Pp S1) (hdg : decode cc pc = .ok (.iastore, 1)) (kk : ∀ S1 : PS, Pp S1 → Ext S S1 → VV X n S1 lv st (pc + 1)) : VV X n S lv (.int x :: .int i :: .ref b :: st) pc := by
  intro hT hE H locs ls hP hD hS hl
  obtain ⟨q, hq⟩ := wd_get (E := xE X) hb.1
  have hq1 := hq
  rw [cel_arr hb.2 hr.1, cont_i (by rw [hr.2]; decide) (by rw [hr.2]; decide), hr.2] at hq
  refine va_iast F.hx F.hb F.K hP hD hS q 1 hq rfl h.1 hdg (fun H1 locs1 hP hD1 hS => ?_)
  have he := wd_wI (E := xE X) (i := i.toNatClampNeg) (v := x) hD hb hr.1 (by rw [hr.2]; decide) (by rw [hr.2]; decide) hq1
  rw [hr.2] at he
  rw [he] at hP hD1
  exact kk _ (h.2 _ rfl) Ext.wI hT.wI hE H1 locs1 ls hP hD1 hS hl
theorem v_bast (F : Fx X cc own ret rm) {r b : Nat} {i x : Int32} {Pp : PS → Prop} (hb : Rf S b r) (hr : 10 ≤ r ∧ rE r = 0) (h : vp_in i (aN S b) ∧ ∀ S1, S1 = wI S r b i.toNatClampNeg (vp_nar .byte x) → Pp S1) (hdg : decode cc pc = .ok (.bastore, 1)) (kk : ∀ S1 : PS, Pp S1 → Ext S S1 → VV X n S1 lv st (pc + 1)) : VV X n S lv (.int x :: .int i :: .ref b :: st) pc := by
  intro hT hE H locs ls hP hD hS hl
  obtain ⟨q, hq⟩ := wd_get (E := xE X) hb.1
  have hq1 := hq
  rw [cel_arr hb.2 hr.1, cont_i (by rw [hr.2]; decide) (by rw [hr.2]; decide), hr.2] at hq
  refine va_bast F.hx F.hb F.K hP hD hS q 0 hq rfl h.1 hdg (fun H1 locs1 hP hD1 hS => ?_)
  have he := wd_wI (E := xE X) (i := i.toNatClampNeg) (v := (vp_nar .byte x)) hD hb hr.1 (by rw [hr.2]; decide) (by rw [hr.2]; decide) hq1
  rw [hr.2] at he
  rw [he] at hP hD1
  exact kk _ (h.2 _ rfl) Ext.wI hT.wI hE H1 locs1 ls hP hD1 hS hl
theorem v_zast (F : Fx X cc own ret rm) {r b : Nat} {i x : Int32} {Pp : PS → Prop} (hb : Rf S b r) (hr : 10 ≤ r ∧ rE r = 3) (h : vp_in i (aN S b) ∧ ∀ S1, S1 = wI S r b i.toNatClampNeg (vp_nar .boolean x) → Pp S1) (hdg : decode cc pc = .ok (.bastore, 1)) (kk : ∀ S1 : PS, Pp S1 → Ext S S1 → VV X n S1 lv st (pc + 1)) : VV X n S lv (.int x :: .int i :: .ref b :: st) pc := by
  intro hT hE H locs ls hP hD hS hl
  obtain ⟨q, hq⟩ := wd_get (E := xE X) hb.1
  have hq1 := hq
  rw [cel_arr hb.2 hr.1, cont_i (by rw [hr.2]; decide) (by rw [hr.2]; decide), hr.2] at hq
  refine va_zast F.hx F.hb F.K hP hD hS q 3 hq rfl h.1 hdg (fun H1 locs1 hP hD1 hS => ?_)
  have he := wd_wI (E := xE X) (i := i.toNatClampNeg) (v := (vp_nar .boolean x)) hD hb hr.1 (by rw [hr.2]; decide) (by rw [hr.2]; decide) hq1
  rw [hr.2] at he
  rw [he] at hP hD1
  exact kk _ (h.2 _ rfl) Ext.wI hT.wI hE H1 locs1 ls hP hD1 hS hl
theorem v_last (F : Fx X cc own ret rm) {r b : Nat} {i : Int32} {x : Int64} {Pp : PS → Prop} (hb : Rf S b r) (hr : 10 ≤ r ∧ rE r = 2) (h : vp_in i (aN S b) ∧ ∀ S1, S1 = wL S r b i.toNatClampNeg x → Pp S1) (hdg : decode cc pc = .ok (.lastore, 1)) (kk : ∀ S1 : PS, Pp S1 → Ext S S1 → VV X n S1 lv st (pc + 1)) : VV X n S lv (.long x :: .int i :: .ref b :: st) pc := by
  intro hT hE H locs ls hP hD hS hl
  obtain ⟨q, hq⟩ := wd_get (E := xE X) hb.1
  have hq1 := hq
  rw [cel_arr hb.2 hr.1, cont_l hr.2, hr.2] at hq
  refine va_last F.hx F.hb F.K hP hD hS q 2 hq rfl h.1 hdg (fun H1 locs1 hP hD1 hS => ?_)
  have he := wd_wL (E := xE X) (i := i.toNatClampNeg) (v := x) hD hb hr.1 hr.2 hq1
  rw [hr.2] at he
  rw [he] at hP hD1
  exact kk _ (h.2 _ rfl) Ext.wL hT.wL hE H1 locs1 ls hP hD1 hS hl
/-- a method that a class names by a number of its pool -/
def Cok (own : String) (idx : Nat) (y : MethodName) (b : ByteArray) (maxL : Nat) (rt : Option FieldType) (np : Nat) : Prop := Cond.methodLink own idx y ∈ bigW ∧ Cond.instanceMethod y ∈ bigW ∧ Cond.selects y.cls y y ∈ bigW ∧ Cond.initialized y.cls ∈ bigW ∧ Cond.code y b maxL rt ∈ bigW ∧ y.cls ≠ "java/lang/invoke/MethodHandle" ∧ y.cls ≠ "java/lang/invoke/VarHandle" ∧ (parseMethodDescriptor y.desc).map (fun d => d.parameters.length) = some np
def Sok (own : String) (idx : Nat) (y : MethodName) (b : ByteArray) (maxL : Nat) (rt : Option FieldType) (np : Nat) : Prop := Cond.methodLink own idx y ∈ bigW ∧ Cond.static y ∈ bigW ∧ Cond.initialized y.cls ∈ bigW ∧ Cond.code y b maxL rt ∈ bigW ∧ y.cls ≠ "java/lang/invoke/MethodHandle" ∧ y.cls ≠ "java/lang/invoke/VarHandle" ∧ (parseMethodDescriptor y.desc).map (fun d => d.parameters.length) = some np
def Iok (own : String) (idx : Nat) (y : MethodName) (b : ByteArray) (maxL : Nat) (np : Nat) : Prop := Cond.methodLink own idx y ∈ bigW ∧ Cond.instanceMethod y ∈ bigW ∧ Cond.initialized y.cls ∈ bigW ∧ Cond.code y b maxL none ∈ bigW ∧ y.name = "<init>" ∧ y.cls ≠ "java/lang/invoke/MethodHandle" ∧ y.cls ≠ "java/lang/invoke/VarHandle" ∧ (parseMethodDescriptor y.desc).map (fun d => d.parameters.length) = some np
theorem good_big {w : Cond} (h : w ∈ bigW) : (w.onTables && w.keeps) = true ∨ ∃ ty, w = .arrayClass ty := good_of_word (List.mem_filter.mp h).2
theorem gi_cons {cd : Cond} (h : cd ∈ bigW) : GoodIn bigW (cd :: bigW) := fun w hw => by
  rcases List.mem_cons.mp hw with rfl | hw
  · exact ⟨h, good_big h⟩
  · exact ⟨hw, good_big hw⟩
theorem In_blind {E : EE} {A : Nat → Prop} {S : PS} {av : List Value} : FrameBlind (va_Pc av (Inw E A S)) := by
  intro a U g mk q
  obtain ⟨q0, hA, hP, hK, hD, hT, hN, hok, hcw⟩ := q
  exact ⟨q0, hA, hP, va_K.moved (u := U) (U := U.calling g mk a) (Vm.Alike.refl U.vm) hK, hD, hT, NW.same (u := U) (U := U.calling g mk a) rfl hN, hok, hok.2 A U _ rfl rfl hcw⟩
theorem In_of (F : Fx X cc own ret rm) {H : Heap} {locs : List Loc} (hT : TS S) (hP : va_P (xE X).1.1 vwCl (wd (xE X) S) H) (hD : va_D (xA X) (wd (xE X) S)) (hS : va_S (xA X) (xs X).heap H locs) {U : State} (hU : U.heap = H) (hW : (xs X).WarmedH U.vm) : Inw (xE X) (xA X) S U := by
  refine ⟨fun q hq => F.A q (Nat.le_trans hS.1 (by rw [← hU]; exact hq)), by rw [hU]; exact hP, F.K.mv hW, hD, hT, F.nw.warm hW, F.ok, ?_⟩
  exact F.ok.1 (xA X) (xs X) U H locs F.cw hS hU hW
/-- a call stands ready -/
def RunOk (X : XX) (n : Nat × Nat) (S : PS) (lv : List (Nat × Value)) (stk rest : List Value) (pc : Nat) (mc ms : Nat) (Qa : State → Outcome → State → Prop) : Prop := ∀ (H : Heap) (locs : List Loc) (ls : Array Slot), TS S → va_P (xE X).1.1 vwCl (wd (xE X) S) H → va_D (xA X) (wd (xE X) S) → va_S (xA X) (xs X).heap H locs → lv_has ls (xN X) lv → va_Run (xp X) (xl X) (xe X) (xR X) (xs X) (xm X) (xa X) (xb X) (xM X) (xc X) H locs n.1 n.2 mc ms (F0 (xm X) pc ls stk) rest Qa (xA X)
theorem v_runV (F : Fx X cc own ret rm) {y : MethodName} {b : ByteArray} {maxL np : Nat} {rt : Option FieldType} (K : Cok own idx y b maxL rt np) {T : u_T} {N : Nat} (hc : vwCl[k]? = some (y.cls, T, N)) {rm1 : Room} {As rest : List Value} {Qc : Array Value → State → Outcome → State → Prop} (hM : Met (xl X) y (.code y b maxL rt :: bigW) rm1 (va_Pc (.ref a :: As) (Inw (xE X) (xA X) S)) Qc rm1.cells rm1.slots (xA X)) (ha : Rf S a k) (hn : As.length = np) {stk : List Value} (hst : stk = As.reverse ++ .ref a :: rest) (hroom : (rest.map fun v => v.category).sum ≤ 8) (hR : rm1.frames + 1 ≤ rm.frames ∧ 8 + (maxL + 11) + rm1.locals ≤ rm.locals) (hcs : n.1 + rm1.cells ≤ rm.cells ∧ n.2 + rm1.slots ≤ rm.slots) (hdg : decode cc pc = .ok (.invokevirtual idx, 3)) : RunOk X n S lv stk rest pc rm1.cells rm1.slots (Qc (Value.ref a :: As).toArray) := by
  subst hst
  intro H locs ls hT hP hD hS hl
  obtain ⟨q, hq⟩ := wd_get (E := xE X) ha.1
  rw [cel_obj ha.2 (k10 hc)] at hq
  refine va_runV (F.fix rfl) hM (C := y.cls) (cwV np F.ts (fun w hw => ?_) rfl rfl rfl ⟨rfl, K.2.2.2.2.2.1, K.2.2.2.2.2.2.1, K.2.2.2.2.2.2.2⟩ (by rw [F.rm0]; exact hR)) ⟨In_blind, va_recv F.K hP hc hq, fun U hU hW => ⟨rfl, In_of F hT hP hD hS hU hW⟩⟩ rfl hn hl.1 rfl (lv_room hroom) hdg (by rw [F.rm0]; exact hcs)
  rcases List.mem_append.mp (show w ∈ _ ++ _ from hw) with h | h
  · rcases List.mem_cons.mp h with rfl | h
    · exact ⟨K.1, good_big K.1⟩
    · rcases List.mem_cons.mp h with rfl | h
      · exact ⟨K.2.1, good_big K.2.1⟩
      · rcases List.mem_cons.mp h with rfl | h
        · exact ⟨K.2.2.1, good_big K.2.2.1⟩
        · rcases List.mem_cons.mp h with rfl | h
          · exact ⟨K.2.2.2.1, good_big K.2.2.2.1⟩
          · cases h
  · exact gi_cons K.2.2.2.2.1 w h
theorem v_runS (F : Fx X cc own ret rm) {y : MethodName} {b : ByteArray} {maxL np : Nat} {rt : Option FieldType} (K : Sok own idx y b maxL rt np) {rm1 : Room} {As rest : List Value} {Qc : Array Value → State → Outcome → State → Prop} (hM : Met (xl X) y (.code y b maxL rt :: bigW) rm1 (va_Pc As (Inw (xE X) (xA X) S)) Qc rm1.cells rm1.slots (xA X)) (hn : As.length = np) {stk : List Value} (hst : stk = As.reverse ++ rest) (hroom : (rest.map fun v => v.category).sum ≤ 8) (hR : rm1.frames + 1 ≤ rm.frames ∧ 8 + (maxL + 11) + rm1.locals ≤ rm.locals) (hcs : n.1 + rm1.cells ≤ rm.cells ∧ n.2 + rm1.slots ≤ rm.slots) (hdg : decode cc pc = .ok (.invokestatic idx, 3)) : RunOk X n S lv stk rest pc rm1.cells rm1.slots (Qc As.toArray) := by
  subst hst
  intro H locs ls hT hP hD hS hl
  refine va_runS (F.fix rfl) hM ⟨callB_of np F.ts (gi_cons K.2.2.2.1) rfl rfl rfl (F.ts _ K.2.2.1) (F.ts _ K.1) ⟨K.2.2.2.2.1, K.2.2.2.2.2.1, K.2.2.2.2.2.2⟩ (by rw [F.rm0]; exact hR), F.ts _ K.2.1⟩ ⟨In_blind, fun U hU hW => ⟨rfl, In_of F hT hP hD hS hU hW⟩⟩ rfl hn hl.1 rfl (lv_room hroom) hdg (by rw [F.rm0]; exact hcs)
theorem v_runI (F : Fx X cc own ret rm) {y : MethodName} {b : ByteArray} {maxL np : Nat} (K : Iok own idx y b maxL np) {rm1 : Room} {As rest : List Value} {Qc : Array Value → State → Outcome → State → Prop} (hM : Met (xl X) y (.code y b maxL none :: bigW) rm1 (va_Pc (.ref a :: As) (Inw (xE X) (xA X) S)) Qc rm1.cells rm1.slots (xA X)) (hn : As.length = np) {stk : List Value} (hst : stk = As.reverse ++ .ref a :: rest) (hroom : (rest.map fun v => v.category).sum ≤ 8) (hR : rm1.frames + 1 ≤ rm.frames ∧ 8 + (maxL + 11) + rm1.locals ≤ rm.locals) (hcs : n.1 + rm1.cells ≤ rm.cells ∧ n.2 + rm1.slots ≤ rm.slots) (hdg : decode cc pc = .ok (.invokespecial idx, 3)) : RunOk X n S lv stk rest pc rm1.cells rm1.slots (Qc (Value.ref a :: As).toArray) := by
  subst hst
  intro H locs ls hT hP hD hS hl
  refine va_runI (F.fix rfl) hM ⟨callB_of np F.ts (gi_cons K.2.2.2.1) rfl rfl rfl (F.ts _ K.2.2.1) (F.ts _ K.1) ⟨K.2.2.2.2.2.1, K.2.2.2.2.2.2.1, K.2.2.2.2.2.2.2⟩ (by rw [F.rm0]; exact hR), K.2.2.2.2.1, F.ts _ K.2.1⟩ ⟨In_blind, fun U hU hW => ⟨rfl, In_of F hT hP hD hS hU hW⟩⟩ rfl hn hl.1 rfl (lv_room hroom) hdg (by rw [F.rm0]; exact hcs)
theorem v_cI {stk rest : List Value} {mc ms : Nat} {av : Array Value} {Q : Int32 → PS → Prop} (hr : RunOk X n S lv stk rest pc mc ms (va_Qi Q (Outw (xE X) (xA X) S) (xA X) av)) (kk : ∀ (r : Int32) (S1 : PS), Q r S1 → Ext S S1 → VV X (n.1 + mc, n.2 + ms) S1 lv (.int r :: rest) (pc + 3)) : VV X n S lv stk pc := by
  intro hT hE H locs ls hP hD hS hl
  refine va_calli (hr H locs ls hT hP hD hS hl) hS (fun q _ h => h) (fun q h => h) (fun r u t H1 locs1 ht hvm hw hB hz hk hS1 => ?_)
  obtain ⟨hP1, hK1, hD1, hT1, hE1⟩ := hB
  rw [ht] at hP1
  exact kk r u hw hE1 hT1 (hE.tr hE1) H1 locs1 ls hP1 hD1 hS1 hl
theorem v_cL {stk rest : List Value} {mc ms : Nat} {av : Array Value} {Q : Int64 → PS → Prop} (hr : RunOk X n S lv stk rest pc mc ms (va_Ql Q (Outw (xE X) (xA X) S) (xA X) av)) (kk : ∀ (r : Int64) (S1 : PS), Q r S1 → Ext S S1 → VV X (n.1 + mc, n.2 + ms) S1 lv (.long r :: rest) (pc + 3)) : VV X n S lv stk pc := by
  intro hT hE H locs ls hP hD hS hl
  refine va_calll (hr H locs ls hT hP hD hS hl) hS (fun q _ h => h) (fun q h => h) (fun r u t H1 locs1 ht hvm hw hB hz hk hS1 => ?_)
  obtain ⟨hP1, hK1, hD1, hT1, hE1⟩ := hB
  rw [ht] at hP1
  exact kk r u hw hE1 hT1 (hE.tr hE1) H1 locs1 ls hP1 hD1 hS1 hl
theorem v_cR {stk rest : List Value} {mc ms : Nat} {av : Array Value} {Q : Option Nat → PS → Prop} (hr : RunOk X n S lv stk rest pc mc ms (va_Qq Q (Outw (xE X) (xA X) S) (xA X) av)) (kk : ∀ (r : Option Nat) (S1 : PS), Q r S1 → Ext S S1 → VV X (n.1 + mc, n.2 + ms) S1 lv (va_rf r :: rest) (pc + 3)) : VV X n S lv stk pc := by
  intro hT hE H locs ls hP hD hS hl
  refine va_callq (hr H locs ls hT hP hD hS hl) hS (fun q _ h => h) (fun q h => h) (fun r u t H1 locs1 ht hvm hw hB hz hk hS1 => ?_)
  obtain ⟨hP1, hK1, hD1, hT1, hE1⟩ := hB
  rw [ht] at hP1
  exact kk r u hw hE1 hT1 (hE.tr hE1) H1 locs1 ls hP1 hD1 hS1 hl
theorem v_cV {stk rest : List Value} {mc ms : Nat} {av : Array Value} {Q : PS → Prop} (hr : RunOk X n S lv stk rest pc mc ms (va_Qv Q (Outw (xE X) (xA X) S) (xA X) av)) (kk : ∀ (S1 : PS), Q S1 → Ext S S1 → VV X (n.1 + mc, n.2 + ms) S1 lv (rest) (pc + 3)) : VV X n S lv stk pc := by
  intro hT hE H locs ls hP hD hS hl
  refine va_callv (hr H locs ls hT hP hD hS hl) hS (fun q _ h => h) (fun q h => h) (fun u t H1 locs1 ht hvm hw hB hz hk hS1 => ?_)
  obtain ⟨hP1, hK1, hD1, hT1, hE1⟩ := hB
  rw [ht] at hP1
  exact kk u hw hE1 hT1 (hE.tr hE1) H1 locs1 ls hP1 hD1 hS1 hl
theorem v_cI0 {stk rest : List Value} {mc ms : Nat} {av : Array Value} {Q : Int32 → PS → Prop} (hr : RunOk X n S lv stk rest pc mc ms (va_Qi Q (Outw (xE X) (xA X) S) (xA X) av)) (hz : mc = 0 ∧ ms = 0) (kk : ∀ (r : Int32) (S1 : PS), Q r S1 → Ext S S1 → VV X n S1 lv (.int r :: rest) (pc + 3)) : VV X n S lv stk pc := by
  obtain ⟨rfl, rfl⟩ := hz
  exact v_cI hr kk
theorem v_cL0 {stk rest : List Value} {mc ms : Nat} {av : Array Value} {Q : Int64 → PS → Prop} (hr : RunOk X n S lv stk rest pc mc ms (va_Ql Q (Outw (xE X) (xA X) S) (xA X) av)) (hz : mc = 0 ∧ ms = 0) (kk : ∀ (r : Int64) (S1 : PS), Q r S1 → Ext S S1 → VV X n S1 lv (.long r :: rest) (pc + 3)) : VV X n S lv stk pc := by
  obtain ⟨rfl, rfl⟩ := hz
  exact v_cL hr kk
theorem v_cR0 {stk rest : List Value} {mc ms : Nat} {av : Array Value} {Q : Option Nat → PS → Prop} (hr : RunOk X n S lv stk rest pc mc ms (va_Qq Q (Outw (xE X) (xA X) S) (xA X) av)) (hz : mc = 0 ∧ ms = 0) (kk : ∀ (r : Option Nat) (S1 : PS), Q r S1 → Ext S S1 → VV X n S1 lv (va_rf r :: rest) (pc + 3)) : VV X n S lv stk pc := by
  obtain ⟨rfl, rfl⟩ := hz
  exact v_cR hr kk
theorem v_cV0 {stk rest : List Value} {mc ms : Nat} {av : Array Value} {Q : PS → Prop} (hr : RunOk X n S lv stk rest pc mc ms (va_Qv Q (Outw (xE X) (xA X) S) (xA X) av)) (hz : mc = 0 ∧ ms = 0) (kk : ∀ (S1 : PS), Q S1 → Ext S S1 → VV X n S1 lv (rest) (pc + 3)) : VV X n S lv stk pc := by
  obtain ⟨rfl, rfl⟩ := hz
  exact v_cV hr kk
def Mk_mmin (own : String) (idx : Nat) : Prop := Cond.methodLink own idx Lib.Math.min.name ∈ bigW ∧ Cond.static Lib.Math.min.name ∈ bigW ∧ Cond.initialized "java/lang/Math" ∈ bigW ∧ Cond.code Lib.Math.min.name Lib.Math.min.code 2 (some .int) ∈ bigW
theorem v_mmin (F : Fx X cc own ret rm) (K : Mk_mmin own idx) (hf : 1 ≤ rm.frames ∧ n.1 ≤ rm.cells ∧ n.2 ≤ rm.slots) (hl1 : (st.map fun v => v.category).sum + 13 ≤ rm.locals) {x y : Int32} (hdg : decode cc pc = .ok (.invokestatic idx, 3)) (kk : VV X n S lv (.int (if y < x then y else x) :: st) (pc + 3)) : VV X n S lv (.int y :: .int x :: st) pc := fun hT hE H locs ls hP hD hS hl => va_mmin F.hx F.hb (F.ml.trans hl.1.symm) F.own0 (F.ts _ K.1) (F.ts _ K.2.1) (F.ts _ K.2.2.1) (F.ts _ K.2.2.2) (by rw [F.rm0]; exact hf.1) (by rw [F.rm0]; exact hl1) (by rw [F.rm0]; exact hf.2.1) (by rw [F.rm0]; exact hf.2.2) hdg (kk hT hE H locs ls hP hD hS hl)
def Mk_mmaxl (own : String) (idx : Nat) : Prop := Cond.methodLink own idx Lib.MathLoose.max_long.x ∈ bigW ∧ Cond.static Lib.MathLoose.max_long.x ∈ bigW ∧ Cond.initialized "java/lang/Math" ∈ bigW ∧ Cond.code Lib.MathLoose.max_long.x Lib.MathLoose.max_long.code 4 (some .long) ∈ bigW
theorem v_mmaxl (F : Fx X cc own ret rm) (K : Mk_mmaxl own idx) (hf : 1 ≤ rm.frames ∧ n.1 ≤ rm.cells ∧ n.2 ≤ rm.slots) (hl1 : (st.map fun v => v.category).sum + 15 ≤ rm.locals) {x y : Int64} (hdg : decode cc pc = .ok (.invokestatic idx, 3)) (kk : VV X n S lv (.long (if y < x then x else y) :: st) (pc + 3)) : VV X n S lv (.long y :: .long x :: st) pc := fun hT hE H locs ls hP hD hS hl => va_mmax_long F.hx F.hb (F.ml.trans hl.1.symm) F.own0 (F.ts _ K.1) (F.ts _ K.2.1) (F.ts _ K.2.2.1) (F.ts _ K.2.2.2) (by rw [F.rm0]; exact hf.1) (by rw [F.rm0]; exact hl1) (by rw [F.rm0]; exact hf.2.1) (by rw [F.rm0]; exact hf.2.2) hdg (kk hT hE H locs ls hP hD hS hl)
def Mk_mabs (own : String) (idx : Nat) : Prop := Cond.methodLink own idx Lib.Math.abs.name ∈ bigW ∧ Cond.static Lib.Math.abs.name ∈ bigW ∧ Cond.initialized "java/lang/Math" ∈ bigW ∧ Cond.code Lib.Math.abs.name Lib.Math.abs.code 1 (some .int) ∈ bigW
theorem v_mabs (F : Fx X cc own ret rm) (K : Mk_mabs own idx) (hf : 1 ≤ rm.frames ∧ n.1 ≤ rm.cells ∧ n.2 ≤ rm.slots) (hl1 : (st.map fun v => v.category).sum + 13 ≤ rm.locals) {x : Int32} (hdg : decode cc pc = .ok (.invokestatic idx, 3)) (kk : VV X n S lv (.int (if 0 ≤ x then x else 0 - x) :: st) (pc + 3)) : VV X n S lv (.int x :: st) pc := fun hT hE H locs ls hP hD hS hl => va_mabs F.hx F.hb (F.ml.trans hl.1.symm) F.own0 (F.ts _ K.1) (F.ts _ K.2.1) (F.ts _ K.2.2.1) (F.ts _ K.2.2.2) (by rw [F.rm0]; exact hf.1) (by rw [F.rm0]; exact hl1) (by rw [F.rm0]; exact hf.2.1) (by rw [F.rm0]; exact hf.2.2) hdg (kk hT hE H locs ls hP hD hS hl)
end VA
