/-! One turn of the reference's loop; what it means that both go on alike. -/
def RB (a : Nat) (R : PS → Prop) (P : Int32 → PS → Prop) (x2_6 : Int32) (S7 : PS) : Prop :=
  (if x2_6 = 0 then
 R S7
 else
 wp_X12_blanks a S7 (fun (S8 : PS) => 
 wp_X12_here a S8 (fun (r10 : Int32) (S9 : PS) => 
 (∀ K89_13 : Int32 → PS → Prop, (∀ (x2_11 : Int32) (S12 : PS),
 (∀ K105_16 : Int32 → PS → Prop, (∀ (t14 : Int32) (S15 : PS),
 P t14 S15
 → K105_16 t14 S15) →
 (if x2_11 = 0 then
 K105_16 0 S12
 else
 (if fI S12 102 a = 0 then
 K105_16 1 S12
 else
 K105_16 0 S12)))
 → K89_13 x2_11 S12) →
 (∀ K65_18 : PS → Prop, (∀ (S17 : PS),
 (∃ b19, fR S17 130 a = some b19 ∧ (vp_in ((fI S17 134 a) - 1) (aN S17 b19) ∧ (if aI S17 61 b19 ((fI S17 134 a) - 1).toNatClampNeg = 0 then
 K89_13 0 S17
 else
 wp_X12_endMusic a r10 S17 (fun (S20 : PS) => 
 K89_13 x2_6 S20))))
 → K65_18 S17) →
 (if r10 = (-1) then
 K65_18 S9
 else
 (if r10 = 125 then
 K65_18 S9
 else
 (if r10 = 93 then
 K65_18 S9
 else
 (if r10 = 47 then
 K65_18 S9
 else
 wp_X12_readItem a S9 (fun (S21 : PS) => 
 K89_13 x2_6 S21))))))))))

section
variable {S S1 S2 Sr : PS} {A : Nat → Nat} {B : Nat → Int32} {n p : Nat} {R : PS → Prop} {P : Int32 → PS → Prop}
def ClR (A : Nat → Nat) (R : PS → Prop) (P : Int32 → PS → Prop) : Prop := ∀ x S, RB (A 9) R P x S → P x S
def Nx (A : Nat → Nat) (P : Int32 → PS → Prop) (S : PS) : Prop := (fI S 102 (A 9) = 0 → P 1 S) ∧ (fI S 102 (A 9) ≠ 0 → P 0 S)
theorem it_item (h : RT Sr A B n) (hp : fI Sr 101 (A 9) = nI p) (hpn : p ≤ n) (h1 : B (bl B p) ≠ -1) (h2 : B (bl B p) ≠ 125) (h3 : B (bl B p) ≠ 93) (h4 : B (bl B p) ≠ 47) (hP : ClR A R P)
    (hw : ∀ Q2 : PS → Prop, (∀ S2, Nx A P S2 → Q2 S2) → wp_X12_readItem (A 9) (sI Sr 101 (A 9) (nI (bl B p))) Q2) : P 1 Sr := by
  apply hP
  unfold RB
  rw [if_neg (by decide)]
  refine r_blanks h hp hpn ?_
  refine r_here h.pos fI_at (bl_le h.2.2.1 hpn) ?_
  intro K hK K2 hK2
  rw [if_neg h1, if_neg h2, if_neg h3, if_neg h4]
  refine hw _ (fun S2 h2 => ?_)
  apply hK
  intro K3 hK3
  rw [if_neg (by decide)]
  by_cases c : fI S2 102 (A 9) = 0
  · rw [if_pos c]; exact hK3 _ _ (h2.1 c)
  · rw [if_neg c]; exact hK3 _ _ (h2.2 c)
theorem it_ends {op s : Nat} (h : RT Sr A B n) (hp : fI Sr 101 (A 9) = nI p) (hpn : p ≤ n) (hc : B (bl B p) = -1 ∨ B (bl B p) = 125 ∨ B (bl B p) = 93 ∨ B (bl B p) = 47) (ho : fI Sr 134 (A 9) = nI (op + 1)) (hop : op ≤ 8) (hs : aI Sr 61 (A 61) op = nI s) (hsb : s < 10) (hP : ClR A R P)
    (h0 : s = 0 → P 0 (sI Sr 101 (A 9) (nI (bl B p))))
    (hw : s ≠ 0 → ∀ Q2 : PS → Prop, (∀ S2, Nx A P S2 → Q2 S2) → wp_X12_endMusic (A 9) (B (bl B p)) (sI Sr 101 (A 9) (nI (bl B p))) Q2) : P 1 Sr := by
  apply hP
  unfold RB
  rw [if_neg (by decide)]
  refine r_blanks h hp hpn ?_
  refine r_here h.pos fI_at (bl_le h.2.2.1 hpn) ?_
  intro K hK K2 hK2
  have go : K2 (sI Sr 101 (A 9) (nI (bl B p))) := by
    apply hK2
    have eo : fI (sI Sr 101 (A 9) (nI (bl B p))) 134 (A 9) - 1 = nI op := by rw [fI_sn _ _ _ _ _ (by decide), ho]; exact nI_pred op
    refine ⟨_, h.pos.1.f130, ?_, ?_⟩
    · rw [eo, h.pos.1.n61]; exact vp_in_nI (by omega) (by omega)
    · rw [eo, nI_clamp (by omega), aI_sI, hs]
      by_cases c : s = 0
      · rw [c, if_pos (by decide)]
        apply hK
        intro K3 hK3
        rw [if_pos rfl]
        exact hK3 _ _ (h0 c)
      · rw [if_neg (nI_ne0 (by omega) (by omega))]
        refine hw c _ (fun S2 h2 => ?_)
        apply hK
        intro K3 hK3
        rw [if_neg (by decide)]
        by_cases c : fI S2 102 (A 9) = 0
        · rw [if_pos c]; exact hK3 _ _ (h2.1 c)
        · rw [if_neg c]; exact hK3 _ _ (h2.2 c)
  split
  · exact go
  split
  · exact go
  split
  · exact go
  split
  · exact go
  · rename_i x1 x2 x3 x4
    rcases hc with y | y | y | y
    · exact absurd y x1
    · exact absurd y x2
    · exact absurd y x3
    · exact absurd y x4
/-- the class at the head of a list -/
def CIv (S : PS) (A : Nat → Nat) (B : Nat → Int32) (n p op N pc nd pq : Nat) (inm : Bool) : Prop :=
  CT S A B n ∧ fI S 60 (A 6) = nI p ∧ p ≤ n ∧ fI S 61 (A 6) = nI op ∧ op ≤ 8 ∧ fI S 45 (A 5) = nI N ∧ N ≤ p + op ∧ fI S 53 (A 5) = nI pc ∧ pc ≤ p ∧ fI S 54 (A 5) = nI nd ∧ nd ≤ 20 ∧ fI S 62 (A 6) = mI inm ∧ fI S 64 (A 6) = nI pq ∧ pq ≤ 4 ∧ (inm = false → pq = 0)
def jCr (j : Nat) : Bool := decide (j = 0 ∨ j = 1 ∨ j = 45 ∨ j = 53 ∨ j = 54 ∨ 60 ≤ j ∧ j ≤ 62 ∨ 64 ≤ j ∧ j ≤ 68)
def rCr (r : Nat) : Bool := decide (16 ≤ r ∧ r ≤ 26)
/-- what reading changes in the class -/
def KCr (S S1 : PS) : Prop := Keep jCr rCr S S1
theorem KL.cr (h : KL S S1) : KCr S S1 := h.mono (fun j => by unfold jCr jL; simp only [decide_eq_false_iff_not]; omega) (fun _ _ => rfl)
theorem KT.cr (h : KT S S1) : KCr S S1 := h.mono (fun j => by unfold jCr jT; simp only [decide_eq_false_iff_not]; omega) (fun r => by unfold rCr rT; simp only [decide_eq_false_iff_not]; omega)
theorem KQ.cr (h : KQ S S1) : KCr S S1 := h.mono (fun j => by unfold jCr jQ; simp only [decide_eq_false_iff_not]; omega) (fun r => by unfold rCr rQ; simp only [decide_eq_false_iff_not]; omega)
theorem CO.cr {N pl pc : Nat} (h : CO S S1 A N pl pc) : KCr S S1 := h.1.mono (fun j => by unfold jCr jCo; simp only [decide_eq_false_iff_not]; omega) (fun r => by unfold rCr rCo; simp only [decide_eq_false_iff_not]; omega)
theorem CT.cr (h : CT S A B n) (g : KCr S S1) : CT S1 A B n := h.keep g rfl rfl
/-- both go on alike -/
def Sim (A : Nat → Nat) (B : Nat → Int32) (n : Nat) (S : PS) (p op N pc nd pq : Nat) (inm : Bool) (stk : List (Nat × Nat × Nat × Nat × Nat)) (S1 : PS) (p1 op1 N1 pc1 nd1 pq1 : Nat) (inm1 : Bool) (stk1 : List (Nat × Nat × Nat × Nat × Nat)) : Prop :=
  ∀ Sr, MM S Sr A B n p op N pc nd pq inm stk → ∀ R P, ClR A R P → (∀ Sr1, KM Sr Sr1 → MM S1 Sr1 A B n p1 op1 N1 pc1 nd1 pq1 inm1 stk1 → P 1 Sr1) → P 1 Sr
/-- both tell the same fault -/
def SimF (A : Nat → Nat) (B : Nat → Int32) (n : Nat) (S : PS) (p op N pc nd pq : Nat) (inm : Bool) (stk : List (Nat × Nat × Nat × Nat × Nat)) (e : Nat × Nat) : Prop :=
  ∀ Sr, MM S Sr A B n p op N pc nd pq inm stk → ∀ R P, ClR A R P → (∀ Sr1, RFM Sr Sr1 A e → P 0 Sr1) → P 1 Sr
section
variable {op N pc nd pq op1 N1 pc1 nd1 pq1 p1 op2 N2 pc2 nd2 pq2 p2 : Nat} {inm inm1 inm2 : Bool} {stk stk1 stk2 : List (Nat × Nat × Nat × Nat × Nat)}
theorem Sim.rf : Sim A B n S p op N pc nd pq inm stk S p op N pc nd pq inm stk := fun Sr h _ _ _ g => g Sr Keep.rf h
theorem Sim.tr (h : Sim A B n S p op N pc nd pq inm stk S1 p1 op1 N1 pc1 nd1 pq1 inm1 stk1) (h2 : Sim A B n S1 p1 op1 N1 pc1 nd1 pq1 inm1 stk1 S2 p2 op2 N2 pc2 nd2 pq2 inm2 stk2) : Sim A B n S p op N pc nd pq inm stk S2 p2 op2 N2 pc2 nd2 pq2 inm2 stk2 :=
  fun Sr m R P c g => h Sr m R P c (fun Sr1 k1 m1 => h2 Sr1 m1 R P c (fun Sr2 k2 m2 => g Sr2 (Keep.tr k1 k2) m2))
theorem Sim.f {e : Nat × Nat} (h : Sim A B n S p op N pc nd pq inm stk S1 p1 op1 N1 pc1 nd1 pq1 inm1 stk1) (h2 : SimF A B n S1 p1 op1 N1 pc1 nd1 pq1 inm1 stk1 e) : SimF A B n S p op N pc nd pq inm stk e :=
  fun Sr m R P c g => h Sr m R P c (fun Sr1 k1 m1 => h2 Sr1 m1 R P c (fun Sr2 m2 => g Sr2 (RFM.of k1 m2)))
/-- what the reference knows at the head of a list -/
theorem MX.pre {T wr sy : Nat} {g ow bh par ks lv : Nat → Nat} {pe : Nat → Bool} {lst : Int32} (h : MX S Sr A B n p op N pc nd pq inm stk T wr sy g ow bh par ks lv pe lst) (hN : N ≤ 1508) : fI Sr 113 (A 9) = nI T ∧ T + 3 < 3100 ∧ fI Sr 134 (A 9) = nI (op + 1) ∧ aI Sr 63 (A 63) op = nI (ow (hdx stk)) ∧ ow (hdx stk) < T ∧ aI Sr 64 (A 64) op = lst ∧ (lst = -1 ∨ ∃ l, l < T ∧ lst = nI l) := by
  obtain ⟨m1, m2, m3, m4, m5, m6, m7, m8, m9, m10, m11, m12, m13⟩ := h
  have hT : T ≤ 2 * N + 2 := m2.2.2.2.1
  refine ⟨m2.2.2.1, by omega, m2.2.2.2.2.2.2.2.1, m10.mus m11, (m3.1 _ m4.1).2.1, m5, ?_⟩
  rcases m4.2.2.2.2 with ⟨_, z⟩ | ⟨l, l1, l2, l3, l4, l5⟩
  · exact Or.inl z
  · exact Or.inr ⟨g l, m3.glt l2, l5⟩
end
/-! items as the reference makes them -/
section
variable {Sr1 Sr2 : PS} {T op m : Nat} {lst : Int32} {wr sy : Nat}
theorem IA.rl (h : IA Sr Sr1 A T op m p lst) : RLn Sr Sr1 A T wr sy m lst 1 (nI p) 0 0 0 0 := by
  obtain ⟨k, a0, a1, a2, a3, a4, a5, a6, a7, a8, a9⟩ := h
  refine ⟨a2, a3, a4, a5, a6, a7, a8, fun r i _ x y => ?_, fun r i _ x y => ?_⟩
  · rw [(k.2.2 r (by unfold rIH; rw [decide_eq_false_iff_not]; omega)).1]
  · rw [(k.2.2 r (by unfold rIH; rw [decide_eq_false_iff_not]; omega)).1]
theorem IA.km (h : IA Sr Sr1 A T op m p lst) : KM Sr Sr1 := h.1.mono (fun j => by unfold jM jI2; simp only [decide_eq_false_iff_not]; omega) (fun r => by unfold rM rIH; simp only [decide_eq_false_iff_not]; omega)
theorem RLn.hr {q : Nat} {s a b s1 pl a1 b1 z : Int32} {t : Int64} (h : RLn Sr Sr1 A T wr sy m lst s1 pl a1 b1 t z) (g : HR Sr1 Sr2 A T s a b q) : RLn Sr Sr2 A T wr sy m lst s pl a b t z := by
  obtain ⟨a2, a3, a4, a5, a6, a7, a8, a9, a10⟩ := h
  obtain ⟨k, b1, b2, b3, b4⟩ := g
  refine ⟨by rw [b2, a2, uq_uq], by rw [(k.2.2 43 rfl).1]; exact a3, by rw [b3, a4, uq_uq], by rw [b4, a5, uq_uq], by rw [(k.2.2 46 rfl).1, (k.2.2 47 rfl).1]; exact a6, by rw [(k.2.2 48 rfl).2]; exact a7, by rw [(k.2.2 49 rfl).1]; exact a8, fun r i hi x y => ?_, fun r i hi x y => ?_⟩
  · rw [(k.2.2 r (by unfold rHr; rw [decide_eq_false_iff_not]; omega)).1]; exact a9 r i hi x y
  · rw [(k.2.2 r (by unfold rHr; rw [decide_eq_false_iff_not]; omega)).1]; exact a10 r i hi x y
end
end
