/-! What can be asked for: the score as plain data. -/
def bI (b : Bool) : Int32 := if b = true then 1 else 0
theorem bI_z {b : Bool} : bI b = 0 ↔ b = false := by cases b <;> decide
/-- an event -/
def Dev (E V n : Nat) (vo ti le pc : Nat → Nat) (cs : Nat → Nat → Nat) (td co : Nat → Bool) (wp wz : Nat → Nat → Nat) (w : Nat → Int32) (e : Nat) : Prop :=
  (vo e < V ∧ 1 ≤ le e ∧ ti e + le e ≤ 3870720000) ∧ (pc e ≤ 6 ∧ ∀ k, k < pc e → cs e k < 350) ∧ (td e = true → ∃ o, e < o ∧ o < E ∧ vo o = vo e) ∧ ∀ j, j < 3 → (wz e j ≤ 12 ∧ wp e j + wz e j ≤ n) ∧ (∀ q, q < wz e j → isSyl (w (wp e j + q) &&& 255) = true) ∧ (0 < wz e j → 0 < pc e ∧ co e = false)
def Dok (E V M nd st t n : Nat) (vo ti le pc : Nat → Nat) (cs : Nat → Nat → Nat) (td co : Nat → Bool) (wp wz : Nat → Nat → Nat) (vb mt mu md : Nat → Nat) (od w : Nat → Int32) : Prop := (E ≤ 300 ∧ 1 ≤ V ∧ V ≤ 12 ∧ 1 ≤ M ∧ M ≤ 40 ∧ n ≤ 1500 ∧ t ≤ 3870720000) ∧ (∀ e, e < E → Dev E V n vo ti le pc cs td co wp wz w e) ∧ (∀ u, u < V → vb u ≤ 3870720000) ∧ ((∀ k, k < M → 1 ≤ mu k ∧ mu k ≤ 32 ∧ mdn (md k)) ∧ mt 0 = 0 ∧ (∀ k, k + 1 < M → mt k < mt (k + 1)) ∧ mt (M - 1) ≤ t) ∧ ∀ q, q < n → Byt (w q)
/-- the class has it -/
def Dce (S : PS) (A : Nat → Nat) (vo ti le pc : Nat → Nat) (cs : Nat → Nat → Nat) (td co : Nat → Bool) (wp wz : Nat → Nat → Nat) (e : Nat) : Prop :=
  aI S 28 (A 28) e = nI (vo e) ∧ aL S 29 (A 29) e = lN (ti e) ∧ aL S 30 (A 30) e = lN (le e) ∧ aL S 31 (A 31) e = lN (pkn (pc e) (cs e) (pc e)) ∧ aI S 32 (A 32) e = bI (td e) ∧ aI S 33 (A 33) e = bI (co e) ∧ ∀ j, j < 3 → (aI S 34 (A 34) (3 * e + j) = -1 ∧ wz e j = 0) ∨ aI S 34 (A 34) (3 * e + j) = nI (wp e j * 16 + wz e j)
def Dcl (S : PS) (A : Nat → Nat) (E V M nd st t n : Nat) (vo ti le pc : Nat → Nat) (cs : Nat → Nat → Nat) (td co : Nat → Bool) (wp wz : Nat → Nat → Nat) (vb mt mu md : Nat → Nat) (od w : Nat → Int32) : Prop := LayS S A ∧ (fI S 70 (A 7) = nI E ∧ fI S 79 (A 7) = nI V ∧ fI S 84 (A 7) = nI nd ∧ fI S 85 (A 7) = nI st ∧ fL S 86 (A 7) = lN t ∧ fI S 17 (A 2) = nI M) ∧ (∀ e, e < E → Dce S A vo ti le pc cs td co wp wz e) ∧ (∀ u, u < V → aL S 36 (A 36) u = lN (vb u)) ∧ (∀ k, k < M → aL S 10 (A 10) k = lN (mt k) ∧ aI S 11 (A 11) k = nI (mu k) ∧ aI S 12 (A 12) k = nI (md k)) ∧ (∀ p, p < E → aI S 35 (A 35) p = od p) ∧ ∀ q, q < n → aI S 27 (A 27) q &&& 255 = w q &&& 255
/-- the reference has it -/
def Dre (S : PS) (A : Nat → Nat) (vo ti le pc : Nat → Nat) (cs : Nat → Nat → Nat) (td co : Nat → Bool) (wp wz : Nat → Nat → Nat) (e : Nat) : Prop :=
  (aI S 102 (A 102) e = nI (vo e) ∧ aI S 103 (A 103) e = nI (pc e) ∧ aI S 104 (A 104) e = bI (td e) ∧ aI S 105 (A 105) e = bI (co e) ∧ aL S 106 (A 106) e = lN (ti e) ∧ aL S 107 (A 107) e = lN (le e)) ∧ (∀ k, k < pc e → aI S 108 (A 108) (6 * e + k) = nI (cs e k / 5 % 7) ∧ aI S 109 (A 109) (6 * e + k) = iJ ((cs e k : Int) % 5 - 2) ∧ aI S 110 (A 110) (6 * e + k) = nI (cs e k / 35)) ∧ ∀ j, j < 3 → (0 < wz e j → aI S 111 (A 111) (3 * e + j) = nI (wp e j)) ∧ aI S 112 (A 112) (3 * e + j) = nI (wz e j)
def Drf (S : PS) (A : Nat → Nat) (E V M nd st t n : Nat) (vo ti le pc : Nat → Nat) (cs : Nat → Nat → Nat) (td co : Nat → Bool) (wp wz : Nat → Nat → Nat) (vb mt mu md : Nat → Nat) (od w : Nat → Int32) : Prop := LayM S A ∧ (fI S 206 (A 9) = nI E ∧ fI S 207 (A 9) = nI V ∧ fI S 208 (A 9) = nI nd ∧ fI S 209 (A 9) = nI st ∧ fI S 210 (A 9) = nI M ∧ fL S 211 (A 9) = lN t) ∧ (∀ e, e < E → Dre S A vo ti le pc cs td co wp wz e) ∧ (∀ u, u < V → aL S 114 (A 114) u = lN (vb u)) ∧ (∀ k, k < M → aL S 115 (A 115) k = lN (mt k) ∧ aI S 116 (A 116) k = nI (mu k) ∧ aI S 117 (A 117) k = nI (md k)) ∧ (∀ p, p < E → aI S 113 (A 113) p = od p) ∧ ∀ q, q < n → aI S 101 (A 101) q = w q
section
variable {S S1 Sr Sr1 : PS} {A : Nat → Nat}
variable {E V M nd st t n : Nat} {vo ti le pc : Nat → Nat} {cs : Nat → Nat → Nat} {td co : Nat → Bool} {wp wz : Nat → Nat → Nat} {vb mt mu md : Nat → Nat} {od w : Nat → Int32}
theorem Drf.se (h : Drf Sr A E V M nd st t n vo ti le pc cs td co wp wz vb mt mu md od w) (g : St Sr1 = St Sr) (hi : ∀ j, 206 ≤ j → j ≤ 211 → fI Sr1 j (A 9) = fI Sr j (A 9) ∧ fL Sr1 j (A 9) = fL Sr j (A 9)) (ha : ∀ r, 101 ≤ r → r ≤ 117 → aI Sr1 r (A r) = aI Sr r (A r) ∧ aL Sr1 r (A r) = aL Sr r (A r)) : Drf Sr1 A E V M nd st t n vo ti le pc cs td co wp wz vb mt mu md od w := by
  unfold Drf Dre at h ⊢
  rw [(hi 206 (by omega) (by omega)).1, (hi 207 (by omega) (by omega)).1, (hi 208 (by omega) (by omega)).1, (hi 209 (by omega) (by omega)).1, (hi 210 (by omega) (by omega)).1, (hi 211 (by omega) (by omega)).2, (ha 101 (by omega) (by omega)).1, (ha 102 (by omega) (by omega)).1, (ha 103 (by omega) (by omega)).1, (ha 104 (by omega) (by omega)).1, (ha 105 (by omega) (by omega)).1, (ha 106 (by omega) (by omega)).2, (ha 107 (by omega) (by omega)).2, (ha 108 (by omega) (by omega)).1, (ha 109 (by omega) (by omega)).1, (ha 110 (by omega) (by omega)).1, (ha 111 (by omega) (by omega)).1, (ha 112 (by omega) (by omega)).1, (ha 113 (by omega) (by omega)).1, (ha 114 (by omega) (by omega)).2, (ha 115 (by omega) (by omega)).2, (ha 116 (by omega) (by omega)).1, (ha 117 (by omega) (by omega)).1]
  exact ⟨h.1.st g, h.2⟩
theorem Drf.s96 {v : Int32} (h : Drf Sr A E V M nd st t n vo ti le pc cs td co wp wz vb mt mu md od w) : Drf (sI Sr 96 (A 9) v) A E V M nd st t n vo ti le pc cs td co wp wz vb mt mu md od w := h.se rfl (fun j h1 h2 => ⟨congrFun (fI_sn _ _ _ _ _ (by omega)) _, rfl⟩) (fun r _ _ => ⟨rfl, rfl⟩)
/-! what an int may be -/
theorem in_i {Q : Int32 → PS → Prop} {p lo hi : Int32} {l h : Int64} (e1 : l = lo.toInt64) (e2 : h = hi.toInt64) (h1 : lo.toInt ≤ p.toInt → p.toInt ≤ hi.toInt → Q 1 S) (h0 : ¬ (lo.toInt ≤ p.toInt ∧ p.toInt ≤ hi.toInt) → Q 0 S) : wp_X12_in p.toInt64 l h S Q := by
  subst e1 e2
  unfold wp_X12_in
  by_cases c1 : p.toInt64 < lo.toInt64
  · rw [if_pos c1]
    rw [Int64.lt_iff_toInt_lt, Int32.toInt_toInt64, Int32.toInt_toInt64] at c1
    exact h0 (by omega)
  · rw [if_neg c1]
    rw [Int64.lt_iff_toInt_lt, Int32.toInt_toInt64, Int32.toInt_toInt64] at c1
    by_cases c2 : hi.toInt64 < p.toInt64
    · rw [if_pos c2]
      rw [Int64.lt_iff_toInt_lt, Int32.toInt_toInt64, Int32.toInt_toInt64] at c2
      exact h0 (by omega)
    · rw [if_neg c2]
      rw [Int64.lt_iff_toInt_lt, Int32.toInt_toInt64, Int32.toInt_toInt64] at c2
      exact h1 (by omega) (by omega)
/-- between lo and hi -/
theorem in_n {Q : Int32 → PS → Prop} {p : Int32} {a b : Nat} {l h : Int64} (e1 : l = (nI a).toInt64) (e2 : h = (nI b).toInt64) (ha : a < 2 ^ 31) (hb : b < 2 ^ 31) (h1 : ∀ i, p = nI i → a ≤ i → i ≤ b → Q 1 S) (h0 : (∀ i, a ≤ i → i ≤ b → p ≠ nI i) → Q 0 S) : wp_X12_in p.toInt64 l h S Q := by
  refine in_i e1 e2 (fun a1 a2 => ?_) (fun z => h0 (fun i i1 i2 e => z ?_))
  · rw [nI_toInt ha] at a1
    rw [nI_toInt hb] at a2
    exact h1 p.toInt.toNat (nI_ofi (by omega) (by omega)) (by omega) (by omega)
  · rw [e, nI_toInt ha, nI_toInt hb, nI_toInt (by omega)]; omega
/-- a place below E -/
theorem in_e {Q : Int32 → PS → Prop} {p : Int32} {E : Nat} {l h : Int64} (e1 : l = (nI 0).toInt64) (e2 : h = (nI E - 1).toInt64) (hE : E < 2 ^ 31) (h1 : ∀ i, p = nI i → i < E → Q 1 S) (h0 : (∀ i, i < E → p ≠ nI i) → Q 0 S) : wp_X12_in p.toInt64 l h S Q := by
  have e : (nI E - 1).toInt = (E : Int) - 1 := by
    rw [iJ_n, show (1 : Int32) = iJ 1 from rfl, iJ_sub, iJ_t (by omega) (by omega)]
  refine in_i e1 e2 (fun a1 a2 => ?_) (fun z => h0 (fun i i1 e3 => z ?_))
  · rw [nI_toInt (by omega)] at a1
    rw [e] at a2
    exact h1 p.toInt.toNat (nI_ofi (by omega) (by omega)) (by omega)
  · rw [e3, e, nI_toInt (by omega), nI_toInt (by omega)]; omega
theorem r_isEv {Q : Int32 → PS → Prop} {p : Int32} (hr : Drf Sr A E V M nd st t n vo ti le pc cs td co wp wz vb mt mu md od w) (hE : E ≤ 300) (h1 : ∀ i, p = nI i → i < E → Q 1 Sr) (h0 : (∀ i, i < E → p ≠ nI i) → Q 0 Sr) : wp_X12_isEvent (A 9) p Sr Q := by
  unfold wp_X12_isEvent
  rw [hr.2.1.1]
  exact in_e rfl rfl (by omega) h1 h0
theorem c_req {Q : PS → Prop} {QX : String → PS → Prop} {p : Int32} (hc : Dcl S A E V M nd st t n vo ti le pc cs td co wp wz vb mt mu md od w) (h94 : fR S 94 (A 8) = some (A 7)) (hE : E ≤ 300) (h1 : ∀ i, p = nI i → i < E → Q S) (h0 : (∀ i, i < E → p ≠ nI i) → QX "java/lang/IndexOutOfBoundsException" S) : wp_X11_requireEvent (A 8) p S Q QX := by
  unfold wp_X11_requireEvent
  intro K hK
  by_cases c : p < 0
  · rw [if_pos c]
    exact hK _ (h0 (fun i hi e => nI_pos (n := i) (by omega) (by rw [← e]; exact c)))
  · rw [if_neg c]
    refine ⟨_, h94, ?_⟩
    obtain ⟨i, hi, rfl⟩ := nI_of c
    rw [hc.2.1.1]
    by_cases c2 : i < E
    · rw [if_neg (nI_ge c2 (by omega)), show (300 : Int32) = nI 300 from rfl, if_pos (nI_lt (by omega) (by omega))]
      exact h1 i rfl c2
    · rw [if_pos (nI_le (by omega) hi)]
      exact hK _ (h0 (fun i' hi' e => by rw [nI_eq hi (by omega)] at e; omega))
/-! counting -/
def cntf (f : Nat → Bool) : Nat → Nat
  | 0 => 0
  | k + 1 => cntf f k + (if f k = true then 1 else 0)
theorem cntf_le {f : Nat → Bool} : ∀ k, cntf f k ≤ k := by
  intro k
  induction k with
  | zero => exact Nat.le_refl 0
  | succ k ih => rw [cntf]; split <;> omega
theorem c_pin {Q : Int32 → PS → Prop} {e : Nat} (hc : Dcl S A E V M nd st t n vo ti le pc cs td co wp wz vb mt mu md od w) (hd : Dok E V M nd st t n vo ti le pc cs td co wp wz vb mt mu md od w) (he : e < E) (hQ : Q (nI (pc e)) S) : wp_X8_pitchesIn (A 7) (nI e) S Q := by
  have hl := hc.1
  have hE := hd.1.1
  obtain ⟨p6, pb⟩ := (hd.2.1 e he).2.1
  have pb' : ∀ k, k < pc e → cs e k < 512 := fun k hk => by have := pb k hk; omega
  unfold wp_X8_pitchesIn
  refine s_eholds hc.2.1.1 he hE ?_
  rw [if_neg (by decide)]
  refine ⟨_, hl.f74, by rw [hl.n31]; exact vp_in_nI (by omega) (by omega), ?_⟩
  rw [nI_clamp (by omega), (hc.2.2.1 e he).2.2.2.1]
  unfold wp_X4_size
  have e1 : (lN (pkn (pc e) (cs e) (pc e)) &&& 7) = lN (pc e) := by
    apply Int64.toBitVec_inj.mp
    show (BitVec.ofNat 64 (pkn (pc e) (cs e) (pc e)) &&& BitVec.ofNat 64 7) = BitVec.ofNat 64 (pc e)
    apply BitVec.eq_of_toNat_eq
    have := pkn_63 p6 pb'
    rw [BitVec.toNat_and, BitVec.toNat_ofNat, BitVec.toNat_ofNat, BitVec.toNat_ofNat, Nat.mod_eq_of_lt (a := pkn (pc e) (cs e) (pc e)) (by omega), Nat.mod_eq_of_lt (a := 7) (by omega), Nat.mod_eq_of_lt (a := pc e) (by omega)]
    rw [show (7 : Nat) = 2 ^ 3 - 1 from rfl, Nat.and_two_pow_sub_one_eq_mod]
    exact pkn_c (by omega) pb'
  rw [e1, lN_i]
  exact hQ
theorem c_rests {Q : Int32 → PS → Prop} (hc : Dcl S A E V M nd st t n vo ti le pc cs td co wp wz vb mt mu md od w) (hd : Dok E V M nd st t n vo ti le pc cs td co wp wz vb mt mu md od w) (hQ : Q (nI (cntf (fun e => decide (pc e = 0)) E)) S) : wp_X8_countRests (A 7) S Q := by
  have hE := hd.1.1
  unfold wp_X8_countRests
  intro P hP
  have key : ∀ j i, i + j = E → P (nI (cntf (fun e => decide (pc e = 0)) i)) (nI i) S := by
    intro j
    induction j with
    | zero =>
      intro i hi
      apply hP
      rw [hc.2.1.1, if_pos (nI_le (by omega) (by omega)), show i = E by omega]
      exact hQ
    | succ j ih =>
      intro i hi
      apply hP
      rw [hc.2.1.1, if_neg (nI_ge (by omega) (by omega))]
      refine c_pin hc hd (by omega) ?_
      intro K hK
      have go := ih (i + 1) (by omega)
      rw [cntf] at go
      have p6 := (hd.2.1 i (by omega)).2.1.1
      by_cases z : pc i = 0
      · rw [if_pos (decide_eq_true z)] at go
        rw [if_pos (by rw [z]; rfl)]
        rintro _ rfl
        apply hK
        rintro _ rfl
        rw [nI_1, nI_1]; exact go
      · rw [if_neg (by rw [decide_eq_true_iff]; exact z)] at go
        rw [if_neg (nI_ne0 (by omega) (by omega))]
        apply hK
        rintro _ rfl
        rw [nI_1]; exact go
  exact key E 0 (by omega)
/-! bars -/
def bto (M t : Nat) (mt : Nat → Nat) (k : Nat) : Nat := if k + 1 < M then mt (k + 1) else t
def blg (mu md : Nat → Nat) (k : Nat) : Nat := mu k * 3870720 / md k
def bof (M t : Nat) (mt mu md : Nat → Nat) (k : Nat) : Nat := (bto M t mt k - mt k + blg mu md k - 1) / blg mu md k
def bsm (M t : Nat) (mt mu md : Nat → Nat) : Nat → Nat
  | 0 => 0
  | k + 1 => bsm M t mt mu md k + bof M t mt mu md k
theorem bsm_p {k : Nat} (h : 1 ≤ k) : bsm M t mt mu md k = bsm M t mt mu md (k - 1) + bof M t mt mu md (k - 1) := by
  obtain ⟨m, rfl⟩ : ∃ m, k = m + 1 := ⟨k - 1, by omega⟩
  rfl
theorem blg_b {k : Nat} (hd : Dok E V M nd st t n vo ti le pc cs td co wp wz vb mt mu md od w) (hk : k < M) : 120960 ≤ blg mu md k ∧ blg mu md k ≤ 123863040 := by
  obtain ⟨a1, a2, a3⟩ := hd.2.2.2.1.1 k hk
  have b := mdn_b a3
  refine ⟨?_, (bl_b a1 a2 a3).2⟩
  unfold blg
  rw [Nat.le_div_iff_mul_le (by omega)]
  have : 120960 * md k ≤ 120960 * 32 := Nat.mul_le_mul_left _ b.2
  omega
theorem mt_mono (hd : Dok E V M nd st t n vo ti le pc cs td co wp wz vb mt mu md od w) : ∀ j i, i + j < M → mt i ≤ mt (i + j) := by
  intro j
  induction j with
  | zero => intro i _; exact Nat.le_refl _
  | succ j ih =>
    intro i hi
    have := ih i (by omega)
    have := hd.2.2.2.1.2.2.1 (i + j) (by omega)
    rw [show i + (j + 1) = i + j + 1 by omega]; omega
theorem mt_t {k : Nat} (hd : Dok E V M nd st t n vo ti le pc cs td co wp wz vb mt mu md od w) (hk : k < M) : mt k ≤ t := by
  have := mt_mono hd (M - 1 - k) k (by omega)
  rw [show k + (M - 1 - k) = M - 1 by omega] at this
  have := hd.2.2.2.1.2.2.2
  omega
theorem bto_b {k : Nat} (hd : Dok E V M nd st t n vo ti le pc cs td co wp wz vb mt mu md od w) (hk : k < M) : mt k ≤ bto M t mt k ∧ bto M t mt k ≤ t := by
  unfold bto
  by_cases c : k + 1 < M
  · rw [if_pos c]
    have := hd.2.2.2.1.2.2.1 k c
    exact ⟨by omega, mt_t hd c⟩
  · rw [if_neg c]; exact ⟨mt_t hd hk, Nat.le_refl _⟩
theorem bof_b {k : Nat} (hd : Dok E V M nd st t n vo ti le pc cs td co wp wz vb mt mu md od w) (hk : k < M) : bof M t mt mu md k ≤ 32001 := by
  have b1 := blg_b hd hk
  have b2 := bto_b hd hk
  have ht := hd.1.2.2.2.2.2.2
  unfold bof
  refine Nat.div_le_of_le_mul ?_
  rw [Nat.mul_comm]
  have : 32000 * 120960 ≤ 32000 * blg mu md k := Nat.mul_le_mul_left _ b1.1
  omega
theorem bsm_b (hd : Dok E V M nd st t n vo ti le pc cs td co wp wz vb mt mu md od w) : ∀ k, k ≤ M → bsm M t mt mu md k ≤ 32001 * k := by
  intro k
  induction k with
  | zero => intro _; exact Nat.le_refl _
  | succ k ih =>
    intro hk
    have := ih (by omega)
    have := bof_b hd (k := k) (by omega)
    rw [bsm]; omega
theorem c_barT {Q : Int64 → PS → Prop} {k : Nat} (hc : Dcl S A E V M nd st t n vo ti le pc cs td co wp wz vb mt mu md od w) (hd : Dok E V M nd st t n vo ti le pc cs td co wp wz vb mt mu md od w) (hk : k < M) (hQ : Q (lN (blg mu md k)) S) : wp_X2_barTicks (A 2) (nI k) S Q := by
  obtain ⟨a1, a2, a3⟩ := hd.2.2.2.1.1 k hk
  obtain ⟨_, b2, b3⟩ := hc.2.2.2.2.1 k hk
  exact s_barTicks hc.1 hc.2.1.2.2.2.2.2 (by have := hd.1; omega) hk b2 b3 a1 a2 a3 hQ
theorem c_upTo {Q : Int32 → PS → Prop} {k x : Nat} (hc : Dcl S A E V M nd st t n vo ti le pc cs td co wp wz vb mt mu md od w) (hd : Dok E V M nd st t n vo ti le pc cs td co wp wz vb mt mu md od w) (hk : k < M) (hx : mt k ≤ x) (hx2 : x ≤ 3870720000) (hQ : Q (nI ((x - mt k + blg mu md k - 1) / blg mu md k)) S) : wp_X2_barsUpTo (A 2) (nI k) (lN x) S Q := by
  have bb := blg_b hd hk
  have hl := hc.1
  have hM := hd.1
  unfold wp_X2_barsUpTo
  refine c_barT hc hd hk ?_
  rw [show (1 : Int64) = lN 1 from rfl, if_pos ((lN_leq (by omega) (by omega)).mpr (by omega))]
  refine ⟨_, hl.f18, by rw [hl.n10]; exact vp_in_nI (by omega) (by omega), fun z => by rw [show (0 : Int64) = lN 0 from rfl, lN_eqq (by omega) (by omega)] at z; omega, ?_⟩
  rw [nI_clamp (by omega), (hc.2.2.2.2.1 k hk).1, lN_sub hx, lN_add, lN_sub (by omega), lN_div (by omega) (by omega) (by omega), lN_i]
  exact hQ
theorem c_barsOf {Q : Int32 → PS → Prop} {k : Nat} (hc : Dcl S A E V M nd st t n vo ti le pc cs td co wp wz vb mt mu md od w) (hd : Dok E V M nd st t n vo ti le pc cs td co wp wz vb mt mu md od w) (hk : k + 1 < M) (hQ : Q (nI (bof M t mt mu md k)) S) : wp_X2_barsOf (A 2) (nI k) S Q := by
  have hl := hc.1
  have hM := hd.1
  have b := bto_b hd (k := k) (by omega)
  unfold wp_X2_barsOf
  refine ⟨_, hl.f18, by rw [hl.n10, nI_1]; exact vp_in_nI (by omega) (by omega), ?_⟩
  rw [nI_1, nI_clamp (by omega), (hc.2.2.2.2.1 (k + 1) hk).1]
  unfold bof at hQ
  unfold bto at hQ b
  rw [if_pos hk] at hQ b
  exact c_upTo hc hd (by omega) b.1 (by omega) hQ
theorem c_ahead {Q : Int32 → PS → Prop} (hc : Dcl S A E V M nd st t n vo ti le pc cs td co wp wz vb mt mu md od w) (hd : Dok E V M nd st t n vo ti le pc cs td co wp wz vb mt mu md od w) (hQ : Q (nI (bsm M t mt mu md M)) S) : wp_X2_barsAhead (A 2) (lN t) S Q := by
  have hM := hd.1
  unfold wp_X2_barsAhead
  intro P hP
  have key : ∀ j i, i + j = M - 1 → P (nI (bsm M t mt mu md i)) (nI i) S := by
    intro j
    induction j with
    | zero =>
      intro i hi
      apply hP
      rw [hc.2.1.2.2.2.2.2, nI_pr (by omega), if_pos (nI_le (by omega) (by omega))]
      have b := bto_b hd (k := M - 1) (by omega)
      refine c_upTo hc hd (by omega) (by have := hd.2.2.2.1.2.2.2; omega) (by omega) ?_
      have e := bsm_p (M := M) (t := t) (mt := mt) (mu := mu) (md := md) (k := M) (by omega)
      rw [e] at hQ
      unfold bof bto at hQ
      rw [if_neg (by omega)] at hQ
      rw [show i = M - 1 by omega, nI_add]
      exact hQ
    | succ j ih =>
      intro i hi
      apply hP
      rw [hc.2.1.2.2.2.2.2, nI_pr (by omega), if_neg (nI_ge (by omega) (by omega))]
      refine c_barsOf hc hd (by omega) ?_
      rintro _ rfl _ rfl
      rw [nI_add, nI_1]
      exact ih (i + 1) (by omega)
  exact key (M - 1) 0 (by omega)
def cAn (E V M nd st t : Nat) (pc mt mu md : Nat → Nat) (i : Nat) : Nat := if i = 0 then E else if i = 1 then V else if i = 2 then cntf (fun e => decide (pc e = 0)) E else if i = 3 then nd else if i = 4 then st else if i = 5 then M else bsm M t mt mu md M
theorem c_count {Q : Int32 → PS → Prop} {QX : String → PS → Prop} {p : Int32} (hc : Dcl S A E V M nd st t n vo ti le pc cs td co wp wz vb mt mu md od w) (hd : Dok E V M nd st t n vo ti le pc cs td co wp wz vb mt mu md od w) (h94 : fR S 94 (A 8) = some (A 7)) (h1 : ∀ i, p = nI i → i ≤ 6 → Q (nI (cAn E V M nd st t pc mt mu md i)) S) (h0 : (∀ i, i ≤ 6 → p ≠ nI i) → QX "java/lang/IllegalArgumentException" S) : wp_X11_count (A 8) p S Q QX := by
  obtain ⟨c1, c2, c3, c4, c5, c6⟩ := hc.2.1
  unfold wp_X11_count
  by_cases e0 : p = 0
  · rw [if_pos e0]; refine ⟨_, h94, ?_⟩; rw [c1]; exact h1 0 e0 (by omega)
  rw [if_neg e0]
  by_cases e1 : p = 1
  · rw [if_pos e1]; refine ⟨_, h94, ?_⟩; rw [c2]; exact h1 1 e1 (by omega)
  rw [if_neg e1]
  by_cases e2 : p = 2
  · rw [if_pos e2]; refine ⟨_, h94, ?_⟩; exact c_rests hc hd (h1 2 e2 (by omega))
  rw [if_neg e2]
  by_cases e3 : p = 3
  · rw [if_pos e3]; refine ⟨_, h94, ?_⟩; rw [c3]; exact h1 3 e3 (by omega)
  rw [if_neg e3]
  by_cases e4 : p = 4
  · rw [if_pos e4]; refine ⟨_, h94, ?_⟩; rw [c4]; exact h1 4 e4 (by omega)
  rw [if_neg e4]
  by_cases e5 : p = 5
  · rw [if_pos e5]; refine ⟨_, h94, _, hc.1.f83, ?_⟩; rw [c6]; exact h1 5 e5 (by omega)
  rw [if_neg e5]
  by_cases e6 : p = 6
  · rw [if_pos e6]; refine ⟨_, h94, _, hc.1.f83, _, h94, ?_⟩; rw [c5]; exact c_ahead hc hd (h1 6 e6 (by omega))
  rw [if_neg e6]
  refine h0 (fun i hi e => ?_)
  have hh : i = 0 ∨ i = 1 ∨ i = 2 ∨ i = 3 ∨ i = 4 ∨ i = 5 ∨ i = 6 := by omega
  rcases hh with rfl | rfl | rfl | rfl | rfl | rfl | rfl
  · exact e0 e
  · exact e1 e
  · exact e2 e
  · exact e3 e
  · exact e4 e
  · exact e5 e
  · exact e6 e
/-! the reference counts -/
theorem r_barsOf {Q : Int64 → PS → Prop} {k : Nat} (hr : Drf Sr A E V M nd st t n vo ti le pc cs td co wp wz vb mt mu md od w) (hd : Dok E V M nd st t n vo ti le pc cs td co wp wz vb mt mu md od w) (hk : k < M) (hQ : Q (lN (bof M t mt mu md k)) Sr) : wp_X12_barsOf (A 9) (nI k) Sr Q := by
  have lm := hr.1
  have hM := hd.1
  have ck : (nI k).toNatClampNeg = k := nI_clamp (by omega)
  have b := bto_b hd hk
  have bb := blg_b hd hk
  obtain ⟨a1, a2, a3⟩ := hd.2.2.2.1.1 k hk
  obtain ⟨m1, m2, m3⟩ := hr.2.2.2.2.1 k hk
  have vi : ∀ {r i : Nat}, r = 40 → i < 40 → vp_in (nI i) r := fun h hi => by rw [h]; exact vp_in_nI hi (by omega)
  unfold wp_X12_barsOf
  intro K hK
  have go : K (lN (bto M t mt k)) Sr := by
    apply hK
    refine ⟨_, lm.f204, vi lm.n116 (by omega), _, lm.f205, vi lm.n117 (by omega), ?_⟩
    rw [ck, m2, m3]
    unfold wp_X12_barLong
    refine ⟨(bl_e a2 a3).2, ?_⟩
    rw [(bl_e a2 a3).1]
    refine ⟨_, lm.f203, vi lm.n115 (by omega), ?_⟩
    rw [m1]
    have hz : mu k * 3870720 / md k = blg mu md k := rfl
    rw [hz]
    by_cases c : mt k < bto M t mt k
    · rw [if_pos ((lN_ltq (by omega) (by omega)).mpr c)]
      refine ⟨_, lm.f203, vi lm.n115 (by omega), fun z => by rw [show (0 : Int64) = lN 0 from rfl, lN_eqq (by omega) (by omega)] at z; omega, ?_⟩
      rw [m1, lN_sub b.1, lN_add, show (1 : Int64) = lN 1 from rfl, lN_sub (by omega), lN_div (by omega) (by omega) (by omega)]
      exact hQ
    · rw [if_neg (fun z => c ((lN_ltq (by omega) (by omega)).mp z))]
      have e : bof M t mt mu md k = 0 := by
        unfold bof
        rw [show bto M t mt k - mt k = 0 by omega]
        exact Nat.div_eq_of_lt (by omega)
      rw [e] at hQ
      exact hQ
  intro K2 hK2
  unfold bto at go
  rw [hr.2.1.2.2.2.2.1, nI_1]
  by_cases c : k + 1 < M
  · rw [if_pos c] at go
    have b2 : bto M t mt k = mt (k + 1) := if_pos c
    rw [b2] at b
    rw [if_neg (nI_ge c (by omega))]
    refine ⟨_, lm.f203, vi lm.n115 (by omega), ?_⟩
    rw [nI_clamp (by omega), (hr.2.2.2.2.1 (k + 1) c).1, hr.2.1.2.2.2.2.2]
    by_cases c2 : t ≤ mt (k + 1)
    · rw [if_pos ((lN_leq (by omega) (by omega)).mpr c2)]
      apply hK2
      rw [hr.2.1.2.2.2.2.2, show t = mt (k + 1) by omega]
      exact go
    · rw [if_neg (fun z => c2 ((lN_leq (by omega) (by omega)).mp z))]
      refine ⟨_, lm.f203, vi lm.n115 (by omega), ?_⟩
      rw [(hr.2.2.2.2.1 (k + 1) c).1]
      exact go
  · rw [if_neg c] at go
    rw [if_pos (nI_le (by omega) (by omega))]
    apply hK2
    rw [hr.2.1.2.2.2.2.2]
    exact go
theorem r_count {Q : Int32 → PS → Prop} {p : Int32} (hr0 : Drf Sr A E V M nd st t n vo ti le pc cs td co wp wz vb mt mu md od w) (hd : Dok E V M nd st t n vo ti le pc cs td co wp wz vb mt mu md od w) (h1 : ∀ i, p = nI i → i ≤ 6 → Q (nI (cAn E V M nd st t pc mt mu md i)) (sI Sr 96 (A 9) 0)) (h0 : (∀ i, i ≤ 6 → p ≠ nI i) → Q 0 (sI Sr 96 (A 9) 1)) : wp_X12_count (A 9) p Sr Q := by
  have hE := hd.1
  unfold wp_X12_count
  refine in_n (a := 0) (b := 6) rfl rfl (by omega) (by omega) (fun i hp _ hi => ?_) (fun hn => ?_)
  · intro K hK
    rw [if_neg (by decide)]
    apply hK
    rintro _ rfl
    have hr := hr0.s96 (v := 0)
    obtain ⟨c1, c2, c3, c4, c5, c6⟩ := hr.2.1
    have lm := hr.1
    have h1' := h1 i hp hi
    rw [fI_s, if_pos (by decide)]
    generalize sI Sr 96 (A 9) 0 = S7 at *
    by_cases e2 : p = 2
    · rw [if_pos e2]
      have ei : i = 2 := by rw [e2] at hp; exact ((nI_eq (a := 2) (b := i) (by omega) (by omega)).mp hp).symm
      subst ei
      intro P hP
      have key : ∀ j i, i + j = E → P (nI (cntf (fun e => decide (pc e = 0)) i)) (nI i) S7 := by
        intro j
        induction j with
        | zero =>
          intro i hi
          apply hP
          rw [c1, if_pos (nI_le (by omega) (by omega)), show i = E by omega]
          exact h1'
        | succ j ih =>
          intro i hi
          apply hP
          rw [c1, if_neg (nI_ge (by omega) (by omega))]
          refine ⟨_, lm.f191, by rw [lm.n103]; exact vp_in_nI (by omega) (by omega), ?_⟩
          intro K2 hK2
          have go := ih (i + 1) (by omega)
          rw [cntf] at go
          have p6 := (hd.2.1 i (by omega)).2.1.1
          rw [nI_clamp (by omega), (hr.2.2.1 i (by omega)).1.2.1]
          by_cases z : pc i = 0
          · rw [if_pos (decide_eq_true z)] at go
            rw [if_pos (by rw [z]; rfl)]
            apply hK2
            rintro _ rfl _ rfl
            rw [nI_1, nI_1]; exact go
          · rw [if_neg (by rw [decide_eq_true_iff]; exact z)] at go
            rw [if_neg (nI_ne0 (by omega) (by omega))]
            apply hK2
            rintro _ rfl _ rfl
            rw [nI_1, show (0 : Int32) = nI 0 from rfl, nI_add]; exact go
      exact key E 0 (by omega)
    rw [if_neg e2]
    by_cases e6 : p = 6
    · rw [if_pos e6]
      have ei : i = 6 := by rw [e6] at hp; exact ((nI_eq (a := 6) (b := i) (by omega) (by omega)).mp hp).symm
      subst ei
      intro P hP
      have key : ∀ j i, i + j = M → P (lN (bsm M t mt mu md i)) (nI i) S7 := by
        intro j
        induction j with
        | zero =>
          intro i hi
          apply hP
          rw [c5, if_pos (nI_le (by omega) (by omega)), show i = M by omega, lN_i]
          exact h1'
        | succ j ih =>
          intro i hi
          apply hP
          rw [c5, if_neg (nI_ge (by omega) (by omega))]
          refine r_barsOf hr hd (by omega) ?_
          rintro _ rfl _ rfl
          rw [lN_add, nI_1]
          exact ih (i + 1) (by omega)
      exact key M 0 (by omega)
    rw [if_neg e6]
    by_cases e0 : p = 0
    · rw [if_pos e0, c1]
      have ei : i = 0 := by rw [e0] at hp; exact ((nI_eq (a := 0) (b := i) (by omega) (by omega)).mp hp).symm
      subst ei; exact h1'
    rw [if_neg e0]
    by_cases e1 : p = 1
    · rw [if_pos e1, c2]
      have ei : i = 1 := by rw [e1] at hp; exact ((nI_eq (a := 1) (b := i) (by omega) (by omega)).mp hp).symm
      subst ei; exact h1'
    rw [if_neg e1]
    by_cases e3 : p = 3
    · rw [if_pos e3, c3]
      have ei : i = 3 := by rw [e3] at hp; exact ((nI_eq (a := 3) (b := i) (by omega) (by omega)).mp hp).symm
      subst ei; exact h1'
    rw [if_neg e3]
    by_cases e4 : p = 4
    · rw [if_pos e4, c4]
      have ei : i = 4 := by rw [e4] at hp; exact ((nI_eq (a := 4) (b := i) (by omega) (by omega)).mp hp).symm
      subst ei; exact h1'
    rw [if_neg e4, c5]
    have ei : i = 5 := by
      have hh : i = 0 ∨ i = 1 ∨ i = 2 ∨ i = 3 ∨ i = 4 ∨ i = 5 ∨ i = 6 := by omega
      rcases hh with rfl | rfl | rfl | rfl | rfl | rfl | rfl
      · exact absurd hp e0
      · exact absurd hp e1
      · exact absurd hp e2
      · exact absurd hp e3
      · exact absurd hp e4
      · rfl
      · exact absurd hp e6
    subst ei; exact h1'
  · intro K hK
    rw [if_pos rfl]
    apply hK
    rintro _ rfl
    rw [fI_s, if_neg (by decide)]
    exact h0 (fun i hi => hn i (by omega) hi)
end
