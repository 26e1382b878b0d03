/-! Performing: pitches of both. -/
section
variable {S S1 S2 S0 Sr Sr1 Sr2 R0 : PS} {A : Nat → Nat} {B : Nat → Int32} {n N nd pc : Nat}
variable {c k : Nat} {cs cs' : Nat → Nat} {w : Int64}
theorem lor0 {a b : Nat} (ha : a < 2 ^ 3) (hb : b < 512) : lN a ||| (lN b <<< ((((3 : Int32) + (9 : Int32) * nI 0) : Int32).toInt64 &&& 63)) = lN (a + b * 2 ^ 3) := by
  apply Int64.toBitVec_inj.mp
  show (BitVec.ofNat 64 a ||| BitVec.ofNat 64 b <<< 3) = BitVec.ofNat 64 (a + b * 2 ^ 3)
  apply BitVec.eq_of_toNat_eq
  rw [BitVec.toNat_or, BitVec.toNat_shiftLeft, BitVec.toNat_ofNat, BitVec.toNat_ofNat, BitVec.toNat_ofNat, Nat.mod_eq_of_lt (a := a) (by omega), Nat.mod_eq_of_lt (a := b) (by omega), Nat.mod_eq_of_lt (a := a + b * 2 ^ 3) (by omega)]
  rw [Nat.shiftLeft_eq, Nat.mod_eq_of_lt (by omega), ← Nat.shiftLeft_eq, Nat.or_comm, ← Nat.shiftLeft_add_eq_or_of_lt (by omega), Nat.shiftLeft_eq, Nat.add_comm]
theorem lor1 {a b : Nat} (ha : a < 2 ^ 12) (hb : b < 512) : lN a ||| (lN b <<< ((((3 : Int32) + (9 : Int32) * nI 1) : Int32).toInt64 &&& 63)) = lN (a + b * 2 ^ 12) := by
  apply Int64.toBitVec_inj.mp
  show (BitVec.ofNat 64 a ||| BitVec.ofNat 64 b <<< 12) = BitVec.ofNat 64 (a + b * 2 ^ 12)
  apply BitVec.eq_of_toNat_eq
  rw [BitVec.toNat_or, BitVec.toNat_shiftLeft, BitVec.toNat_ofNat, BitVec.toNat_ofNat, BitVec.toNat_ofNat, Nat.mod_eq_of_lt (a := a) (by omega), Nat.mod_eq_of_lt (a := b) (by omega), Nat.mod_eq_of_lt (a := a + b * 2 ^ 12) (by omega)]
  rw [Nat.shiftLeft_eq, Nat.mod_eq_of_lt (by omega), ← Nat.shiftLeft_eq, Nat.or_comm, ← Nat.shiftLeft_add_eq_or_of_lt (by omega), Nat.shiftLeft_eq, Nat.add_comm]
theorem lor2 {a b : Nat} (ha : a < 2 ^ 21) (hb : b < 512) : lN a ||| (lN b <<< ((((3 : Int32) + (9 : Int32) * nI 2) : Int32).toInt64 &&& 63)) = lN (a + b * 2 ^ 21) := by
  apply Int64.toBitVec_inj.mp
  show (BitVec.ofNat 64 a ||| BitVec.ofNat 64 b <<< 21) = BitVec.ofNat 64 (a + b * 2 ^ 21)
  apply BitVec.eq_of_toNat_eq
  rw [BitVec.toNat_or, BitVec.toNat_shiftLeft, BitVec.toNat_ofNat, BitVec.toNat_ofNat, BitVec.toNat_ofNat, Nat.mod_eq_of_lt (a := a) (by omega), Nat.mod_eq_of_lt (a := b) (by omega), Nat.mod_eq_of_lt (a := a + b * 2 ^ 21) (by omega)]
  rw [Nat.shiftLeft_eq, Nat.mod_eq_of_lt (by omega), ← Nat.shiftLeft_eq, Nat.or_comm, ← Nat.shiftLeft_add_eq_or_of_lt (by omega), Nat.shiftLeft_eq, Nat.add_comm]
theorem lor3 {a b : Nat} (ha : a < 2 ^ 30) (hb : b < 512) : lN a ||| (lN b <<< ((((3 : Int32) + (9 : Int32) * nI 3) : Int32).toInt64 &&& 63)) = lN (a + b * 2 ^ 30) := by
  apply Int64.toBitVec_inj.mp
  show (BitVec.ofNat 64 a ||| BitVec.ofNat 64 b <<< 30) = BitVec.ofNat 64 (a + b * 2 ^ 30)
  apply BitVec.eq_of_toNat_eq
  rw [BitVec.toNat_or, BitVec.toNat_shiftLeft, BitVec.toNat_ofNat, BitVec.toNat_ofNat, BitVec.toNat_ofNat, Nat.mod_eq_of_lt (a := a) (by omega), Nat.mod_eq_of_lt (a := b) (by omega), Nat.mod_eq_of_lt (a := a + b * 2 ^ 30) (by omega)]
  rw [Nat.shiftLeft_eq, Nat.mod_eq_of_lt (by omega), ← Nat.shiftLeft_eq, Nat.or_comm, ← Nat.shiftLeft_add_eq_or_of_lt (by omega), Nat.shiftLeft_eq, Nat.add_comm]
theorem lor4 {a b : Nat} (ha : a < 2 ^ 39) (hb : b < 512) : lN a ||| (lN b <<< ((((3 : Int32) + (9 : Int32) * nI 4) : Int32).toInt64 &&& 63)) = lN (a + b * 2 ^ 39) := by
  apply Int64.toBitVec_inj.mp
  show (BitVec.ofNat 64 a ||| BitVec.ofNat 64 b <<< 39) = BitVec.ofNat 64 (a + b * 2 ^ 39)
  apply BitVec.eq_of_toNat_eq
  rw [BitVec.toNat_or, BitVec.toNat_shiftLeft, BitVec.toNat_ofNat, BitVec.toNat_ofNat, BitVec.toNat_ofNat, Nat.mod_eq_of_lt (a := a) (by omega), Nat.mod_eq_of_lt (a := b) (by omega), Nat.mod_eq_of_lt (a := a + b * 2 ^ 39) (by omega)]
  rw [Nat.shiftLeft_eq, Nat.mod_eq_of_lt (by omega), ← Nat.shiftLeft_eq, Nat.or_comm, ← Nat.shiftLeft_add_eq_or_of_lt (by omega), Nat.shiftLeft_eq, Nat.add_comm]
theorem lor5 {a b : Nat} (ha : a < 2 ^ 48) (hb : b < 512) : lN a ||| (lN b <<< ((((3 : Int32) + (9 : Int32) * nI 5) : Int32).toInt64 &&& 63)) = lN (a + b * 2 ^ 48) := by
  apply Int64.toBitVec_inj.mp
  show (BitVec.ofNat 64 a ||| BitVec.ofNat 64 b <<< 48) = BitVec.ofNat 64 (a + b * 2 ^ 48)
  apply BitVec.eq_of_toNat_eq
  rw [BitVec.toNat_or, BitVec.toNat_shiftLeft, BitVec.toNat_ofNat, BitVec.toNat_ofNat, BitVec.toNat_ofNat, Nat.mod_eq_of_lt (a := a) (by omega), Nat.mod_eq_of_lt (a := b) (by omega), Nat.mod_eq_of_lt (a := a + b * 2 ^ 48) (by omega)]
  rw [Nat.shiftLeft_eq, Nat.mod_eq_of_lt (by omega), ← Nat.shiftLeft_eq, Nat.or_comm, ← Nat.shiftLeft_add_eq_or_of_lt (by omega), Nat.shiftLeft_eq, Nat.add_comm]
theorem pkn_lt (hc : c < 8) (h : ∀ k, k < c → cs k < 512) : ∀ k, k ≤ c → pkn c cs k < 2 ^ (3 + 9 * k) := by
  intro k
  induction k with
  | zero => intro _; exact hc
  | succ k ih =>
    intro hk
    rw [pkn]
    have h1 := ih (by omega)
    have h2 := h k (by omega)
    rw [show 3 + 9 * (k + 1) = (3 + 9 * k) + 9 by omega, Nat.pow_add 2 (3 + 9 * k) 9]
    generalize 2 ^ (3 + 9 * k) = z at *
    have h3 : cs k * z ≤ 511 * z := Nat.mul_le_mul_right z (by omega)
    omega
theorem s_with {Q : Int64 → PS → Prop} (hc : c ≤ 6) (hk : k < c) (h : ∀ k, k < c → cs k < 512) (hQ : Q (lN (pkn c cs (k + 1))) S) : wp_X4_with (lN (pkn c cs k)) (nI k) (nI (cs k)) S Q := by
  unfold wp_X4_with
  have b := pkn_lt (cs := cs) (c := c) (by omega) h k (by omega)
  have h2 := h k hk
  rw [to64 (rfl : nI (cs k) = nI (cs k)) (by omega)]
  rw [pkn] at hQ
  have hk6 : k = 0 ∨ k = 1 ∨ k = 2 ∨ k = 3 ∨ k = 4 ∨ k = 5 := by omega
  rcases hk6 with rfl | rfl | rfl | rfl | rfl | rfl
  · rw [lor0 b h2]; exact hQ
  · rw [lor1 b h2]; exact hQ
  · rw [lor2 b h2]; exact hQ
  · rw [lor3 b h2]; exact hQ
  · rw [lor4 b h2]; exact hQ
  · rw [lor5 b h2]; exact hQ
theorem pkn_md (hc : c < 8) (h : ∀ k, k < c → cs k < 512) : ∀ j i, i ≤ j → j ≤ c → pkn c cs j % 2 ^ (3 + 9 * i) = pkn c cs i := by
  intro j
  induction j with
  | zero =>
    intro i h1 h2
    have : i = 0 := by omega
    subst this
    exact Nat.mod_eq_of_lt (pkn_lt hc h 0 (by omega))
  | succ j ih =>
    intro i h1 h2
    by_cases e : i = j + 1
    · subst e; exact Nat.mod_eq_of_lt (pkn_lt hc h _ h2)
    · rw [pkn]
      have : 2 ^ (3 + 9 * j) = 2 ^ (3 + 9 * i) * 2 ^ (9 * (j - i)) := by rw [← Nat.pow_add]; congr 1; omega
      rw [this, ← Nat.mul_assoc, Nat.mul_comm (cs j) _, Nat.mul_assoc, Nat.add_mul_mod_self_left]
      exact ih i (by omega) (by omega)
theorem pkn_get (hc : c < 8) (h : ∀ k, k < c → cs k < 512) {i : Nat} (hi : i < c) : pkn c cs c / 2 ^ (3 + 9 * i) % 512 = cs i := by
  have h1 := pkn_md hc h c (i + 1) (by omega) (by omega)
  rw [pkn] at h1
  have b := pkn_lt hc h i (by omega)
  have e : 2 ^ (3 + 9 * (i + 1)) = 2 ^ (3 + 9 * i) * 512 := by rw [show 3 + 9 * (i + 1) = (3 + 9 * i) + 9 by omega, Nat.pow_add]
  rw [e] at h1
  have hz : 0 < 2 ^ (3 + 9 * i) := Nat.pos_of_ne_zero (by simp)
  rw [← Nat.mod_mul_right_div_self, h1, Nat.add_mul_div_right _ _ hz, Nat.div_eq_of_lt b, Nat.zero_add]
theorem pkn_c (hc : c < 8) (h : ∀ k, k < c → cs k < 512) : pkn c cs c % 8 = c := by
  have := pkn_md hc h c 0 (by omega) (by omega)
  exact this
theorem pkn_63 (hc : c ≤ 6) (h : ∀ k, k < c → cs k < 512) : pkn c cs c < 2 ^ 63 := by
  have := pkn_lt (c := c) (by omega) h c (Nat.le_refl c)
  have h2 : 2 ^ (3 + 9 * c) ≤ 2 ^ 63 := Nat.pow_le_pow_right (by omega) (by omega)
  omega
theorem Pch.inj {c' : Nat} (h : Pch c cs w) (h' : Pch c' cs' w) : c = c' ∧ ∀ k, k < c → cs k = cs' k := by
  obtain ⟨a1, a2, a3⟩ := h
  obtain ⟨b1, b2, b3⟩ := h'
  have a2' : ∀ k, k < c → cs k < 512 := fun k hk => by have := a2 k hk; omega
  have b2' : ∀ k, k < c' → cs' k < 512 := fun k hk => by have := b2 k hk; omega
  have e : pkn c cs c = pkn c' cs' c' := by
    have := a3.symm.trans b3
    rwa [lN_eqq (pkn_63 a1 a2') (pkn_63 b1 b2')] at this
  have ec : c = c' := by rw [← pkn_c (by omega) a2', ← pkn_c (by omega) b2', e]
  subst ec
  exact ⟨rfl, fun k hk => by rw [← pkn_get (by omega) a2' hk, ← pkn_get (by omega) b2' hk, e]⟩
theorem Pch.z (h : Pch c cs w) : w = 0 ↔ c = 0 := by
  obtain ⟨a1, a2, a3⟩ := h
  have a2' : ∀ k, k < c → cs k < 512 := fun k hk => by have := a2 k hk; omega
  rw [a3, show (0 : Int64) = lN 0 from rfl, lN_eqq (pkn_63 a1 a2') (by omega)]
  constructor
  · intro e
    have := pkn_c (c := c) (cs := cs) (by omega) a2'
    rw [e] at this; omega
  · intro e; subst e; rfl
/-! what is found -/
def sq (B : Nat → Int32) (rel : Bool) (qf : Nat → Nat) (fr : Int) : Nat → Int
  | 0 => fr
  | k + 1 => stq B rel (sq B rel qf fr k) (qf k)
def okq (B : Nat → Int32) (rel : Bool) (qf : Nat → Nat) (fr ml mh : Int) (k : Nat) : Prop := okP (sq B rel qf fr (k + 1)) (wa B (qf k)) ml mh = true
def cdq (B : Nat → Int32) (rel : Bool) (qf : Nat → Nat) (fr ml mh : Int) (k : Nat) : Nat := ((sq B rel qf fr (k + 1) + ml) * 5 + lck (sq B rel qf fr (k + 1)) (wa B (qf k)) ml mh + 2).toNat
variable {rel : Bool} {qf : Nat → Nat} {fr ml mh : Int}
theorem stq_b {q : Nat} (ht : isTon (B q) = true) : stq B rel fr q - fr ≤ 100 + (if rel = true then 0 else 100 + -fr) ∧ -(100 + (if rel = true then 0 else 100 + fr)) ≤ stq B rel fr q - fr := by
  have l := wl_b ht; have o := wo_b (B := B) q
  unfold stq oc
  cases rel with
  | true => rw [if_pos rfl, if_pos rfl, if_pos rfl]; omega
  | false => rw [if_neg (by decide), if_neg (by decide), if_neg (by decide)]; omega
theorem sq_b (ht : ∀ k, k < c → isTon (B (qf k)) = true) {L : Int} (hL : 100 ≤ L) (h1 : -L ≤ fr) (h2 : fr ≤ L) : ∀ k, k ≤ c → -(L + 100 * (k : Int)) ≤ sq B rel qf fr k ∧ sq B rel qf fr k ≤ L + 100 * (k : Int) := by
  intro k
  induction k with
  | zero => intro _; exact ⟨by show -(L + 100 * ((0 : Nat) : Int)) ≤ fr; omega, by show fr ≤ L + 100 * ((0 : Nat) : Int); omega⟩
  | succ k ih =>
    intro hk
    obtain ⟨i1, i2⟩ := ih (by omega)
    have l := wl_b (ht k (by omega)); have o := wo_b (B := B) (qf k)
    rw [sq]
    unfold stq oc
    generalize sq B rel qf fr k = z at *
    cases rel with
    | true => rw [if_pos rfl]; omega
    | false => rw [if_neg (by decide)]; omega
theorem cdq_b (h : okq B rel qf fr ml mh k) : (cdq B rel qf fr ml mh k : Int) = (sq B rel qf fr (k + 1) + ml) * 5 + lck (sq B rel qf fr (k + 1)) (wa B (qf k)) ml mh + 2 ∧ cdq B rel qf fr ml mh k < 350 := by
  unfold okq okP at h
  rw [decide_eq_true_iff] at h
  unfold cdq
  generalize sq B rel qf fr (k + 1) + ml = z at *
  generalize lck (sq B rel qf fr (k + 1)) (wa B (qf k)) ml mh = y at *
  omega
theorem s_find {Q : Int64 → PS → Prop} {e f st : Nat} {lp : Int} {r : Int32} (hl : PfL S A) (hpg : Pg S S0 A B n N nd pc) (he : e < N) (h19 : aI S0 19 (A 19) e = nI c) (hc : c ≤ 6) (h21 : aI S0 21 (A 21) e = nI f) (hf : f + c ≤ pc)
    (hq : ∀ k, k < c → isTon (B (qf k)) = true ∧ aI S0 22 (A 22) (f + k) = pco B (qf k)) (h30 : fI S 30 (A 3) = iJ lp) (hlp : lpb lp st) (hst : st ≤ 3000) (h31 : fI S 31 (A 3) = r) (hrel : r ≤ 0 ↔ rel = false) (hml : fI S 35 (A 3) = iJ ml) (hmh : fI S 36 (A 3) = iJ mh) (m1 : -2 ^ 24 ≤ ml) (m2 : ml < 2 ^ 24) (n1 : -2 ^ 24 ≤ mh) (n2 : mh < 2 ^ 24)
    (h1 : (∀ k, k < c → okq B rel qf lp ml mh k) → Q (lN (pkn c (cdq B rel qf lp ml mh) c)) (if rel = true then sI S 30 (A 3) (iJ (if c = 0 then lp else sq B rel qf lp 1)) else S)) (h0 : ¬ (∀ k, k < c → okq B rel qf lp ml mh k) → Q (-1) S) : wp_X3_findPitches (A 3) (nI e) S Q := by
  have hpc := hpg.2.2.2.2.1
  unfold wp_X3_findPitches
  refine ⟨_, hl.1, s_two hpg he ?_⟩
  rw [h19, show (6 : Int32) = nI 6 from rfl, if_neg (nI_nlt hc (by omega))]
  rintro _ rfl _ rfl _ rfl _ rfl
  rw [h30, to64 (rfl : nI c = nI c) (by omega)]
  intro P hP
  have key : ∀ g k, g + k = c → (∀ i, i < k → okq B rel qf lp ml mh i) → P (lN (pkn c (cdq B rel qf lp ml mh) k)) (iJ (sq B rel qf lp k)) (iJ (if k = 0 then lp else sq B rel qf lp 1)) (nI k) S := by
    intro g
    induction g with
    | zero =>
      intro k k1 k2
      have kc : k = c := by omega
      subst kc
      apply hP
      rw [if_pos (nI_le (Nat.le_refl _) (by omega)), h31]
      have := h1 k2
      cases hr : rel with
      | false =>
        rw [hr, if_neg (by decide)] at this
        rw [if_pos (hrel.mpr hr)]; exact this
      | true =>
        rw [hr, if_pos rfl] at this
        rw [if_neg (fun z => by rw [hrel.mp z] at hr; cases hr)]
        rintro _ rfl
        exact this
    | succ g ih =>
      intro k k1 k2
      have sb := sq_b (rel := rel) (qf := qf) (fr := lp) (c := c) (B := B) (fun k hk => (hq k hk).1) (L := 100 + 100 * (st : Int)) (by omega) hlp.1 hlp.2
      have s0 := sb k (by omega)
      have s1 := sb (k + 1) (by omega)
      apply hP
      rw [if_neg (nI_ge (by omega) (by omega))]
      refine ⟨_, hl.1, s_partOf hpg he h21 (by omega) ?_⟩
      rw [(hq k (by omega)).2]
      refine s_stepOf (rel := rel) (hq k (by omega)).1 h31 hrel (by omega) (by omega) ?_
      intro K hK
      have wab := wa_b (B := B) (qf k)
      have cont : K (iJ (sq B rel qf lp 1)) S → K (iJ (sq B rel qf lp 1)) S := id
      have go : K (iJ (sq B rel qf lp 1)) S := by
        apply hK
        refine s_alter (hq k (by omega)).1 ?_
        have es : stq B rel (sq B rel qf lp k) (qf k) = sq B rel qf lp (k + 1) := rfl
        rw [es]
        refine s_moved hml hmh (by omega) (by omega) (by omega) (by omega) (by omega) (by omega) (by omega) (by omega) (fun ok => ?_) (fun ok => ?_)
        · have ob : okq B rel qf lp ml mh k := ok
          obtain ⟨cb1, cb2⟩ := cdq_b ob
          have ec : iJ ((sq B rel qf lp (k + 1) + ml) * 5 + lck (sq B rel qf lp (k + 1)) (wa B (qf k)) ml mh + 2) = nI (cdq B rel qf lp ml mh k) := by rw [iJ_n, cb1]
          rw [ec, if_neg (nI_ne_neg (by omega))]
          have allk : ∀ i, i < k + 1 → okq B rel qf lp ml mh i := fun i hi => by
            by_cases z : i = k
            · rw [z]; exact ob
            · exact k2 i (by omega)
          -- codes beyond k do not matter
          have step := ih (k + 1) (by omega) allk
          rw [if_neg (by omega)] at step
          have wi : wp_X4_with (lN (pkn c (cdq B rel qf lp ml mh) k)) (nI k) (nI (cdq B rel qf lp ml mh k)) S (fun r28 S27 => ∀ v29, v29 = nI k + 1 → P r28 (iJ (sq B rel qf lp (k + 1))) (iJ (sq B rel qf lp 1)) v29 S27) := by
            have e1 : ∀ z, z ≤ k + 1 → pkn c (fun i => if i < k + 1 then cdq B rel qf lp ml mh i else 0) z = pkn c (cdq B rel qf lp ml mh) z := by
              intro z
              induction z with
              | zero => intro _; rfl
              | succ z ihz => intro hz; rw [pkn, pkn, ihz (by omega)]; show _ + (if z < k + 1 then _ else _) * _ = _; rw [if_pos (by omega)]
            have e2 := e1 k (by omega)
            have e3 := e1 (k + 1) (by omega)
            have := s_with (S := S) (c := c) (k := k) (cs := fun i => if i < k + 1 then cdq B rel qf lp ml mh i else 0) (Q := fun r28 S27 => ∀ v29, v29 = nI k + 1 → P r28 (iJ (sq B rel qf lp (k + 1))) (iJ (sq B rel qf lp 1)) v29 S27) hc (by omega) (fun i hi => by
              show (if i < k + 1 then _ else _) < 512
              split
              · rename_i hz
                have := (cdq_b (allk i hz)).2; omega
              · omega) (by rw [e3]; rintro _ rfl; rw [nI_1]; exact step)
            rw [e2] at this
            simp only [Nat.lt_add_one, if_true] at this
            exact this
          exact wi
        · rw [if_pos rfl]
          exact h0 (fun z => by have := z k (by omega); unfold okq at this; rw [ok] at this; cases this)
      by_cases k0 : k = 0
      · rw [if_pos (by rw [k0]; rfl)]
        have : iJ (stq B rel (sq B rel qf lp k) (qf k)) = iJ (sq B rel qf lp 1) := by subst k0; rfl
        rw [this]; exact go
      · rw [if_neg (nI_ne0 (by omega) (by omega)), if_neg k0]; exact go
  have := key c 0 (by omega) (fun i hi => by omega)
  rw [if_pos rfl] at this
  exact this
/-! the reference -/
def fnS (Sr : PS) (A : Nat → Nat) (k : Nat) (st ml : Int) (lk : Int) : PS := wI (wI (wI (sI Sr 158 (A 9) (iJ st)) 85 (A 85) k (iJ ((st + ml) / 7))) 83 (A 83) k (iJ ((st + ml) % 7))) 84 (A 84) k (iJ lk)
theorem in_j {Q : Int32 → PS → Prop} {z lo hi : Int} (b1 : -2 ^ 31 ≤ z) (b2 : z < 2 ^ 31) (l1 : -100 ≤ lo) (l2 : lo ≤ 100) (l3 : -100 ≤ hi) (l4 : hi ≤ 100) (h1 : lo ≤ z → z ≤ hi → Q 1 S) (h0 : ¬ (lo ≤ z ∧ z ≤ hi) → Q 0 S) : wp_X12_in (iJ z).toInt64 (Int64.ofInt lo) (Int64.ofInt hi) S Q := by
  unfold wp_X12_in
  have e0 : (iJ z).toInt64.toInt = z := by rw [Int32.toInt_toInt64, iJ_t b1 b2]
  have e1 : (Int64.ofInt lo).toInt = lo := Int64.toInt_ofInt_of_le (by omega) (by omega)
  have e2 : (Int64.ofInt hi).toInt = hi := Int64.toInt_ofInt_of_le (by omega) (by omega)
  by_cases a : (iJ z).toInt64 < Int64.ofInt lo
  · rw [if_pos a]
    rw [Int64.lt_iff_toInt_lt] at a
    exact h0 (by omega)
  · rw [if_neg a]
    rw [Int64.lt_iff_toInt_lt] at a
    by_cases b : Int64.ofInt hi < (iJ z).toInt64
    · rw [if_pos b]
      rw [Int64.lt_iff_toInt_lt] at b
      exact h0 (by omega)
    · rw [if_neg b]
      rw [Int64.lt_iff_toInt_lt] at b
      exact h1 (by omega) (by omega)
theorem r_find {Q : Int32 → PS → Prop} {q w' : Nat} {r : Int32} (h : LayM Sr A) (hk : k < 6) (hw : w' < 1500) (ht : isTon (B q) = true) (h50 : aI Sr 50 (A 50) w' = pLet (B q)) (h51 : aI Sr 51 (A 51) w' = pA B q) (h52 : aI Sr 52 (A 52) w' = pO B q) (h159 : fI Sr 159 (A 9) = r) (hrel : r ≤ 0 ↔ rel = false) (h158 : rel = true → fI Sr 158 (A 9) = iJ fr) (f1 : -2 ^ 24 ≤ fr) (f2 : fr < 2 ^ 24) (hml : fI Sr 163 (A 9) = iJ ml) (hmh : fI Sr 164 (A 9) = iJ mh) (m1 : -2 ^ 24 ≤ ml) (m2 : ml < 2 ^ 24) (n1 : -2 ^ 24 ≤ mh) (n2 : mh < 2 ^ 24)
    (h1 : okP (stq B rel fr q) (wa B q) ml mh = true → Q 1 (fnS Sr A k (stq B rel fr q) ml (lck (stq B rel fr q) (wa B q) ml mh))) (h0 : okP (stq B rel fr q) (wa B q) ml mh = false → Q 0 (fnS Sr A k (stq B rel fr q) ml (lck (stq B rel fr q) (wa B q) ml mh))) : wp_X12_find (A 9) (nI k) (nI w') Sr Q := by
  have l := wl_b ht; have o := wo_b (B := B) q; have a := wa_b (B := B) q
  have el : pLet (B q) = iJ (wl B q) := (iJ_of _).symm
  have ea : pA B q = iJ (wa B q) := (iJ_of _).symm
  have eo : pO B q = iJ (wo B q) := (iJ_of _).symm
  have ck : (nI k).toNatClampNeg = k := nI_clamp (by omega)
  have cw : (nI w').toNatClampNeg = w' := nI_clamp (by omega)
  have vk : ∀ {r : Nat}, r = 6 → vp_in (nI k) r := fun h => by rw [h]; exact vp_in_nI hk (by omega)
  have vw : ∀ {r : Nat}, r = 1500 → vp_in (nI w') r := fun h => by rw [h]; exact vp_in_nI hw (by omega)
  have hst : stq B rel fr q = oc B rel fr q * 7 + wl B q := rfl
  have ob : -2 ^ 24 ≤ oc B rel fr q ∧ oc B rel fr q < 2 ^ 24 := by
    unfold oc
    split <;> omega
  unfold wp_X12_find
  refine ⟨_, h.f114, vw h.n50, ?_⟩
  rintro _ rfl
  rw [cw, h50, el]
  intro K hK
  have go : ∀ z : Int, z + wo B q = oc B rel fr q → K (iJ z) Sr := by
    intro z hz
    apply hK
    refine ⟨_, h.f116, vw h.n52, ?_⟩
    rintro _ rfl _ rfl _ rfl
    simp only [fI_s, fI_sn, fL_s, fL_sn, aI_w, aI_wn, aL_w, aL_wn, fI_sL, fI_wI, fI_wL, fL_sI, fL_wI, fL_wL, aI_sI, aI_sL, aI_wL, aL_sI, aL_sL, aL_wI, fR_sI, fR_sL, fR_wI, fR_wL, aN_sI, aN_sL, aN_wI, aN_wL, ne_eq, Nat.reduceEqDiff, not_false_eq_true]
    rw [h52, eo, iJ_add, hz, hml, show (7 : Int32) = iJ 7 from rfl, iJ_mul, iJ_add, show 7 * oc B rel fr q + wl B q = stq B rel fr q by rw [hst]; omega, iJ_add]
    have sb : -2 ^ 28 ≤ stq B rel fr q ∧ stq B rel fr q < 2 ^ 28 := by rw [hst]; omega
    refine ⟨_, h.f172, ?_⟩
    refine r_floor (by omega) (by omega) ?_
    refine ⟨vk h.n85, ?_⟩
    rintro _ rfl
    refine ⟨_, h.f170, _, h.f172, vk h.n85, vk h.n83, ?_⟩
    rintro _ rfl
    refine ⟨_, h.f171, ?_⟩
    simp only [fI_s, fI_sn, fL_s, fL_sn, aI_w, aI_wn, aL_w, aL_wn, fI_sL, fI_wI, fI_wL, fL_sI, fL_wI, fL_wL, aI_sI, aI_sL, aI_wL, aL_sI, aL_sL, aL_wI, fR_sI, fR_sL, fR_wI, fR_wL, aN_sI, aN_sL, aN_wI, aN_wL, ne_eq, Nat.reduceEqDiff, not_false_eq_true]
    try rw [ck]
    rw [uq_at, iJ_mul, iJ_sub]
    have e7 : stq B rel fr q + ml - 7 * ((stq B rel fr q + ml) / 7) = (stq B rel fr q + ml) % 7 := by omega
    rw [e7]
    refine r_halves l.1 l.2 ?_
    refine ⟨_, h.f115, vw h.n51, _, h.f172, vk h.n85, _, h.f170, vk h.n83, ?_⟩
    simp only [fI_s, fI_sn, fL_s, fL_sn, aI_w, aI_wn, aL_w, aL_wn, fI_sL, fI_wI, fI_wL, fL_sI, fL_wI, fL_wL, aI_sI, aI_sL, aI_wL, aL_sI, aL_sL, aL_wI, fR_sI, fR_sL, fR_wI, fR_wL, aN_sI, aN_sL, aN_wI, aN_wL, ne_eq, Nat.reduceEqDiff, not_false_eq_true]
    try rw [ck]
    rw [uq_at, uq_at, h51, ea, hmh]
    refine r_halves (by omega) (by omega) ?_
    refine ⟨vk h.n84, ?_⟩
    rintro _ rfl
    have e12 : (12 : Int32) * iJ (oc B rel fr q) + iJ (hv (wl B q)) + iJ (wa B q) + iJ mh - 12 * iJ ((stq B rel fr q + ml) / 7) - iJ (hv ((stq B rel fr q + ml) % 7)) = iJ (lck (stq B rel fr q) (wa B q) ml mh) := by
      rw [show (12 : Int32) = iJ 12 from rfl]
      simp only [iJ_mul, iJ_add, iJ_sub]
      congr 1
      unfold lck
      have e1 : stq B rel fr q / 7 = oc B rel fr q := by rw [hst]; omega
      have e2 : stq B rel fr q % 7 = wl B q := by rw [hst]; omega
      rw [e1, e2]; omega
    rw [e12]
    try rw [ck]
    have hvb := hv_b (k := wl B q) l.1 l.2
    have hvb2 := hv_b (k := (stq B rel fr q + ml) % 7) (by omega) (by omega)
    have lb : -2 ^ 30 ≤ lck (stq B rel fr q) (wa B q) ml mh ∧ lck (stq B rel fr q) (wa B q) ml mh < 2 ^ 30 := by
      unfold lck
      have e1 : stq B rel fr q / 7 = oc B rel fr q := by rw [hst]; omega
      have e2 : stq B rel fr q % 7 = wl B q := by rw [hst]; omega
      rw [e1, e2]; omega
    have efn : wI (wI (wI (sI Sr 158 (A 9) (iJ (stq B rel fr q))) 85 (A 85) k (iJ ((stq B rel fr q + ml) / 7))) 83 (A 83) k (iJ ((stq B rel fr q + ml) % 7))) 84 (A 84) k (iJ (lck (stq B rel fr q) (wa B q) ml mh)) = fnS Sr A k (stq B rel fr q) ml (lck (stq B rel fr q) (wa B q) ml mh) := rfl
    rw [efn]
    have hfn : LayM (fnS Sr A k (stq B rel fr q) ml (lck (stq B rel fr q) (wa B q) ml mh)) A := h.st rfl
    have e84 : aI (fnS Sr A k (stq B rel fr q) ml (lck (stq B rel fr q) (wa B q) ml mh)) 84 (A 84) k = iJ (lck (stq B rel fr q) (wa B q) ml mh) := by unfold fnS; simp only [fI_s, fI_sn, fL_s, fL_sn, aI_w, aI_wn, aL_w, aL_wn, fI_sL, fI_wI, fI_wL, fL_sI, fL_wI, fL_wL, aI_sI, aI_sL, aI_wL, aL_sI, aL_sL, aL_wI, fR_sI, fR_sL, fR_wI, fR_wL, aN_sI, aN_sL, aN_wI, aN_wL, ne_eq, Nat.reduceEqDiff, not_false_eq_true]; rw [uq_at]
    have e85 : aI (fnS Sr A k (stq B rel fr q) ml (lck (stq B rel fr q) (wa B q) ml mh)) 85 (A 85) k = iJ ((stq B rel fr q + ml) / 7) := by unfold fnS; simp only [fI_s, fI_sn, fL_s, fL_sn, aI_w, aI_wn, aL_w, aL_wn, fI_sL, fI_wI, fI_wL, fL_sI, fL_wI, fL_wL, aI_sI, aI_sL, aI_wL, aL_sI, aL_sL, aL_wI, fR_sI, fR_sL, fR_wI, fR_wL, aN_sI, aN_sL, aN_wI, aN_wL, ne_eq, Nat.reduceEqDiff, not_false_eq_true]; rw [uq_at]
    generalize fnS Sr A k (stq B rel fr q) ml (lck (stq B rel fr q) (wa B q) ml mh) = Sf at *
    refine ⟨_, hfn.f171, vk hfn.n84, ?_⟩
    rw [e84, show (-2 : Int64) = Int64.ofInt (-2) from rfl, show (2 : Int64) = Int64.ofInt 2 from rfl]
    refine in_j (by omega) (by omega) (by omega) (by omega) (by omega) (by omega) (fun y1 y2 => ?_) (fun y => ?_)
    · rw [if_neg (by decide)]
      refine ⟨_, hfn.f172, vk hfn.n85, ?_⟩
      rw [e85, show (0 : Int64) = Int64.ofInt 0 from rfl, show (9 : Int64) = Int64.ofInt 9 from rfl]
      refine in_j (by omega) (by omega) (by omega) (by omega) (by omega) (by omega) (fun y3 y4 => ?_) (fun y => ?_)
      · rw [if_neg (by decide)]
        exact h1 (by unfold okP; rw [decide_eq_true_iff]; omega)
      · rw [if_pos rfl]
        exact h0 (by unfold okP; rw [decide_eq_false_iff_not]; omega)
    · rw [if_pos rfl]
      exact h0 (by unfold okP; rw [decide_eq_false_iff_not]; omega)
  rw [h159]
  cases hr : rel with
  | false =>
    rw [if_pos (hrel.mpr hr)]
    exact go 4 (by unfold oc; rw [hr, if_neg (by decide)])
  | true =>
    rw [if_neg (fun z => by rw [hrel.mp z] at hr; cases hr), h158 hr, iJ_sub, show (3 : Int32) = iJ 3 from rfl, iJ_add]
    refine r_floor (by omega) (by omega) ?_
    exact go _ (by unfold oc; rw [hr, if_pos rfl, show fr - wl B q + 3 = fr + 3 - wl B q by omega])
end
