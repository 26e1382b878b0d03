/-! Whole numbers; how a pitch is found. -/
section
variable {S : PS} {A : Nat → Nat} {B : Nat → Int32} {Q : Int32 → PS → Prop}
def iJ (z : Int) : Int32 := Int32.ofInt z
theorem iJ_t {z : Int} (h1 : -2 ^ 31 ≤ z) (h2 : z < 2 ^ 31) : (iJ z).toInt = z := Int32.toInt_ofInt_of_le h1 h2
theorem iJ_add (a b : Int) : iJ a + iJ b = iJ (a + b) := (Int32.ofInt_add a b).symm
theorem iJ_sub (a b : Int) : iJ a - iJ b = iJ (a - b) := (Int32.ofInt_sub a b).symm
theorem iJ_mul (a b : Int) : iJ a * iJ b = iJ (a * b) := (Int32.ofInt_mul a b).symm
theorem iJ_neg (a : Int) : -iJ a = iJ (-a) := (Int32.ofInt_neg a).symm
theorem iJ_n (k : Nat) : nI k = iJ k := Int32.ofInt_eq_ofNat.symm
theorem iJ_of (x : Int32) : iJ x.toInt = x := Int32.ofInt_toInt x
theorem iJ_inj {a b : Int} (h1 : -2 ^ 31 ≤ a) (h2 : a < 2 ^ 31) (h3 : -2 ^ 31 ≤ b) (h4 : b < 2 ^ 31) : iJ a = iJ b ↔ a = b := by
  rw [← Int32.toInt_inj, iJ_t h1 h2, iJ_t h3 h4]
theorem iJ_le {a b : Int} (h1 : -2 ^ 31 ≤ a) (h2 : a < 2 ^ 31) (h3 : -2 ^ 31 ≤ b) (h4 : b < 2 ^ 31) : iJ a ≤ iJ b ↔ a ≤ b := by
  rw [Int32.le_iff_toInt_le, iJ_t h1 h2, iJ_t h3 h4]
theorem iJ_lt {a b : Int} (h1 : -2 ^ 31 ≤ a) (h2 : a < 2 ^ 31) (h3 : -2 ^ 31 ≤ b) (h4 : b < 2 ^ 31) : iJ a < iJ b ↔ a < b := by
  rw [Int32.lt_iff_toInt_lt, iJ_t h1 h2, iJ_t h3 h4]
theorem iJ_div {a b : Int} (h1 : -2 ^ 31 ≤ a) (h2 : a < 2 ^ 31) (h3 : 0 < b) (h4 : b < 2 ^ 31) : iJ a / iJ b = iJ (a.tdiv b) := (Int32.ofInt_tdiv (by show -2 ^ 31 ≤ a; exact h1) (by show a ≤ 2 ^ 31 - 1; omega) (by show -2 ^ 31 ≤ b; omega) (by show b ≤ 2 ^ 31 - 1; omega)).symm
theorem td_pos {a : Int} (h : 0 ≤ a) (b : Int) : a.tdiv b = a / b := Int.tdiv_eq_ediv_of_nonneg h
theorem td_neg {a : Int} (b : Int) : (-a).tdiv b = -(a.tdiv b) := Int.neg_tdiv a b
theorem xor7 (x : Int32) : 0 ≤ x ^^^ 7 ↔ 0 ≤ x := by
  have key : ∀ y : Int32, 0 ≤ y ↔ y.toBitVec.msb = false := by
    intro y
    rw [Int32.le_iff_toInt_le]
    show (0 : Int) ≤ y.toBitVec.toInt ↔ _
    rw [BitVec.msb_eq_toInt, decide_eq_false_iff_not]; omega
  rw [key, key]
  show (x.toBitVec ^^^ (7 : Int32).toBitVec).msb = false ↔ _
  rw [BitVec.msb_xor]
  have : (7 : Int32).toBitVec.msb = false := by decide
  rw [this]; simp
theorem s_floorDiv {a : Int} (h1 : -2 ^ 30 ≤ a) (h2 : a < 2 ^ 30) (hQ : Q (iJ (a / 7)) S) : wp_J9_floorDiv_7cf53 (iJ a) 7 S Q := by
  unfold wp_J9_floorDiv_7cf53
  refine ⟨by decide, ?_⟩
  rintro _ rfl
  have e7 : (7 : Int32) = iJ 7 := rfl
  have ed : iJ a / 7 = iJ (a.tdiv 7) := by rw [e7]; exact iJ_div (by omega) (by omega) (by omega) (by omega)
  have hz : (0 : Int32) = iJ 0 := rfl
  by_cases c : 0 ≤ a
  · rw [if_pos ((xor7 _).mpr (by rw [hz, iJ_le (by omega) (by omega) (by omega) (by omega)]; exact c)), ed, td_pos c]; exact hQ
  · rw [if_neg (fun z => c (by have := (xor7 _).mp z; rw [hz, iJ_le (by omega) (by omega) (by omega) (by omega)] at this; exact this)), ed]
    have et : a.tdiv 7 = -((-a) / 7) := by
      have := td_neg (a := -a) 7
      rw [Int.neg_neg] at this
      rw [this, td_pos (by omega)]
    rw [et, e7, iJ_mul]
    by_cases d : -(-a / 7) * 7 = a
    · rw [if_pos (by rw [d])]
      have : -(-a / 7) = a / 7 := by omega
      rw [this]; exact hQ
    · rw [if_neg (by rw [iJ_inj (by omega) (by omega) (by omega) (by omega)]; exact d)]
      have : -(-a / 7) - 1 = a / 7 := by omega
      rw [show (1 : Int32) = iJ 1 from rfl, iJ_sub, this]; exact hQ
theorem s_floorMod {a : Int} (h1 : -2 ^ 30 ≤ a) (h2 : a < 2 ^ 30) (hQ : Q (iJ (a % 7)) S) : wp_J9_floorMod_7cf53 (iJ a) 7 S Q := by
  unfold wp_J9_floorMod_7cf53
  refine ⟨by decide, ?_⟩
  rintro _ rfl
  have e7 : (7 : Int32) = iJ 7 := rfl
  have ed : iJ a / 7 = iJ (a.tdiv 7) := by rw [e7]; exact iJ_div (by omega) (by omega) (by omega) (by omega)
  have hz : (0 : Int32) = iJ 0 := rfl
  rw [ed]
  by_cases c : 0 ≤ a
  · rw [if_pos ((xor7 _).mpr (by rw [hz, iJ_le (by omega) (by omega) (by omega) (by omega)]; exact c)), td_pos c, e7, iJ_mul, iJ_sub]
    have : a - a / 7 * 7 = a % 7 := by omega
    rw [this]; exact hQ
  · rw [if_neg (fun z => c (by have := (xor7 _).mp z; rw [hz, iJ_le (by omega) (by omega) (by omega) (by omega)] at this; exact this))]
    have et : a.tdiv 7 = -((-a) / 7) := by
      have := td_neg (a := -a) 7
      rw [Int.neg_neg] at this
      rw [this, td_pos (by omega)]
    rw [et, e7, iJ_mul, iJ_sub]
    by_cases d : a - -(-a / 7) * 7 = 0
    · rw [if_pos (by rw [d]; rfl)]
      have : a - -(-a / 7) * 7 = a % 7 := by omega
      rw [this]; exact hQ
    · rw [if_neg (by rw [hz, iJ_inj (by omega) (by omega) (by omega) (by omega)]; exact d), iJ_add]
      have : a - -(-a / 7) * 7 + 7 = a % 7 := by omega
      rw [this]; exact hQ
theorem r_floor {a : Int} (h1 : -2 ^ 30 ≤ a) (h2 : a < 2 ^ 30) (hQ : Q (iJ (a / 7)) S) : wp_X12_floor (iJ a) 7 S Q := by
  unfold wp_X12_floor
  have hz : (0 : Int32) = iJ 0 := rfl
  have e7 : (7 : Int32) = iJ 7 := rfl
  by_cases c : a < 0
  · rw [if_pos (by rw [hz, iJ_lt (by omega) (by omega) (by omega) (by omega)]; exact c)]
    refine ⟨by decide, ?_⟩
    rw [show (7 : Int32) - 1 = iJ 6 from rfl, iJ_sub, e7, iJ_div (by omega) (by omega) (by omega) (by omega), td_pos (by omega), iJ_neg]
    have : -((6 - a) / 7) = a / 7 := by omega
    rw [this]; exact hQ
  · rw [if_neg (by rw [hz, iJ_lt (by omega) (by omega) (by omega) (by omega)]; exact c)]
    refine ⟨by decide, ?_⟩
    rw [e7, iJ_div (by omega) (by omega) (by omega) (by omega), td_pos (by omega)]; exact hQ
/-- half tones of a letter -/
def hv (k : Int) : Int := if k < 3 then 2 * k else 2 * k - 1
theorem hv_b {k : Int} (h1 : 0 ≤ k) (h2 : k < 7) : 0 ≤ hv k ∧ hv k ≤ 11 := by unfold hv; split <;> omega
theorem htab_v : ∀ k : Fin 7, htab k.val = iJ (hv k.val) := by decide
theorem s_halfTones {a : Int} (h1 : -2 ^ 26 ≤ a) (h2 : a < 2 ^ 26) (hQ : Q (iJ (a / 7 * 12 + hv (a % 7))) S) : wp_X4_halfTones (iJ a) S Q := by
  unfold wp_X4_halfTones
  refine s_floorDiv (by omega) (by omega) ?_
  refine s_floorMod (by omega) (by omega) ?_
  obtain ⟨k, hk⟩ : ∃ k : Nat, a % 7 = k := ⟨(a % 7).toNat, by omega⟩
  have hk7 : k < 7 := by omega
  rw [hk] at hQ ⊢
  rw [← iJ_n]
  refine ⟨vp_in_nI hk7 (by omega), ?_⟩
  rw [nI_clamp (by omega), show htab k = iJ (hv k) from htab_v ⟨k, hk7⟩, show (12 : Int32) = iJ 12 from rfl, iJ_mul, iJ_add]; exact hQ
theorem r_halves {k : Int} (h1 : 0 ≤ k) (h2 : k < 7) (hQ : Q (iJ (hv k)) S) : wp_X12_halves (iJ k) S Q := by
  unfold wp_X12_halves
  unfold hv at hQ
  rw [show (2 : Int32) = iJ 2 from rfl, iJ_mul, show (3 : Int32) = iJ 3 from rfl]
  by_cases c : k < 3
  · rw [if_pos c] at hQ
    rw [if_neg (by rw [iJ_le (by omega) (by omega) (by omega) (by omega)]; omega)]; exact hQ
  · rw [if_neg c] at hQ
    rw [if_pos (by rw [iJ_le (by omega) (by omega) (by omega) (by omega)]; omega), show (1 : Int32) = iJ 1 from rfl, iJ_sub]; exact hQ
/-! a pitch as it is written at q -/
def wl (B : Nat → Int32) (q : Nat) : Int := (pLet (B q)).toInt
def wa (B : Nat → Int32) (q : Nat) : Int := (pA B q).toInt
def wo (B : Nat → Int32) (q : Nat) : Int := (pO B q).toInt
theorem pLet_b {c : Int32} (h : isTon c = true) : 0 ≤ (pLet c).toInt ∧ (pLet c).toInt < 7 := by
  rcases isTon_of h with rfl | rfl | rfl | rfl | rfl | rfl | rfl <;> decide
theorem mkV_b {c1 c2 : Int32} {w p : Nat} (hw : w < 100) : -(w : Int) ≤ (mkV B c1 c2 w p).toInt ∧ (mkV B c1 c2 w p).toInt ≤ w := by
  unfold mkV
  split
  · have := mks_le (B := B) (c := c1) w p
    rw [nI_toInt (by omega)]; omega
  · have := mks_le (B := B) (c := c2) w p
    rw [iJ_n, iJ_neg, iJ_t (by omega) (by omega)]; omega
theorem wa_b (q : Nat) : -2 ≤ wa B q ∧ wa B q ≤ 2 := mkV_b (w := 2) (by omega)
theorem wo_b (q : Nat) : -9 ≤ wo B q ∧ wo B q ≤ 9 := mkV_b (w := 9) (by omega)
theorem wl_b {q : Nat} (h : isTon (B q) = true) : 0 ≤ wl B q ∧ wl B q < 7 := pLet_b h
theorem pco_j (q : Nat) : pco B q = iJ ((((wo B q + 9) * 5 + wa B q) + 2) * 7 + wl B q) := by
  unfold pco wco
  rw [← iJ_of (pLet (B q)), ← iJ_of (pA B q), ← iJ_of (pO B q), show (9 : Int32) = iJ 9 from rfl, show (5 : Int32) = iJ 5 from rfl, show (2 : Int32) = iJ 2 from rfl, show (7 : Int32) = iJ 7 from rfl]
  simp only [iJ_add, iJ_mul]; rfl
section
variable {q : Nat} (ht : isTon (B q) = true)
theorem s_letter {Q : Int32 → PS → Prop} (ht : isTon (B q) = true) (hQ : Q (iJ (wl B q)) S) : wp_X10_letter (pco B q) S Q := by
  unfold wp_X10_letter
  have l := wl_b ht; have a := wa_b (B := B) q; have o := wo_b (B := B) q
  rw [pco_j, show (7 : Int32) = iJ 7 from rfl, iJ_div (by omega) (by omega) (by omega) (by omega), td_pos (by omega), iJ_mul, iJ_sub]
  have e : (((wo B q + 9) * 5 + wa B q + 2) * 7 + wl B q) - (((wo B q + 9) * 5 + wa B q + 2) * 7 + wl B q) / 7 * 7 = wl B q := by omega
  rw [e]; exact hQ
theorem s_alter {Q : Int32 → PS → Prop} (ht : isTon (B q) = true) (hQ : Q (iJ (wa B q)) S) : wp_X10_alter (pco B q) S Q := by
  unfold wp_X10_alter
  have l := wl_b ht; have a := wa_b (B := B) q; have o := wo_b (B := B) q
  rw [pco_j, show (7 : Int32) = iJ 7 from rfl, iJ_div (by omega) (by omega) (by omega) (by omega), td_pos (by omega)]
  have e : (((wo B q + 9) * 5 + wa B q + 2) * 7 + wl B q) / 7 = (wo B q + 9) * 5 + wa B q + 2 := by omega
  rw [e, show (5 : Int32) = iJ 5 from rfl, iJ_div (by omega) (by omega) (by omega) (by omega), td_pos (by omega), iJ_mul, iJ_sub, show (2 : Int32) = iJ 2 from rfl, iJ_sub]
  have e2 : (wo B q + 9) * 5 + wa B q + 2 - ((wo B q + 9) * 5 + wa B q + 2) / 5 * 5 - 2 = wa B q := by omega
  rw [e2]; exact hQ
theorem s_shift {Q : Int32 → PS → Prop} (ht : isTon (B q) = true) (hQ : Q (iJ (wo B q)) S) : wp_X10_shift (pco B q) S Q := by
  unfold wp_X10_shift
  have l := wl_b ht; have a := wa_b (B := B) q; have o := wo_b (B := B) q
  rw [pco_j, show (35 : Int32) = iJ 35 from rfl, iJ_div (by omega) (by omega) (by omega) (by omega), td_pos (by omega), show (9 : Int32) = iJ 9 from rfl, iJ_sub]
  have e : (((wo B q + 9) * 5 + wa B q + 2) * 7 + wl B q) / 35 - 9 = wo B q := by omega
  rw [e]; exact hQ
end
/-- the octave and the step of the pitch written at q, found from fr -/
def oc (B : Nat → Int32) (rel : Bool) (fr : Int) (q : Nat) : Int := (if rel = true then (fr + 3 - wl B q) / 7 else 4) + wo B q
def stq (B : Nat → Int32) (rel : Bool) (fr : Int) (q : Nat) : Int := oc B rel fr q * 7 + wl B q
theorem s_stepOf {rel : Bool} {fr : Int} {q : Nat} {r : Int32} (ht : isTon (B q) = true) (hr : fI S 31 (A 3) = r) (hrel : r ≤ 0 ↔ rel = false) (h1 : -2 ^ 25 ≤ fr) (h2 : fr < 2 ^ 25) (hQ : Q (iJ (stq B rel fr q)) S) : wp_X3_stepOf (A 3) (pco B q) (iJ fr) S Q := by
  have l := wl_b ht; have o := wo_b (B := B) q
  unfold wp_X3_stepOf
  refine s_letter ht ?_
  intro K hK
  have go : ∀ x : Int, x + wo B q = oc B rel fr q → K (iJ x) S := by
    intro x hx
    apply hK
    refine s_shift ht ?_
    rw [iJ_add, show (7 : Int32) = iJ 7 from rfl, iJ_mul, iJ_add, hx]; exact hQ
  rw [hr]
  cases rel with
  | false =>
    rw [if_pos (hrel.mpr rfl)]
    exact go 4 (by unfold oc; rw [if_neg (by decide)])
  | true =>
    rw [if_neg (fun z => by have := hrel.mp z; cases this), show (3 : Int32) = iJ 3 from rfl, iJ_add, iJ_sub]
    refine s_floorDiv (by omega) (by omega) ?_
    exact go _ (by unfold oc; rw [if_pos rfl])
/-- how far the letter and the half tones are moved -/
def lck (st al ml mh : Int) : Int := (st / 7 * 12 + hv (st % 7) + al + mh) - ((st + ml) / 7 * 12 + hv ((st + ml) % 7))
def okP (st al ml mh : Int) : Bool := decide (0 ≤ (st + ml) / 7 ∧ (st + ml) / 7 ≤ 9 ∧ -2 ≤ lck st al ml mh ∧ lck st al ml mh ≤ 2)
theorem s_moved {st al ml mh : Int} (hml : fI S 35 (A 3) = iJ ml) (hmh : fI S 36 (A 3) = iJ mh) (s1 : -2 ^ 25 ≤ st) (s2 : st < 2 ^ 25) (m1 : -2 ^ 25 ≤ ml) (m2 : ml < 2 ^ 25) (n1 : -2 ^ 25 ≤ mh) (n2 : mh < 2 ^ 25) (a1 : -2 ≤ al) (a2 : al ≤ 2)
    (h1 : okP st al ml mh = true → Q (iJ ((st + ml) * 5 + lck st al ml mh + 2)) S) (h0 : okP st al ml mh = false → Q (-1) S) : wp_X3_moved (A 3) (iJ st) (iJ al) S Q := by
  unfold wp_X3_moved
  rintro _ rfl
  rw [hml, iJ_add]
  refine s_floorDiv (by omega) (by omega) ?_
  refine s_halfTones (by omega) (by omega) ?_
  rintro _ rfl
  rw [hmh, iJ_add, iJ_add]
  refine s_halfTones (by omega) (by omega) ?_
  rintro _ rfl
  rw [iJ_sub]
  have hl : st / 7 * 12 + hv (st % 7) + al + mh - ((st + ml) / 7 * 12 + hv ((st + ml) % 7)) = lck st al ml mh := rfl
  rw [hl]
  have b1 := hv_b (k := st % 7) (by omega) (by omega)
  have b2 := hv_b (k := (st + ml) % 7) (by omega) (by omega)
  have lb : -2 ^ 30 ≤ lck st al ml mh ∧ lck st al ml mh < 2 ^ 30 := by unfold lck; omega
  intro K hK
  have no : okP st al ml mh = false → K 0 S := fun z => by
    apply hK
    rw [if_pos rfl]; exact h0 z
  rw [show (0 : Int32) = iJ 0 from rfl]
  have e0 : iJ 0 = 0 := rfl
  by_cases c1 : (st + ml) / 7 < 0
  · rw [if_pos ((iJ_lt (by omega) (by omega) (by omega) (by omega)).mpr c1)]
    exact no (by unfold okP; rw [decide_eq_false_iff_not]; omega)
  rw [if_neg (fun z => c1 ((iJ_lt (by omega) (by omega) (by omega) (by omega)).mp z)), show (9 : Int32) = iJ 9 from rfl]
  by_cases c2 : 9 < (st + ml) / 7
  · rw [if_pos ((iJ_lt (by omega) (by omega) (by omega) (by omega)).mpr c2)]
    exact no (by unfold okP; rw [decide_eq_false_iff_not]; omega)
  rw [if_neg (fun z => c2 ((iJ_lt (by omega) (by omega) (by omega) (by omega)).mp z)), show (-2 : Int32) = iJ (-2) from rfl]
  by_cases c3 : lck st al ml mh < -2
  · rw [if_pos ((iJ_lt (by omega) (by omega) (by omega) (by omega)).mpr c3)]
    exact no (by unfold okP; rw [decide_eq_false_iff_not]; omega)
  rw [if_neg (fun z => c3 ((iJ_lt (by omega) (by omega) (by omega) (by omega)).mp z)), show (2 : Int32) = iJ 2 from rfl]
  by_cases c4 : 2 < lck st al ml mh
  · rw [if_pos ((iJ_lt (by omega) (by omega) (by omega) (by omega)).mpr c4)]
    exact no (by unfold okP; rw [decide_eq_false_iff_not]; omega)
  rw [if_neg (fun z => c4 ((iJ_lt (by omega) (by omega) (by omega) (by omega)).mp z))]
  apply hK
  rw [if_neg (by decide)]
  unfold wp_X4_code
  rw [show (5 : Int32) = iJ 5 from rfl, iJ_mul, iJ_add, show (2 : Int32) = iJ 2 from rfl, iJ_add]
  exact h1 (by unfold okP; rw [decide_eq_true_iff]; omega)
end
