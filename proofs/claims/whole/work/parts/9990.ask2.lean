/-! Pitches, words, bars. -/
section
variable {S S1 Sr Sr1 : PS} {A : Nat → Nat}
variable {E V M nd st t n : Nat} {vo ti le pc : Nat → Nat} {cs : Nat → Nat → Nat} {td co : Nat → Bool} {wp wz : Nat → Nat → Nat} {vb mt mu md : Nat → Nat} {od w : Nat → Int32}
theorem get_w {x i : Nat} (hx : x < 2 ^ 63) (hi : i < 6) : ((((lN x).toUInt64 >>> ((((3 : Int32) + ((9 : Int32) * nI i)) : Int32).toInt64.toUInt64 &&& Int64.toUInt64 63)).toInt64).toInt32) &&& 511 = nI (x / 2 ^ (3 + 9 * i) % 512) := by
  have e1 : ((((3 : Int32) + ((9 : Int32) * nI i)) : Int32).toInt64.toUInt64 &&& Int64.toUInt64 63) = UInt64.ofNat (3 + 9 * i) := by
    have hh : i = 0 ∨ i = 1 ∨ i = 2 ∨ i = 3 ∨ i = 4 ∨ i = 5 := by omega
    rcases hh with rfl | rfl | rfl | rfl | rfl | rfl <;> decide +kernel
  rw [e1]
  apply Int32.toBitVec_inj.mp
  show ((BitVec.ofNat 64 x >>> (BitVec.ofNat 64 (3 + 9 * i) % 64#64)).signExtend 32 &&& BitVec.ofNat 32 511) = BitVec.ofNat 32 (x / 2 ^ (3 + 9 * i) % 512)
  rw [BitVec.signExtend_eq_setWidth_of_le _ (by decide)]
  apply BitVec.eq_of_toNat_eq
  have h5 : (BitVec.ofNat 64 (3 + 9 * i) % 64#64).toNat = 3 + 9 * i := by
    rw [BitVec.toNat_umod, BitVec.toNat_ofNat, BitVec.toNat_ofNat, Nat.mod_eq_of_lt (a := 3 + 9 * i) (by omega), Nat.mod_eq_of_lt (a := 64) (by omega), Nat.mod_eq_of_lt (by omega)]
  rw [BitVec.toNat_and, BitVec.toNat_setWidth, BitVec.ushiftRight_eq', BitVec.toNat_ushiftRight, h5, BitVec.toNat_ofNat, BitVec.toNat_ofNat, BitVec.toNat_ofNat, Nat.mod_eq_of_lt (a := x) (by omega), Nat.mod_eq_of_lt (a := 511) (by omega), Nat.shiftRight_eq_div_pow]
  rw [show (511 : Nat) = 2 ^ 9 - 1 from rfl, Nat.and_two_pow_sub_one_eq_mod]
  have : x / 2 ^ (3 + 9 * i) % 512 < 512 := Nat.mod_lt _ (by omega)
  rw [Nat.mod_eq_of_lt (a := x / 2 ^ (3 + 9 * i) % 512) (by omega)]
  omega
theorem c_code {Q : Int32 → PS → Prop} {e k : Nat} (hc : Dcl S A E V M nd st t n vo ti le pc cs td co wp wz vb mt mu md od w) (hd : Dok E V M nd st t n vo ti le pc cs td co wp wz vb mt mu md od w) (he : e < E) (hk : k < pc e) (hQ : Q (nI (cs e k)) S) : wp_X8_codeOf (A 7) (nI e) (nI k) S Q := by
  have hl := hc.1
  have hE := hd.1.1
  obtain ⟨p6, pb⟩ := (hd.2.1 e he).2.1
  have pb' : ∀ k, k < pc e → cs e k < 512 := fun k hk => by have := pb k hk; omega
  unfold wp_X8_codeOf
  refine s_eholds hc.2.1.1 he hE ?_
  rw [if_neg (by decide), if_neg (nI_pos (by omega)), show (6 : Int32) = nI 6 from rfl, if_neg (nI_ge (by omega) (by omega))]
  refine ⟨_, hl.f74, by rw [hl.n31]; exact vp_in_nI (by omega) (by omega), ?_⟩
  rw [nI_clamp (by omega), (hc.2.2.1 e he).2.2.2.1]
  unfold wp_X4_get
  rw [get_w (pkn_63 p6 pb') (by omega), pkn_get (by omega) pb' hk]
  exact hQ
theorem nI_div {a b : Nat} (ha : a < 2 ^ 31) (hb : 0 < b) (hb2 : b < 2 ^ 31) : nI a / nI b = nI (a / b) := by
  rw [iJ_n, iJ_n, iJ_div (by omega) (by omega) (by omega) (by omega), td_pos (by omega), iJ_n]
  rfl
def pAn (c k : Nat) : Int32 := if k = 0 then nI (c / 5 % 7) else if k = 1 then iJ ((c : Int) % 5 - 2) else if k = 2 then nI (c / 35) else iJ (((c / 35 : Nat) : Int) * 12 + hv ((c / 5 % 7 : Nat) : Int) + ((c : Int) % 5 - 2))
theorem c_let {Q : Int32 → PS → Prop} {c : Nat} (hb : c < 350) (hQ : Q (nI (c / 5 % 7)) S) : wp_X4_letter (nI c) S Q := by
  unfold wp_X4_letter wp_X4_step
  rw [show (5 : Int32) = nI 5 from rfl, nI_div (by omega) (by omega) (by omega)]
  show Q (nI (c / 5) - nI (c / 5) / 7 * 7) S
  rw [show (7 : Int32) = nI 7 from rfl, nI_div (by omega) (by omega) (by omega), nI_mul, nI_sub (by omega), show c / 5 - c / 5 / 7 * 7 = c / 5 % 7 by omega]
  exact hQ
theorem c_alt {Q : Int32 → PS → Prop} {c : Nat} (hb : c < 350) (hQ : Q (iJ ((c : Int) % 5 - 2)) S) : wp_X4_alter (nI c) S Q := by
  unfold wp_X4_alter
  rw [show (5 : Int32) = nI 5 from rfl, nI_div (by omega) (by omega) (by omega), nI_mul, nI_sub (by omega), iJ_n, show (2 : Int32) = iJ 2 from rfl, iJ_sub, show (((c - c / 5 * 5 : Nat) : Int) - 2) = (c : Int) % 5 - 2 by omega]
  exact hQ
theorem c_oct {Q : Int32 → PS → Prop} {c : Nat} (hb : c < 350) (hQ : Q (nI (c / 35)) S) : wp_X4_octave (nI c) S Q := by
  unfold wp_X4_octave wp_X4_step
  rw [show (5 : Int32) = nI 5 from rfl, nI_div (by omega) (by omega) (by omega)]
  show Q (nI (c / 5) / 7) S
  rw [show (7 : Int32) = nI 7 from rfl, nI_div (by omega) (by omega) (by omega), show c / 5 / 7 = c / 35 by omega]
  exact hQ
theorem c_half {Q : Int32 → PS → Prop} {c : Nat} (hb : c < 350) (hQ : Q (pAn c 3) S) : wp_X4_step (nI c) S (fun r20 S19 => wp_X4_halfTones r20 S19 (fun r22 S21 => wp_X4_alter (nI c) S21 (fun r24 S23 => Q (r22 + r24) S23))) := by
  unfold wp_X4_step
  rw [show (5 : Int32) = nI 5 from rfl, nI_div (by omega) (by omega) (by omega), iJ_n (c / 5)]
  refine s_halfTones (by omega) (by omega) (c_alt hb ?_)
  unfold pAn at hQ
  rw [if_neg (by decide), if_neg (by decide), if_neg (by decide)] at hQ
  rw [iJ_add, show ((c / 5 : Nat) : Int) / 7 = ((c / 35 : Nat) : Int) by omega, show ((c / 5 : Nat) : Int) % 7 = ((c / 5 % 7 : Nat) : Int) by omega]
  exact hQ
theorem c_pitch {Q : Int32 → PS → Prop} {QX : String → PS → Prop} {p p2 p3 : Int32} (hc : Dcl S A E V M nd st t n vo ti le pc cs td co wp wz vb mt mu md od w) (hd : Dok E V M nd st t n vo ti le pc cs td co wp wz vb mt mu md od w) (h94 : fR S 94 (A 8) = some (A 7)) (h1 : ∀ i k c, p = nI i → i < E → p2 = nI k → k < pc i → p3 = nI c → c ≤ 3 → Q (pAn (cs i k) c) S) (h0 : (∀ i, i < E → p ≠ nI i) → QX "java/lang/IndexOutOfBoundsException" S) (h2 : ∀ i, p = nI i → i < E → (∀ k, k < pc i → p2 ≠ nI k) → QX "java/lang/IndexOutOfBoundsException" S) (h3 : ∀ i k, p = nI i → i < E → p2 = nI k → k < pc i → (∀ c, c ≤ 3 → p3 ≠ nI c) → QX "java/lang/IllegalArgumentException" S) : wp_X11_pitch (A 8) p p2 p3 S Q QX := by
  have hE := hd.1.1
  unfold wp_X11_pitch
  refine c_req hc h94 hE (fun i hp hi => ?_) h0
  subst hp
  obtain ⟨p6, pb⟩ := (hd.2.1 i hi).2.1
  intro K hK
  by_cases c : p2 < 0
  · rw [if_pos c]
    exact hK _ (h2 i rfl hi (fun k hk e => nI_pos (n := k) (by omega) (by rw [← e]; exact c)))
  rw [if_neg c]
  obtain ⟨k, hk, rfl⟩ := nI_of c
  refine ⟨_, h94, c_pin hc hd hi ?_⟩
  by_cases c2 : k < pc i
  · rw [if_pos (nI_lt c2 (by omega))]
    refine ⟨_, h94, c_code hc hd hi c2 ?_⟩
    have cb := pb k c2
    by_cases e0 : p3 = 0
    · rw [if_pos e0]; exact c_let cb (h1 i k 0 rfl hi rfl c2 e0 (by omega))
    rw [if_neg e0]
    by_cases e1 : p3 = 1
    · rw [if_pos e1]; exact c_alt cb (h1 i k 1 rfl hi rfl c2 e1 (by omega))
    rw [if_neg e1]
    by_cases e2 : p3 = 2
    · rw [if_pos e2]; exact c_oct cb (h1 i k 2 rfl hi rfl c2 e2 (by omega))
    rw [if_neg e2]
    by_cases e3 : p3 = 3
    · rw [if_pos e3]; exact c_half cb (h1 i k 3 rfl hi rfl c2 e3 (by omega))
    rw [if_neg e3]
    refine h3 i k rfl hi rfl c2 (fun c hc e => ?_)
    have hh : c = 0 ∨ c = 1 ∨ c = 2 ∨ c = 3 := by omega
    rcases hh with rfl | rfl | rfl | rfl
    · exact e0 e
    · exact e1 e
    · exact e2 e
    · exact e3 e
  · rw [if_neg (nI_nlt (by omega) hk)]
    exact hK _ (h2 i rfl hi (fun k' hk' e => by rw [nI_eq hk (by omega)] at e; omega))
theorem r_pitch {Q : Int32 → PS → Prop} {p p2 p3 : Int32} (hr0 : Drf Sr A E V M nd st t n vo ti le pc cs td co wp wz vb mt mu md od w) (hd : Dok E V M nd st t n vo ti le pc cs td co wp wz vb mt mu md od w) (h1 : ∀ i k c, p = nI i → i < E → p2 = nI k → k < pc i → p3 = nI c → c ≤ 3 → Q (pAn (cs i k) c) (sI Sr 96 (A 9) 0)) (h0 : (∀ i, i < E → p ≠ nI i) → Q 0 (sI Sr 96 (A 9) 1)) (h2 : ∀ i, p = nI i → i < E → (∀ k, k < pc i → p2 ≠ nI k) → Q 0 (sI Sr 96 (A 9) 1)) (h3 : ∀ i k, p = nI i → i < E → p2 = nI k → k < pc i → (∀ c, c ≤ 3 → p3 ≠ nI c) → Q 0 (sI Sr 96 (A 9) 2)) : wp_X12_pitch (A 9) p p2 p3 Sr Q := by
  have hE := hd.1.1
  unfold wp_X12_pitch
  refine r_isEv hr0 hE (fun i hp hi => ?_) (fun hn => ?_)
  · subst hp
    obtain ⟨p6, pb⟩ := (hd.2.1 i hi).2.1
    intro K hK
    rw [if_neg (by decide)]
    refine ⟨_, hr0.1.f191, by rw [hr0.1.n103]; exact vp_in_nI (by omega) (by omega), ?_⟩
    rw [nI_clamp (by omega), (hr0.2.2.1 i hi).1.2.1]
    refine in_e (E := pc i) rfl rfl (by omega) (fun k hp2 hk => ?_) (fun hn => ?_)
    · subst hp2
      rw [if_neg (by decide)]
      have cb := pb k hk
      refine in_n (a := 0) (b := 3) rfl rfl (by omega) (by omega) (fun c hp3 _ hcc => ?_) (fun hn => ?_)
      · rw [if_neg (by decide)]
        apply hK
        rintro _ rfl
        have hr := hr0.s96 (v := 0)
        have lm := hr.1
        have h1' := h1 i k c rfl hi rfl hk hp3 hcc
        rw [fI_s, if_pos (by decide)]
        generalize sI Sr 96 (A 9) 0 = S7 at *
        clear hK
        rintro _ rfl
        rw [show (6 : Int32) = nI 6 from rfl, nI_mul, nI_add]
        have vi : ∀ {r : Nat}, r = 1800 → vp_in (nI (6 * i + k)) r := fun h => by rw [h]; exact vp_in_nI (by omega) (by omega)
        have ck : (nI (6 * i + k)).toNatClampNeg = 6 * i + k := nI_clamp (by omega)
        obtain ⟨d1, d2, d3⟩ := (hr.2.2.1 i hi).2.1 k hk
        have pk : ∀ {a : Nat}, a ≤ 3 → p3 = nI a → c = a := fun ha e => by rw [hp3] at e; exact (nI_eq (by omega) (by omega)).mp e
        unfold pAn at h1'
        by_cases e0 : p3 = 0
        · rw [if_pos e0]
          have := pk (a := 0) (by omega) e0
          subst this
          refine ⟨_, lm.f196, vi lm.n108, ?_⟩
          rw [ck, d1]; exact h1'
        rw [if_neg e0]
        by_cases e1 : p3 = 1
        · rw [if_pos e1]
          have := pk (a := 1) (by omega) e1
          subst this
          refine ⟨_, lm.f197, vi lm.n109, ?_⟩
          rw [ck, d2]; exact h1'
        rw [if_neg e1]
        by_cases e2 : p3 = 2
        · rw [if_pos e2]
          have := pk (a := 2) (by omega) e2
          subst this
          refine ⟨_, lm.f198, vi lm.n110, ?_⟩
          rw [ck, d3]; exact h1'
        rw [if_neg e2]
        have ec : c = 3 := by
          have hh : c = 0 ∨ c = 1 ∨ c = 2 ∨ c = 3 := by omega
          rcases hh with rfl | rfl | rfl | rfl
          · exact absurd hp3 e0
          · exact absurd hp3 e1
          · exact absurd hp3 e2
          · rfl
        subst ec
        rw [if_neg (by decide), if_neg (by decide), if_neg (by decide)] at h1'
        refine ⟨_, lm.f198, vi lm.n110, _, lm.f196, vi lm.n108, ?_⟩
        rw [ck, d1, d3, iJ_n (cs i k / 5 % 7)]
        refine r_halves (by omega) (by omega) ?_
        refine ⟨_, lm.f197, vi lm.n109, ?_⟩
        rw [d2, iJ_n (cs i k / 35), show (12 : Int32) = iJ 12 from rfl, iJ_mul, iJ_add, iJ_add, Int.mul_comm]
        exact h1'
      · rw [if_pos rfl]
        apply hK
        rintro _ rfl
        rw [fI_s, if_neg (by decide)]
        exact h3 i k rfl hi rfl hk (fun c hcc => hn c (by omega) hcc)
    · rw [if_pos rfl]
      apply hK
      rintro _ rfl
      rw [fI_s, if_neg (by decide)]
      exact h2 i rfl hi hn
  · intro K hK
    rw [if_pos rfl]
    apply hK
    rintro _ rfl
    rw [fI_s, if_neg (by decide)]
    exact h0 hn
/-! words -/
theorem syc_all : ∀ k : Fin 256, (!isSyl (iJ ((k.val : Int) - 128) &&& 255) || iJ ((k.val : Int) - 128) == (iJ ((k.val : Int) - 128) &&& 255)) = true := by decide +kernel
theorem Byt.syl {x : Int32} (h : Byt x) (hs : isSyl (x &&& 255) = true) : x &&& 255 = x := by
  have h1 : -128 ≤ x.toInt := Int32.le_iff_toInt_le.mp h.1
  have h2 : x.toInt ≤ 127 := Int32.le_iff_toInt_le.mp h.2
  have := syc_all ⟨(x.toInt + 128).toNat, by omega⟩
  have e : (((x.toInt + 128).toNat : Nat) : Int) - 128 = x.toInt := by omega
  simp only [e, iJ_of] at this
  rw [hs] at this
  simp only [Bool.not_true, Bool.false_or, beq_iff_eq] at this
  exact this.symm
theorem nI_and15 {a b : Nat} (hb : b < 16) (h : a * 16 + b < 2 ^ 31) : nI (a * 16 + b) &&& 15 = nI b := by
  apply Int32.toBitVec_inj.mp
  show (BitVec.ofNat 32 (a * 16 + b) &&& BitVec.ofNat 32 15) = BitVec.ofNat 32 b
  apply BitVec.eq_of_toNat_eq
  rw [BitVec.toNat_and, BitVec.toNat_ofNat, BitVec.toNat_ofNat, BitVec.toNat_ofNat, Nat.mod_eq_of_lt (a := a * 16 + b) (by omega), Nat.mod_eq_of_lt (a := 15) (by omega), Nat.mod_eq_of_lt (a := b) (by omega)]
  rw [show (15 : Nat) = 2 ^ 4 - 1 from rfl, Nat.and_two_pow_sub_one_eq_mod]
  omega
theorem c_slen {Q : Int32 → PS → Prop} {e j : Nat} (hc : Dcl S A E V M nd st t n vo ti le pc cs td co wp wz vb mt mu md od w) (hd : Dok E V M nd st t n vo ti le pc cs td co wp wz vb mt mu md od w) (he : e < E) (hj : j < 3) (hQ : Q (nI (wz e j)) S) : wp_X9_length (aI S 34 (A 34) (3 * e + j)) S Q := by
  obtain ⟨⟨b1, b2⟩, _⟩ := (hd.2.1 e he).2.2.2 j hj
  have hn := hd.1
  unfold wp_X9_length
  rcases (hc.2.2.1 e he).2.2.2.2.2.2 j hj with ⟨z1, z2⟩ | z
  · rw [if_pos z1]; rw [z2] at hQ; exact hQ
  · rw [z, if_neg (nI_ne_neg (by omega)), nI_and15 (by omega) (by omega)]; exact hQ
theorem c_spl {Q : Int32 → PS → Prop} {e j : Nat} (hc : Dcl S A E V M nd st t n vo ti le pc cs td co wp wz vb mt mu md od w) (hd : Dok E V M nd st t n vo ti le pc cs td co wp wz vb mt mu md od w) (he : e < E) (hj : j < 3) (h0 : 0 < wz e j) (hQ : Q (nI (wp e j)) S) : wp_X9_place (aI S 34 (A 34) (3 * e + j)) S Q := by
  obtain ⟨⟨b1, b2⟩, _⟩ := (hd.2.1 e he).2.2.2 j hj
  have hn := hd.1
  unfold wp_X9_place
  rcases (hc.2.2.1 e he).2.2.2.2.2.2 j hj with ⟨z1, z2⟩ | z
  · omega
  · rw [z, sh4 (by omega), show (wp e j * 16 + wz e j) / 16 = wp e j by omega]; exact hQ
/-- a byte of a word -/
theorem c_sby {Q : Int32 → PS → Prop} {e j k : Nat} (hc : Dcl S A E V M nd st t n vo ti le pc cs td co wp wz vb mt mu md od w) (hd : Dok E V M nd st t n vo ti le pc cs td co wp wz vb mt mu md od w) (he : e < E) (hj : j < 3) (hk : k < wz e j) (hQ : Q (w (wp e j + k)) S) : wp_X8_syllableByte (A 7) (nI e) (nI (j + 1)) (nI k) S Q := by
  obtain ⟨⟨b1, b2⟩, b3, _⟩ := (hd.2.1 e he).2.2.2 j hj
  have hn := hd.1
  have hl := hc.1
  unfold wp_X8_syllableByte
  refine s_sylOf hl hc.2.1.1 hd.1.1 he (by omega) (by omega) ?_
  rw [show j + 1 - 1 = j by omega, if_neg (nI_pos (by omega))]
  refine c_slen hc hd he hj ?_
  rw [if_pos (nI_lt hk (by omega))]
  refine c_spl hc hd he hj (by omega) ?_
  rintro _ rfl
  rw [nI_add, if_neg (nI_pos (by omega))]
  refine ⟨_, hl.f69, ?_⟩
  rw [hl.n27, if_neg (nI_ge (by omega) (by omega))]
  refine ⟨_, hl.f69, by rw [hl.n27]; exact vp_in_nI (by omega) (by omega), ?_⟩
  rw [nI_clamp (by omega), hc.2.2.2.2.2.2 _ (by omega), (hd.2.2.2.2 _ (by omega)).syl (b3 k hk)]
  exact hQ
theorem c_word {Q : Int32 → PS → Prop} {QX : String → PS → Prop} {p p2 p3 : Int32} (hc : Dcl S A E V M nd st t n vo ti le pc cs td co wp wz vb mt mu md od w) (hd : Dok E V M nd st t n vo ti le pc cs td co wp wz vb mt mu md od w) (h94 : fR S 94 (A 8) = some (A 7)) (h1 : ∀ i j k, p = nI i → i < E → p2 = nI (j + 1) → j < 3 → p3 = nI k → k < wz i j → Q (w (wp i j + k)) S) (h4 : ∀ i j, p = nI i → i < E → p2 = nI (j + 1) → j < 3 → (∀ k, k < wz i j → p3 ≠ nI k) → Q (-1) S) (h0 : (∀ i, i < E → p ≠ nI i) → QX "java/lang/IndexOutOfBoundsException" S) (h2 : ∀ i, p = nI i → i < E → (∀ j, 1 ≤ j → j ≤ 3 → p2 ≠ nI j) → QX "java/lang/IllegalArgumentException" S) : wp_X11_word (A 8) p p2 p3 S Q QX := by
  have hE := hd.1.1
  unfold wp_X11_word
  refine c_req hc h94 hE (fun i hp hi => ?_) h0
  subst hp
  intro K hK
  by_cases c : p2 < 1
  · rw [if_pos c]
    refine hK _ (h2 i rfl hi (fun j j1 j2 e => ?_))
    rw [e] at c
    exact nI_nlt (a := j) (b := 1) j1 (by omega) c
  rw [if_neg c]
  have c0 : ¬ p2 < 0 := fun z => c (by rw [Int32.lt_iff_toInt_lt] at z ⊢; have : (0 : Int32).toInt = 0 := by decide
                                       have : (1 : Int32).toInt = 1 := by decide
                                       omega)
  obtain ⟨j, hj, rfl⟩ := nI_of c0
  have j1 : 1 ≤ j := by
    rcases Nat.lt_or_ge j 1 with z | z
    · exact absurd (nI_lt (a := j) (b := 1) z (by omega)) c
    · exact z
  by_cases c3 : j ≤ 3
  · rw [show (3 : Int32) = nI 3 from rfl, if_pos (nI_le c3 (by omega))]
    refine ⟨_, h94, ?_⟩
    obtain ⟨j', rfl⟩ : ∃ j', j = j' + 1 := ⟨j - 1, by omega⟩
    obtain ⟨⟨b1, b2⟩, b3, _⟩ := (hd.2.1 i hi).2.2.2 j' (by omega)
    by_cases ck : ∃ k, k < wz i j' ∧ p3 = nI k
    · obtain ⟨k, k1, rfl⟩ := ck
      exact c_sby hc hd hi (by omega) k1 (h1 i j' k rfl hi rfl (by omega) rfl k1)
    · have no : ∀ k, k < wz i j' → p3 ≠ nI k := fun k hk e => ck ⟨k, hk, e⟩
      have h4' := h4 i j' rfl hi rfl (by omega) no
      unfold wp_X8_syllableByte
      refine s_sylOf hc.1 hc.2.1.1 hE hi (by omega) (by omega) ?_
      rw [show j' + 1 - 1 = j' by omega]
      by_cases z : p3 < 0
      · rw [if_pos z]; exact h4'
      · rw [if_neg z]
        obtain ⟨k, hk, rfl⟩ := nI_of z
        refine c_slen hc hd hi (by omega) ?_
        rw [if_neg (nI_nlt (by rcases Nat.lt_or_ge k (wz i j') with y | y; exact absurd rfl (no k y); exact y) hk)]
        exact h4'
  · rw [show (3 : Int32) = nI 3 from rfl, if_neg (nI_ge (by omega) hj)]
    exact hK _ (h2 i rfl hi (fun j' a1 a2 e => by rw [nI_eq hj (by omega)] at e; omega))
theorem r_word {Q : Int32 → PS → Prop} {p p2 p3 : Int32} (hr0 : Drf Sr A E V M nd st t n vo ti le pc cs td co wp wz vb mt mu md od w) (hd : Dok E V M nd st t n vo ti le pc cs td co wp wz vb mt mu md od w) (h1 : ∀ i j k, p = nI i → i < E → p2 = nI (j + 1) → j < 3 → p3 = nI k → k < wz i j → Q (w (wp i j + k)) (sI Sr 96 (A 9) 0)) (h4 : ∀ i j, p = nI i → i < E → p2 = nI (j + 1) → j < 3 → (∀ k, k < wz i j → p3 ≠ nI k) → Q (-1) (sI Sr 96 (A 9) 0)) (h0 : (∀ i, i < E → p ≠ nI i) → Q 0 (sI Sr 96 (A 9) 1)) (h2 : ∀ i, p = nI i → i < E → (∀ j, 1 ≤ j → j ≤ 3 → p2 ≠ nI j) → Q 0 (sI Sr 96 (A 9) 2)) : wp_X12_word (A 9) p p2 p3 Sr Q := by
  have hE := hd.1
  unfold wp_X12_word
  refine r_isEv hr0 hE.1 (fun i hp hi => ?_) (fun hn => ?_)
  · subst hp
    intro K hK
    rw [if_neg (by decide)]
    refine in_n (a := 1) (b := 3) rfl rfl (by omega) (by omega) (fun j hp2 j1 j3 => ?_) (fun hn => ?_)
    · rw [if_neg (by decide)]
      apply hK
      rintro _ rfl
      obtain ⟨j', rfl⟩ : ∃ j', j = j' + 1 := ⟨j - 1, by omega⟩
      subst hp2
      have hr := hr0.s96 (v := 0)
      have lm := hr.1
      have h1' := fun k => h1 i j' k rfl hi rfl (by omega)
      have h4' := h4 i j' rfl hi rfl (by omega)
      rw [fI_s, if_pos (by decide)]
      generalize sI Sr 96 (A 9) 0 = S7 at *
      clear hK
      rintro _ rfl
      obtain ⟨⟨b1, b2⟩, b3, _⟩ := (hd.2.1 i hi).2.2.2 j' (by omega)
      obtain ⟨d1, d2⟩ := (hr.2.2.1 i hi).2.2 j' (by omega)
      rw [three' i (j' + 1) (by omega), show j' + 1 - 1 = j' by omega]
      have ck : (nI (3 * i + j')).toNatClampNeg = 3 * i + j' := nI_clamp (by omega)
      refine ⟨_, lm.f200, by rw [lm.n112]; exact vp_in_nI (by omega) (by omega), ?_⟩
      rw [ck, d2]
      refine in_e (E := wz i j') rfl rfl (by omega) (fun k hp3 hk => ?_) (fun hn => ?_)
      · rw [if_neg (by decide)]
        refine ⟨_, lm.f189, _, lm.f199, by rw [lm.n111]; exact vp_in_nI (by omega) (by omega), ?_⟩
        rw [d1 (by omega), hp3, nI_add]
        refine ⟨by rw [lm.n101]; exact vp_in_nI (by omega) (by omega), ?_⟩
        rw [nI_clamp (by omega), hr.2.2.2.2.2.2 _ (by omega)]
        exact h1' k hp3 hk
      · rw [if_pos rfl]
        exact h4' hn
    · rw [if_pos rfl]
      apply hK
      rintro _ rfl
      rw [fI_s, if_neg (by decide)]
      exact h2 i rfl hi hn
  · intro K hK
    rw [if_pos rfl]
    apply hK
    rintro _ rfl
    rw [fI_s, if_neg (by decide)]
    exact h0 hn
end
