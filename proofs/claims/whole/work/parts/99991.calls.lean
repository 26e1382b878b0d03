/-! The law's calls: feed, fault, printed, write. -/
section
variable {S S1 : PS} {A T : Nat → Nat} {c n m : Nat} {K : PS → Prop} {p p2 : Int32} {w1 : Int64} {V1 : Prop → Prop}
variable {E V M nd st t n : Nat} {vo ti le pc : Nat → Nat} {cs : Nat → Nat → Nat} {td co : Nat → Bool} {wp wz : Nat → Nat → Nat} {vb mt mu md : Nat → Nat} {od w : Nat → Int32}
/-! bytes fed -/
theorem fd_eq {x : Nat} (hx : x < 8) : ((w1.toUInt64 >>> ((((8 : Int32) * nI x) : Int32).toInt64.toUInt64 &&& Int64.toUInt64 63)).toInt64).toInt32.toInt8 = ((w1 >>> ((((8 : Int32) * nI x) : Int32).toInt64 &&& 63)).toInt32).toInt8 := by
  have e1 : ((((8 : Int32) * nI x) : Int32).toInt64.toUInt64 &&& Int64.toUInt64 63) = UInt64.ofNat (8 * x) := by
    have hh : x = 0 ∨ x = 1 ∨ x = 2 ∨ x = 3 ∨ x = 4 ∨ x = 5 ∨ x = 6 ∨ x = 7 := by omega
    rcases hh with rfl | rfl | rfl | rfl | rfl | rfl | rfl | rfl <;> decide +kernel
  have e2 : ((((8 : Int32) * nI x) : Int32).toInt64 &&& 63) = lN (8 * x) := by
    have hh : x = 0 ∨ x = 1 ∨ x = 2 ∨ x = 3 ∨ x = 4 ∨ x = 5 ∨ x = 6 ∨ x = 7 := by omega
    rcases hh with rfl | rfl | rfl | rfl | rfl | rfl | rfl | rfl <;> decide +kernel
  rw [e1, e2]
  apply Int8.toBitVec_inj.mp
  have h5 : (BitVec.ofNat 64 (8 * x) % 64#64).toNat = 8 * x := by
    rw [BitVec.toNat_umod, BitVec.toNat_ofNat, BitVec.toNat_ofNat, Nat.mod_eq_of_lt (a := 8 * x) (by omega), Nat.mod_eq_of_lt (a := 64) (by omega), Nat.mod_eq_of_lt (by omega)]
  have h6 : ((BitVec.ofNat 64 (8 * x)).smod 64#64).toNat = 8 * x := by
    have hh : x = 0 ∨ x = 1 ∨ x = 2 ∨ x = 3 ∨ x = 4 ∨ x = 5 ∨ x = 6 ∨ x = 7 := by omega
    rcases hh with rfl | rfl | rfl | rfl | rfl | rfl | rfl | rfl <;> decide +kernel
  show (((w1.toBitVec >>> (BitVec.ofNat 64 (8 * x) % 64#64)).signExtend 32).signExtend 8) = (((w1.toBitVec.sshiftRight' ((BitVec.ofNat 64 (8 * x)).smod 64#64)).signExtend 32).signExtend 8)
  rw [BitVec.ushiftRight_eq', BitVec.sshiftRight_eq', h5, h6]
  rw [BitVec.signExtend_eq_setWidth_of_le _ (by decide : 8 ≤ 32), BitVec.signExtend_eq_setWidth_of_le _ (by decide : 8 ≤ 32), BitVec.signExtend_eq_setWidth_of_le _ (by decide : 32 ≤ 64), BitVec.signExtend_eq_setWidth_of_le _ (by decide : 32 ≤ 64)]
  apply BitVec.eq_of_getLsbD_eq
  intro i hi
  have h7 : i < 32 := by omega
  have h8 : 8 * x + i < 64 := by omega
  have h9 : i < 64 := by omega
  simp only [BitVec.getLsbD_setWidth, BitVec.getLsbD_ushiftRight, BitVec.getLsbD_sshiftRight]
  simp [hi, h7, h8, h9]
def fdb (w1 : Int64) (x : Nat) : Int32 := vp_nar .byte (((w1 >>> ((((8 : Int32) * nI x) : Int32).toInt64 &&& 63)).toInt32).toInt8.toInt32)
def j88 (j : Nat) : Bool := decide (j = 88)
def r39 (r : Nat) : Bool := decide (r = 39)
theorem c_feed {Q : Int32 → PS → Prop} {QX : String → PS → Prop} (cr : Cor S A T) (h88 : fI S 88 (A 8) = nI n) (hn : n ≤ 1500)
    (h1 : ∀ m, p = nI m → 1 ≤ m → m ≤ 8 → n + m ≤ 1500 → ∀ S1, Keep j88 r39 S S1 → fI S1 88 (A 8) = nI (n + m) → (∀ q, q < n → aI S1 39 (A 39) q = aI S 39 (A 39) q) → (∀ i, i < m → aI S1 39 (A 39) (n + i) = fdb w1 (m - 1 - i)) → Q (nI (n + m)) S1)
    (h0 : (∀ m, 1 ≤ m → m ≤ 8 → p ≠ nI m) → QX "java/lang/IllegalArgumentException" S) (h2 : ∀ m, p = nI m → 1 ≤ m → m ≤ 8 → ¬ n + m ≤ 1500 → QX "java/lang/IllegalStateException" S) : wp_X11_feed (A 8) w1 p S Q QX := by
  unfold wp_X11_feed
  intro K hK
  by_cases z1 : p < 1
  · rw [if_pos z1]
    refine hK _ (h0 (fun m m1 m2 e => ?_))
    rw [e] at z1
    exact nI_nlt (a := m) (b := 1) m1 (by omega) z1
  rw [if_neg z1]
  have z0 : ¬ p < 0 := fun z => z1 (by
    rw [Int32.lt_iff_toInt_lt] at z ⊢
    have : (0 : Int32).toInt = 0 := by decide
    have : (1 : Int32).toInt = 1 := by decide
    omega)
  obtain ⟨m, hm, rfl⟩ := nI_of z0
  have m1 : 1 ≤ m := by
    rcases Nat.lt_or_ge m 1 with z | z
    · exact absurd (nI_lt (a := m) (b := 1) z (by omega)) z1
    · exact z
  by_cases z2 : m ≤ 8
  · rw [if_pos (show nI m ≤ (8 : Int32) from nI_le (b := 8) z2 (by omega)), h88, nI_add, show (1500 : Int32) = nI 1500 from rfl]
    by_cases z3 : n + m ≤ 1500
    · rw [if_pos (nI_le z3 (by omega))]
      rintro _ rfl
      intro P hP
      have key : ∀ j i S1, i + j = m → Keep j88 r39 S S1 → fI S1 88 (A 8) = nI (n + i) → (∀ q, q < n → aI S1 39 (A 39) q = aI S 39 (A 39) q) → (∀ q, q < i → aI S1 39 (A 39) (n + q) = fdb w1 (m - 1 - q)) → P (nI j - 1) S1 := by
        intro j
        induction j with
        | zero =>
          intro i S1 hi k f1 f2 f3
          apply hP
          rw [if_pos (by decide), f1, show i = m by omega]
          rw [show i = m by omega] at f1 f3
          exact h1 m rfl m1 z2 z3 S1 k f1 f2 f3
        | succ j ih =>
          intro i S1 hi k f1 f2 f3
          have f87 : fR S1 87 (A 8) = some (A 39) := by rw [St.fR k.1]; exact cr.2.1.1.1
          have n39 : aN S1 (A 39) = 1500 := by rw [St.aN k.1]; exact cr.2.1.1.2.2.2.2.2.2
          rw [nI_pred]
          apply hP
          rw [if_neg (nI_pos (by omega))]
          refine ⟨_, f87, by rw [n39, f1]; exact vp_in_nI (by omega) (by omega), ?_⟩
          rintro _ rfl _ rfl _ rfl
          have e : nI j + (-1) = nI j - 1 := by rw [Int32.sub_eq_add_neg]
          rw [e, fI_wI, f1, nI_1, nI_clamp (by omega), fd_eq (by omega)]
          refine ih (i + 1) _ (by omega) ((k.wI rfl).sI rfl) (by rw [fI_s]; rfl) (fun q hq => ?_) (fun q hq => ?_)
          · rw [aI_sI, aI_wI, if_neg (fun y => by omega)]; exact f2 q hq
          · rw [aI_sI, aI_wI]
            by_cases y : q = i
            · rw [if_pos ⟨rfl, rfl, by omega⟩, show m - 1 - q = j by omega]; rfl
            · rw [if_neg (fun y2 => by omega)]; exact f3 q (by omega)
      exact key m 0 S (by omega) Keep.rf h88 (fun _ _ => rfl) (fun q hq => absurd hq (Nat.not_lt_zero _))
    · rw [if_neg (nI_ge (by omega) (by omega))]; exact h2 m rfl m1 z2 z3
  · rw [show (8 : Int32) = nI 8 from rfl, if_neg (nI_ge (by omega) hm)]
    exact hK _ (h0 (fun m' a1 a2 e => by rw [nI_eq hm (by omega)] at e; omega))
def j98 (j : Nat) : Bool := decide (j = 96 ∨ j = 98)
def r40 (r : Nat) : Bool := decide (r = 40)
theorem r_feed {Q : Int32 → PS → Prop} (lm : LayM S A) (h98 : fI S 98 (A 9) = nI n) (hn : n ≤ 1500)
    (h1 : ∀ m, p = nI m → 1 ≤ m → m ≤ 8 → n + m ≤ 1500 → ∀ S1, Keep j98 r40 S S1 → fI S1 96 (A 9) = 0 → fI S1 98 (A 9) = nI (n + m) → (∀ q, q < n → aI S1 40 (A 40) q = aI S 40 (A 40) q) → (∀ i, i < m → aI S1 40 (A 40) (n + i) = fdb w1 (m - 1 - i)) → Q (nI (n + m)) S1)
    (h0 : (∀ m, 1 ≤ m → m ≤ 8 → p ≠ nI m) → Q 0 (sI (sI S 96 (A 9) 0) 96 (A 9) 1)) (h2 : ∀ m, p = nI m → 1 ≤ m → m ≤ 8 → ¬ n + m ≤ 1500 → Q 0 (sI (sI S 96 (A 9) 0) 96 (A 9) 2)) : wp_X12_feed (A 9) w1 p S Q := by
  unfold wp_X12_feed
  rintro _ rfl
  refine in_n (a := 1) (b := 8) rfl rfl (by omega) (by omega) (fun m hp m1 m8 => ?_) (fun hz => ?_)
  · rw [if_neg (by decide), fI_sn _ _ _ _ _ (by decide), h98]
    subst hp
    rw [nI_add, show (1500 : Int32) = nI 1500 from rfl]
    by_cases z3 : n + m ≤ 1500
    · rw [if_pos (nI_le z3 (by omega))]
      rintro _ rfl
      intro P hP
      have key : ∀ j i S1, i + j = m → Keep j98 r40 S S1 → fI S1 96 (A 9) = 0 → fI S1 98 (A 9) = nI (n + i) → (∀ q, q < n → aI S1 40 (A 40) q = aI S 40 (A 40) q) → (∀ q, q < i → aI S1 40 (A 40) (n + q) = fdb w1 (m - 1 - q)) → P (nI j - 1) S1 := by
        intro j
        induction j with
        | zero =>
          intro i S1 hi k f0 f1 f2 f3
          apply hP
          rw [if_pos (by decide), f1, show i = m by omega]
          rw [show i = m by omega] at f1 f3
          exact h1 m rfl m1 m8 z3 S1 k f0 f1 f2 f3
        | succ j ih =>
          intro i S1 hi k f0 f1 f2 f3
          have l1 := lm.st k.1
          rw [nI_pred]
          apply hP
          rw [if_neg (nI_pos (by omega))]
          refine ⟨_, l1.f97, by rw [l1.n40, f1]; exact vp_in_nI (by omega) (by omega), ?_⟩
          rintro _ rfl _ rfl _ rfl
          have e : nI j + (-1) = nI j - 1 := by rw [Int32.sub_eq_add_neg]
          rw [e, fI_wI, f1, nI_1, nI_clamp (by omega)]
          refine ih (i + 1) _ (by omega) ((k.wI rfl).sI rfl) (by rw [fI_sn _ _ _ _ _ (by decide), fI_wI]; exact f0) (by rw [fI_s]; rfl) (fun q hq => ?_) (fun q hq => ?_)
          · rw [aI_sI, aI_wI, if_neg (fun y => by omega)]; exact f2 q hq
          · rw [aI_sI, aI_wI]
            by_cases y : q = i
            · rw [if_pos ⟨rfl, rfl, by omega⟩, show m - 1 - q = j by omega]; rfl
            · rw [if_neg (fun y2 => by omega)]; exact f3 q (by omega)
      exact key m 0 _ (by omega) (Keep.rf.sI rfl) (fI_s _ _ _ _) (by rw [fI_sn _ _ _ _ _ (by decide)]; exact h98) (fun _ _ => rfl) (fun q hq => absurd hq (Nat.not_lt_zero _))
    · rw [if_neg (nI_ge (by omega) (by omega))]
      rintro _ rfl
      exact h2 m rfl m1 m8 z3
  · rw [if_pos rfl]
    rintro _ rfl
    exact h0 hz
def jFd (j : Nat) : Bool := decide (j = 88 ∨ j = 96 ∨ j = 98)
def rFd (r : Nat) : Bool := decide (r = 39 ∨ r = 40 ∨ r = 119)
theorem Inv.fd (iv : Inv S A T c) (k : Keep jFd rFd S S1) (hw : Wtg S1 A n) : Inv S1 A T c := by
  obtain ⟨h1, _, h3, h4, h5⟩ := iv
  refine ⟨h1.se k.1, ⟨n, hw⟩, ?_, h4.kp k (fun j hj => ?_) (fun j a b => ?_) (fun r hr => ?_) (fun r a b => ?_), h5.kp k rfl rfl rfl rfl⟩
  · rw [(k.2.1 104 rfl).1, (k.2.1 0 rfl).1]; exact h3
  · unfold jFd; rw [decide_eq_false_iff_not]; omega
  · unfold jFd; rw [decide_eq_false_iff_not]; omega
  · unfold rFd; rw [decide_eq_false_iff_not]; omega
  · unfold rFd; rw [decide_eq_false_iff_not]; omega
theorem a_feed (iv : Inv S A T c) (hV : ∀ X, X → V1 X) (hK : ∀ S1, Inv S1 A T c → K S1) : wp_L_feed (A 8) w1 p (A 119) S (fun r39 S38 => V1 (wp_X12_feed (A 9) w1 p S38 (fun r42 S41 => Cm K A r39 r42.toInt64 S41))) := by
  have iv' := iv
  obtain ⟨cr, ⟨n, hn, h88, h98, hby⟩, _⟩ := iv'
  have um : ∀ {m m' : Nat}, p = nI m → m ≤ 8 → p = nI m' → m' ≤ 8 → m' = m := fun h1 a1 h2 a2 => by rw [h1] at h2; exact ((nI_eq (by omega) (by omega)).mp h2).symm
  unfold wp_L_feed
  refine c_feed cr h88 hn (fun m hp m1 m8 hs S1 k1 g1 g2 g3 => ⟨?_, ?_⟩) (fun hz => ?_) (fun m hp m1 m8 hs => ?_)
  · rw [St.aN k1.1]; exact iv.v0
  · rintro _ rfl
    have kw : Keep jFd rFd S (wL S1 119 (A 119) (0 : Int32).toNatClampNeg (nI (n + m)).toInt64) := (k1.mono (fun j => by unfold jFd j88; simp only [decide_eq_false_iff_not]; omega) (fun r => by unfold rFd r39; simp only [decide_eq_false_iff_not]; omega)).wL rfl
    refine hV _ (r_feed (S := wL S1 119 (A 119) (0 : Int32).toNatClampNeg (nI (n + m)).toInt64) (cr.2.1.2.2.2.st kw.1) (n := n) ?_ hn (fun m' hp' m1' m8' hs' S3 k3 e0 e1 e2 e3 => ?_) (fun hz => absurd hp (hz m m1 m8)) (fun m' hp' m1' m8' hs' => ?_))
    · rw [fI_wL, (k1.2.1 98 rfl).1]; exact h98
    · have := um hp m8 hp' m8'
      subst this
      unfold Cm wp_X12_thrown
      rw [e0]
      dsimp only
      rw [if_pos rfl, if_pos rfl]
      have kk : Keep jFd rFd S S3 := kw.tr (k3.mono (fun j => by unfold jFd j98; simp only [decide_eq_false_iff_not]; omega) (fun r => by unfold rFd r40; simp only [decide_eq_false_iff_not]; omega))
      have a39 : aI S3 39 = aI S1 39 := by rw [(k3.2.2 39 rfl).1]; rfl
      refine ⟨by rw [St.aN kk.1]; exact iv.v0, ?_⟩
      have e119 : aL S3 119 (A 119) (0 : Int32).toNatClampNeg = (nI (n + m')).toInt64 := by rw [(k3.2.2 119 rfl).2, aL_wL, if_pos ⟨rfl, rfl, rfl⟩]
      rw [e119, if_pos rfl]
      refine hK S3 (iv.fd (n := n + m') kk ⟨by omega, ?_, e1, fun q hq => ?_⟩)
      · rw [(k3.2.1 88 rfl).1, fI_wL]; exact g1
      · rw [a39]
        rcases Nat.lt_or_ge q n with y | y
        · rw [e2 q y, g2 q y, aI_wL, (k1.2.2 40 rfl).1]; exact hby q y
        · obtain ⟨i, rfl⟩ : ∃ i, q = n + i := ⟨q - n, by omega⟩
          rw [e3 i (by omega), g3 i (by omega)]
          exact ⟨rfl, bt_byt⟩
    · have := um hp m8 hp' m8'
      subst this
      exact absurd hs hs'
  · rw [if_pos rfl]
    refine hV _ (r_feed cr.2.1.2.2.2 h98 hn (fun m' hp' m1' m8' _ S3 _ _ _ _ _ => absurd hp' (hz m' m1' m8')) (fun _ => ?_) (fun m' hp' m1' m8' _ => absurd hp' (hz m' m1' m8')))
    rw [sI_sI]
    exact finx iv (by decide) hK
  · rw [if_neg (by decide), if_pos rfl]
    refine hV _ (r_feed cr.2.1.2.2.2 h98 hn (fun m' hp' m1' m8' hs' S3 _ _ _ _ _ => ?_) (fun hz => absurd hp (hz m m1 m8)) (fun m' hp' m1' m8' _ => ?_))
    · have := um hp m8 hp' m8'
      subst this
      exact absurd hs' hs
    · rw [sI_sI]
      exact finx iv (by decide) hK
/-! the latest fault; a byte of what was written -/
theorem a_fault (iv : Inv S A T c) (hK : ∀ S1, Inv S1 A T c → K S1) : wp_X11_fault (A 8) S (fun r34 S33 => wp_X12_fault (A 9) S33 (fun r36 S35 => if r34 = r36 then K S35 else False)) := by
  unfold wp_X11_fault
  refine ⟨_, iv.1.2.1.1.2.1, ?_⟩
  unfold wp_X12_fault
  rintro _ rfl
  rw [fI_sn _ _ _ _ _ (by decide), if_pos iv.2.2.1.symm]
  exact hK _ (iv.as (Keep.rf.sI rfl))
theorem mem_gd {l : List Int32} {i : Nat} (h : i < l.length) : l.getD i 0 ∈ l := by
  rw [List.getD_eq_getElem?_getD, List.getElem?_eq_getElem h]; exact List.getElem_mem h
theorem a_printed (iv : Inv S A T c) (hV : ∀ X, X → V1 X) (hK : ∀ S1, Inv S1 A T c → K S1) : wp_X11_printed (A 8) p S (fun r34 S33 => V1 (wp_X12_printed (A 9) p S33 (fun r36 S35 => if r34 = r36 then K S35 else False))) := by
  obtain ⟨P, l, pr, asc, hl, h213, h118⟩ := id iv.2.2.2.2
  have lm := iv.1.2.1.2.2.2
  obtain ⟨⟨p1, p2, p3⟩, ⟨p4, p5, p6⟩, p7, p8, p9, p10⟩ := pr
  have cb := capv_b (c := c)
  have kk : Inv (sI S 96 (A 9) 0) A T c := iv.as (Keep.rf.sI rfl)
  unfold wp_X11_printed
  refine ⟨_, iv.1.2.2.1.2.1, ?_⟩
  have ref : ∀ v, (∀ i, p = nI i → i < l.length → v = bt (l.getD i 0)) → ((∀ i, i < l.length → p ≠ nI i) → v = -1) → wp_X12_printed (A 9) p S (fun r36 S35 => if v = r36 then K S35 else False) := by
    intro v v1 v2
    unfold wp_X12_printed
    rintro _ rfl
    rw [fI_sn _ _ _ _ _ (by decide), h213]
    refine in_e (E := l.length) rfl rfl (by omega) (fun i hp hi => ?_) (fun hn => ?_)
    · rw [if_neg (by decide)]
      refine ⟨_, lm.f212, by rw [aN_sI, lm.n118, hp]; exact vp_in_nI (by omega) (by omega), ?_⟩
      rw [hp, nI_clamp (by omega), aI_sI, h118 i hi]
      dsimp only
      rw [if_pos (v1 i hp hi)]
      exact hK _ kk
    · rw [if_pos rfl]
      dsimp only
      rw [if_pos (v2 hn)]
      exact hK _ kk
  unfold wp_X5_byteAt
  by_cases z : p < 0
  · rw [if_pos z]
    have no : ∀ i, i < l.length → p ≠ nI i := fun i hi e => nI_pos (n := i) (by omega) (by rw [← e]; exact z)
    exact hV _ (ref (-1) (fun i hp hi => absurd hp (no i hi)) (fun _ => rfl))
  · rw [if_neg z]
    obtain ⟨i, hi, rfl⟩ := nI_of z
    rw [p4]
    by_cases y : i < l.length
    · rw [if_neg (nI_ge y (by omega))]
      refine ⟨_, p1, ?_⟩
      rw [p3, if_neg (nI_ge (by omega) (by omega))]
      refine ⟨_, p1, by rw [p3]; exact vp_in_nI (by omega) (by omega), hV _ ?_⟩
      rw [nI_clamp hi, p7 i y, asc _ (mem_gd y)]
      refine ref _ (fun i' hp hi' => ?_) (fun hn => absurd rfl (hn i y))
      rw [(nI_eq hi (by omega)).mp hp]
    · rw [if_pos (nI_le (by omega) hi)]
      have no : ∀ i', i' < l.length → nI i ≠ nI i' := fun i' hi' e => by rw [nI_eq hi (by omega)] at e; omega
      exact hV _ (ref (-1) (fun i' hp hi' => absurd hp (no i' hi')) (fun _ => rfl))
end
