/-! Tones and words: both. -/
section
variable {S S10 S13 : PS} {A : Nat → Nat} {B : Nat → Int32} {n p op N pc nd pq : Nat} {inm : Bool} {stk : List (Nat × Nat × Nat × Nat × Nat)} {G : Int32 → PS → Prop}
theorem chd_ton : ∀ k p l q, chd B k p = .ok (l, q) → l.length ≤ k ∧ ∀ x, x ∈ l → isTon (B x) = true := by
  intro k
  induction k with
  | zero =>
    intro p l q h
    rw [chd] at h
    split at h
    · cases h
    · split at h
      · injection h with h; injection h with h1 h2
        subst h1; exact ⟨Nat.le_refl _, fun x hx => by cases hx⟩
      · cases h
  | succ k ih =>
    intro p l q h
    rw [chd] at h
    split at h
    · injection h with h; injection h with h1 h2
      subst h1; exact ⟨Nat.zero_le _, fun x hx => by cases hx⟩
    · split at h
      · rename_i c
        split at h
        · rename_i e1
          injection h with h; injection h with h1 h2
          have := ih _ _ _ e1
          subst h1
          refine ⟨by rw [List.length_cons]; omega, fun x hx => ?_⟩
          rcases List.mem_cons.mp hx with e | e
          · rw [e]; exact c
          · exact this.2 x e
        · cases h
      · cases h
theorem snd_ton {l : List Nat} {q : Nat} (h : snd B p = .ok (l, q)) : l.length ≤ 6 ∧ ∀ x, x ∈ l → isTon (B x) = true := by
  unfold snd at h
  split at h
  · injection h with h; injection h with h1 h2
    subst h1; exact ⟨Nat.zero_le _, fun x hx => by cases hx⟩
  · split at h
    · exact chd_ton _ _ _ _ h
    · split at h
      · rename_i c
        injection h with h; injection h with h1 h2
        subst h1
        refine ⟨by rw [List.length_singleton]; omega, fun x hx => ?_⟩
        rw [List.mem_singleton.mp hx]; exact c
      · cases h
def tkn (v d : Nat) : Nat := 2 * (3870720 / v) - (3870720 / v) / 2 ^ d
theorem tkn_fin : ∀ v : Fin 65, ∀ d : Fin 4, pw2 64 v.val = true → tkv v.val d.val = lN (tkn v.val d.val) ∧ tkn v.val d.val ≤ 3870720000 := by decide +kernel
theorem len_t {t : Int64} {q : Nat} (hB : Tx B n) (hp : p ≤ n) (h : len B p = .ok (t, q)) : ∃ k, k ≤ 3870720000 ∧ t = lN k := by
  unfold len at h
  split at h
  · split at h
    · rename_i e1
      injection h with h; injection h with h1 h2
      exact ⟨_, (ran_ok e1).2.2, h1.symm⟩
    · cases h
  · split at h
    · split at h
      · rename_i v r e1
        injection h with h; injection h with h1 h2
        have a := hal_ok hB hp e1
        have b := pw2_le a.2.2
        have c := mks_le (B := B) (c := 46) 3 r
        have d := tkn_fin ⟨v, by omega⟩ ⟨mks B 46 3 r, by omega⟩ a.2.2
        exact ⟨_, d.2, by rw [← h1]; exact d.1⟩
      · cases h
    · injection h with h; injection h with h1 h2
      exact ⟨0, by omega, h1.symm⟩
theorem sou_0 {l : List Nat} {t : Int64} {b : Int32} {q : Nat} (h : sou B p = .ok (l, t, b, q)) (h1 : B p = 114) : b = 0 := by
  unfold sou at h
  split at h
  · cases h
  · split at h
    · cases h
    · rw [if_neg (fun z => z.1 h1)] at h
      injection h with h; injection h with h2 h; injection h with h3 h; injection h with h4 h5
      exact h4.symm
theorem sou_more {l : List Nat} {t : Int64} {b : Int32} {q : Nat} (hB : Tx B n) (hp : p ≤ n) (h : sou B p = .ok (l, t, b, q)) : l.length ≤ 6 ∧ (∀ x, x ∈ l → isTon (B x) = true) ∧ (l.length = 0 ↔ B p = 114) ∧ ∃ k, k ≤ 3870720000 ∧ t = lN k := by
  unfold sou at h
  split at h
  · cases h
  · rename_i l1 q1 e
    have a := snd_ton e
    have a2 := snd_ok hB hp e
    have a3 := snd_nil e
    split at h
    · cases h
    · rename_i t1 r e2
      have b := len_t hB a2.2.2 e2
      split at h
      · injection h with h; injection h with h2 h3; injection h3 with h3 h4
        subst h2 h3; exact ⟨a.1, a.2, a3, b⟩
      · injection h with h; injection h with h2 h3; injection h3 with h3 h4
        subst h2 h3; exact ⟨a.1, a.2, a3, b⟩
theorem len_kd {e : Nat × Nat} (h : len B p = .error e) : Kd e := by
  unfold len at h
  split at h
  · split at h
    · cases h
    · rename_i e1; injection h with h; subst h; exact ran_kd (fun _ => dig_kd) e1
  · split at h
    · split at h
      · cases h
      · rename_i e1; injection h with h; subst h; exact hal_kd e1
    · cases h
theorem sou_kd {e : Nat × Nat} (h : sou B p = .error e) : Kd e := by
  unfold sou at h
  split at h
  · rename_i e1; injection h with h; subst h; exact snd_kd e1
  · split at h
    · rename_i e1; injection h with h; subst h; exact len_kd e1
    · split at h
      · cases h
      · cases h
theorem r_riT {Q : PS → Prop} (h : RT S A B n) (hp : fI S 101 (A 9) = nI p) (hpn : p ≤ n) (hk : isTon (B p) = true ∨ B p = 114 ∨ B p = 60) (hw : wp_X12_tones (A 9) S Q) : wp_X12_readItem (A 9) S Q := by
  unfold wp_X12_readItem
  refine r_here h hp hpn ?_
  refine r_isTone (fun ht => ?_) (fun ht => ?_)
  · intro K hK
    rw [if_neg (by decide)]
    exact hK _ hw
  · intro K hK
    rw [if_pos rfl]
    rcases hk with z | z | z
    · rw [ht] at z; cases z
    · rw [if_pos z]; exact hK _ hw
    · rw [if_neg (by rw [z]; decide), if_pos z]; exact hK _ hw
theorem TN.rl {Sr Sr1 : PS} {T m wr sy q : Nat} {lst b : Int32} {l : List Nat} {t : Int64} (h : TN Sr Sr1 A B T op m wr p lst l t b q) : RLn Sr Sr1 A T wr sy m lst 0 (nI p) (nI wr) (nI l.length) t b := by
  obtain ⟨k, a1, a2, a3, a4, a5, a6, a7, a8, a9, b1, b2, b3, b4, b5, b6⟩ := h
  refine ⟨a5, a6, a7, a8, a9, b1, b2, fun r i hi x y => ?_, fun r i hi x y => ?_⟩
  · have hr : r = 50 ∨ r = 51 ∨ r = 52 := by omega
    rcases hr with rfl | rfl | rfl
    · rw [b3, apd_lt l _ _ hi]
    · rw [b4, apd_lt l _ _ hi]
    · rw [b5, apd_lt l _ _ hi]
  · rw [(k.2.2 r (by unfold rNt; rw [decide_eq_false_iff_not]; omega)).1]
theorem k_sound (ci : CIv S A B n p op N pc nd pq inm) (hb : isTon (B (bl B p)) = true ∨ B (bl B p) = 114 ∨ B (bl B p) = 60) (ho : CO (sI S 60 (A 6) (nI (bl B p))) S10 A N (bl B p) pc)
    (h1 : ∀ S13, IOk A B n S p op N pc nd pq inm stk S13 → G 1 S13) (h0 : ∀ S13, IBad A B n S p op N pc nd pq inm stk S13 → G 0 S13) : wp_X7_sound (A 6) (nI N) S10 G := by
  have hB := ci.1.2.2.1
  have hnt : ∀ c : Int32, isTon c = false → c ≠ 114 → c ≠ 60 → B (bl B p) ≠ c := fun c x1 x2 x3 e => by
    rw [e] at hb
    rcases hb with z | z | z
    · rw [x1] at z; cases z
    · exact x2 z
    · exact x3 z
  have hlt : bl B p < n := by
    rcases Nat.lt_or_ge (bl B p) n with q | q
    · exact q
    · exact absurd (hB.2.1 _ q) (hnt (-1) (by decide) (by decide) (by decide))
  have hge := bl_ge (B := B) (p := p)
  obtain ⟨o1, o2, o3, o4, o5, o6, o7, o8, o9, o10⟩ := ci.o hlt ho
  obtain ⟨c1, c2, c3, c4, c5, c6, c7, c8, c9, d1, d2, d3, d4, d5, d6⟩ := ci
  have hn := hB.1
  have turn : ∀ (Sr : PS) (R : PS → Prop) (P : Int32 → PS → Prop) T wr sy g ow bh par ks lv pe lst, MX S Sr A B n p op N pc nd pq inm stk T wr sy g ow bh par ks lv pe lst → ClR A R P →
      (∀ l t b q Sr1, sou B (bl B p) = .ok (l, t, b, q) → TN (sI Sr 101 (A 9) (nI (bl B p))) Sr1 A B T op (ow (hdx stk)) wr (bl B p) lst l t b q → Nx A P Sr1) → (∀ e Sr2, sou B (bl B p) = .error e → Kd e → RFM Sr Sr2 A e → P 0 Sr2) → P 1 Sr := by
    intro Sr R P T wr sy g ow bh par ks lv pe lst mx hP y1 y0
    obtain ⟨e1, e2, e3, e4, e5, e6, e7⟩ := mx.pre (by omega)
    have rt := mx.1
    have nu := mx.2.1
    have hwr : wr ≤ bl B p := by have := nu.2.2.2.2.2.2.1; omega
    refine it_item rt nu.2.1 c3 (hnt _ (by decide) (by decide) (by decide)) (hnt _ (by decide) (by decide) (by decide)) (hnt _ (by decide) (by decide) (by decide)) (hnt _ (by decide) (by decide) (by decide)) hP (fun Q2 hQ2 => ?_)
    refine r_riT rt.pos fI_at (by omega) hb ?_
    refine r_tones rt.pos (by rw [fI_at2]; exact nu.1) fI_at hlt hb (by simp only [fI_s, fI_sn, fL_s, fL_sn, aI_w, aI_wn, aL_w, aL_wn, fI_sL, fI_wI, fI_wL, fL_sI, fL_wI, fL_wL, aI_sI, aI_sL, aI_wL, aL_sI, aL_sL, aL_wI, fR_sI, fR_sL, fR_wI, fR_wL, aN_sI, aN_sL, aN_wI, aN_wL, ne_eq, Nat.reduceEqDiff, not_false_eq_true]; exact e1) (by omega) (by simp only [fI_s, fI_sn, fL_s, fL_sn, aI_w, aI_wn, aL_w, aL_wn, fI_sL, fI_wI, fI_wL, fL_sI, fL_wI, fL_wL, aI_sI, aI_sL, aI_wL, aL_sI, aL_sL, aL_wI, fR_sI, fR_sL, fR_wI, fR_wL, aN_sI, aN_sL, aN_wI, aN_wL, ne_eq, Nat.reduceEqDiff, not_false_eq_true]; exact e3) c5 e4 e5 e6 e7 (by simp only [fI_s, fI_sn, fL_s, fL_sn, aI_w, aI_wn, aL_w, aL_wn, fI_sL, fI_wI, fI_wL, fL_sI, fL_wI, fL_wL, aI_sI, aI_sL, aI_wL, aL_sI, aL_sL, aL_wI, fR_sI, fR_sL, fR_wI, fR_wL, aN_sI, aN_sL, aN_wI, aN_wL, ne_eq, Nat.reduceEqDiff, not_false_eq_true]; exact nu.2.2.2.2.1) hwr (fun l t b q Sr1 z1 z2 => ?_) (fun e Sr2 z1 z2 z3 => ?_)
    · exact hQ2 Sr1 (y1 l t b q Sr1 z1 z2)
    · exact hQ2 Sr2 ⟨fun z => absurd z (by rw [z3.2.1]; exact z2.ne), fun _ => y0 e Sr2 z1 z2 (RFM.of (KR.m KR.pos) z3)⟩
  refine s_sound o1 o2 (by omega) o4 (by omega) (by omega) (by rw [ho.2.2.2.2.2.2.1, uq_at]) o5 (by omega) (fun l t b q S13 z1 k13 f1 f2 w22 w18 w19 w20 => ?_) (fun e S13 z1 z2 => ?_)
  · have hq := sou_ok hB (by omega) z1
    obtain ⟨hm1, hm2, hm3, kt, hm4, hm5⟩ := sou_more hB (by omega) z1
    have cd : CD S S13 A N (bl B p) pc b (nI l.length) t := ho.cd (fun r hr => (k13.2.2 r (by unfold rT; rw [decide_eq_false_iff_not]; omega)).1) w18 w19 w20 (fun j hj => by rw [w22, apd_lt l _ _ hj])
    refine h1 S13 ⟨q, N + 1, pc + l.length, nd, by omega, by omega, by omega, fun _ => rfl, ⟨o1.kt k13, f1, hq.2.2.1, by rw [(k13.2.1 61 rfl).1]; exact o3, c5, by rw [(k13.2.1 45 rfl).1]; exact o4, by omega, f2, by omega, by rw [(k13.2.1 54 rfl).1]; exact o6, d2, by rw [(k13.2.1 62 rfl).1]; exact o7, by rw [(k13.2.1 64 rfl).1]; exact o8, d5, d6⟩, Keep.tr o10 k13.cr, ?_⟩
    intro Sr mm R P hP hg
    obtain ⟨T, wr, sy, g, ow, bh, par, ks, lv, pe, lst, mx⟩ := mm.mx
    refine turn Sr R P T wr sy g ow bh par ks lv pe lst mx hP (fun l2 t2 b2 q2 Sr1 y1 tn => ?_) (fun e Sr2 y1 => by rw [z1] at y1; cases y1)
    rw [z1] at y1
    injection y1 with y1; injection y1 with y2 y3; injection y3 with y3 y4; injection y4 with y4 y5
    subst y2 y3 y4 y5
    obtain ⟨e1, e2, e3, e4, e5, e6, e7⟩ := mx.pre (by omega)
    have rt := mx.1
    have nu := mx.2.1
    have rl : RLn Sr Sr1 A T wr sy (ow (hdx stk)) lst 0 (nI (bl B p)) (nI wr) (nI l.length) t b := tn.rl
    have k := tn.1
    have km : KM Sr Sr1 := Keep.tr (KR.m KR.pos) k.m
    have f := fun j (hj : jN j = false) (hj2 : j ≠ 101) => ((k.2.1 j hj).1.trans (fI_sn Sr 101 (A 9) (nI (bl B p)) j hj2))
    refine ⟨fun _ => hg Sr1 km ?_, fun z => absurd tn.2.2.1 z⟩
    refine mx.leaf (s := 0) (hs := Or.inl rfl) c5 o9 (rt.km km) (nu.of tn.2.2.1 tn.2.1 tn.2.2.2.1 (by have := nu.2.2.2.1; omega) tn.2.2.2.2.1 (by rw [f 120 rfl (by decide)]; exact nu.2.2.2.2.2.1) (by have := nu.2.2.2.2.2.2.1; omega) (by rw [f 134 rfl (by decide)]; exact e3) (f 125 rfl (by decide)) (f 126 rfl (by decide)) (f 129 rfl (by decide))) cd.end_ (by rw [aI_wn _ _ _ _ _ _ (by decide), (k13.2.2 26 rfl).1, (ho.1.2.2 26 rfl).1]; rfl) rl (fun r x y => (k.2.2 r (by unfold rNt; rw [decide_eq_false_iff_not]; omega)).1) tn.2.2.2.2.2.2.2.2.2.2.2.2.2.2.2 (by omega) (Nat.le_add_right wr l.length) (Nat.le_refl _) ⟨bl B p, by omega, by rw [cd.end_.1, uq_at], by rw [rl.1, uq_at]; rfl, Or.inr ⟨hlt, by rw [rl.2.1, uq_at], Or.inl ⟨rfl, rfl, hb, pc, wr, l.length, kt, by rw [cd.end_.2.2.2.2.2.1, uq_at], Nat.le_refl _, by rw [rl.2.2.1, uq_at], Nat.le_refl _, hm1, hm3, by rw [cd.end_.2.2.2.1, uq_at], by rw [rl.2.2.2.1, uq_at], hm4, by rw [cd.end_.2.2.2.2.1, uq_at, hm5], by rw [rl.2.2.2.2.2.1, uq_at, hm5], by rw [rl.2.2.2.2.2.2.1, uq_at, cd.end_.2.2.1, uq_at], by rw [cd.end_.2.2.1, uq_at]; exact hq.2.2.2, fun z => by (rw [cd.end_.2.2.1, uq_at]; exact sou_0 z1 (hm3.mp z)), fun j hj => ⟨l[j], hm2 _ (List.getElem_mem hj), ?_, ?_, ?_, ?_⟩⟩⟩⟩
    · rw [aI_wn _ _ _ _ _ _ (by decide), w22]; exact apd_at l _ _ j hj
    · rw [tn.2.2.2.2.2.2.2.2.2.2.2.2.1]; exact apd_at l _ _ j hj
    · rw [tn.2.2.2.2.2.2.2.2.2.2.2.2.2.1]; exact apd_at l _ _ j hj
    · rw [tn.2.2.2.2.2.2.2.2.2.2.2.2.2.2.1]; exact apd_at l _ _ j hj
  · refine h0 S13 ⟨e, sou_kd z1, Keep.tr o10 z2.1.cr, z2.2.1, z2.2.2, ?_⟩
    intro Sr mm R P hP hg
    obtain ⟨T, wr, sy, g, ow, bh, par, ks, lv, pe, lst, mx⟩ := mm.mx
    refine turn Sr R P T wr sy g ow bh par ks lv pe lst mx hP (fun l2 t2 b2 q2 Sr1 y1 => by rw [z1] at y1; cases y1) (fun e2 Sr2 y1 y2 y3 => ?_)
    rw [z1] at y1
    injection y1 with y1
    subst y1
    exact hg Sr2 y3
/-! words -/
theorem wds_mem (hB : Tx B n) : ∀ k p l q, p ≤ n → wds B k p = .ok (l, q) → ∀ y, y ∈ l → 1 ≤ y.2 ∧ y.2 ≤ 12 ∧ y.1 + y.2 ≤ n ∧ Syb B y := by
  intro k
  induction k with
  | zero => intro p l q hp h; rw [wds] at h; cases h
  | succ k ih =>
    intro p l q hp h
    have h2 := sc_le (f := isSpc) hB (by decide) hp
    have h3 := sc_ge (f := isSyl) (B := B) (p := sc isSpc B p)
    have h4 := sc_le (f := isSyl) hB (by decide) h2
    rw [wds] at h
    split at h
    · injection h with h; injection h with h5 h6
      subst h5; intro y hy; cases hy
    · split at h
      · cases h
      · split at h
        · cases h
        · split at h
          · rename_i x1 x2 l1 q1 e1
            injection h with h; injection h with h5 h6
            have := ih _ _ _ h4 e1
            subst h5
            intro y hy
            rcases List.mem_cons.mp hy with e | e
            · rw [e]; exact ⟨by show 1 ≤ _ - _; omega, by show _ - _ ≤ 12; omega, by show _ + (_ - _) ≤ n; omega, fun q1 a1 a2 => sc_in (p := sc isSpc B p) a1 (by have a3 : q1 < sc isSpc B p + (sc isSyl B (sc isSpc B p) - sc isSpc B p) := a2; omega)⟩
            · exact this y e
          · cases h
theorem wor_mem {v q : Nat} {l : List (Nat × Nat)} (hB : Tx B n) (hp : p < n) (h : wor B p = .ok (v, l, q)) : ∀ y, y ∈ l → 1 ≤ y.2 ∧ y.2 ≤ 12 ∧ y.1 + y.2 ≤ n ∧ Syb B y := by
  unfold wor at h
  split at h
  · cases h
  · split at h
    · rename_i e2
      have c := hB.lt e2 (by decide)
      split at h
      · rename_i e3
        injection h with h; injection h with h1 h2; injection h2 with h2 h3
        subst h2
        exact wds_mem hB _ _ _ _ c e3
      · cases h
    · cases h
theorem chn_87 {Q : PS → Prop} {r9 : Int32} (hw : wp_X12_wordsAt (A 9) r9 S Q) : chn (A 9) 87 r9 S Q := by
  unfold chn
  rw [if_neg (by decide), if_neg (by decide), if_neg (by decide), if_neg (by decide), if_neg (by decide), if_neg (by decide), if_pos rfl]
  exact hw
theorem RLn.wn {Sr Sr1 Sr2 : PS} {T m wr sy q v : Nat} {l : List (Nat × Nat)} {lst s1 pl a1 b1 z : Int32} {t : Int64} (h : RLn Sr Sr1 A T wr sy m lst s1 pl a1 b1 t z) (e53 : aI Sr1 53 = aI Sr 53) (e54 : aI Sr1 54 = aI Sr 54) (g : WN Sr1 Sr2 A T sy v l q) : RLn Sr Sr2 A T wr sy m lst 8 pl (nI v) (nI sy) (lN l.length) z := by
  obtain ⟨a2, a3, a4, a5, a6, a7, a8, a9, a10⟩ := h
  obtain ⟨k, b1, b2, b3, b4, b5, b6, b7, b8, b9⟩ := g
  refine ⟨by rw [b4, a2, uq_uq], by rw [(k.2.2 43 rfl).1]; exact a3, by rw [b5, a4, uq_uq], by rw [b6, a5, uq_uq], by rw [(k.2.2 46 rfl).1, (k.2.2 47 rfl).1]; exact a6, by rw [b7, a7, uq_uq], by rw [(k.2.2 49 rfl).1]; exact a8, fun r i hi x y => ?_, fun r i hi x y => ?_⟩
  · rw [(k.2.2 r (by unfold rU; rw [decide_eq_false_iff_not]; omega)).1]; exact a9 r i hi x y
  · have hr : r = 53 ∨ r = 54 := by omega
    rcases hr with rfl | rfl
    · rw [b8, apd_lt l _ _ hi, e53]
    · rw [b9, apd_lt l _ _ hi, e54]
theorem k_words (ci : CIv S A B n p op N pc nd pq inm) (hb : B (bl B p) = 87) (ho : CO (sI S 60 (A 6) (nI (bl B p))) S10 A N (bl B p) pc)
    (h1 : ∀ S13, IOk A B n S p op N pc nd pq inm stk S13 → G 1 S13) (h0 : ∀ S13, IBad A B n S p op N pc nd pq inm stk S13 → G 0 S13) : wp_X7_words (A 6) (nI N) S10 G := by
  have hB := ci.1.2.2.1
  have hn := hB.1
  have hlt := hB.lt hb (by decide)
  have hge := bl_ge (B := B) (p := p)
  obtain ⟨o1, o2, o3, o4, o5, o6, o7, o8, o9, o10⟩ := ci.o hlt ho
  obtain ⟨c1, c2, c3, c4, c5, c6, c7, c8, c9, d1, d2, d3, d4, d5, d6⟩ := ci
  have turn : ∀ (Sr : PS) (R : PS → Prop) (P : Int32 → PS → Prop) T wr sy g ow bh par ks lv pe lst, MX S Sr A B n p op N pc nd pq inm stk T wr sy g ow bh par ks lv pe lst → ClR A R P →
      (∀ v l q Sr1 Sr2, wor B (bl B p) = .ok (v, l, q) → IA (sI Sr 101 (A 9) (nI (bl B p))) Sr1 A T op (ow (hdx stk)) (bl B p) lst → WN Sr1 Sr2 A T sy v l q → Nx A P Sr2) → (∀ e Sr2, wor B (bl B p) = .error e → Kd e → RFM Sr Sr2 A e → P 0 Sr2) → P 1 Sr := by
    intro Sr R P T wr sy g ow bh par ks lv pe lst mx hP y1 y0
    obtain ⟨e1, e2, e3, e4, e5, e6, e7⟩ := mx.pre (by omega)
    have rt := mx.1
    have nu := mx.2.1
    refine it_item rt nu.2.1 c3 (by rw [hb]; decide) (by rw [hb]; decide) (by rw [hb]; decide) (by rw [hb]; decide) hP (fun Q2 hQ2 => ?_)
    refine r_ri rt.pos fI_at hlt (by rw [hb]; decide) (by rw [hb]; decide) (by rw [hb]; decide) (by simp only [fI_s, fI_sn, fL_s, fL_sn, aI_w, aI_wn, aL_w, aL_wn, fI_sL, fI_wI, fI_wL, fL_sI, fL_wI, fL_wL, aI_sI, aI_sL, aI_wL, aL_sI, aL_sL, aL_wI, fR_sI, fR_sL, fR_wI, fR_wL, aN_sI, aN_sL, aN_wI, aN_wL, ne_eq, Nat.reduceEqDiff, not_false_eq_true]; exact e1) (by omega) (by simp only [fI_s, fI_sn, fL_s, fL_sn, aI_w, aI_wn, aL_w, aL_wn, fI_sL, fI_wI, fI_wL, fL_sI, fL_wI, fL_wL, aI_sI, aI_sL, aI_wL, aL_sI, aL_sL, aL_wI, fR_sI, fR_sL, fR_wI, fR_wL, aN_sI, aN_sL, aN_wI, aN_wL, ne_eq, Nat.reduceEqDiff, not_false_eq_true]; exact e3) c5 e4 e5 e6 e7 (fun Sr1 ia => ?_)
    rw [hb]
    have km : KM Sr Sr1 := Keep.tr (KR.m KR.pos) ia.km
    refine chn_87 ?_
    refine r_words (sy := sy) (rt.km km) (by rw [(ia.1.2.1 102 rfl).1, fI_at2]; exact nu.1) ia.2.1 hlt (by omega) (by rw [(ia.1.2.1 120 rfl).1, fI_sn _ _ _ _ _ (by decide)]; exact nu.2.2.2.2.2.1) (by have := nu.2.2.2.2.2.2.1; omega) (fun v l q Sr2 z1 z2 => ?_) (fun e Sr2 z1 z2 z3 => ?_)
    · exact hQ2 Sr2 (y1 v l q Sr1 Sr2 z1 ia z2)
    · exact hQ2 Sr2 ⟨fun z => absurd z (by rw [z3.2.1]; exact z2.ne), fun _ => y0 e Sr2 z1 z2 (RFM.of km z3)⟩
  refine s_words o1 o2 hlt o4 (by omega) (by omega) o5 (by omega) (fun v l q S13 z1 k13 f1 f2 w22 w18 w19 w20 => ?_) (fun e S13 z1 z2 => ?_)
  · have hq := wor_ok hB hlt z1
    have hm := wor_mem hB hlt z1
    have cd : CD S S13 A N (bl B p) pc (nI v) (nI l.length) 0 := ho.cd (fun r hr => (k13.2.2 r (by unfold rT; rw [decide_eq_false_iff_not]; omega)).1) w18 w19 (by rw [w20]; exact (uq_self (by rw [ho.2.2.2.2.2.2.1, uq_at])).symm) (fun j hj => by rw [w22, apd_lt l _ _ hj])
    refine h1 S13 ⟨q, N + 1, pc + l.length, nd, by omega, by omega, by omega, fun _ => rfl, ⟨o1.kt k13, f1, hq.2.2.1, by rw [(k13.2.1 61 rfl).1]; exact o3, c5, by rw [(k13.2.1 45 rfl).1]; exact o4, by omega, f2, by omega, by rw [(k13.2.1 54 rfl).1]; exact o6, d2, by rw [(k13.2.1 62 rfl).1]; exact o7, by rw [(k13.2.1 64 rfl).1]; exact o8, d5, d6⟩, Keep.tr o10 k13.cr, ?_⟩
    intro Sr mm R P hP hg
    obtain ⟨T, wr, sy, g, ow, bh, par, ks, lv, pe, lst, mx⟩ := mm.mx
    refine turn Sr R P T wr sy g ow bh par ks lv pe lst mx hP (fun v2 l2 q2 Sr1 Sr2 y1 ia wn => ?_) (fun e Sr2 y1 => by rw [z1] at y1; cases y1)
    rw [z1] at y1
    injection y1 with y1; injection y1 with y2 y3; injection y3 with y3 y4
    subst y2 y3 y4
    obtain ⟨e1, e2, e3, e4, e5, e6, e7⟩ := mx.pre (by omega)
    have rt := mx.1
    have nu := mx.2.1
    have e53 : aI Sr1 53 = aI Sr 53 := (ia.1.2.2 53 rfl).1
    have e54 : aI Sr1 54 = aI Sr 54 := (ia.1.2.2 54 rfl).1
    have rl : RLn Sr Sr2 A T wr sy (ow (hdx stk)) lst 8 (nI (bl B p)) (nI v) (nI sy) (lN l.length) 0 := (ia.rl (wr := wr) (sy := sy)).wn e53 e54 wn
    have k := wn.1
    have km : KM Sr Sr2 := Keep.tr (Keep.tr (KR.m KR.pos) ia.km) k.m
    have f := fun j (hj0 : jU j = false) (hj : jI2 j = false) (hj2 : j ≠ 101) => (((k.2.1 j hj0).1.trans (ia.1.2.1 j hj).1).trans (fI_sn Sr 101 (A 9) (nI (bl B p)) j hj2))
    have fa := fun r (h1 : rU r = false) (h2 : rIH r = false) => ((k.2.2 r h1).1.trans (ia.1.2.2 r h2).1)
    refine ⟨fun _ => hg Sr2 km ?_, fun z => absurd wn.2.2.1 z⟩
    refine mx.leaf (s := 8) (hs := Or.inr (Or.inr (Or.inr (Or.inl rfl)))) c5 o9 (rt.km km) (nu.of wn.2.2.1 wn.2.1 (by rw [(k.2.1 113 rfl).1]; exact ia.2.2.1) (by have := nu.2.2.2.1; omega) (by rw [f 117 rfl rfl (by decide)]; exact nu.2.2.2.2.1) wn.2.2.2.1 (by have := nu.2.2.2.2.2.2.1; omega) (by rw [f 134 rfl rfl (by decide)]; exact e3) (f 125 rfl rfl (by decide)) (f 126 rfl rfl (by decide)) (f 129 rfl rfl (by decide))) cd.end_ (by rw [aI_wn _ _ _ _ _ _ (by decide), (k13.2.2 26 rfl).1, (ho.1.2.2 26 rfl).1]; rfl) rl (fun r x y => fa r (by unfold rU; rw [decide_eq_false_iff_not]; omega) (by unfold rIH; rw [decide_eq_false_iff_not]; omega)) (by rw [(k.2.2 64 rfl).1]; exact ia.2.2.2.2.2.2.2.2.2.2) (by omega) (Nat.le_refl _) (Nat.le_add_right sy l.length) ⟨bl B p, by omega, by rw [cd.end_.1, uq_at], by rw [rl.1, uq_at]; rfl, Or.inr ⟨hlt, by rw [rl.2.1, uq_at], Or.inr (Or.inr (Or.inr (Or.inr (Or.inl ⟨rfl, rfl, hb, pc, sy, l.length, v, by rw [cd.end_.2.2.2.2.2.1, uq_at], Nat.le_refl _, by rw [rl.2.2.2.1, uq_at], Nat.le_refl _, by rw [cd.end_.2.2.2.1, uq_at], by rw [rl.2.2.2.2.2.1, uq_at], hq.2.2.2.1, hq.2.2.2.2, by rw [cd.end_.2.2.1, uq_at], by rw [rl.2.2.1, uq_at], fun j hj => ⟨l[j], (hm _ (List.getElem_mem hj)).1, (hm _ (List.getElem_mem hj)).2.1, (hm _ (List.getElem_mem hj)).2.2, ?_, ?_, ?_⟩⟩))))⟩⟩
    · rw [aI_wn _ _ _ _ _ _ (by decide), w22]; exact apd_at l _ _ j hj
    · rw [wn.2.2.2.2.2.2.2.2.1]; exact apd_at l _ _ j hj
    · rw [wn.2.2.2.2.2.2.2.2.2]; exact apd_at l _ _ j hj
  · refine h0 S13 ⟨e, wor_kd z1, Keep.tr o10 z2.1.cr, z2.2.1, z2.2.2, ?_⟩
    intro Sr mm R P hP hg
    obtain ⟨T, wr, sy, g, ow, bh, par, ks, lv, pe, lst, mx⟩ := mm.mx
    refine turn Sr R P T wr sy g ow bh par ks lv pe lst mx hP (fun v2 l2 q2 Sr1 Sr2 y1 => by rw [z1] at y1; cases y1) (fun e2 Sr2 y1 y2 y3 => ?_)
    rw [z1] at y1
    injection y1 with y1
    subst y1
    exact hg Sr2 y3
end
