/-! The reference: opening a block, the items with a head. -/
section
variable {S : PS} {A : Nat → Nat} {B : Nat → Int32} {n p T : Nat} {Q : PS → Prop}
def jO (j : Nat) : Bool := decide (j = 134)
def rO (r : Nat) : Bool := decide (61 ≤ r ∧ r ≤ 64)
def OM (S S1 : PS) (A : Nat → Nat) (op : Nat) (s i m : Int32) : Prop := Keep jO rO S S1 ∧ fI S1 134 (A 9) = nI (op + 1) ∧ aI S1 61 (A 61) = uq (aI S 61 (A 61)) op s ∧ aI S1 62 (A 62) = uq (aI S 62 (A 62)) op i ∧ aI S1 63 (A 63) = uq (aI S 63 (A 63)) op m ∧ aI S1 64 (A 64) = uq (aI S 64 (A 64)) op (-1)
theorem r_openMusic {s i m : Int32} {op : Nat} (h : LayM S A) (ho : fI S 134 (A 9) = nI op) (hop : op ≤ 9) (hQ : ∀ S1, OM S S1 A op s i m → Q S1) : wp_X12_openMusic (A 9) s i m S Q := by
  unfold wp_X12_openMusic
  rw [ho]
  refine ⟨_, h.f130, by rw [h.n61]; exact vp_in_nI (by omega) (by omega), ?_⟩
  rw [nI_clamp (by omega)]
  rintro _ rfl
  rw [fI_wI, ho]
  refine ⟨_, h.f131, by show vp_in _ (aN S (A 62)); rw [h.n62]; exact vp_in_nI (by omega) (by omega), ?_⟩
  rw [nI_clamp (by omega)]
  rintro _ rfl
  rw [fI_wI, fI_wI, ho]
  refine ⟨_, h.f132, by show vp_in _ (aN S (A 63)); rw [h.n63]; exact vp_in_nI (by omega) (by omega), ?_⟩
  rw [nI_clamp (by omega)]
  rintro _ rfl
  rw [fI_wI, fI_wI, fI_wI, ho]
  refine ⟨_, h.f133, by show vp_in _ (aN S (A 64)); rw [h.n64]; exact vp_in_nI (by omega) (by omega), ?_⟩
  rw [nI_clamp (by omega)]
  rintro _ rfl
  rw [fI_wI, fI_wI, fI_wI, fI_wI, ho, nI_1]
  rintro _ rfl
  refine hQ _ ⟨((((Keep.rf.wI rfl).wI rfl).wI rfl).wI rfl).sI rfl, ?_, ?_, ?_, ?_, ?_⟩
  all_goals simp only [fI_s, fI_sn, fL_s, fL_sn, aI_w, aI_wn, aL_w, aL_wn, fI_sL, fI_wI, fI_wL, fL_sI, fL_wI, fL_wL, aI_sI, aI_sL, aI_wL, aL_sI, aL_sL, aL_wI, fR_sI, fR_sL, fR_wI, fR_wL, aN_sI, aN_sL, aN_wI, aN_wL, ne_eq, Nat.reduceEqDiff, not_false_eq_true]
/-- where a block begins -/
def blk (B : Nat → Int32) (op p : Nat) : Except (Nat × Nat) Nat := if B (bl B p) = 123 then (if op < 8 then .ok (bl B p + 1) else .error (5, bl B p)) else .error (1, bl B p)
theorem blk_ok {op q : Nat} (hB : Tx B n) (h : blk B op p = .ok q) : p < q ∧ q ≤ n ∧ op < 8 := by
  have h1 := bl_ge (B := B) (p := p)
  unfold blk at h
  split at h
  · rename_i e
    have := hB.lt e (by decide)
    split at h
    · injection h with h; omega
    · cases h
  · cases h
theorem blk_kd {op : Nat} {e : Nat × Nat} (h : blk B op p = .error e) : Kd e := by
  unfold blk at h
  split at h
  · split at h
    · cases h
    · injection h with h; rw [← h]; exact kdm (by decide) (by decide)
  · injection h with h; rw [← h]; exact kdm (by decide) (by decide)
def jB (j : Nat) : Bool := decide (j = 101 ∨ j = 113 ∨ j = 134)
def rB (r : Nat) : Bool := decide (42 ≤ r ∧ r ≤ 49 ∨ 61 ≤ r ∧ r ≤ 64)
/-- a block is open: its music is item T -/
def OB (S S1 : PS) (A : Nat → Nat) (T op : Nat) (s i pl : Int32) (q : Nat) : Prop := Keep jB rB S S1 ∧ fI S1 101 (A 9) = nI q ∧ fI S1 113 (A 9) = nI (T + 1) ∧ fI S1 134 (A 9) = nI (op + 2) ∧ aI S1 42 (A 42) = uq (aI S 42 (A 42)) T 11 ∧ aI S1 43 (A 43) = uq (aI S 43 (A 43)) T pl ∧ aI S1 44 (A 44) = uq (aI S 44 (A 44)) T 0 ∧ aI S1 45 (A 45) = uq (aI S 45 (A 45)) T 0 ∧ aI S1 46 (A 46) = uq (aI S 46 (A 46)) T (-1) ∧ aI S1 47 (A 47) = uq (aI S 47 (A 47)) T (-1) ∧ aL S1 48 (A 48) = uq (aL S 48 (A 48)) T 0 ∧ aI S1 49 (A 49) = uq (aI S 49 (A 49)) T 0 ∧ aI S1 61 (A 61) = uq (aI S 61 (A 61)) (op + 1) s ∧ aI S1 62 (A 62) = uq (aI S 62 (A 62)) (op + 1) i ∧ aI S1 63 (A 63) = uq (aI S 63 (A 63)) (op + 1) (nI T) ∧ aI S1 64 (A 64) = uq (aI S 64 (A 64)) (op + 1) (-1)
theorem r_itemOpen {s i pl : Int32} {op q : Nat} {S0 : PS} (h : LayM S A) (k0 : Keep jB rN S0 S) (hq : fI S 101 (A 9) = nI q) (hT : fI S 113 (A 9) = nI T) (hb : T < 3100) (ho : fI S 134 (A 9) = nI (op + 1)) (hop : op < 8)
    (hQ : ∀ S1, OB S0 S1 A T op s i pl (q + 1) → Q S1) : wp_X12_item (A 9) 11 pl S (fun r S1 => ∀ S2, S2 = sI S1 101 (A 9) (fI S1 101 (A 9) + 1) → wp_X12_openMusic (A 9) s i r S2 (fun S3 => Q S3)) := by
  refine r_item h hT hb (fun S1 h1 => ?_)
  obtain ⟨k, a1, a2, a3, a4, a5, a6, a7, a8, a9⟩ := h1
  rintro _ rfl
  rw [(k.2.1 101 rfl).1, hq, nI_1]
  refine r_openMusic (op := op + 1) (S := sI S1 101 (A 9) (nI (q + 1))) ((h.st k.1).st (Keep.rf.sI (J := fun _ => true) (R := rN) rfl).1) (by simp only [fI_s, fI_sn, fL_s, fL_sn, aI_w, aI_wn, aL_w, aL_wn, fI_sL, fI_wI, fI_wL, fL_sI, fL_wI, fL_wL, aI_sI, aI_sL, aI_wL, aL_sI, aL_sL, aL_wI, fR_sI, fR_sL, fR_wI, fR_wL, aN_sI, aN_sL, aN_wI, aN_wL, ne_eq, Nat.reduceEqDiff, not_false_eq_true]; rw [(k.2.1 134 rfl).1]; exact ho) (by omega) (fun S3 h3 => ?_)
  obtain ⟨k3, b1, b2, b3, b4, b5⟩ := h3
  have z : ∀ r, rN r = false := fun _ => rfl
  have e42 : ∀ r, rO r = false → aI S3 r = aI S1 r := fun r hr => by rw [(k3.2.2 r hr).1, aI_sI]
  have e48 : ∀ r, rO r = false → aL S3 r = aL S1 r := fun r hr => by rw [(k3.2.2 r hr).2, aL_sI]
  have e61 : ∀ r, rJ r = false → aI (sI S1 101 (A 9) (nI (q + 1))) r = aI S0 r := fun r hr => by rw [aI_sI, (k.2.2 r hr).1, (k0.2.2 r rfl).1]
  refine hQ S3 ⟨?_, ?_, ?_, ?_, ?_, ?_, ?_, ?_, ?_, ?_, ?_, ?_, ?_, ?_, ?_, ?_⟩
  · refine (k0.mono (J1 := jB) (R1 := rB) (fun _ => id) (fun _ _ => rfl)).tr ((k.mono (J1 := jB) (R1 := rB) (fun j => by unfold jB jJ; simp only [decide_eq_false_iff_not]; omega) (fun r => by unfold rB rJ; simp only [decide_eq_false_iff_not]; omega)).tr ((Keep.rf.sI rfl).tr (k3.mono (fun j => by unfold jB jO; simp only [decide_eq_false_iff_not]; omega) (fun r => by unfold rB rO; simp only [decide_eq_false_iff_not]; omega))))
  · rw [(k3.2.1 101 rfl).1]; simp only [fI_s, fI_sn, fL_s, fL_sn, aI_w, aI_wn, aL_w, aL_wn, fI_sL, fI_wI, fI_wL, fL_sI, fL_wI, fL_wL, aI_sI, aI_sL, aI_wL, aL_sI, aL_sL, aL_wI, fR_sI, fR_sL, fR_wI, fR_wL, aN_sI, aN_sL, aN_wI, aN_wL, ne_eq, Nat.reduceEqDiff, not_false_eq_true]
  · rw [(k3.2.1 113 rfl).1]; simp only [fI_s, fI_sn, fL_s, fL_sn, aI_w, aI_wn, aL_w, aL_wn, fI_sL, fI_wI, fI_wL, fL_sI, fL_wI, fL_wL, aI_sI, aI_sL, aI_wL, aL_sI, aL_sL, aL_wI, fR_sI, fR_sL, fR_wI, fR_wL, aN_sI, aN_sL, aN_wI, aN_wL, ne_eq, Nat.reduceEqDiff, not_false_eq_true]; exact a1
  · exact b1
  · rw [e42 42 rfl, a2, (k0.2.2 42 rfl).1]
  · rw [e42 43 rfl, a3, (k0.2.2 43 rfl).1]
  · rw [e42 44 rfl, a4, (k0.2.2 44 rfl).1]
  · rw [e42 45 rfl, a5, (k0.2.2 45 rfl).1]
  · rw [e42 46 rfl, a6, (k0.2.2 46 rfl).1]
  · rw [e42 47 rfl, a7, (k0.2.2 47 rfl).1]
  · rw [e48 48 rfl, a8, (k0.2.2 48 rfl).2]
  · rw [e42 49 rfl, a9, (k0.2.2 49 rfl).1]
  · rw [b2, e61 61 rfl]
  · rw [b3, e61 62 rfl]
  · rw [b4, e61 63 rfl]
  · rw [b5, e61 64 rfl]
theorem r_openBlock {s i : Int32} {op : Nat} (h : RT S A B n) (hf : fI S 102 (A 9) = 0) (hp : fI S 101 (A 9) = nI p) (hpn : p ≤ n) (hT : fI S 113 (A 9) = nI T) (hb : T < 3100) (ho : fI S 134 (A 9) = nI (op + 1)) (hop : op ≤ 8)
    (h1 : ∀ q S1, blk B op p = .ok q → OB S S1 A T op s i (nI (bl B p)) q → Q S1) (h0 : ∀ e S1, blk B op p = .error e → Kd e → RF S S1 A e → Q S1) : wp_X12_openBlock (A 9) s i S Q := by
  unfold wp_X12_openBlock
  rw [hf, if_pos (by decide)]
  have hbn := bl_le h.2.2.1 hpn
  refine r_blanks h hp hpn ?_
  refine r_isHere h.pos fI_at hbn (fun e => ?_) (fun e => ?_)
  · rw [if_neg (by decide)]
    have hk : blk B op p = if op < 8 then .ok (bl B p + 1) else .error (5, bl B p) := if_pos e
    rw [fI_sn _ _ _ _ _ (by decide), ho]
    by_cases c : op < 8
    · rw [if_pos c] at hk
      rw [if_neg (ceq_no 9 (by rfl) (by omega) (by omega) (by omega)), fI_at]
      refine r_itemOpen (S0 := S) h.pos.1 (Keep.rf.sI rfl) fI_at (by simp only [fI_s, fI_sn, fL_s, fL_sn, aI_w, aI_wn, aL_w, aL_wn, fI_sL, fI_wI, fI_wL, fL_sI, fL_wI, fL_wL, aI_sI, aI_sL, aI_wL, aL_sI, aL_sL, aL_wI, fR_sI, fR_sL, fR_wI, fR_wL, aN_sI, aN_sL, aN_wI, aN_wL, ne_eq, Nat.reduceEqDiff, not_false_eq_true]; exact hT) hb (by simp only [fI_s, fI_sn, fL_s, fL_sn, aI_w, aI_wn, aL_w, aL_wn, fI_sL, fI_wI, fI_wL, fL_sI, fL_wI, fL_wL, aI_sI, aI_sL, aI_wL, aL_sI, aL_sL, aL_wI, fR_sI, fR_sL, fR_wI, fR_wL, aN_sI, aN_sL, aN_wI, aN_wL, ne_eq, Nat.reduceEqDiff, not_false_eq_true]; exact ho) c (fun S1 h2 => h1 _ _ hk h2)
    · rw [if_neg c] at hk
      have e8 : op = 8 := by omega
      rw [e8, if_pos (by decide), fI_at]
      exact r_bad (k := 5) (fI_at2.trans hf) (fun S1 h2 => h0 _ _ hk (blk_kd hk) (RF.of KR.pos h2))
  · rw [if_pos rfl, fI_at]
    have hk : blk B op p = .error (1, bl B p) := if_neg e
    exact r_bad (k := 1) (fI_at2.trans hf) (fun S1 h2 => h0 _ _ hk (blk_kd hk) (RF.of KR.pos h2))
theorem r_openBlock_f {s i : Int32} (hf : ¬ fI S 102 (A 9) ≤ 0) (hQ : Q S) : wp_X12_openBlock (A 9) s i S Q := by
  unfold wp_X12_openBlock
  rw [if_neg hf]; exact hQ
theorem r_itsBlock_f {i : Int32} (h1 : ¬ fI S 102 (A 9) ≤ 0) (h2 : ¬ fI S 102 (A 9) = 0) (hQ : Q S) : wp_X12_itsBlock (A 9) i S Q := by
  unfold wp_X12_itsBlock
  refine r_openBlock_f h1 ?_
  rw [if_neg h2]; exact hQ
theorem r_itsBlock {x op : Nat} (h : RT S A B n) (hf : fI S 102 (A 9) = 0) (hp : fI S 101 (A 9) = nI p) (hpn : p ≤ n) (hT : fI S 113 (A 9) = nI T) (hb : T < 3100) (hx : x < T) (ho : fI S 134 (A 9) = nI (op + 1)) (hop : op ≤ 8)
    (h1 : ∀ q S1, blk B op p = .ok q → OB S S1 A T op 1 (nI x) (nI (bl B p)) q → Q (wI S1 46 (A 46) x (nI T))) (h0 : ∀ e S1, blk B op p = .error e → Kd e → RF S S1 A e → Q S1) : wp_X12_itsBlock (A 9) (nI x) S Q := by
  unfold wp_X12_itsBlock
  refine r_openBlock h hf hp hpn hT hb ho hop (fun q S1 e h2 => ?_) (fun e S1 e1 hk h2 => ?_)
  · have g := h1 q S1 e h2
    obtain ⟨k, b1, b2, b3, b4, b5, b6, b7, b8, b9, b10, b11, b12, b13, b14, b15⟩ := h2
    have h3 := h.1.st k.1
    rw [if_pos (by rw [(k.2.1 102 rfl).1]; exact hf)]
    have eo : fI S1 134 (A 9) - 1 = nI (op + 1) := by rw [b3]; exact nI_pred (op + 1)
    have hop2 := (blk_ok h.2.2.1 e).2.2
    refine ⟨_, h3.f109, _, h3.f132, ?_, ?_, ?_⟩
    · rw [eo, h3.n63]; exact vp_in_nI (by omega) (by omega)
    · rw [h3.n46]; exact vp_in_nI (by omega) (by omega)
    · rw [eo, nI_clamp (by omega), nI_clamp (by omega), b14, uq_at]
      rintro _ rfl
      exact g
  · rw [if_neg (by rw [h2.2.1]; exact hk.ne)]
    exact h0 e S1 e1 hk h2
/-! an item that isn't tones: its branch -/
def chn (a : Nat) (r2 r9 : Int32) (S11 : PS) (Q : PS → Prop) : Prop :=
  (if r2 = 36 then
 wp_X12_useAt a r9 S11 (fun (S12 : PS) => 
 Q S12)
 else (if r2 = 61 then
 wp_X12_namedAt a r9 S11 (fun (S14 : PS) => 
 Q S14)
 else (if r2 = 76 then
 (∃ b16, fR S11 105 a = some b16 ∧ (vp_in r9 (aN S11 b16) ∧ ∀ S17, S17 = wI S11 42 b16 (r9).toNatClampNeg 3 → wp_X12_itsBlock a r9 S17 (fun (S18 : PS) => 
 Q S18)))
 else (if r2 = 77 then
 (∃ b20, fR S11 105 a = some b20 ∧ (vp_in r9 (aN S11 b20) ∧ ∀ S21, S21 = wI S11 42 b20 (r9).toNatClampNeg 2 → (∃ b22, fR S21 107 a = some b22 ∧ wp_X12_number a 1 32 S21 (fun (r24 : Int32) (S23 : PS) => 
 (vp_in r9 (aN S23 b22) ∧ ∀ S25, S25 = wI S23 44 b22 (r9).toNatClampNeg r24 → wp_X12_want a 47 S25 (fun (S26 : PS) => 
 wp_X12_blanks a S26 (fun (S27 : PS) => 
 (∃ b28, fR S27 108 a = some b28 ∧ (∀ K200_33 : Nat → Int32 → Int32 → PS → Prop, (∀ (t29 : Nat) (t30 : Int32) (t31 : Int32) (S32 : PS),
 (vp_in t30 (aN S32 t29) ∧ ∀ S34, S34 = wI S32 45 t29 (t30).toNatClampNeg t31 → Q S34)
 → K200_33 t29 t30 t31 S32) →
 (if fI S27 102 a = 0 then
 wp_X12_halved a 32 S27 (fun (r36 : Int64) (S35 : PS) => 
 K200_33 b28 r9 (r36.toInt32) S35)
 else
 K200_33 b28 r9 0 S27))))))))))
 else (if r2 = 82 then
 (∃ b38, fR S11 105 a = some b38 ∧ (vp_in r9 (aN S11 b38) ∧ ∀ S39, S39 = wI S11 42 b38 (r9).toNatClampNeg 4 → (∃ b40, fR S39 107 a = some b40 ∧ wp_X12_number a 0 50 S39 (fun (r42 : Int32) (S41 : PS) => 
 (vp_in r9 (aN S41 b40) ∧ ∀ S43, S43 = wI S41 44 b40 (r9).toNatClampNeg r42 → wp_X12_itsBlock a r9 S43 (fun (S44 : PS) => 
 Q S44))))))
 else (if r2 = 84 then
 (∃ b46, fR S11 105 a = some b46 ∧ (vp_in r9 (aN S11 b46) ∧ ∀ S47, S47 = wI S11 42 b46 (r9).toNatClampNeg 5 → (∃ b48, fR S47 107 a = some b48 ∧ wp_X12_number a 1 9 S47 (fun (r50 : Int32) (S49 : PS) => 
 (vp_in r9 (aN S49 b48) ∧ ∀ S51, S51 = wI S49 44 b48 (r9).toNatClampNeg r50 → wp_X12_want a 47 S51 (fun (S52 : PS) => 
 (∃ b53, fR S52 108 a = some b53 ∧ wp_X12_number a 1 9 S52 (fun (r55 : Int32) (S54 : PS) => 
 (vp_in r9 (aN S54 b53) ∧ ∀ S56, S56 = wI S54 45 b53 (r9).toNatClampNeg r55 → wp_X12_itsBlock a r9 S56 (fun (S57 : PS) => 
 Q S57))))))))))
 else (if r2 = 87 then
 wp_X12_wordsAt a r9 S11 (fun (S59 : PS) => 
 Q S59)
 else (if r2 = 88 then
 (∃ b61, fR S11 105 a = some b61 ∧ (vp_in r9 (aN S11 b61) ∧ ∀ S62, S62 = wI S11 42 b61 (r9).toNatClampNeg 6 → (∃ b63, fR S62 107 a = some b63 ∧ wp_X12_signed a S62 (fun (r65 : Int32) (S64 : PS) => 
 (vp_in r9 (aN S64 b63) ∧ ∀ S66, S66 = wI S64 44 b63 (r9).toNatClampNeg r65 → (∃ b67, fR S66 108 a = some b67 ∧ wp_X12_signed a S66 (fun (r69 : Int32) (S68 : PS) => 
 (vp_in r9 (aN S68 b67) ∧ ∀ S70, S70 = wI S68 45 b67 (r9).toNatClampNeg r69 → wp_X12_itsBlock a r9 S70 (fun (S71 : PS) => 
 Q S71)))))))))
 else (if r2 = 91 then
 wp_X12_voicesAt a r9 S11 (fun (S73 : PS) => 
 Q S73)
 else (if r2 = 124 then
 Q S11
 else wp_X12_bad a 1 ((fI S11 101 a) - 1) S11 (fun (S76 : PS) => 
 Q S76)))))))))))

def jI2 (j : Nat) : Bool := decide (j = 101 ∨ j = 113)
/-- a new item, hung, and a step further -/
def IA (S S1 : PS) (A : Nat → Nat) (T op m p : Nat) (lst : Int32) : Prop := Keep jI2 rIH S S1 ∧ fI S1 101 (A 9) = nI (p + 1) ∧ fI S1 113 (A 9) = nI (T + 1) ∧ aI S1 42 (A 42) = uq (aI S 42 (A 42)) T 1 ∧ aI S1 43 (A 43) = uq (aI S 43 (A 43)) T (nI p) ∧ aI S1 44 (A 44) = uq (aI S 44 (A 44)) T 0 ∧ aI S1 45 (A 45) = uq (aI S 45 (A 45)) T 0 ∧ Lnk T m lst (aI S 46 (A 46)) (aI S 47 (A 47)) (aI S1 46 (A 46)) (aI S1 47 (A 47)) ∧ aL S1 48 (A 48) = uq (aL S 48 (A 48)) T 0 ∧ aI S1 49 (A 49) = uq (aI S 49 (A 49)) T 0 ∧ aI S1 64 (A 64) = uq (aI S 64 (A 64)) op (nI T)
theorem r_ri {op m : Nat} {lst : Int32} (h : RT S A B n) (hp : fI S 101 (A 9) = nI p) (hlt : p < n) (k1 : isTon (B p) = false) (k2 : B p ≠ 114) (k3 : B p ≠ 60)
    (hT : fI S 113 (A 9) = nI T) (hb : T < 3100) (ho : fI S 134 (A 9) = nI (op + 1)) (hop : op ≤ 8) (hm : aI S 63 (A 63) op = nI m) (hmT : m < T) (hl : aI S 64 (A 64) op = lst) (hlst : lst = -1 ∨ ∃ l, l < T ∧ lst = nI l)
    (hQ : ∀ S1, IA S S1 A T op m p lst → chn (A 9) (B p) (nI T) S1 Q) : wp_X12_readItem (A 9) S Q := by
  unfold wp_X12_readItem
  refine r_here h hp (by omega) ?_
  refine r_isTone (fun ht => by rw [k1] at ht; cases ht) (fun _ => ?_)
  intro K hK
  rw [if_pos rfl, if_neg k2, if_neg k3, hp]
  refine r_new h.1 hT hb ho hop hm hmT hl hlst (fun S1 h1 => ?_)
  obtain ⟨k, a1, a2, a3, a4, a5, a6, a7, a8, a9⟩ := h1
  intro S2 e2
  rw [(k.2.1 101 rfl).1, hp, nI_1] at e2
  refine hQ S2 ?_
  subst e2
  refine ⟨(k.mono (J1 := jI2) (R1 := rIH) (fun j => by unfold jI2 jIH; simp only [decide_eq_false_iff_not]; omega) (fun _ => id)).sI rfl, ?_, ?_, ?_, ?_, ?_, ?_, ?_, ?_, ?_, ?_⟩
  all_goals simp only [fI_s, fI_sn, fL_s, fL_sn, aI_w, aI_wn, aL_w, aL_wn, fI_sL, fI_wI, fI_wL, fL_sI, fL_wI, fL_wL, aI_sI, aI_sL, aI_wL, aL_sI, aL_sL, aL_wI, fR_sI, fR_sL, fR_wI, fR_wL, aN_sI, aN_sL, aN_wI, aN_wL, ne_eq, Nat.reduceEqDiff, not_false_eq_true]
  all_goals assumption
theorem chn_line {r9 : Int32} (hQ : Q S) : chn (A 9) 124 r9 S Q := by
  unfold chn
  rw [if_neg (by decide), if_neg (by decide), if_neg (by decide), if_neg (by decide), if_neg (by decide), if_neg (by decide), if_neg (by decide), if_neg (by decide), if_neg (by decide), if_pos rfl]
  exact hQ
end
