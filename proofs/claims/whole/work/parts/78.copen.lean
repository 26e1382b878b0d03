/-! The class: which bytes begin an item; entries; blocks. -/
section
variable {S : PS} {A : Nat → Nat} {B : Nat → Int32} {n p : Nat} {Q : Int32 → PS → Prop}
def isBeg (c : Int32) : Bool := isTon c || c == 114 || c == 60 || c == 124 || c == 77 || c == 76 || c == 82 || c == 84 || c == 88 || c == 91 || c == 87 || c == 61 || c == 36
theorem beg_fin : ∀ k : Fin 256, (((nI k.val).toUInt32 % 65536).toInt32 = nI k.val) ∧ ((List.range 19).any (fun j => (bytS.getD 0 []).getD j 0 == (nI k.val).toInt8.toInt32) = isBeg (nI k.val)) := by decide +kernel
theorem s_begins {c : Int32} (h0 : 0 ≤ c.toInt) (h9 : c.toInt ≤ 255) (h1 : isBeg c = true → ∀ r : Int32, 0 ≤ r → Q r S) (h2 : isBeg c = false → Q (-1) S) : wp_J0_indexOf_0f7a4 0 ((c.toUInt32 % 65536).toInt32) S Q := by
  obtain ⟨k, hk⟩ : ∃ k : Nat, c.toInt = k := ⟨c.toInt.toNat, by omega⟩
  have hc := nI_ofi hk (by omega)
  subst hc
  obtain ⟨f1, f2⟩ := beg_fin ⟨k, by omega⟩
  simp only [] at f1 f2
  rw [f1]
  unfold wp_J0_indexOf_0f7a4 wp_J0_indexOf_7cf53 wp_J0_isLatin1_aae02
  rw [if_neg (by decide), if_pos rfl]
  dsimp only
  rw [if_neg (by decide)]
  unfold wp_J0_length_8abf5 wp_J0_coder_7d493
  rw [if_neg (by decide)]
  unfold wp_J1_indexOf_4cfef wp_J1_canEncode_9a6ad
  dsimp only
  rw [if_neg (nI_pos (by omega)), if_neg (clt_no 255 (by rfl) (by omega) (by omega))]
  rw [if_neg (by decide)]
  rintro _ rfl _ rfl
  rw [show (if (0 : Int32) < 0 then (0 : Int32) else 0) = 0 by decide, show (if nI (lenS.getD 0 0) < nI (lenS.getD 0 0) >>> (0 &&& 31) then nI (lenS.getD 0 0) else nI (lenS.getD 0 0) >>> (0 &&& 31)) = nI 19 by decide, if_pos (by decide)]
  unfold wp_J1_indexOfChar_4cfef
  rintro _ rfl P hP
  have key : ∀ m i, i + m = 19 → (∀ j, i ≤ j → j < 19 → (bytS.getD 0 []).getD j 0 = (nI k).toInt8.toInt32 → Q (nI j) S) → ((∀ j, i ≤ j → j < 19 → (bytS.getD 0 []).getD j 0 ≠ (nI k).toInt8.toInt32) → Q (-1) S) → P (nI i) S := by
    intro m
    induction m with
    | zero =>
      intro i a1 a2 a3
      apply hP
      rw [if_pos (nI_le (by omega) (by omega))]
      exact a3 (fun j b1 b2 => by omega)
    | succ m ih =>
      intro i a1 a2 a3
      apply hP
      rw [if_neg (nI_ge (by omega) (by omega))]
      refine ⟨vp_in_nI (show i < 19 by omega) (by decide), ?_⟩
      rw [nI_clamp (by omega)]
      by_cases e : (bytS.getD 0 []).getD i 0 = (nI k).toInt8.toInt32
      · rw [if_pos e]; exact a2 i (Nat.le_refl i) (by omega) e
      · rw [if_neg e]
        rintro _ rfl
        rw [nI_1]
        refine ih (i + 1) (by omega) (fun j b1 b2 => a2 j (by omega) b2) (fun b => a3 (fun j b1 b2 => ?_))
        by_cases d : j = i
        · rw [d]; exact e
        · exact b j (by omega) b2
  refine key 19 0 (by omega) (fun j _ b2 e => ?_) (fun b => ?_)
  · refine h1 ?_ _ (nI_pos' (by omega))
    rw [← f2, List.any_eq_true]
    exact ⟨j, List.mem_range.mpr b2, by rw [beq_iff_eq]; exact e⟩
  · refine h2 ?_
    rw [← f2, List.any_eq_false]
    intro j hj
    rw [beq_iff_eq]
    exact b j (Nat.zero_le j) (List.mem_range.mp hj)
def jCo (j : Nat) : Bool := decide (j = 45)
def rCo (r : Nat) : Bool := decide (16 ≤ r ∧ r ≤ 21)
/-- the class has opened entry N -/
def CO (S S1 : PS) (A : Nat → Nat) (N pl pc : Nat) : Prop := Keep jCo rCo S S1 ∧ fI S1 45 (A 5) = nI (N + 1) ∧ aI S1 16 (A 16) = uq (aI S 16 (A 16)) N (nI pl) ∧ aI S1 17 (A 17) = uq (aI S 17 (A 17)) N (nI (N + 1)) ∧ aI S1 18 (A 18) = uq (aI S 18 (A 18)) N 0 ∧ aI S1 19 (A 19) = uq (aI S 19 (A 19)) N 0 ∧ aL S1 20 (A 20) = uq (aL S 20 (A 20)) N 0 ∧ aI S1 21 (A 21) = uq (aI S 21 (A 21)) N (nI pc)
theorem s_open {N pc : Nat} (h : LayC S A) (hN : fI S 45 (A 5) = nI N) (hb : N < 1508) (hc : fI S 53 (A 5) = nI pc) (hQ : ∀ S1, CO S S1 A N p pc → Q (nI N) S1) : wp_X6_open (A 5) (nI p) S Q := by
  unfold wp_X6_open
  intro v1 hv1
  rw [hN] at hv1
  subst hv1
  rw [if_neg (cle_no 1508 (by rfl) hb (by omega)), hN, nI_1]
  rintro _ rfl
  refine ⟨_, h.f46, by show vp_in _ (aN S (A 16)); rw [h.n16]; exact vp_in_nI hb (by omega), ?_⟩
  rw [nI_clamp (by omega)]
  rintro _ rfl
  refine ⟨_, h.f47, by show vp_in _ (aN S (A 17)); rw [h.n17]; exact vp_in_nI hb (by omega), ?_⟩
  rw [fI_wI, fI_s]
  rintro _ rfl
  refine ⟨_, h.f48, by show vp_in _ (aN S (A 18)); rw [h.n18]; exact vp_in_nI hb (by omega), ?_⟩
  rintro _ rfl
  refine ⟨_, h.f49, by show vp_in _ (aN S (A 19)); rw [h.n19]; exact vp_in_nI hb (by omega), ?_⟩
  rintro _ rfl
  refine ⟨_, h.f50, by show vp_in _ (aN S (A 20)); rw [h.n20]; exact vp_in_nI hb (by omega), ?_⟩
  rintro _ rfl
  refine ⟨_, h.f51, by show vp_in _ (aN S (A 21)); rw [h.n21]; exact vp_in_nI hb (by omega), ?_⟩
  rintro _ rfl
  refine hQ _ ⟨((((((Keep.rf.sI rfl).wI rfl).wI rfl).wI rfl).wI rfl).wL rfl).wI rfl, ?_, ?_, ?_, ?_, ?_, ?_, ?_⟩
  all_goals simp only [fI_s, fI_sn, fL_s, fL_sn, aI_w, aI_wn, aL_w, aL_wn, fI_sL, fI_wI, fI_wL, fL_sI, fL_wI, fL_wL, aI_sI, aI_sL, aI_wL, aL_sI, aL_sL, aL_wI, fR_sI, fR_sL, fR_wI, fR_wL, aN_sI, aN_sL, aN_wI, aN_wL, ne_eq, Nat.reduceEqDiff, not_false_eq_true]
  rw [hc]
theorem s_close {Q : PS → Prop} {N x : Nat} (h : LayC S A) (hN : fI S 45 (A 5) = nI N) (hx : x < N) (hb : N ≤ 1508) (hQ : Q (wI S 17 (A 17) x (nI N))) : wp_X6_close (A 5) (nI x) S Q := by
  unfold wp_X6_close
  refine s_holds hN hx hb ?_
  rw [if_neg (by decide)]
  refine ⟨_, h.f47, by rw [h.n17]; exact vp_in_nI (by omega) (by omega), ?_⟩
  rw [nI_clamp (by omega), hN]
  rintro _ rfl
  exact hQ
def jBk (j : Nat) : Bool := decide (j = 60 ∨ j = 61)
theorem s_block {M : Nat → PS → (Int32 → PS → Prop) → Prop} {op : Nat} (h : CT S A B n) (hp : fI S 60 (A 6) = nI p) (hpn : p ≤ n) (ho : fI S 61 (A 6) = nI op) (hop : op ≤ 8)
    (h1 : ∀ q S1, blk B op p = .ok q → Keep jBk rN S S1 → fI S1 60 (A 6) = nI q → fI S1 61 (A 6) = nI (op + 1) → M (A 6) S1 (fun r7 S6 => if r7 = 0 then Q 0 S6 else wp_X7_must (A 6) 125 S6 (fun r9 S8 => if r9 = 0 then Q 0 S8 else ∀ S10, S10 = sI S8 61 (A 6) (fI S8 61 (A 6) - 1) → Q 1 S10)))
    (h0 : ∀ e S1, blk B op p = .error e → CF S S1 A e → Q 0 S1) : wp_X7_block M (A 6) S Q := by
  have hbn := bl_le h.2.2.1 hpn
  unfold wp_X7_block
  refine s_blanks h hp hpn ?_
  refine s_next h.pos fI_pos hbn ?_
  by_cases e : B (bl B p) = 123
  · have hk : blk B op p = if op < 8 then .ok (bl B p + 1) else .error (5, bl B p) := if_pos e
    rw [if_pos e, fI_sn _ _ _ _ _ (by decide), ho]
    by_cases c : op < 8
    · rw [if_pos c] at hk
      rw [if_pos (ltc_yes 8 (by rfl) c (by omega)), nI_1]
      rintro _ rfl
      rw [fI_sn _ _ _ _ _ (by decide), fI_pos, nI_1]
      rintro _ rfl
      exact h1 _ _ hk (((Keep.rf.sI rfl).sI rfl).sI rfl) (by simp only [fI_s, fI_sn, fL_s, fL_sn, aI_w, aI_wn, aL_w, aL_wn, fI_sL, fI_wI, fI_wL, fL_sI, fL_wI, fL_wL, aI_sI, aI_sL, aI_wL, aL_sI, aL_sL, aL_wI, fR_sI, fR_sL, fR_wI, fR_wL, aN_sI, aN_sL, aN_wI, aN_wL, ne_eq, Nat.reduceEqDiff, not_false_eq_true]) (by simp only [fI_s, fI_sn, fL_s, fL_sn, aI_w, aI_wn, aL_w, aL_wn, fI_sL, fI_wI, fI_wL, fL_sI, fL_wI, fL_wL, aI_sI, aI_sL, aI_wL, aL_sI, aL_sL, aL_wI, fR_sI, fR_sL, fR_wI, fR_wL, aN_sI, aN_sL, aN_wI, aN_wL, ne_eq, Nat.reduceEqDiff, not_false_eq_true])
    · rw [if_neg c] at hk
      rw [if_neg (ltc_no 8 (by rfl) (by omega) (by omega))]
      refine ⟨_, h.pos.1.f59, ?_⟩
      rw [fI_pos]
      exact s_tell (h0 _ _ hk (CF.of KL.pos (CF_tell (k := 5))))
  · rw [if_neg e]
    have hk : blk B op p = .error (1, bl B p) := if_neg e
    exact s_refuse h.pos fI_pos (fun S1 h2 => h0 _ _ hk (CF.of KL.pos h2))
end
