/-! The class's read begins. -/
def RdK (a : Nat) (k : Nat × Nat) (Q : Int32 → PS → Prop) (S9 : PS) : Prop :=
  (∃ b10, fR S9 91 a = some b10 ∧ wp_X7_readText b10 S9 (fun (r12 : Int32) (S11 : PS) => 
 (∀ K61_14 : Nat × Nat → PS → Prop, (∀ (k15 : Nat × Nat) (S13 : PS),
 (∃ b16, fR S13 89 a = some b16 ∧ Q ((-1000) - (fI S13 1 b16)) S13)
 → K61_14 k15 S13) →
 (if r12 = 0 then
 K61_14 k S11
 else
 (∃ b17, fR S11 92 a = some b17 ∧ (∃ b18, fR S11 95 a = some b18 ∧ (∃ k21 : Nat × Nat, (k21.1 ≤ k.1 ∧ k21.2 ≤ k.2) ∧ wp_X3_perform b17 b18 k21 S11 (fun (r20 : Int32) (S19 : PS) => 
 (if r20 = 0 then
 K61_14 (k.1 - k21.1, k.2 - k21.2) S19
 else
 (∃ b22, fR S19 94 a = some b22 ∧ (∃ b23, fR S19 95 a = some b23 ∧ (∀ S24, S24 = sR S19 94 a (some b23) → (∀ S25, S25 = sR S24 95 a (some b22) → (∃ b26, fR S25 94 a = some b26 ∧ Q (fI S25 70 b26) S25))))))))))))))
section
variable {S S1 S2 : PS} {A : Nat → Nat} {n : Nat} {k : Nat × Nat}
def LayO (S : PS) (A : Nat → Nat) : Prop := fR S 87 (A 8) = some (A 39) ∧ fR S 89 (A 8) = some (A 0) ∧ fR S 90 (A 8) = some (A 5) ∧ fR S 91 (A 8) = some (A 6) ∧ fR S 92 (A 8) = some (A 3) ∧ fR S 95 (A 8) = some (A 7) ∧ aN S (A 39) = 1500
def LayC0 (S : PS) (A : Nat → Nat) : Prop := (∀ t, t ∈ LayCf → t.1 ≠ 43 → fR S t.1 (A t.2.1) = some (A t.2.2)) ∧ ∀ t, t ∈ LayCn → aN S (A t.1) = t.2
def SW2 (A : Nat → Nat) (b : Nat) : Prop := SW A b ∨ b = A 5 ∨ b = A 8
theorem s_rd0 {Q : Int32 → PS → Prop} (lo : LayO S A) (lc : LayC0 S A) (ls : LayS S A) (h88 : fI S 88 (A 8) = nI n) (hn : n ≤ 1500) (hby : ∀ q, q < n → Byt (aI S 39 (A 39) q))
    (hQ : ∀ S9, Kws (SW2 A) S S9 → LayO S9 A → LayS S9 A → CT S9 A (Bof (aI S 39 (A 39)) n) n → Clr S9 A → (fI S9 45 (A 5) = 0 ∧ fI S9 53 (A 5) = 0 ∧ fI S9 54 (A 5) = 0 ∧ fI S9 88 (A 8) = 0) → (∀ j b, ¬ (j = 43 ∧ b = A 5) → fR S9 j b = fR S j b) → aR S9 = aR S → RdK (A 8) k Q S9) : wp_X11_read (A 8) k S Q := by
  obtain ⟨o1, o2, o3, o4, o5, o6, o7⟩ := lo
  unfold wp_X11_read
  rintro _ rfl _ rfl
  rw [h88]
  have w0 : ∀ {r : Nat}, SW2 A (A 8) ∨ A 8 ∉ pL S := fun {_} => Or.inl (Or.inr (Or.inr rfl))
  refine ⟨_, o6, _, o1, ?_⟩
  refine s_clear8 (S := sI S 88 (A 8) 0) (ls.st rfl) o7 hn (fun q hq => (hby q hq).fits) (fun S5 kw5 k5 cl _ t5 => ?_)
  have fR5 : fR S5 = fR S := St.fR k5.1
  have aN5 : aN S5 = aN S := St.aN k5.1
  refine ⟨_, by rw [fR5]; exact o3, _, by rw [fR5]; exact o6, _, by rw [fR5]; exact ls.f69, ?_⟩
  unfold wp_X6_clear
  rintro _ rfl _ rfl _ rfl _ rfl _ rfl
  have kk : Kws (SW2 A) S S5 := (Kws.rf.sI (w0 (r := 0))).tr (kw5.mono (fun b z => Or.inl z))
  have w5 : SW2 A (A 5) ∨ A 5 ∉ pL S := Or.inl (Or.inr (Or.inl rfl))
  have fr9 : ∀ j b, ¬ (j = 43 ∧ b = A 5) → fR (sI (sI (sI (sI (sR S5 43 (A 5) (some (A 27))) 44 (A 5) (nI n)) 45 (A 5) 0) 53 (A 5) 0) 54 (A 5) 0) j b = fR S j b := fun j b z => by
    show fR (sR S5 43 (A 5) (some (A 27))) j b = _
    rw [fR_sR, if_neg z, fR5]
  have fo9 : ∀ j b, j ≠ 43 → fR (sI (sI (sI (sI (sR S5 43 (A 5) (some (A 27))) 44 (A 5) (nI n)) 45 (A 5) 0) 53 (A 5) 0) 54 (A 5) 0) j b = fR S j b := fun j b z => fr9 j b (fun y => z y.1)
  have l43 : fR (sI (sI (sI (sI (sR S5 43 (A 5) (some (A 27))) 44 (A 5) (nI n)) 45 (A 5) 0) 53 (A 5) 0) 54 (A 5) 0) 43 (A 5) = some (A 27) := by
    show fR (sR S5 43 (A 5) (some (A 27))) 43 (A 5) = _
    rw [fR_sR, if_pos ⟨rfl, rfl⟩]
  have an9 : aN (sI (sI (sI (sI (sR S5 43 (A 5) (some (A 27))) 44 (A 5) (nI n)) 45 (A 5) 0) 53 (A 5) 0) 54 (A 5) 0) = aN S := aN5
  have no43 : ∀ t, t ∈ LaySf → t.1 ≠ 43 := by decide
  have is43 : ∀ t, t ∈ LayCf → t.1 = 43 → t = (43, 5, 27) := by decide
  refine hQ _ (((((kk.sR w5).sI w5).sI w5).sI w5).sI w5) ⟨?_, ?_, ?_, ?_, ?_, ?_, ?_⟩ ⟨fun t ht => ?_, fun t ht => ?_⟩ (Bof.ct ⟨fun t ht => ?_, fun t ht => ?_⟩ (by simp only [fI_s, fI_sn, fL_s, fL_sn, aI_w, aI_wn, aL_w, aL_wn, fI_sL, fI_wI, fI_wL, fL_sI, fL_wI, fL_wL, aI_sI, aI_sL, aI_wL, aL_sI, aL_sL, aL_wI, fR_sI, fR_sL, fR_wI, fR_wL, aN_sI, aN_sL, aN_wI, aN_wL, ne_eq, Nat.reduceEqDiff, not_false_eq_true]) hn hby (fun q hq => ?_)) ?_ ⟨?_, ?_, ?_, ?_⟩ fr9 ?_
  · rw [fo9 _ _ (by decide)]; exact o1
  · rw [fo9 _ _ (by decide)]; exact o2
  · rw [fo9 _ _ (by decide)]; exact o3
  · rw [fo9 _ _ (by decide)]; exact o4
  · rw [fo9 _ _ (by decide)]; exact o5
  · rw [fo9 _ _ (by decide)]; exact o6
  · rw [an9]; exact o7
  · rw [fo9 _ _ (no43 t ht)]; exact ls.1 t ht
  · rw [an9]; exact ls.2 t ht
  · by_cases z : t.1 = 43
    · rw [is43 t ht z]; exact l43
    · rw [fo9 _ _ z]; exact lc.1 t ht z
  · rw [an9]; exact lc.2 t ht
  · show aI S5 27 (A 27) q = _
    exact t5 q hq
  · refine cl.eq ⟨?_, ?_, fun r _ _ => ⟨rfl, rfl⟩⟩ ⟨?_, fun r _ _ => ⟨rfl, rfl⟩⟩
    · simp only [fI_s, fI_sn, fL_s, fL_sn, aI_w, aI_wn, aL_w, aL_wn, fI_sL, fI_wI, fI_wL, fL_sI, fL_wI, fL_wL, aI_sI, aI_sL, aI_wL, aL_sI, aL_sL, aL_wI, fR_sI, fR_sL, fR_wI, fR_wL, aN_sI, aN_sL, aN_wI, aN_wL, ne_eq, Nat.reduceEqDiff, not_false_eq_true]; rfl
    · simp only [fI_s, fI_sn, fL_s, fL_sn, aI_w, aI_wn, aL_w, aL_wn, fI_sL, fI_wI, fI_wL, fL_sI, fL_wI, fL_wL, aI_sI, aI_sL, aI_wL, aL_sI, aL_sL, aL_wI, fR_sI, fR_sL, fR_wI, fR_wL, aN_sI, aN_sL, aN_wI, aN_wL, ne_eq, Nat.reduceEqDiff, not_false_eq_true]; rfl
    · simp only [fI_s, fI_sn, fL_s, fL_sn, aI_w, aI_wn, aL_w, aL_wn, fI_sL, fI_wI, fI_wL, fL_sI, fL_wI, fL_wL, aI_sI, aI_sL, aI_wL, aL_sI, aL_sL, aL_wI, fR_sI, fR_sL, fR_wI, fR_wL, aN_sI, aN_sL, aN_wI, aN_wL, ne_eq, Nat.reduceEqDiff, not_false_eq_true]; rfl
  · simp only [fI_s, fI_sn, fL_s, fL_sn, aI_w, aI_wn, aL_w, aL_wn, fI_sL, fI_wI, fI_wL, fL_sI, fL_wI, fL_wL, aI_sI, aI_sL, aI_wL, aL_sI, aL_sL, aL_wI, fR_sI, fR_sL, fR_wI, fR_wL, aN_sI, aN_sL, aN_wI, aN_wL, ne_eq, Nat.reduceEqDiff, not_false_eq_true]
  · simp only [fI_s, fI_sn, fL_s, fL_sn, aI_w, aI_wn, aL_w, aL_wn, fI_sL, fI_wI, fI_wL, fL_sI, fL_wI, fL_wL, aI_sI, aI_sL, aI_wL, aL_sI, aL_sL, aL_wI, fR_sI, fR_sL, fR_wI, fR_wL, aN_sI, aN_sL, aN_wI, aN_wL, ne_eq, Nat.reduceEqDiff, not_false_eq_true]
  · simp only [fI_s, fI_sn, fL_s, fL_sn, aI_w, aI_wn, aL_w, aL_wn, fI_sL, fI_wI, fI_wL, fL_sI, fL_wI, fL_wL, aI_sI, aI_sL, aI_wL, aL_sI, aL_sL, aL_wI, fR_sI, fR_sL, fR_wI, fR_wL, aN_sI, aN_sL, aN_wI, aN_wL, ne_eq, Nat.reduceEqDiff, not_false_eq_true]
  · simp only [fI_s, fI_sn, fL_s, fL_sn, aI_w, aI_wn, aL_w, aL_wn, fI_sL, fI_wI, fI_wL, fL_sI, fL_wI, fL_wL, aI_sI, aI_sL, aI_wL, aL_sI, aL_sL, aL_wI, fR_sI, fR_sL, fR_wI, fR_wL, aN_sI, aN_sL, aN_wI, aN_wL, ne_eq, Nat.reduceEqDiff, not_false_eq_true]
    show fI S5 88 (A 8) = 0
    rw [(k5.2.1 88 rfl).1]; simp only [fI_s, fI_sn, fL_s, fL_sn, aI_w, aI_wn, aL_w, aL_wn, fI_sL, fI_wI, fI_wL, fL_sI, fL_wI, fL_wL, aI_sI, aI_sL, aI_wL, aL_sI, aL_sL, aL_wI, fR_sI, fR_sL, fR_wI, fR_wL, aN_sI, aN_sL, aN_wI, aN_wL, ne_eq, Nat.reduceEqDiff, not_false_eq_true]
  · have z : aR S5 = aR (sI S 88 (A 8) 0) := St.aR k5.1
    exact z
end
