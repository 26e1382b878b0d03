/-! What is printed of a score. -/
def chL (f : Nat → Nat) : Nat → List Int32
  | 0 => []
  | k + 1 => chL f k ++ ((if k = 0 then 60 else 32) :: pitL (f k))
def tonL (c : Nat) (f : Nat → Nat) : List Int32 := if c = 0 then [114] else if c = 1 then pitL (f 0) else chL f c ++ [62]
def evL (le pc : Nat → Nat) (cs : Nat → Nat → Nat) (td : Nat → Bool) (e : Nat) : List Int32 := tonL (pc e) (cs e) ++ (58 :: numL (le e)) ++ (if td e = true then [126] else [])
def gpL (l : List Int32) : List Int32 := if l.length = 0 then [] else [32]
def vbL (b : Nat) : List Int32 := if b = 0 then [] else 114 :: 58 :: numL b
def vEv (vo le pc : Nat → Nat) (cs : Nat → Nat → Nat) (td : Nat → Bool) (vb : Nat → Nat) (u : Nat) : Nat → List Int32
  | 0 => vbL (vb u)
  | e + 1 => if vo e = u then vEv vo le pc cs td vb u e ++ gpL (vEv vo le pc cs td vb u e) ++ evL le pc cs td e else vEv vo le pc cs td vb u e
def lsu (vo : Nat → Nat) (wz : Nat → Nat → Nat) (u j : Nat) : Nat → Nat
  | 0 => 0
  | e + 1 => if vo e = u ∧ 0 < wz e j then e + 1 else lsu vo wz u j e
def sbL (w : Nat → Int32) (p : Nat) : Nat → List Int32
  | 0 => []
  | k + 1 => sbL w p k ++ [w (p + k)]
def syL (w : Nat → Int32) (wp wz : Nat → Nat → Nat) (e j : Nat) : List Int32 := if wz e j = 0 then [95] else sbL w (wp e j) (wz e j)
def wdL (vo pc : Nat → Nat) (co : Nat → Bool) (wp wz : Nat → Nat → Nat) (w : Nat → Int32) (u j : Nat) : Nat → List Int32
  | 0 => []
  | e + 1 => if vo e = u ∧ 0 < pc e ∧ co e = false then wdL vo pc co wp wz w u j e ++ gpL (wdL vo pc co wp wz w u j e) ++ syL w wp wz e j else wdL vo pc co wp wz w u j e
def vsL (vo pc : Nat → Nat) (co : Nat → Bool) (wp wz : Nat → Nat → Nat) (w : Nat → Int32) (u j m : Nat) : List Int32 := [87, 32, nI (48 + (j + 1)), 32, 34] ++ wdL vo pc co wp wz w u j m ++ [34]
def vVr (E V : Nat) (vo le pc : Nat → Nat) (cs : Nat → Nat → Nat) (td co : Nat → Bool) (wp wz : Nat → Nat → Nat) (vb : Nat → Nat) (w : Nat → Int32) (u : Nat) : Nat → List Int32
  | 0 => vEv vo le pc cs td vb u E
  | j + 1 => if lsu vo wz u j E = 0 then vVr E V vo le pc cs td co wp wz vb w u j else vVr E V vo le pc cs td co wp wz vb w u j ++ gpL (vVr E V vo le pc cs td co wp wz vb w u j) ++ vsL vo pc co wp wz w u j (lsu vo wz u j E)
def spL (V u : Nat) : List Int32 := if u = 0 then (if 1 < V then [91, 32] else []) else [32, 47, 32]
def toL (E V : Nat) (vo le pc : Nat → Nat) (cs : Nat → Nat → Nat) (td co : Nat → Bool) (wp wz : Nat → Nat → Nat) (vb : Nat → Nat) (w : Nat → Int32) : Nat → List Int32
  | 0 => []
  | u + 1 => toL E V vo le pc cs td co wp wz vb w u ++ (spL V u ++ vVr E V vo le pc cs td co wp wz vb w u 3)
def alL (E V : Nat) (vo le pc : Nat → Nat) (cs : Nat → Nat → Nat) (td co : Nat → Bool) (wp wz : Nat → Nat → Nat) (vb : Nat → Nat) (w : Nat → Int32) : List Int32 := toL E V vo le pc cs td co wp wz vb w V ++ (if 1 < V then [32, 93] else [])
section
variable {S S0 S1 : PS} {A : Nat → Nat} {c0 : Nat} {l l0 lv : List Int32} {k : Nat × Nat}
variable {E V M nd st t n : Nat} {vo ti le pc : Nat → Nat} {cs : Nat → Nat → Nat} {td co : Nat → Bool} {wp wz : Nat → Nat → Nat} {vb mt mu md : Nat → Nat} {od w : Nat → Int32}
theorem gpL_len : (gpL l).length ≤ 1 := by unfold gpL; split <;> decide
theorem q_gap {Q : PS → Prop} (pa : PrA S0 A) (pr : Pc S0 S A c0 (l0 ++ lv)) (hL : (l0 ++ lv ++ gpL lv).length ≤ 40000) (hk : Bu c0 (l0 ++ lv) (l0 ++ lv ++ gpL lv) k) (hQ : ∀ S1, Pc S0 S1 A c0 (l0 ++ lv ++ gpL lv) → Q S1) : wp_X5_putGap (A 4) (nI l0.length) k S Q := by
  have e41 : fI S 41 (A 4) = nI (l0 ++ lv).length := by obtain ⟨P, _, _, h2, _⟩ := pr; exact h2.1
  have el : (l0 ++ lv).length = l0.length + lv.length := List.length_append
  have hb : (l0 ++ lv).length ≤ 40000 := by rw [List.length_append] at hL; omega
  unfold wp_X5_putGap
  rw [e41]
  unfold gpL at hL hk hQ
  by_cases z : lv.length = 0
  · rw [if_pos z] at hQ
    rw [if_pos (nI_le (by omega) (by omega))]
    rw [List.append_nil] at hQ
    exact hQ S pr
  · rw [if_neg z] at hQ hL hk
    rw [if_neg (nI_ge (by omega) (by omega))]
    exact ⟨_, hk.fst (by rw [List.length_append (bs := [32])]; omega) (Nat.le_refl _), q_put pa pr hL Bu.rf (fun S1 _ pr1 => hQ S1 pr1)⟩
theorem q_sound {Q : PS → Prop} {e : Nat} (pa : PrA S0 A) (hc0 : Dcl S0 A E V M nd st t n vo ti le pc cs td co wp wz vb mt mu md od w) (hd : Dok E V M nd st t n vo ti le pc cs td co wp wz vb mt mu md od w) (he : e < E) (pr : Pc S0 S A c0 l) (hL : (l ++ evL le pc cs td e).length ≤ 40000) (hk : Bu c0 l (l ++ evL le pc cs td e) k) (hQ : ∀ S1, Pc S0 S1 A c0 (l ++ evL le pc cs td e) → Q S1) : wp_X5_putSound (A 4) (A 7) (nI e) k S Q := by
  have hE := hd.1.1
  have hD : ∀ {S2 l2}, Pc S0 S2 A c0 l2 → Dcl S2 A E V M nd st t n vo ti le pc cs td co wp wz vb mt mu md od w := fun p => by obtain ⟨P, kw, _⟩ := p; exact hc0.kw pa kw
  obtain ⟨p6, pb⟩ := (hd.2.1 e he).2.1
  have hle := (hd.2.1 e he).1
  have ce : (nI e).toNatClampNeg = e := nI_clamp (by omega)
  have eA : l ++ evL le pc cs td e = l ++ tonL (pc e) (cs e) ++ (58 :: numL (le e)) ++ (if td e = true then [126] else []) := by unfold evL; simp only [List.append_assoc]
  rw [eA] at hL hk hQ
  have q1 : l.length ≤ (l ++ tonL (pc e) (cs e)).length := by rw [List.length_append]; omega
  have q2 : (l ++ tonL (pc e) (cs e)).length ≤ (l ++ tonL (pc e) (cs e) ++ (58 :: numL (le e))).length := by rw [List.length_append (bs := 58 :: numL (le e))]; omega
  have q3 : (l ++ tonL (pc e) (cs e) ++ (58 :: numL (le e))).length ≤ (l ++ tonL (pc e) (cs e) ++ (58 :: numL (le e)) ++ (if td e = true then [126] else [])).length := by rw [List.length_append (bs := if td e = true then [126] else [])]; omega
  unfold wp_X5_putSound
  refine c_pin (hD pr) hd he ?_
  intro K hK
  have fin : ∀ k5 S3, Pc S0 S3 A c0 (l ++ tonL (pc e) (cs e)) → Bu c0 (l ++ tonL (pc e) (cs e)) (l ++ tonL (pc e) (cs e) ++ (58 :: numL (le e)) ++ (if td e = true then [126] else [])) k5 → K k5 S3 := by
    intro k5 S3 pr3 hk3
    have d3 := hD pr3
    apply hK
    refine ⟨_, d3.1.f73, by rw [d3.1.n30]; exact vp_in_nI (by omega) (by omega), _, hk3.fst q2 q3, ?_⟩
    rw [ce, (d3.2.2.1 e he).2.2.1]
    refine q_ticks pa pr3 (by omega) (by omega) Bu.rf (fun S4 pr4 => ?_)
    have d4 := hD pr4
    have hk4 := hk3.snd q2 q3
    refine ⟨_, d4.1.f75, by rw [d4.1.n32]; exact vp_in_nI (by omega) (by omega), ?_⟩
    rw [(d4.2.2.1 e he).2.2.2.2.1, bI_if]
    by_cases z : td e = true
    · rw [if_pos z] at hQ hL hk4 ⊢
      exact ⟨_, hk4.fst (by rw [List.length_append (bs := [126])]; omega) (Nat.le_refl _), q_put pa pr4 hL Bu.rf (fun S5 _ pr5 => hQ S5 pr5)⟩
    · rw [if_neg z] at hQ ⊢
      rw [List.append_nil] at hQ
      exact hQ S4 pr4
  generalize hT : l ++ tonL (pc e) (cs e) ++ (58 :: numL (le e)) ++ (if td e = true then [126] else []) = T at *
  have q4 : (l ++ tonL (pc e) (cs e)).length ≤ T.length := Nat.le_trans q2 q3
  by_cases z0 : pc e = 0
  · rw [if_pos (by rw [z0]; rfl)]
    have et : tonL (pc e) (cs e) = [114] := if_pos z0
    rw [et] at q1 q4 fin
    exact ⟨_, hk.fst q1 q4, q_put pa pr (by omega) Bu.rf (fun S1 _ pr1 => fin _ S1 pr1 (hk.snd q1 q4))⟩
  · rw [if_neg (nI_ne0 (by omega) (by omega))]
    by_cases z1 : pc e = 1
    · rw [if_pos (by rw [z1]; rfl)]
      have et : tonL (pc e) (cs e) = pitL (cs e 0) := by unfold tonL; rw [if_neg z0, if_pos z1]
      rw [et] at q1 q4 fin
      refine c_code (k := 0) (hD pr) hd he (by omega) ?_
      exact ⟨_, hk.fst q1 q4, q_pitch pa pr (pb 0 (by omega)) (by omega) Bu.rf (fun S1 pr1 => fin _ S1 pr1 (hk.snd q1 q4))⟩
    · rw [if_neg (by rw [show (1 : Int32) = nI 1 from rfl, nI_eq (by omega) (by omega)]; exact z1)]
      have et : tonL (pc e) (cs e) = chL (cs e) (pc e) ++ [62] := by unfold tonL; rw [if_neg z0, if_neg z1]
      rw [et] at q1 q4 fin
      have cl : ∀ i, 1 ≤ i → i ≤ pc e → (l ++ [60]).length ≤ (l ++ chL (cs e) i).length ∧ (l ++ chL (cs e) i).length ≤ (l ++ chL (cs e) (pc e)).length := by
        have mono : ∀ j i, (chL (cs e) i).length ≤ (chL (cs e) (i + j)).length := by
          intro j
          induction j with
          | zero => intro i; exact Nat.le_refl _
          | succ j ih => intro i; have := ih i; rw [show i + (j + 1) = i + j + 1 by omega, chL, List.length_append]; omega
        intro i h1 h2
        have m1 := mono (i - 1) 1
        have m2 := mono (pc e - i) i
        rw [show 1 + (i - 1) = i by omega] at m1
        rw [show i + (pc e - i) = pc e by omega] at m2
        have m3 : 1 ≤ (chL (cs e) 1).length := by rw [chL, List.length_append, List.length_cons]; omega
        simp only [List.length_append, List.length_cons, List.length_nil]
        omega
      have qf : (l ++ chL (cs e) (pc e)).length ≤ (l ++ (chL (cs e) (pc e) ++ [62])).length := by simp only [List.length_append]; omega
      have q0 : l.length ≤ (l ++ [60]).length := by rw [List.length_append]; omega
      have q5 : (l ++ [60]).length ≤ T.length := by have := (cl (pc e) (by omega) (by omega)).1; omega
      refine ⟨_, hk.fst q0 q5, q_put pa pr (by omega) Bu.rf (fun S1 _ pr1 => ?_)⟩
      have hk1 := hk.snd q0 q5
      intro P hP
      have key : ∀ j i k S2, i + j = pc e → Pc S0 S2 A c0 (if i = 0 then l ++ [60] else l ++ chL (cs e) i) → Bu c0 (if i = 0 then l ++ [60] else l ++ chL (cs e) i) T k → P (nI i) k S2 := by
        intro j
        induction j with
        | zero =>
          intro i k S2 hi pr2 hk2
          have ei : i = pc e := by omega
          subst ei
          rw [if_neg (by omega)] at pr2 hk2
          apply hP
          rw [if_pos (nI_le (by omega) (by omega))]
          have ea : l ++ chL (cs e) (pc e) ++ [62] = l ++ (chL (cs e) (pc e) ++ [62]) := List.append_assoc _ _ _
          have r1 : (l ++ chL (cs e) (pc e)).length ≤ (l ++ chL (cs e) (pc e) ++ [62]).length := by rw [ea]; exact qf
          have r2 : (l ++ chL (cs e) (pc e) ++ [62]).length ≤ T.length := by rw [ea]; exact q4
          refine ⟨_, hk2.fst r1 r2, q_put pa pr2 (by omega) Bu.rf (fun S3 _ pr3 => ?_)⟩
          have hk3 := hk2.snd r1 r2
          rw [ea] at pr3
          replace hk3 := hk3.ca ea
          exact fin _ S3 pr3 hk3
        | succ j ih =>
          intro i k S2 hi pr2 hk2
          apply hP
          rw [if_neg (nI_ge (by omega) (by omega))]
          intro K2 hK2
          -- a pitch behind what separates it
          have pit : ∀ k3 S3 l3, Pc S0 S3 A c0 l3 → l3 ++ pitL (cs e i) = l ++ chL (cs e) (i + 1) → Bu c0 l3 T k3 → K2 k3 S3 := by
            intro k3 S3 l3 pr3 e3 hk3
            apply hK2
            refine c_code (k := i) (hD pr3) hd he (by omega) ?_
            have w1 : l3.length ≤ (l3 ++ pitL (cs e i)).length := by rw [List.length_append]; omega
            have w2 : (l3 ++ pitL (cs e i)).length ≤ T.length := by rw [e3]; have := (cl (i + 1) (by omega) (by omega)).2; omega
            refine ⟨_, hk3.fst w1 w2, q_pitch pa pr3 (pb i (by omega)) (by omega) Bu.rf (fun S4 pr4 => ?_)⟩
            have hk4 := hk3.snd w1 w2
            rintro _ rfl
            rw [nI_1]
            rw [e3] at pr4
            replace hk4 := hk4.ca e3
            refine ih (i + 1) _ S4 (by omega) ?_ ?_
            · rw [if_neg (by omega)]; exact pr4
            · rw [if_neg (by omega)]; exact hk4
          by_cases zi : i = 0
          · subst zi
            rw [if_pos rfl] at pr2 hk2
            rw [if_pos (by decide)]
            exact pit k S2 _ pr2 (by rw [chL, chL, List.append_assoc]; rfl) hk2
          · rw [if_neg zi] at pr2 hk2
            rw [if_neg (nI_nle (by omega) (by omega))]
            have w1 : (l ++ chL (cs e) i).length ≤ (l ++ chL (cs e) i ++ [32]).length := by rw [List.length_append (bs := [32])]; omega
            have e3 : l ++ chL (cs e) i ++ [32] ++ pitL (cs e i) = l ++ chL (cs e) (i + 1) := by
              rw [chL, if_neg zi]; simp only [List.append_assoc]; rfl
            have w2 : (l ++ chL (cs e) i ++ [32]).length ≤ T.length := by
              have h1 := (cl (i + 1) (by omega) (by omega)).2
              have h2 : (l ++ chL (cs e) i ++ [32]).length ≤ (l ++ chL (cs e) i ++ [32] ++ pitL (cs e i)).length := by rw [List.length_append (bs := pitL (cs e i))]; omega
              rw [e3] at h2
              omega
            exact ⟨_, hk2.fst w1 w2, q_put pa pr2 (by omega) Bu.rf (fun S3 _ pr3 => pit _ S3 _ pr3 e3 (hk2.snd w1 w2))⟩
      exact key (pc e) 0 _ S1 (by omega) (by rw [if_pos rfl]; exact pr1) (by rw [if_pos rfl]; exact hk1)
end
