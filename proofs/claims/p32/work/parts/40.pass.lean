/-! a step of the yard: days that pass -/
def pB (D Z8 : Int32) : Int32 := if Z8 ≤ D then 0 else Z8 - D
def pY (D F8 : Int32) : Int32 := if 0 < F8 - D then F8 - D else 0
theorem law_pass {x y w8 w7 D : Int32} {ω : WS} {g t r : Nat → Int32} : ∀ d u f, u + d = 6 → ∀ b : Nat → Int32, ∃ b' : Nat → Int32, mL_yard_L909 x y D w8 w7 (d + 1 + f) (ω, (g, b, t, r)) (nI u) = (if (mX3_pass ω D).1 = mL_tide (g, b', t, r) (g 0) then (1, ((mX3_pass ω D).2, (g, b', t, r))) else (0, ((mX3_pass ω D).2, (g, b', t, r)))) ∧
    ∀ j, j < 6 → ∀ w, w < 10 → BB b' j w = if u ≤ j ∧ ¬ BB b j 0 = 0 ∧ 0 ≤ BB b j 5 then (if w = 9 then BB b j 9 + D else if w = 8 then pB D (BB b j 8) else BB b j w) else BB b j w := by
  intro d
  induction d with
  | zero =>
    intro u f hu b
    refine ⟨b, ?_, fun j hj w hw => ?_⟩
    · rw [show 0 + 1 + f = f + 1 by omega, show u = 6 by omega, mL_yard_L909, if_pos e6]
      rfl
    · rw [if_neg (fun z => by omega)]
  | succ d ih =>
    intro u f hu b
    have hu6 : u < 6 := by omega
    rw [show d + 1 + 1 + f = (d + 1 + f) + 1 by omega, mL_yard_L909, if_neg (n6 hu6), lo0 hu6, lo5 hu6, nI1]
    by_cases h0 : BB b u 0 = 0
    · obtain ⟨b', e1, e2⟩ := ih (u + 1) f (by omega) b
      refine ⟨b', ?_, fun j hj w hw => ?_⟩
      · rw [if_pos (show BB (L_b ((ω, (g, b, t, r)) : VS).2) u 0 = 0 from h0)]
        exact e1
      · rw [e2 j hj w hw]
        by_cases c : j = u
        · rw [if_neg (fun z => by omega), if_neg (fun z => z.2.1 (by rw [c]; exact h0))]
        · have : (u + 1 ≤ j) ↔ (u ≤ j) := by omega
          simp only [this]
    · by_cases h5 : 0 ≤ BB b u 5
      · have i9 : ((10 * nI u) + 9).toNatClampNeg = 10 * u + 9 := ixb (w := 9) hu6 (by decide)
        have i8 : ((10 * nI u) + 8).toNatClampNeg = 10 * u + 8 := ixb (w := 8) hu6 (by decide)
        obtain ⟨b', e1, e2⟩ := ih (u + 1) f (by omega) (upd (upd b (10 * u + 9) (BB b u 9 + D)) (10 * u + 8) (pB D (BB b u 8)))
        have hB : ∀ j w, w < 10 → BB (upd (upd b (10 * u + 9) (BB b u 9 + D)) (10 * u + 8) (pB D (BB b u 8))) j w = if j = u ∧ w = 8 then pB D (BB b u 8) else if j = u ∧ w = 9 then BB b u 9 + D else BB b j w := fun j w hw => by
          rw [BB_upd (by decide) hw, BB_upd (by decide) hw]
        refine ⟨b', ?_, fun j hj w hw => ?_⟩
        · rw [if_neg (show ¬ BB (L_b ((ω, (g, b, t, r)) : VS).2) u 0 = 0 from h0), if_pos (show 0 ≤ BB (L_b ((ω, (g, b, t, r)) : VS).2) u 5 from h5), i9, i8, lo8 hu6]
          have e8 : BB (L_b ((L_g ((ω, (g, b, t, r)) : VS).2, upd (L_b ((ω, (g, b, t, r)) : VS).2) (10 * u + 9) (L_b ((ω, (g, b, t, r)) : VS).2 (10 * u + 9) + D), L_t ((ω, (g, b, t, r)) : VS).2, L_r ((ω, (g, b, t, r)) : VS).2) : LAS)) u 8 = BB b u 8 := by
            show BB (upd b (10 * u + 9) (BB b u 9 + D)) u 8 = _
            rw [BB_upd (by decide) (by decide), if_neg (fun z => absurd z.2 (by decide))]
          rw [e8]
          exact e1
        · rw [e2 j hj w hw]
          by_cases c : j = u
          · subst c
            rw [if_neg (fun z => by omega), if_pos ⟨Nat.le_refl j, h0, h5⟩, hB j w hw]
            by_cases c8 : w = 8
            · rw [if_pos ⟨rfl, c8⟩, if_neg (by omega), if_pos c8]
            · rw [if_neg (fun z => c8 z.2)]
              by_cases c9 : w = 9
              · rw [if_pos ⟨rfl, c9⟩, if_pos c9]
              · rw [if_neg (fun z => c9 z.2), if_neg c9, if_neg c8]
          · have hj : ∀ w, w < 10 → BB (upd (upd b (10 * u + 9) (BB b u 9 + D)) (10 * u + 8) (pB D (BB b u 8))) j w = BB b j w := fun w hw => by
              rw [hB j w hw, if_neg (fun z => c z.1), if_neg (fun z => c z.1)]
            rw [hj 0 (by decide), hj 5 (by decide), hj 9 (by decide), hj 8 (by decide), hj w hw]
            have : (u + 1 ≤ j) ↔ (u ≤ j) := by omega
            simp only [this]
      · obtain ⟨b', e1, e2⟩ := ih (u + 1) f (by omega) b
        refine ⟨b', ?_, fun j hj w hw => ?_⟩
        · rw [if_neg (show ¬ BB (L_b ((ω, (g, b, t, r)) : VS).2) u 0 = 0 from h0), if_neg (show ¬ 0 ≤ BB (L_b ((ω, (g, b, t, r)) : VS).2) u 5 from h5)]
          exact e1
        · rw [e2 j hj w hw]
          by_cases c : j = u
          · rw [if_neg (fun z => by omega), if_neg (fun z => h5 (by rw [← c]; exact z.2.2))]
          · have : (u + 1 ≤ j) ↔ (u ≤ j) := by omega
            simp only [this]
theorem cls_pass {D : Int32} : ∀ d u f, u + d = 20 → ∀ Y : YS, ∃ Y', mX2_letPass_L45 D (d + 1 + f) Y (nI u) = (mX2_tideOn Y' (Y_day Y'), Y') ∧ Y'.2 = Y.2 ∧ ∀ j, j < 20 → ∀ w, w < 11 → FY Y' j w = if u ≤ j ∧ ¬ FY Y j 4 = -5 then (if w = 9 then FY Y j 9 + D else if w = 8 then pY D (FY Y j 8) else FY Y j w) else FY Y j w := by
  intro d
  induction d with
  | zero =>
    intro u f hu Y
    refine ⟨Y, ?_, rfl, fun j hj w hw => ?_⟩
    · rw [show 0 + 1 + f = f + 1 by omega, show u = 20 by omega, mX2_letPass_L45, if_pos e20]
    · rw [if_neg (fun z => by omega)]
  | succ d ih =>
    intro u f hu Y
    have hu20 : u < 20 := by omega
    rw [show d + 1 + 1 + f = (d + 1 + f) + 1 by omega, mX2_letPass_L45, if_neg (i20 hu20), nI1]
    unfold mX2_isAshore
    rw [fa4 hu20]
    by_cases h4 : FY Y u 4 = -5
    · obtain ⟨Y', e1, e2, e3⟩ := ih (u + 1) f (by omega) Y
      refine ⟨Y', ?_, e2, fun j hj w hw => ?_⟩
      · rw [if_pos h4, if_pos rfl]
        exact e1
      · rw [e3 j hj w hw]
        by_cases c : j = u
        · rw [if_neg (fun z => by omega), if_neg (fun z => z.2 (by rw [c]; exact h4))]
        · have : (u + 1 ≤ j) ↔ (u ≤ j) := by omega
          simp only [this]
    · rw [if_neg h4, if_neg one0, fa9 hu20]
      have x8 : mX2_fact (mX2_note Y (nI u) 9 (FY Y u 9 + D)) (nI u) 8 = FY Y u 8 := by
        rw [fa8 hu20, fn9 hu20 (by decide), if_neg (fun c => absurd c.2 (by decide))]
      rw [x8]
      obtain ⟨Y', e1, e2, e3⟩ := ih (u + 1) f (by omega) (mX2_note (mX2_note Y (nI u) 9 (FY Y u 9 + D)) (nI u) 8 (pY D (FY Y u 8)))
      have hF : ∀ j w, w < 11 → FY (mX2_note (mX2_note Y (nI u) 9 (FY Y u 9 + D)) (nI u) 8 (pY D (FY Y u 8))) j w = if j = u ∧ w = 8 then pY D (FY Y u 8) else if j = u ∧ w = 9 then FY Y u 9 + D else FY Y j w := fun j w hw => by
        rw [fn8 hu20 hw, fn9 hu20 hw]
      refine ⟨Y', e1, e2, fun j hj w hw => ?_⟩
      rw [e3 j hj w hw]
      by_cases c : j = u
      · subst c
        rw [if_neg (fun z => by omega), if_pos ⟨Nat.le_refl j, h4⟩, hF j w hw]
        by_cases c8 : w = 8
        · rw [if_pos ⟨rfl, c8⟩, if_neg (by omega), if_pos c8]
        · rw [if_neg (fun z => c8 z.2)]
          by_cases c9 : w = 9
          · rw [if_pos ⟨rfl, c9⟩, if_pos c9]
          · rw [if_neg (fun z => c9 z.2), if_neg c9, if_neg c8]
      · have hj : ∀ w, w < 11 → FY (mX2_note (mX2_note Y (nI u) 9 (FY Y u 9 + D)) (nI u) 8 (pY D (FY Y u 8))) j w = FY Y j w := fun w hw => by
          rw [hF j w hw, if_neg (fun z => c z.1), if_neg (fun z => c z.1)]
        rw [hj 4 (by decide), hj 9 (by decide), hj 8 (by decide), hj w hw]
        have : (u + 1 ≤ j) ↔ (u ≤ j) := by omega
        simp only [this]
section YP
variable {σ : VS} {T : Nat} {n : Nat → Nat} {q : Nat → Nat → Nat}
theorem g_pass (h : RelQ (W_yard σ.1) σ.2 T n q) (hh : HOK (W_hist σ.1)) (hT : T < 100) (x y : Int32) : Good (mL_yard_J873 σ x y) (T + 1) := by
  unfold mL_yard_J873
  have hD : 1 ≤ (1 + mL_low y (if (y &&& 64) = 0 then 5 else 40)).toInt ∧ (1 + mL_low y (if (y &&& 64) = 0 then 5 else 40)).toInt ≤ 40 := by
    have s1 := c_low (x := y) (k := 5) (m := 5) (c := 1) (z := 1) rfl (by decide) (by decide) rfl (by decide)
    have s2 := c_low (x := y) (k := 40) (m := 40) (c := 1) (z := 1) rfl (by decide) (by decide) rfl (by decide)
    split
    · exact ⟨s1.1, by omega⟩
    · exact ⟨s2.1, by omega⟩
  generalize 1 + mL_low y (if (y &&& 64) = 0 then 5 else 40) = D at *
  have hd := h.1.1.2
  have eD : (L_g σ.2 0 + D).toInt = (L_g σ.2 0).toInt + D.toInt := ti_add (by omega) (by omega)
  obtain ⟨b', l1, l2⟩ := law_pass (x := x) (y := y) (w8 := mL_low y 6) (w7 := mL_low x 9) (D := D) (ω := σ.1) (g := upd (upd (L_g σ.2) 0 (L_g σ.2 0 + D)) 1 0) (t := L_t σ.2) (r := L_r σ.2) 6 0 1 (by decide) (L_b σ.2)
  obtain ⟨Y', c1, c2, c3⟩ := cls_pass (D := D) 20 0 1 (by decide) (Y_set_liftsToday (Y_set_day (W_yard σ.1) (Y_day (W_yard σ.1) + D)) 0)
  have hF : ∀ j, j < 20 → ∀ w, w < 11 → FY Y' j w = if ¬ FY (W_yard σ.1) j 4 = -5 then (if w = 9 then FY (W_yard σ.1) j 9 + D else if w = 8 then pY D (FY (W_yard σ.1) j 8) else FY (W_yard σ.1) j w) else FY (W_yard σ.1) j w := fun j hj w hw => by
    rw [c3 j hj w hw]
    show (if 0 ≤ j ∧ ¬ FY (W_yard σ.1) j 4 = -5 then (if w = 9 then FY (W_yard σ.1) j 9 + D else if w = 8 then pY D (FY (W_yard σ.1) j 8) else FY (W_yard σ.1) j w) else FY (W_yard σ.1) j w) = _
    simp only [Nat.zero_le, true_and]
  have hB : ∀ j, j < 6 → ∀ w, w < 10 → BB b' j w = if ¬ BB (L_b σ.2) j 0 = 0 ∧ 0 ≤ BB (L_b σ.2) j 5 then (if w = 9 then BB (L_b σ.2) j 9 + D else if w = 8 then pB D (BB (L_b σ.2) j 8) else BB (L_b σ.2) j w) else BB (L_b σ.2) j w := fun j hj w hw => by
    rw [l2 j hj w hw]
    simp only [Nat.zero_le, true_and]
  have hcol : ∀ j, j < 6 → ∀ w, w < 10 → w ≠ 8 → w ≠ 9 → BB b' j w = BB (L_b σ.2) j w := fun j hj w hw n8 n9 => by
    rw [hB j hj w hw, if_neg n9, if_neg n8]
    split <;> rfl
  have hcolF : ∀ j, j < 20 → ∀ w, w < 11 → w ≠ 8 → w ≠ 9 → FY Y' j w = FY (W_yard σ.1) j w := fun j hj w hw n8 n9 => by
    rw [hF j hj w hw, if_neg n9, if_neg n8]
    split <;> rfl
  have hQ : RelQ Y' (upd (upd (L_g σ.2) 0 (L_g σ.2 0 + D)) 1 0, b', L_t σ.2, L_r σ.2) (T + 1) n q := by
    refine ⟨?_, h.2.1, ⟨fun k hk => ?_, fun j a b w hw => ?_, ?_, ?_⟩, by omega⟩
    · obtain ⟨⟨a1, a2, a3⟩, ⟨b1, b2, b3⟩, c, d, e, f⟩ := h.1
      have g0 : ∀ i, i ≠ 0 → i ≠ 1 → upd (upd (L_g σ.2) 0 (L_g σ.2 0 + D)) 1 0 i = L_g σ.2 i := fun i h0 h1 => by rw [upd_ne h1, upd_ne h0]
      have d1 : Y_day Y' = L_g σ.2 0 + D := by
        have : Y_day Y' = Y_day (W_yard σ.1) + D := congrArg (·.2.2.2.1) c2
        rw [this, a1]
      have d2 : Y_liftsToday Y' = 0 := congrArg (·.2.2.2.2.1) c2
      have d3 : Y_lifts Y' = Y_lifts (W_yard σ.1) := congrArg (·.2.2.2.2.2.1) c2
      have d4 : Y_launches Y' = Y_launches (W_yard σ.1) := congrArg (·.2.2.2.2.2.2) c2
      have d5 : Y_settings Y' = Y_settings (W_yard σ.1) := congrArg (·.2.2.1) c2
      have d6 : Y_cradles Y' = Y_cradles (W_yard σ.1) := congrArg (·.1) c2
      have d7 : Y_metres Y' = Y_metres (W_yard σ.1) := congrArg (·.2.1) c2
      have u0 : upd (upd (L_g σ.2) 0 (L_g σ.2 0 + D)) 1 0 0 = L_g σ.2 0 + D := by rw [upd_ne (by decide), upd_same]
      have u1 : upd (upd (L_g σ.2) 0 (L_g σ.2 0 + D)) 1 0 1 = 0 := upd_same
      refine ⟨⟨d1.trans u0.symm, ?_, ?_⟩, ⟨d2.trans u1.symm, ?_, ?_⟩, ⟨?_, ?_⟩, ⟨fun j hj => ?_, ?_, ?_, ?_⟩, fun j hj => ?_, fun j hj => ?_⟩
      · show 0 ≤ (upd (upd (L_g σ.2) 0 (L_g σ.2 0 + D)) 1 0 0).toInt
        rw [u0, eD]; omega
      · show (upd (upd (L_g σ.2) 0 (L_g σ.2 0 + D)) 1 0 0).toInt ≤ _
        rw [u0, eD]; omega
      · show 0 ≤ (upd (upd (L_g σ.2) 0 (L_g σ.2 0 + D)) 1 0 1).toInt
        rw [u1]; decide
      · show (upd (upd (L_g σ.2) 0 (L_g σ.2 0 + D)) 1 0 1).toInt ≤ _
        rw [u1]; show (0 : Int) ≤ _; omega
      · rw [d3, c.1]; exact (g0 5 (by decide) (by decide)).symm
      · rw [d4, c.2]; exact (g0 6 (by decide) (by decide)).symm
      · rw [d5, d.1 j hj]; exact (g0 (2 + j) (by omega) (by omega)).symm
      · show 0 ≤ (upd (upd (L_g σ.2) 0 (L_g σ.2 0 + D)) 1 0 2).toInt ∧ (upd (upd (L_g σ.2) 0 (L_g σ.2 0 + D)) 1 0 2).toInt ≤ 9
        rw [g0 2 (by decide) (by decide)]; exact d.2.1
      · show 1 ≤ (upd (upd (L_g σ.2) 0 (L_g σ.2 0 + D)) 1 0 3).toInt ∧ (upd (upd (L_g σ.2) 0 (L_g σ.2 0 + D)) 1 0 3).toInt ≤ 9
        rw [g0 3 (by decide) (by decide)]; exact d.2.2.1
      · show 1 ≤ (upd (upd (L_g σ.2) 0 (L_g σ.2 0 + D)) 1 0 4).toInt ∧ (upd (upd (L_g σ.2) 0 (L_g σ.2 0 + D)) 1 0 4).toInt ≤ 30
        rw [g0 4 (by decide) (by decide)]; exact d.2.2.2
      · show Y_cradles Y' j = upd (upd (L_g σ.2) 0 (L_g σ.2 0 + D)) 1 0 (7 + j) ∧ 0 ≤ (upd (upd (L_g σ.2) 0 (L_g σ.2 0 + D)) 1 0 (7 + j)).toInt ∧ (upd (upd (L_g σ.2) 0 (L_g σ.2 0 + D)) 1 0 (7 + j)).toInt ≤ 9
        rw [g0 (7 + j) (by omega) (by omega), d6]; exact e j hj
      · show Y_metres Y' j = upd (upd (L_g σ.2) 0 (L_g σ.2 0 + D)) 1 0 (10 + j) ∧ 10 ≤ (upd (upd (L_g σ.2) 0 (L_g σ.2 0 + D)) 1 0 (10 + j)).toInt ∧ (upd (upd (L_g σ.2) 0 (L_g σ.2 0 + D)) 1 0 (10 + j)).toInt ≤ 60
        rw [g0 (10 + j) (by omega) (by omega), d7]; exact f j hj
    · by_cases h0 : BB (L_b σ.2) k 0 = 0
      · refine (h.2.2.1.1 k hk).congr (fun w hw => ?_) (fun w hw => ?_) rfl
        · rw [hF k (by omega) w hw, (h.2.2.1.1 k hk).a h0 4 (by decide), if_neg (fun z => z rfl)]
        · show BB b' k w = _
          rw [hB k hk w hw, if_neg (fun z => z.1 h0)]
      · obtain ⟨pE, pV, pM, pS⟩ := rq_p h hk h0
        have p0 := ((h.2.2.1.1 k hk).p h0).1
        rcases pS with s | ⟨⟨i, hi, s1, s2⟩, s3, s4⟩
        · refine (h.2.2.1.1 k hk).congr (fun w hw => ?_) (fun w hw => ?_) rfl
          · rw [hF k (by omega) w hw, if_neg (fun z => z s.2.1)]
          · show BB b' k w = _
            rw [hB k hk w hw, if_neg (fun z => by
              have := z.2
              rw [s.1] at this
              exact absurd this (by decide))]
        · have a4 : ¬ FY (W_yard σ.1) k 4 = -5 := by rw [s2]; exact nIm5 (by omega)
          have a5 : 0 ≤ BB (L_b σ.2) k 5 := by rw [s1]; exact nge' (by omega)
          have F8 : FY Y' k 8 = pY D (FY (W_yard σ.1) k 8) := by rw [hF k (by omega) 8 (by decide), if_pos a4, if_neg (by decide), if_pos rfl]
          have F9 : FY Y' k 9 = FY (W_yard σ.1) k 9 + D := by rw [hF k (by omega) 9 (by decide), if_pos a4, if_pos rfl]
          have B8 : BB b' k 8 = pB D (BB (L_b σ.2) k 8) := by rw [hB k hk 8 (by decide), if_pos ⟨h0, a5⟩, if_neg (by decide), if_pos rfl]
          have B9 : BB b' k 9 = BB (L_b σ.2) k 9 + D := by rw [hB k hk 9 (by decide), if_pos ⟨h0, a5⟩, if_pos rfl]
          have z8 := pV.2.2.2
          have es := ti_sub (x := BB (L_b σ.2) k 8) (y := D) (by omega) (by omega)
          have e0 : (0 : Int32).toInt = 0 := rfl
          have ep : pY D (FY (W_yard σ.1) k 8) = pB D (BB (L_b σ.2) k 8) ∧ 0 ≤ (pB D (BB (L_b σ.2) k 8)).toInt ∧ (pB D (BB (L_b σ.2) k 8)).toInt ≤ 99 := by
            rw [show FY (W_yard σ.1) k 8 = _ from pE.2.2.2.2.1]
            unfold pY pB
            by_cases c : BB (L_b σ.2) k 8 ≤ D
            · have c2 := c
              rw [le_ti] at c2
              rw [if_pos c, if_neg (by rw [lt_ti, es]; omega)]
              exact ⟨rfl, by decide, by decide⟩
            · have c2 := c
              rw [le_ti] at c2
              rw [if_neg c, if_pos (by rw [lt_ti, es]; omega), es]
              exact ⟨rfl, by omega, by omega⟩
          have cc := hcol k hk
          have cf := hcolF k (show k < 20 by omega)
          obtain ⟨c, hc, eK⟩ := (h.2.2.1.1 k hk).1
          refine ⟨⟨c, hc, (cc 4 (by decide) (by decide) (by decide)).trans eK⟩, Or.inr ⟨(cc 0 (by decide) (by decide) (by decide)).trans p0, ?_, ?_, ?_, Or.inr ⟨⟨i, hi, (cc 5 (by decide) (by decide) (by decide)).trans s1, (cf 4 (by decide) (by decide) (by decide)).trans s2⟩, ?_, ?_⟩⟩⟩
          · exact ⟨(cf 0 (by decide) (by decide) (by decide)).trans (pE.1.trans (cc 1 (by decide) (by decide) (by decide)).symm), (cf 1 (by decide) (by decide) (by decide)).trans (pE.2.1.trans (cc 2 (by decide) (by decide) (by decide)).symm), (cf 2 (by decide) (by decide) (by decide)).trans (pE.2.2.1.trans (cc 3 (by decide) (by decide) (by decide)).symm), (cf 3 (by decide) (by decide) (by decide)).trans (pE.2.2.2.1.trans (cc 4 (by decide) (by decide) (by decide)).symm), F8.trans (ep.1.trans B8.symm), (cf 10 (by decide) (by decide) (by decide)).trans pE.2.2.2.2.2⟩
          · show (3 ≤ (BB b' k 1).toInt ∧ (BB b' k 1).toInt ≤ 20) ∧ (5 ≤ (BB b' k 2).toInt ∧ (BB b' k 2).toInt ≤ 40) ∧ (1 ≤ (BB b' k 3).toInt ∧ (BB b' k 3).toInt ≤ 30) ∧ (0 ≤ (BB b' k 8).toInt ∧ (BB b' k 8).toInt ≤ 99)
            rw [cc 1 (by decide) (by decide) (by decide), cc 2 (by decide) (by decide) (by decide), cc 3 (by decide) (by decide) (by decide), B8]
            exact ⟨pV.1, pV.2.1, pV.2.2.1, ep.2⟩
          · rcases pM with m | ⟨c, hc, m1, m2⟩
            · exact Or.inl ⟨(cc 7 (by decide) (by decide) (by decide)).trans m.1, (cf 7 (by decide) (by decide) (by decide)).trans m.2⟩
            · exact Or.inr ⟨c, hc, (cc 7 (by decide) (by decide) (by decide)).trans m1, (cf 7 (by decide) (by decide) (by decide)).trans m2⟩
          · obtain ⟨c, hc, m1, m2⟩ := s3
            exact ⟨c, hc, (cc 6 (by decide) (by decide) (by decide)).trans m1, (cf 6 (by decide) (by decide) (by decide)).trans m2⟩
          · show FY Y' k 9 = BB b' k 9
            rw [F9, B9, s4]
    · rw [hF j b w hw, h.2.2.1.2.1 j a b 4 (by decide), if_neg (fun z => z rfl)]
      exact h.2.2.1.2.1 j a b w hw
    · exact (h.2.2.1.w.same (B' := BB b') (F' := FY Y') (fun j hj => hcol j hj 0 (by decide) (by decide) (by decide)) (fun j hj => hcol j hj 5 (by decide) (by decide) (by decide)) (fun j hj => hcolF j (by omega) 5 (by decide) (by decide) (by decide))).1
    · exact (h.2.2.1.w.same (B' := BB b') (F' := FY Y') (fun j hj => hcol j hj 0 (by decide) (by decide) (by decide)) (fun j hj => hcol j hj 5 (by decide) (by decide) (by decide)) (fun j hj => hcolF j (by omega) 5 (by decide) (by decide) (by decide))).2
  have eP : mX2_letPass (W_yard σ.1) D = (mX2_tideOn Y' (Y_day Y'), Y') := by
    unfold mX2_letPass
    rw [if_neg (wi_ne (lo := 1) (hi := 99) hD.1 (show D.toInt ≤ (99 : Int) by omega)), h.1.1.1, if_pos (by rw [le_ti, eD]; show _ ≤ (9999 : Int); omega)]
    rw [h.1.1.1] at c1
    exact c1
  obtain ⟨a1, w1⟩ := e_pass eP
  have eT : mX2_tideOn Y' (Y_day Y') = mL_tide (upd (upd (L_g σ.2) 0 (L_g σ.2 0 + D)) 1 0, b', L_t σ.2, L_r σ.2) (upd (upd (L_g σ.2) 0 (L_g σ.2 0 + D)) 1 0 0) := by
    rw [show Y_day Y' = upd (upd (L_g σ.2) 0 (L_g σ.2 0 + D)) 1 0 0 from hQ.1.1.1]
    exact rd_tide hQ.1 hQ.1.1.2.1
  have e9 : mL_yard_L909 x y D (mL_low y 6) (mL_low x 9) 8 (σ.1, ((upd (upd (L_g σ.2) (0 : Int32).toNatClampNeg (((L_g σ.2) (0 : Int32).toNatClampNeg) + D)) (1 : Int32).toNatClampNeg 0), (L_b σ.2), (L_t σ.2), (L_r σ.2))) 0 = _ := l1
  rw [e9, if_pos (a1.trans eT)]
  refine ⟨rfl, ⟨n, q, ?_⟩, hok_pass hh⟩
  show RelQ (W_yard (mX3_pass σ.1 D).2) _ (T + 1) n q
  rw [w1]
  exact hQ
end YP
