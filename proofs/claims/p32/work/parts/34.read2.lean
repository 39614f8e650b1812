/-! what the class tells and the law reckons: the same, part three -/
section RD3
variable {Y : YS} {γ : LAS} {T : Nat} {n : Nat → Nat} {q : Nat → Nat → Nat}
theorem day_add (h : RelQ Y γ T n q) {u : Nat} (hu : u < 1000) : 0 ≤ (L_g γ 0 + nI u).toInt := by
  have h1 := h.1.1.2
  have hT := h.2.2.2
  rw [ti_add (by rw [nI_ti (by omega)]; omega) (by rw [nI_ti (by omega)]; omega), nI_ti (by omega)]
  omega
theorem rd_day (h : RelQ Y γ T n q) {k : Nat} (hk : k < 6) (h0 : ¬ BB (L_b γ) k 0 = 0) (h5 : 0 ≤ BB (L_b γ) k 5) : mX2_firstLaunchDay Y (nI k) = mL_launchDay γ (nI k) := by
  obtain ⟨pE, pV, pM, pS⟩ := rq_p h hk h0
  obtain ⟨w, hw, e8⟩ := vp_in_of (in_iff.mpr (show 0 ≤ (BB (L_b γ) k 8).toInt ∧ (BB (L_b γ) k 8).toInt < ((100 : Nat) : Int) from ⟨pV.2.2.2.1, by have := pV.2.2.2.2; omega⟩)) (by decide)
  have n5 : ¬ BB (L_b γ) k 5 < 0 := nlt_le.mpr h5
  have j0 : (0 : Int32).toNatClampNeg = 0 := rfl
  have j4 : (4 : Int32).toNatClampNeg = 4 := rfl
  have x200 : ∀ {u : Nat}, u ≤ 200 → ¬ (200 : Int32) < nI u := fun hu => nI_nlt (a := 200) hu (by decide)
  have y200 : (200 : Int32) < nI 201 := nI_lt (a := 200) (by omega) (by omega)
  unfold mX2_firstLaunchDay mL_launchDay
  rw [rd_crane h hk h0, fa8 (by omega), show FY Y k 8 = _ from pE.2.2.2.2.1, e8]
  by_cases cr : L_g γ 4 < BB (L_b γ) k 3
  · rw [if_pos cr, if_pos rfl]
    have key : ∀ d u f, u + d = 201 → mL_launchDay_L2 γ (nI k) (d + 1 + f) (nI u) = -5 := by
      intro d
      induction d with
      | zero =>
        intro u f hu
        rw [show 0 + 1 + f = f + 1 by omega, mL_launchDay_L2, show u = 201 by omega, if_pos y200]
      | succ d ih =>
        intro u f hu
        rw [show d + 1 + 1 + f = (d + 1 + f) + 1 by omega, mL_launchDay_L2, if_neg (x200 (by omega)), lo5 hk, if_neg n5, lo3 hk, j4, if_pos cr, nI1]
        exact ih (u + 1) f (by omega)
    exact (key 201 0 0 (by omega)).symm
  · rw [if_neg cr, if_neg one0]
    have keyB : ∀ d u f, u + d = w → mL_launchDay_L2 γ (nI k) (d + f) (nI u) = mL_launchDay_L2 γ (nI k) f (nI w) := by
      intro d
      induction d with
      | zero => intro u f hu; rw [show 0 + f = f by omega, show u = w by omega]
      | succ d ih =>
        intro u f hu
        rw [show d + 1 + f = (d + f) + 1 by omega, mL_launchDay_L2, if_neg (x200 (by omega)), lo5 hk, if_neg n5, lo3 hk, j4, if_neg cr, lo8 hk, e8, if_pos (nI_lt (by omega) (by omega)), nI1]
        exact ih (u + 1) f (by omega)
    have keyC : ∀ d u f g, w ≤ u → u + d = 201 → mX2_firstLaunchDay_L19 Y (nI k) (d + 1 + g) (nI u) = mL_launchDay_L2 γ (nI k) (d + 1 + f) (nI u) := by
      intro d
      induction d with
      | zero =>
        intro u f g hwu hu
        rw [show 0 + 1 + f = f + 1 by omega, show 0 + 1 + g = g + 1 by omega, mL_launchDay_L2, mX2_firstLaunchDay_L19, show u = 201 by omega, if_pos y200, if_pos y200]
      | succ d ih =>
        intro u f g hwu hu
        have i1 := ih (u + 1) f g (by omega) (by omega)
        rw [show d + 1 + 1 + f = (d + 1 + f) + 1 by omega, show d + 1 + 1 + g = (d + 1 + g) + 1 by omega, mL_launchDay_L2, mX2_firstLaunchDay_L19, if_neg (x200 (by omega)), if_neg (x200 (by omega)), lo5 hk, if_neg n5, lo3 hk, j4, if_neg cr, lo8 hk, e8, if_neg (nI_nlt (by omega) (by omega)), nI1, i1, lo2 hk, h.1.1.1, rd_deep h hk h0 (day_add h (by omega)), rd_left h.2.2.2 h.1, j0]
        by_cases c1 : mL_tide γ (L_g γ 0 + nI u) < BB (L_b γ) k 2 <;> by_cases c2 : 0 < nI u <;> by_cases c3 : mL_left γ ≤ 0 <;> simp only [c1, c2, c3, if_true, if_false, reduceIte, one0]
    have a := keyC (201 - w) w 0 w (by omega) (by omega)
    have b := keyB w 0 (202 - w) (by omega)
    rw [show 201 - w + 1 + w = 202 by omega, show 201 - w + 1 + 0 = 202 - w by omega] at a
    rw [show w + (202 - w) = 202 by omega] at b
    rw [a, ← b]
    rfl
theorem rd_boatAt (h : RelQ Y γ T n q) {i : Nat} (hi : i < 4) {j : Nat} (hj : j < n i) : mX2_boatAt Y (nI i) (nI j) = nI (q i j) := by
  have hn := (h.2.1 i hi).1
  obtain ⟨h1, h2, h3, h4⟩ := h.2.2.1.2.2.1 i hi j hj
  have f4 : FY Y (q i j) 4 = nI i := (rd_row h.2.2.1 (by omega) hi).mpr ⟨h1, h2, h3⟩
  have key : ∀ d u f, u + d = q i j → mX2_boatAt_L2 Y (nI i) (nI j) (d + 1 + f) (nI u) = nI (q i j) := by
    intro d
    induction d with
    | zero =>
      intro u f hu
      have hu : u = q i j := by omega
      subst hu
      rw [show 0 + 1 + f = f + 1 by omega, mX2_boatAt_L2, if_neg (i20 (by omega))]
      unfold mX2_standsIn
      rw [fa4 (by omega), fa5 (by omega), f4, h4, if_pos rfl, if_neg one0, if_pos rfl]
    | succ d ih =>
      intro u f hu
      have i1 := ih (u + 1) f (by omega)
      rw [show d + 1 + 1 + f = (d + 1 + f) + 1 by omega, mX2_boatAt_L2, if_neg (i20 (by omega)), nI1, i1]
      unfold mX2_standsIn
      rw [fa4 (by omega), fa5 (by omega)]
      by_cases c : FY Y u 4 = nI i
      · rw [if_pos c, if_neg one0, if_neg]
        intro c5
        obtain ⟨r1, r2, r3⟩ := (rd_row h.2.2.1 (by omega) hi).mp c
        obtain ⟨j', hj', e⟩ := h.2.2.1.2.2.2 u r1 r2 i hi r3
        have := (h.2.2.1.2.2.1 i hi j' hj').2.2.2
        rw [e, c5] at this
        have := (nI_eq (by omega) (by omega)).mp this
        subst this
        omega
      · rw [if_neg c, if_pos rfl]
  have := key (q i j) 0 (21 - q i j) (by omega)
  rw [show q i j + 1 + (21 - q i j) = 22 by omega] at this
  exact this
theorem rd_noBoat (h : RelQ Y γ T n q) {i : Nat} (hi : i < 4) : mX2_boatAt Y (nI i) (nI (n i)) = -5 := by
  have hn := (h.2.1 i hi).1
  have key : ∀ d u f, u + d = 20 → mX2_boatAt_L2 Y (nI i) (nI (n i)) (d + 1 + f) (nI u) = -5 := by
    intro d
    induction d with
    | zero =>
      intro u f hu
      rw [show 0 + 1 + f = f + 1 by omega, mX2_boatAt_L2, show u = 20 by omega, if_pos e20]
    | succ d ih =>
      intro u f hu
      have i1 := ih (u + 1) f (by omega)
      rw [show d + 1 + 1 + f = (d + 1 + f) + 1 by omega, mX2_boatAt_L2, if_neg (i20 (by omega)), nI1, i1]
      unfold mX2_standsIn
      rw [fa4 (by omega), fa5 (by omega)]
      by_cases c : FY Y u 4 = nI i
      · rw [if_pos c, if_neg one0, if_neg]
        intro c5
        obtain ⟨r1, r2, r3⟩ := (rd_row h.2.2.1 (by omega) hi).mp c
        obtain ⟨j', hj', e⟩ := h.2.2.1.2.2.2 u r1 r2 i hi r3
        have := (h.2.2.1.2.2.1 i hi j' hj').2.2.2
        rw [e, c5] at this
        have := (nI_eq (by omega) (by omega)).mp this
        omega
      · rw [if_neg c, if_pos rfl]
  exact key 20 0 1 (by omega)
/-- a row that fits better -/
def bst (γ : LAS) (k : Nat) (u best : Int32) : Int32 := if u = BB (L_b γ) k 5 then best else (if mL_room γ u ≤ BB (L_b γ) k 1 then best else (if best < 0 then u else (if mL_room γ best ≤ mL_room γ u then best else u)))
theorem le_s1 {a b : Int32} (hb : 0 ≤ b.toInt ∧ b.toInt ≤ 100) : a < b + 1 ↔ a ≤ b := by
  have e : (b + 1).toInt = b.toInt + 1 := up_add (d := 1) (k := 1) (M := 100) rfl hb.1 hb.2 (by decide) (by decide)
  rw [lt_ti, le_ti, e]
  omega
theorem n4 {i : Nat} (hi : i < 4) : ¬ (4 : Int32) ≤ nI i := nI_ge (b := 4) hi (by decide)
theorem e4 : (4 : Int32) ≤ nI 4 := nI_le (a := 4) (Nat.le_refl 4) (by decide)
theorem rd_best (h : RelQ Y γ T n q) {k : Nat} (hk : k < 6) (h0 : ¬ BB (L_b γ) k 0 = 0) {u : Nat} (hu : u < 4) {best : Int32} (hb : best = -5 ∨ ∃ b, b < 4 ∧ best = nI b) (m : Nat) : mX2_tightestRow_L5 Y (nI k) (m + 1) (nI u) best = mX2_tightestRow_L5 Y (nI k) m (nI (u + 1)) (bst γ k (nI u) best) ∧ (bst γ k (nI u) best = -5 ∨ ∃ b, b < 4 ∧ bst γ k (nI u) best = nI b) := by
  obtain ⟨pE, pV, pM, pS⟩ := rq_p h hk h0
  have hs : mX2_standsIn Y (nI k) (nI u) = if nI u = BB (L_b γ) k 5 then 1 else 0 := by
    unfold mX2_standsIn
    rw [fa4 (by omega)]
    have e := rd_row h.2.2.1 (show k < 20 by omega) hu
    have p0 := ((h.2.2.1.1 k hk).p h0).1
    by_cases c : FY Y k 4 = nI u
    · rw [if_pos c, if_pos (e.mp c).2.2.symm]
    · rw [if_neg c, if_neg (fun a => c (e.mpr ⟨hk, p0, a.symm⟩))]
  refine ⟨?_, ?_⟩
  · rw [mX2_tightestRow_L5, if_neg (n4 hu), hs, rd_fits h hk h0 hu, nI1]
    unfold bst
    simp only [le_s1 (show 0 ≤ (BB (L_b γ) k 1).toInt ∧ (BB (L_b γ) k 1).toInt ≤ 100 from ⟨by have := pV.1.1; omega, by have := pV.1.2; omega⟩)]
    by_cases c1 : nI u = BB (L_b γ) k 5
    · rw [if_pos c1, if_neg one0, if_pos c1]
    · rw [if_neg c1, if_pos rfl, if_neg c1]
      by_cases c2 : mL_room γ (nI u) ≤ BB (L_b γ) k 1
      · rw [if_pos c2, if_pos rfl, if_pos c2]
      · rw [if_neg c2, if_neg one0, if_neg c2]
        rcases hb with e | ⟨b, hb, e⟩
        · rw [e, if_pos rfl, if_pos (by decide)]
        · rw [e, if_neg (nIm5 (by omega)), if_neg (nge (by omega)), rd_left2 h.1 h.2.1 h.2.2.1 hb, rd_left2 h.1 h.2.1 h.2.2.1 hu]
          by_cases c3 : mL_room γ (nI b) ≤ mL_room γ (nI u)
          · rw [if_pos c3, if_pos c3]
          · rw [if_neg c3, if_neg c3]
  · unfold bst
    split
    · exact hb
    · split
      · exact hb
      · split
        · exact Or.inr ⟨u, hu, rfl⟩
        · split
          · exact hb
          · exact Or.inr ⟨u, hu, rfl⟩
theorem rd_boats (h : RelQ Y γ T n q) : mX2_boats Y = sm (fun k => if BB (L_b γ) k 0 = 0 then 0 else 1) 6 := by
  have e : sm (fun k => if FY Y k 0 = -5 then 0 else 1) 20 = 20 - sm (fun k => if FY Y k 0 = -5 then 1 else 0) 20 := sm_compl (fun i _ => by by_cases c : FY Y i 0 = -5 <;> simp only [c, if_true, if_false, reduceIte] <;> rfl)
  unfold mX2_boats
  rw [show mX2_boatsWith Y 0 (-5) = _ from bw_sm (w := 0) (by decide) (-5), ← e, show (20 : Nat) = 6 + 14 from rfl, sm_cut 14 (fun k a b => by rw [h.2.2.1.2.1 k a b 0 (by decide), if_pos rfl])]
  refine sm_congr (fun k hk => ?_)
  by_cases h0 : BB (L_b γ) k 0 = 0
  · rw [(h.2.2.1.1 k hk).a h0 0 (by decide), if_pos rfl, if_pos h0]
  · obtain ⟨pE, pV, _⟩ := rq_p h hk h0
    rw [if_neg h0, show FY Y k 0 = _ from pE.1, if_neg (fun e => by
      have := pV.1.1
      rw [e] at this
      exact absurd this (by decide))]
theorem rd_ashores (h : RelQ Y γ T n q) : mX2_boatsAshore Y = sm (fun k => if BB (L_b γ) k 0 = 0 then 0 else if BB (L_b γ) k 5 < 0 then 0 else 1) 6 := by
  have e : sm (fun k => if FY Y k 4 = -5 then 0 else 1) 20 = 20 - sm (fun k => if FY Y k 4 = -5 then 1 else 0) 20 := sm_compl (fun i _ => by by_cases c : FY Y i 4 = -5 <;> simp only [c, if_true, if_false, reduceIte] <;> rfl)
  unfold mX2_boatsAshore
  rw [show mX2_boatsWith Y 4 (-5) = _ from bw_sm (w := 4) (by decide) (-5), ← e, show (20 : Nat) = 6 + 14 from rfl, sm_cut 14 (fun k a b => by rw [h.2.2.1.2.1 k a b 4 (by decide), if_pos rfl])]
  refine sm_congr (fun k hk => ?_)
  by_cases h0 : BB (L_b γ) k 0 = 0
  · rw [(h.2.2.1.1 k hk).a h0 4 (by decide), if_pos rfl, if_pos h0]
  · obtain ⟨pE, pV, pM, pS⟩ := rq_p h hk h0
    rw [if_neg h0]
    rcases pS with s | ⟨⟨j, hj, s1, s2⟩, _⟩
    · rw [s.2.1, if_pos rfl, s.1, if_pos m1lt]
    · rw [s1, s2, if_neg (nIm5 (by omega)), if_neg (nge (by omega))]
theorem rd_works (h : RelQ Y γ T n q) : mX2_boatsWithWork Y = sm (fun k => if BB (L_b γ) k 0 = 0 then 0 else if BB (L_b γ) k 8 ≤ 0 then 0 else 1) 6 := by
  rw [bww_sm, show (20 : Nat) = 6 + 14 from rfl, sm_cut 14 (fun k a b => by rw [h.2.2.1.2.1 k a b 8 (by decide), if_pos (by decide)])]
  refine sm_congr (fun k hk => ?_)
  by_cases h0 : BB (L_b γ) k 0 = 0
  · rw [(h.2.2.1.1 k hk).a h0 8 (by decide), if_pos (by decide), if_pos h0]
  · obtain ⟨pE, pV, _⟩ := rq_p h hk h0
    rw [if_neg h0, show FY Y k 8 = _ from pE.2.2.2.2.1]
end RD3
