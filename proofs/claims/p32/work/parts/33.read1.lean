/-! what the class tells and the law reckons: the same, part two -/
section RD2
variable {Y : YS} {γ : LAS} {T : Nat} {n : Nat → Nat} {q : Nat → Nat → Nat}
/-- all that is known -/
def RelQ (Y : YS) (γ : LAS) (T : Nat) (n : Nat → Nat) (q : Nat → Nat → Nat) : Prop := QG Y γ T ∧ QR (L_r γ) n q ∧ QY (FY Y) (BB (L_b γ)) (L_t γ) n q ∧ T < 200
theorem rq_p (h : RelQ Y γ T n q) {k : Nat} (hk : k < 6) (h0 : ¬ BB (L_b γ) k 0 = 0) : QE (FY Y k) (BB (L_b γ) k) (L_t γ k) ∧ QV (BB (L_b γ) k) ∧ QM (FY Y k) (BB (L_b γ) k) ∧ QS (FY Y k) (BB (L_b γ) k) := ((h.2.2.1.1 k hk).p h0).2
theorem rd_kn (h : RelQ Y γ T n q) {k : Nat} (hk : k < 6) : mX2_knows Y (nI k) = if BB (L_b γ) k 0 = 0 then 0 else 1 := by
  unfold mX2_knows
  rw [if_neg (within_ne (k := 19) rfl (vp_in_nI (show k < 19 + 1 by omega) (by decide))), fa0 (by omega)]
  by_cases h0 : BB (L_b γ) k 0 = 0
  · rw [if_pos h0, (h.2.2.1.1 k hk).a h0 0 (by decide), if_pos rfl]
  · obtain ⟨pE, pV, _⟩ := rq_p h hk h0
    rw [if_neg h0, show FY Y k 0 = _ from pE.1, if_neg (fun e => by
      have := pV.1.1
      rw [e] at this
      exact absurd this (by decide))]
theorem rd_free (h : RelQ Y γ T n q) {c : Nat} (hc : c < 3) : mX2_hasFreeCradle Y (nI c) = if L_g γ (7 + c) ≤ mL_taken γ (nI c) then 0 else 1 := by
  unfold mX2_hasFreeCradle mX2_cradlesOf
  rw [rd_taken h.2.2.1 hc, ixs (by omega), (h.1.2.2.2.2.1 c hc).1]
theorem rd_half {w a b : Int32} {m : Int} (h1 : 1 ≤ w.toInt ∧ w.toInt ≤ 30) (ha : a.toInt = 2 * m) (hb : b.toInt = m) : (a < 2 * w) ↔ b < w := by
  have e : ((2 : Int32) * w).toInt = 2 * w.toInt := ti_mul (x := 2) (by show _ ≤ 2 * w.toInt; omega) (by show 2 * w.toInt < _; omega)
  rw [lt_ti, lt_ti, e]
  omega
theorem rd_cradle (h : RelQ Y γ T n q) {k : Nat} (hk : k < 6) (h0 : ¬ BB (L_b γ) k 0 = 0) : (mL_cradle γ (nI k) = -1 ∧ mX2_cradleFor Y (nI k) = -5) ∨ ∃ c, c < 3 ∧ mL_cradle γ (nI k) = nI c ∧ mX2_cradleFor Y (nI k) = nI c := by
  obtain ⟨pE, pV, pM, pS⟩ := rq_p h hk h0
  obtain ⟨c, hc, hK⟩ := (h.2.2.1.1 k hk).1
  have hw := pV.2.2.1
  have e2 : FY Y k 2 = BB (L_b γ) k 3 := pE.2.2.1
  have e3 : FY Y k 3 = nI c := pE.2.2.2.1.trans hK
  unfold mL_cradle mX2_cradleFor
  rw [lo4 hk, lo3 hk, fa3 (by omega), fa2 (by omega), e2, e3, show BB (L_b γ) k 4 = nI c from hK]
  have w0 : (20 : Int32) < 2 * BB (L_b γ) k 3 ↔ (10 : Int32) < BB (L_b γ) k 3 := rd_half hw (m := 10) rfl rfl
  have w2 : (30 : Int32) < 2 * BB (L_b γ) k 3 ↔ (15 : Int32) < BB (L_b γ) k 3 := rd_half hw (m := 15) rfl rfl
  have f0 := rd_free h (c := 0) (by decide)
  have f1 := rd_free h (c := 1) (by decide)
  have f2 := rd_free h (c := 2) (by decide)
  generalize BB (L_b γ) k 3 = w at *
  have o0 : mX2_otherKindFor 0 = 2 := rfl
  have o1 : mX2_otherKindFor 1 = -5 := rfl
  have o2 : mX2_otherKindFor 2 = 0 := rfl
  have b0 : mX2_bears 0 = 30 := rfl
  have b1 : mX2_bears 1 = 12 := rfl
  have b2 : mX2_bears 2 = 20 := rfl
  have c0 : mL_bears 0 = 30 := rfl
  have c1 : mL_bears 1 = 12 := rfl
  have c2 : mL_bears 2 = 20 := rfl
  have i0 : ((7 : Int32) + 0).toNatClampNeg = 7 := rfl
  have i1 : ((7 : Int32) + 1).toNatClampNeg = 8 := rfl
  have i2 : ((7 : Int32) + 2).toNatClampNeg = 9 := rfl
  have j7 : (7 : Int32).toNatClampNeg = 7 := rfl
  have j9 : (9 : Int32).toNatClampNeg = 9 := rfl
  have g0 : mX2_hasFreeCradle Y 0 = if L_g γ 7 ≤ mL_taken γ 0 then 0 else 1 := f0
  have g1 : mX2_hasFreeCradle Y 1 = if L_g γ 8 ≤ mL_taken γ 1 then 0 else 1 := f1
  have g2 : mX2_hasFreeCradle Y 2 = if L_g γ 9 ≤ mL_taken γ 2 then 0 else 1 := f2
  have z20 : ¬ (2 : Int32) = 0 := by decide
  have z10 : ¬ (1 : Int32) = 0 := by decide
  have z02 : ¬ (0 : Int32) = 2 := by decide
  have z12 : ¬ (1 : Int32) = 2 := by decide
  have z05 : ¬ (0 : Int32) = -5 := by decide
  have z25 : ¬ (2 : Int32) = -5 := by decide
  have hc3 : c = 0 ∨ c = 1 ∨ c = 2 := by omega
  rcases hc3 with rfl | rfl | rfl
  · simp only [show nI 0 = (0 : Int32) from rfl, o0, b0, b2, c0, i0, j7, j9, g0, g2, z02, z25, w0, if_true, if_false, reduceIte]
    by_cases a1 : L_g γ 7 ≤ mL_taken γ 0 <;> by_cases a2 : L_g γ 9 ≤ mL_taken γ 2 <;> by_cases a3 : (30 : Int32) < w <;> by_cases a4 : (10 : Int32) < w <;> simp only [a1, a2, a3, a4, if_true, if_false, reduceIte, one0] <;> first | exact Or.inl ⟨trivial, trivial⟩ | exact Or.inr ⟨0, by decide, rfl, rfl⟩ | exact Or.inr ⟨2, by decide, rfl, rfl⟩ | exact Or.inl ⟨rfl, rfl⟩
  · simp only [show nI 1 = (1 : Int32) from rfl, o1, b1, c1, i1, g1, z10, z12, if_true, if_false, reduceIte]
    by_cases a1 : L_g γ 8 ≤ mL_taken γ 1 <;> by_cases a3 : (12 : Int32) < w <;> simp only [a1, a3, if_true, if_false, reduceIte, one0] <;> first | exact Or.inl ⟨trivial, trivial⟩ | exact Or.inr ⟨1, by decide, rfl, rfl⟩ | exact Or.inl ⟨rfl, rfl⟩
  · simp only [show nI 2 = (2 : Int32) from rfl, o2, b0, b2, c2, i2, j7, g0, g2, z20, z05, w2, if_true, if_false, reduceIte]
    by_cases a1 : L_g γ 9 ≤ mL_taken γ 2 <;> by_cases a2 : L_g γ 7 ≤ mL_taken γ 0 <;> by_cases a3 : (20 : Int32) < w <;> by_cases a4 : (15 : Int32) < w <;> simp only [a1, a2, a3, a4, if_true, if_false, reduceIte, one0] <;> first | exact Or.inl ⟨trivial, trivial⟩ | exact Or.inr ⟨0, by decide, rfl, rfl⟩ | exact Or.inr ⟨2, by decide, rfl, rfl⟩ | exact Or.inl ⟨rfl, rfl⟩
theorem rd_ash (h : RelQ Y γ T n q) {k : Nat} (hk : k < 6) (h0 : ¬ BB (L_b γ) k 0 = 0) : mX2_isAshore Y (nI k) = if BB (L_b γ) k 5 < 0 then 0 else 1 := by
  obtain ⟨pE, pV, pM, pS⟩ := rq_p h hk h0
  unfold mX2_isAshore
  rw [fa4 (by omega)]
  rcases pS with s | ⟨⟨j, hj, s1, s2⟩, _⟩
  · rw [s.1, s.2.1, if_pos rfl, if_pos m1lt]
  · rw [s1, s2, if_neg (nIm5 (by omega)), if_neg (nge (by omega))]
theorem rd_mast (h : RelQ Y γ T n q) {k : Nat} (hk : k < 6) (h0 : ¬ BB (L_b γ) k 0 = 0) : mX2_hasMast Y (nI k) = if BB (L_b γ) k 7 < 0 then 1 else 0 := by
  obtain ⟨pE, pV, pM, pS⟩ := rq_p h hk h0
  unfold mX2_hasMast
  rw [fa7 (by omega)]
  rcases pM with s | ⟨c, hc, s1, s2⟩
  · rw [s.1, s.2, if_pos rfl, if_pos m1lt]
  · rw [s1, s2, if_neg (nIm5 (by omega)), if_neg (nge (by omega))]
theorem rd_deep (h : RelQ Y γ T n q) {k : Nat} (hk : k < 6) (h0 : ¬ BB (L_b γ) k 0 = 0) {x : Int32} (hx : 0 ≤ x.toInt) : mX2_isDeepEnough Y (nI k) x = if mL_tide γ x < BB (L_b γ) k 2 then 0 else 1 := by
  obtain ⟨pE, pV, pM, pS⟩ := rq_p h hk h0
  unfold mX2_isDeepEnough
  rw [fa1 (by omega), rd_tide h.1 hx, show FY Y k 1 = _ from pE.2.1]
theorem rd_crane (h : RelQ Y γ T n q) {k : Nat} (hk : k < 6) (h0 : ¬ BB (L_b γ) k 0 = 0) : mX2_craneBears Y (nI k) = if L_g γ 4 < BB (L_b γ) k 3 then 0 else 1 := by
  obtain ⟨pE, pV, pM, pS⟩ := rq_p h hk h0
  unfold mX2_craneBears
  rw [fa2 (by omega), show FY Y k 2 = _ from pE.2.2.1, show Y_settings Y (2 : Int32).toNatClampNeg = L_g γ 4 from h.1.2.2.2.1.1 2 (by decide)]
theorem rd_fits (h : RelQ Y γ T n q) {k i : Nat} (hk : k < 6) (h0 : ¬ BB (L_b γ) k 0 = 0) (hi : i < 4) : mX2_hasRoom Y (nI i) (nI k) = if mL_room γ (nI i) < BB (L_b γ) k 1 + 1 then 0 else 1 := by
  obtain ⟨pE, pV, pM, pS⟩ := rq_p h hk h0
  unfold mX2_hasRoom
  rw [fa0 (by omega), show FY Y k 0 = _ from pE.1, rd_left2 h.1 h.2.1 h.2.2.1 hi]
theorem lt_sx {x : Int32} {m : Int} {a b : Int32} (ha : a.toInt = m) (hb : b.toInt = m + 1) : x < b ↔ x ≤ a := by
  rw [lt_ti, le_ti]
  omega
theorem day_nn (h : RelQ Y γ T n q) : 0 ≤ (L_g γ 0).toInt := h.1.1.2.1
theorem rd_why (h : RelQ Y γ T n q) {k i : Nat} (hk : k < 6) (h0 : ¬ BB (L_b γ) k 0 = 0) (hi : i < 4) : mX2_whyNoLift Y (nI k) (nI i) = mL_liftReason γ (nI k) (nI i) := by
  obtain ⟨pE, pV, pM, pS⟩ := rq_p h hk h0
  unfold mX2_whyNoLift mL_liftReason
  rw [rd_ash h hk h0, h.1.1.1, rd_deep h hk h0 (day_nn h), rd_crane h hk h0, rd_fits h hk h0 hi, rd_mast h hk h0, rd_left h.2.2.2 h.1, lo5 hk, lo2 hk, lo3 hk, lo1 hk, lo7 hk, fa0 (by omega), show FY Y k 0 = _ from pE.1,
    show (0 : Int32).toNatClampNeg = 0 from rfl, show (4 : Int32).toNatClampNeg = 4 from rfl]
  have hc := rd_cradle h hk h0
  have e1 : BB (L_b γ) k 1 < 10 ↔ BB (L_b γ) k 1 ≤ 9 := lt_sx (m := 9) rfl rfl
  have hcr : (mX2_cradleFor Y (nI k) = -5) ↔ ¬ (0 ≤ mL_cradle γ (nI k)) := by
    rcases hc with ⟨a, b⟩ | ⟨c, hc, a, b⟩
    · rw [a, b]
      exact ⟨fun _ => by decide, fun _ => rfl⟩
    · rw [a, b]
      exact ⟨fun e => absurd e (nIm5 (by omega)), fun e => absurd (nge' (n := c) (by omega)) e⟩
  have t2 : mL_tide γ (L_g γ 0) < BB (L_b γ) k 2 ↔ ¬ BB (L_b γ) k 2 ≤ mL_tide γ (L_g γ 0) := nle_lt.symm
  have t4 : L_g γ 4 < BB (L_b γ) k 3 ↔ ¬ BB (L_b γ) k 3 ≤ L_g γ 4 := nle_lt.symm
  have t5 : mL_room γ (nI i) < BB (L_b γ) k 1 + 1 ↔ ¬ BB (L_b γ) k 1 + 1 ≤ mL_room γ (nI i) := nle_lt.symm
  have t7 : BB (L_b γ) k 7 < 0 ↔ ¬ 0 ≤ BB (L_b γ) k 7 := nle_lt.symm
  simp only [hcr, e1, t2, t4, t5, t7]
  by_cases a1 : BB (L_b γ) k 5 < 0
  · by_cases a2 : BB (L_b γ) k 2 ≤ mL_tide γ (L_g γ 0)
    · by_cases a3 : BB (L_b γ) k 3 ≤ L_g γ 4
      · by_cases a4 : 0 ≤ mL_cradle γ (nI k)
        · by_cases a5 : BB (L_b γ) k 1 + 1 ≤ mL_room γ (nI i)
          · by_cases a6 : BB (L_b γ) k 1 ≤ 9
            · by_cases a7 : 0 ≤ BB (L_b γ) k 7 <;> simp only [a1, a2, a3, a4, a5, a6, a7, not_true, not_false_eq_true, if_true, if_false, reduceIte, one0]
            · by_cases a7 : 0 ≤ BB (L_b γ) k 7 <;> simp only [a1, a2, a3, a4, a5, a6, a7, not_true, not_false_eq_true, if_true, if_false, reduceIte, one0]
          · simp only [a1, a2, a3, a4, a5, not_true, not_false_eq_true, if_true, if_false, reduceIte, one0]
        · simp only [a1, a2, a3, a4, not_true, not_false_eq_true, if_true, if_false, reduceIte, one0]
      · simp only [a1, a2, a3, not_true, not_false_eq_true, if_true, if_false, reduceIte, one0]
    · simp only [a1, a2, not_true, not_false_eq_true, if_true, if_false, reduceIte, one0]
  · simp only [a1, not_true, not_false_eq_true, if_true, if_false, reduceIte, one0]
/-- where a boat ashore stands -/
theorem rd_at (h : RelQ Y γ T n q) {k : Nat} (hk : k < 6) (h0 : ¬ BB (L_b γ) k 0 = 0) (h5 : 0 ≤ BB (L_b γ) k 5) : ∃ i j, i < 4 ∧ j < n i ∧ q i j = k ∧ BB (L_b γ) k 5 = nI i ∧ FY Y k 4 = nI i ∧ FY Y k 5 = nI j ∧ n i ≤ 6 := by
  obtain ⟨pE, pV, pM, pS⟩ := rq_p h hk h0
  rcases pS with s | ⟨⟨i, hi, s1, s2⟩, _⟩
  · rw [s.1] at h5
    exact absurd h5 (by decide)
  · obtain ⟨j, hj, e⟩ := h.2.2.1.2.2.2 k hk ((h.2.2.1.1 k hk).p h0).1 i hi s1
    have := h.2.2.1.2.2.1 i hi j hj
    rw [e] at this
    exact ⟨i, j, hi, hj, e, s1, s2, this.2.2.2, (h.2.1 i hi).1⟩
theorem rd_far (h : RelQ Y γ T n q) {k i j : Nat} (hk : k < 6) (hi : i < 4) (e4 : FY Y k 4 = nI i) (e5 : FY Y k 5 = nI j) : mX2_boatsFartherOut Y (nI k) = (nI (n i) - 1) - nI j := by
  unfold mX2_boatsFartherOut
  rw [fa4 (by omega), fa5 (by omega), e4, e5, rd_in h.2.1 h.2.2.1 hi]
theorem far_iff {a j : Nat} (ha : a ≤ 6) (hj : j < a) : (nI a - 1) - nI j ≤ 0 ↔ nI a - 1 ≤ nI j := by
  have s1 : (nI a - 1).toInt = (a : Int) - 1 := by
    rw [ti_sub (by rw [nI_ti (by omega)]; show _ ≤ (a : Int) - 1; omega) (by rw [nI_ti (by omega)]; show (a : Int) - 1 < _; omega), nI_ti (by omega)]
    rfl
  have e0 : (0 : Int32).toInt = 0 := rfl
  rw [le_ti, le_ti, ti_sub (by rw [s1, nI_ti (by omega)]; omega) (by rw [s1, nI_ti (by omega)]; omega), s1, nI_ti (by omega)]
  omega
theorem rd_whyL (h : RelQ Y γ T n q) {k : Nat} (hk : k < 6) (h0 : ¬ BB (L_b γ) k 0 = 0) : mX2_whyNoLaunch Y (nI k) = mL_launchReason γ (nI k) := by
  obtain ⟨pE, pV, pM, pS⟩ := rq_p h hk h0
  unfold mX2_whyNoLaunch mL_launchReason
  rw [rd_ash h hk h0, h.1.1.1, rd_deep h hk h0 (day_nn h), rd_crane h hk h0, rd_left h.2.2.2 h.1, lo5 hk, lo2 hk, lo3 hk, lo8 hk, fa8 (by omega), show FY Y k 8 = _ from pE.2.2.2.2.1,
    show (0 : Int32).toNatClampNeg = 0 from rfl, show (4 : Int32).toNatClampNeg = 4 from rfl]
  have t1 : BB (L_b γ) k 5 < 0 ↔ ¬ 0 ≤ BB (L_b γ) k 5 := nle_lt.symm
  have t2 : mL_tide γ (L_g γ 0) < BB (L_b γ) k 2 ↔ ¬ BB (L_b γ) k 2 ≤ mL_tide γ (L_g γ 0) := nle_lt.symm
  have t4 : L_g γ 4 < BB (L_b γ) k 3 ↔ ¬ BB (L_b γ) k 3 ≤ L_g γ 4 := nle_lt.symm
  simp only [t1, t2, t4]
  by_cases a1 : 0 ≤ BB (L_b γ) k 5
  · obtain ⟨i, j, hi, hj, e, e1, e2, e3, hn⟩ := rd_at h hk h0 a1
    have ep : mL_place γ (nI k) = nI j := by rw [← e]; exact rd_place h.2.1 h.2.2.1 hi hj
    have er : L_r γ (7 * nI i).toNatClampNeg = nI (n i) := by rw [ixr0 hi]; exact (h.2.1 i hi).2.1
    rw [rd_far h hk hi e2 e3, ep]
    rw [show BB (L_b γ) k 5 = nI i from e1] at a1 ⊢
    rw [er]
    simp only [far_iff hn hj]
    by_cases a2 : BB (L_b γ) k 8 ≤ 0
    · by_cases a3 : nI (n i) - 1 ≤ nI j
      · by_cases a4 : BB (L_b γ) k 2 ≤ mL_tide γ (L_g γ 0)
        · by_cases a5 : BB (L_b γ) k 3 ≤ L_g γ 4
          · simp only [a1, a2, a3, a4, a5, not_true, not_false_eq_true, if_true, if_false, reduceIte, one0]
          · simp only [a1, a2, a3, a4, a5, not_true, not_false_eq_true, if_true, if_false, reduceIte, one0]
        · simp only [a1, a2, a3, a4, not_true, not_false_eq_true, if_true, if_false, reduceIte, one0]
      · simp only [a1, a2, a3, not_true, not_false_eq_true, if_true, if_false, reduceIte, one0]
    · simp only [a1, a2, not_true, not_false_eq_true, if_true, if_false, reduceIte, one0]
  · simp only [a1, not_true, not_false_eq_true, if_true, if_false, reduceIte, one0]
end RD2
