/-! the law's checks hold where the relation does -/
theorem xb_fact {x : Int32} {w : Nat} (hx : x = nI w) (hw : w < 11) : ¬ mX2_isFact x = 0 := by
  rw [hx]
  exact ne_X2_isFact (vp_in_nI hw (by decide))
theorem isrow {i : Nat} (hi : i < 4) : ¬ mX2_isRow (nI i) = 0 := ne_X2_isRow (vp_in_nI hi (by decide))
theorem iskind {i : Nat} (hi : i < 3) : ¬ mX2_isKind (nI i) = 0 := ne_X2_isKind (vp_in_nI hi (by decide))
section SO
variable {σ : VS} {T : Nat} {n : Nat → Nat} {q : Nat → Nat → Nat}
theorem so_kn (h : RelQ (W_yard σ.1) σ.2 T n q) {k : Nat} (hk : k < 6) (h0 : ¬ BB (L_b σ.2) k 0 = 0) : ¬ mX2_knows (W_yard σ.1) (nI k) = 0 := by
  rw [rd_kn h hk, if_neg h0]
  exact one0
theorem so_kn0 (h : RelQ (W_yard σ.1) σ.2 T n q) {k : Nat} (hk : k < 6) (h0 : BB (L_b σ.2) k 0 = 0) : mX2_knows (W_yard σ.1) (nI k) = 0 := by
  rw [rd_kn h hk, if_pos h0]
theorem so_fact (h : RelQ (W_yard σ.1) σ.2 T n q) {k w : Nat} (hk : k < 6) (h0 : ¬ BB (L_b σ.2) k 0 = 0) (hw : w < 11) : mX3_boat σ.1 (nI k) (nI w) = FY (W_yard σ.1) k w := by
  unfold mX3_boat
  rw [if_neg (so_kn h hk h0), if_neg (xb_fact rfl hw), fact_nI (by omega) hw]
theorem x200 {u : Nat} (hu : u ≤ 200) : ¬ (200 : Int32) < nI u := nI_nlt (a := 200) hu (by decide)
theorem y200 : (200 : Int32) < nI 201 := nI_lt (a := 200) (by omega) (by omega)
theorem n3 {i : Nat} (hi : i < 3) : ¬ (3 : Int32) ≤ nI i := nI_ge (b := 3) hi (by decide)
theorem e3 : (3 : Int32) ≤ nI 3 := nI_le (a := 3) (Nat.le_refl 3) (by decide)
theorem rd_day0 {γ : LAS} {k : Nat} (hk : k < 6) (h5 : BB (L_b γ) k 5 < 0) : mL_launchDay γ (nI k) = -5 := by
  have key : ∀ d u f, u + d = 201 → mL_launchDay_L2 γ (nI k) (d + 1 + f) (nI u) = -5 := by
    intro d
    induction d with
    | zero =>
      intro u f hu
      rw [show 0 + 1 + f = f + 1 by omega, mL_launchDay_L2, show u = 201 by omega, if_pos y200]
    | succ d ih =>
      intro u f hu
      rw [show d + 1 + 1 + f = (d + 1 + f) + 1 by omega, mL_launchDay_L2, if_neg (x200 (by omega)), lo5 hk, if_pos h5, nI1]
      exact ih (u + 1) f (by omega)
  exact key 201 0 0 (by omega)
theorem so_best (h : RelQ (W_yard σ.1) σ.2 T n q) {k : Nat} (hk : k < 6) (h0 : ¬ BB (L_b σ.2) k 0 = 0) : ∀ d u best, u + d = 4 → (best = -5 ∨ ∃ b, b < 4 ∧ best = nI b) → mX2_tightestRow_L5 (W_yard σ.1) (nI k) (d + 2) (nI u) best = mX2_tightestRow (W_yard σ.1) (nI k) → mL_isBoat_L220 σ (nI k) (d + 2) (nI u) best = 1 := by
  intro d
  induction d with
  | zero =>
    intro u best hu hb ht
    have hu : u = 4 := by omega
    subst hu
    rw [show 0 + 2 = 1 + 1 by omega, mX2_tightestRow_L5, if_pos e4] at ht
    have b1 : mX3_bestRow σ.1 (nI k) = best := by
      unfold mX3_bestRow
      rw [if_neg (so_kn h hk h0), ht]
    have b2 : mX3_launchReason σ.1 (nI k) = mL_launchReason σ.2 (nI k) := by
      unfold mX3_launchReason
      rw [if_neg (so_kn h hk h0), rd_whyL h hk h0]
    have b3 : mX3_blockers σ.1 (nI k) = ((if 0 ≤ (mL_of σ.2 (nI k) 5) then ((((L_r σ.2) (7 * (mL_of σ.2 (nI k) 5)).toNatClampNeg) - 1) - (mL_place σ.2 (nI k))) else (-5)) : Int32) := by
      unfold mX3_blockers
      rw [if_neg (so_kn h hk h0), rd_ash h hk h0, lo5 hk]
      by_cases a1 : 0 ≤ BB (L_b σ.2) k 5
      · obtain ⟨i, j, hi, hj, e, e1, e2, e3, hn⟩ := rd_at h hk h0 a1
        have ep : mL_place σ.2 (nI k) = nI j := by rw [← e]; exact rd_place h.2.1 h.2.2.1 hi hj
        rw [if_neg (nlt_le.mpr a1), if_neg one0, if_pos a1, rd_far h hk hi e2 e3, ep, e1, ixr0 hi, show L_r σ.2 (7 * i + 0) = _ from (h.2.1 i hi).2.1]
      · rw [if_pos (nle_lt.mp a1), if_pos rfl, if_neg a1]
    have b4 : mX3_launchDay σ.1 (nI k) = mL_launchDay σ.2 (nI k) := by
      unfold mX3_launchDay
      rw [if_neg (so_kn h hk h0), rd_ash h hk h0]
      by_cases a1 : 0 ≤ BB (L_b σ.2) k 5
      · rw [if_neg (nlt_le.mpr a1), if_neg one0, rd_day h hk h0 a1]
      · rw [if_pos (nle_lt.mp a1), if_pos rfl, rd_day0 hk (nle_lt.mp a1)]
    rw [mL_isBoat_L220, if_pos e4, if_pos b1, if_pos b2, if_pos b3, if_pos b4]
  | succ d ih =>
    intro u best hu hb ht
    have hu4 : u < 4 := by omega
    obtain ⟨r1, r2⟩ := rd_best h hk h0 hu4 hb (d + 2)
    have b1 : mX3_liftReason σ.1 (nI k) (nI u) = mL_liftReason σ.2 (nI k) (nI u) := by
      unfold mX3_liftReason
      rw [if_neg (so_kn h hk h0), if_neg (isrow hu4), rd_why h hk h0 hu4]
    rw [show d + 1 + 2 = (d + 2) + 1 by omega] at ht ⊢
    rw [mL_isBoat_L220, if_neg (n4 hu4), if_pos b1, lo5 hk, lo1 hk, nI1]
    rw [r1] at ht
    exact ih (u + 1) (bst σ.2 k (nI u) best) (by omega) r2 ht
theorem so_boat (h : RelQ (W_yard σ.1) σ.2 T n q) {k : Nat} (hk : k < 6) (h0 : ¬ BB (L_b σ.2) k 0 = 0) : mL_isBoat σ (nI k) = 1 := by
  obtain ⟨pE, pV, pM, pS⟩ := rq_p h hk h0
  have key : ∀ d u f, u + d = 4 → mL_isBoat_L15 σ (nI k) (d + 1 + f) (nI u) = 1 := by
    intro d
    induction d with
    | zero =>
      intro u f hu
      have b4 : mX3_boat σ.1 (nI k) 4 = ((if 0 ≤ (mL_of σ.2 (nI k) 5) then (mL_of σ.2 (nI k) 5) else (-5)) : Int32) := by
        rw [show mX3_boat σ.1 (nI k) 4 = _ from so_fact (w := 4) h hk h0 (by decide), lo5 hk]
        rcases pS with s | ⟨⟨j, hj, s1, s2⟩, _⟩
        · rw [s.1, s.2.1, if_neg (by decide)]
        · rw [s1, s2, if_pos (nge' (by omega))]
      have b5 : mX3_boat σ.1 (nI k) 5 = ((if 0 ≤ (mL_of σ.2 (nI k) 5) then (mL_place σ.2 (nI k)) else (-5)) : Int32) := by
        rw [show mX3_boat σ.1 (nI k) 5 = _ from so_fact (w := 5) h hk h0 (by decide), lo5 hk]
        by_cases a1 : 0 ≤ BB (L_b σ.2) k 5
        · obtain ⟨i, j, hi, hj, e, e1, e2, e3, hn⟩ := rd_at h hk h0 a1
          have ep : mL_place σ.2 (nI k) = nI j := by rw [← e]; exact rd_place h.2.1 h.2.2.1 hi hj
          rw [if_pos a1, e3, ep]
        · rw [if_neg a1]
          rcases pS with s | ⟨⟨j, hj, s1, s2⟩, _⟩
          · exact s.2.2.1
          · rw [s1] at a1
            exact absurd (nge' (by omega)) a1
      have b6 : mX3_boat σ.1 (nI k) 6 = ((if 0 ≤ (mL_of σ.2 (nI k) 5) then (mL_of σ.2 (nI k) 6) else (-5)) : Int32) := by
        rw [show mX3_boat σ.1 (nI k) 6 = _ from so_fact (w := 6) h hk h0 (by decide), lo5 hk, lo6 hk]
        rcases pS with s | ⟨⟨j, hj, s1, s2⟩, ⟨c, hc, s3, s4⟩, _⟩
        · rw [s.1, s.2.2.2.1, if_neg (by decide)]
        · rw [s1, s3, s4, if_pos (nge' (by omega))]
      have b7 : mX3_boat σ.1 (nI k) 7 = ((if 0 ≤ (mL_of σ.2 (nI k) 7) then (mL_of σ.2 (nI k) 7) else (-5)) : Int32) := by
        rw [show mX3_boat σ.1 (nI k) 7 = _ from so_fact (w := 7) h hk h0 (by decide), lo7 hk]
        rcases pM with s | ⟨c, hc, s3, s4⟩
        · rw [s.1, s.2, if_neg (by decide)]
        · rw [s3, s4, if_pos (nge' (by omega))]
      have b8 : mX3_boat σ.1 (nI k) 8 = mL_of σ.2 (nI k) 8 := by
        rw [show mX3_boat σ.1 (nI k) 8 = _ from so_fact (w := 8) h hk h0 (by decide), lo8 hk]
        exact pE.2.2.2.2.1
      have b9 : mX3_boat σ.1 (nI k) 9 = ((if 0 ≤ (mL_of σ.2 (nI k) 5) then (mL_of σ.2 (nI k) 9) else 0) : Int32) := by
        rw [show mX3_boat σ.1 (nI k) 9 = _ from so_fact (w := 9) h hk h0 (by decide), lo5 hk, lo9 hk]
        rcases pS with s | ⟨⟨j, hj, s1, s2⟩, _, s3⟩
        · rw [s.1, s.2.2.2.2, if_neg (by decide)]
        · rw [s1, s3, if_pos (nge' (by omega))]
      have b10 : mX3_boat σ.1 (nI k) 10 = (L_t σ.2) (nI k).toNatClampNeg := by
        rw [show mX3_boat σ.1 (nI k) 10 = _ from so_fact (w := 10) h hk h0 (by decide), ixs (by omega)]
        exact pE.2.2.2.2.2
      rw [show 0 + 1 + f = f + 1 by omega, show u = 4 by omega, mL_isBoat_L15, if_pos e4, if_pos b4, if_pos b5, if_pos b6, if_pos b7, if_pos b8, if_pos b9, if_pos b10]
      exact so_best h hk h0 4 0 (-5) (by omega) (Or.inl rfl) rfl
    | succ d ih =>
      intro u f hu
      have b : mX3_boat σ.1 (nI k) (nI u) = mL_of σ.2 (nI k) (nI u + 1) := by
        rw [so_fact h hk h0 (by omega), nI1, of_nI hk (by omega)]
        have hu4 : u = 0 ∨ u = 1 ∨ u = 2 ∨ u = 3 := by omega
        rcases hu4 with rfl | rfl | rfl | rfl
        · exact pE.1
        · exact pE.2.1
        · exact pE.2.2.1
        · exact pE.2.2.2.1
      rw [show d + 1 + 1 + f = (d + 1 + f) + 1 by omega, mL_isBoat_L15, if_neg (n4 (by omega)), if_pos b, nI1]
      exact ih (u + 1) f (by omega)
  exact key 4 0 1 (by omega)
theorem cnt0 {ω : WS} : mX3_count ω 0 = mX2_today (W_yard ω) := by
  unfold mX3_count
  rw [if_pos rfl]
theorem cnt1 {ω : WS} : mX3_count ω 1 = mX2_tideOn (W_yard ω) (mX2_today (W_yard ω)) := by
  unfold mX3_count
  rw [if_neg (by decide), if_pos rfl]
theorem cnt2 {ω : WS} : mX3_count ω 2 = mX2_liftsLeft (W_yard ω) := by
  unfold mX3_count
  rw [if_neg (by decide), if_neg (by decide), if_pos rfl]
theorem cnt3 {ω : WS} : mX3_count ω 3 = mX2_boats (W_yard ω) := by
  unfold mX3_count
  rw [if_neg (by decide), if_neg (by decide), if_neg (by decide), if_pos rfl]
theorem cnt4 {ω : WS} : mX3_count ω 4 = mX2_boatsAshore (W_yard ω) := by
  unfold mX3_count
  rw [if_neg (by decide), if_neg (by decide), if_neg (by decide), if_neg (by decide), if_pos rfl]
theorem cnt5 {ω : WS} : mX3_count ω 5 = mX2_boatsWithWork (W_yard ω) := by
  unfold mX3_count
  rw [if_neg (by decide), if_neg (by decide), if_neg (by decide), if_neg (by decide), if_neg (by decide), if_pos rfl]
theorem cnt6 {ω : WS} : mX3_count ω 6 = mX2_liftsSoFar (W_yard ω) := by
  unfold mX3_count
  rw [if_neg (by decide), if_neg (by decide), if_neg (by decide), if_neg (by decide), if_neg (by decide), if_neg (by decide), if_pos rfl]
theorem cnt7 {ω : WS} : mX3_count ω 7 = mX2_launchesSoFar (W_yard ω) := by
  unfold mX3_count
  rw [if_neg (by decide), if_neg (by decide), if_neg (by decide), if_neg (by decide), if_neg (by decide), if_neg (by decide), if_neg (by decide), if_pos rfl]
theorem cnt8 {ω : WS} : mX3_count ω 8 = mX2_mastsIn (W_yard ω) 0 := by
  unfold mX3_count
  rw [if_neg (by decide), if_neg (by decide), if_neg (by decide), if_neg (by decide), if_neg (by decide), if_neg (by decide), if_neg (by decide), if_neg (by decide), if_pos rfl]
theorem cnt9 {ω : WS} : mX3_count ω 9 = mX2_mastsIn (W_yard ω) 1 := by
  unfold mX3_count
  rw [if_neg (by decide), if_neg (by decide), if_neg (by decide), if_neg (by decide), if_neg (by decide), if_neg (by decide), if_neg (by decide), if_neg (by decide), if_neg (by decide), if_pos rfl]
theorem cnt10 {ω : WS} : mX3_count ω 10 = mX2_setting (W_yard ω) 0 := by
  unfold mX3_count
  rw [if_neg (by decide), if_neg (by decide), if_neg (by decide), if_neg (by decide), if_neg (by decide), if_neg (by decide), if_neg (by decide), if_neg (by decide), if_neg (by decide), if_neg (by decide), if_pos rfl]
theorem cnt11 {ω : WS} : mX3_count ω 11 = mX2_setting (W_yard ω) 1 := by
  unfold mX3_count
  rw [if_neg (by decide), if_neg (by decide), if_neg (by decide), if_neg (by decide), if_neg (by decide), if_neg (by decide), if_neg (by decide), if_neg (by decide), if_neg (by decide), if_neg (by decide), if_neg (by decide), if_pos rfl]
theorem cnt12 {ω : WS} : mX3_count ω 12 = mX2_setting (W_yard ω) 2 := by
  unfold mX3_count
  rw [if_neg (by decide), if_neg (by decide), if_neg (by decide), if_neg (by decide), if_neg (by decide), if_neg (by decide), if_neg (by decide), if_neg (by decide), if_neg (by decide), if_neg (by decide), if_neg (by decide), if_neg (by decide), if_pos rfl]
theorem so_290 (h : RelQ (W_yard σ.1) σ.2 T n q) : mL_isSo_L290 σ (sm (fun k => if BB (L_b σ.2) k 0 = 0 then 0 else if BB (L_b σ.2) k 8 ≤ 0 then 0 else 1) 6) (sm (fun k => if BB (L_b σ.2) k 0 = 0 then 0 else if BB (L_b σ.2) k 5 < 0 then 0 else 1) 6) (sm (fun k => if BB (L_b σ.2) k 0 = 0 then 0 else 1) 6) 5 0 = 1 := by
  have hT := h.2.2.2
  have hd := h.1.1.2
  have e9 : (L_g σ.2 0 + 9).toInt = (L_g σ.2 0).toInt + 9 := up_add (d := 9) (k := 9) (M := 9000) rfl hd.1 (by omega) (by decide) (by decide)
  generalize hw7 : sm (fun k => if BB (L_b σ.2) k 0 = 0 then 0 else if BB (L_b σ.2) k 8 ≤ 0 then 0 else 1) 6 = w7
  generalize hw6 : sm (fun k => if BB (L_b σ.2) k 0 = 0 then 0 else if BB (L_b σ.2) k 5 < 0 then 0 else 1) 6 = w6
  generalize hw5 : sm (fun k => if BB (L_b σ.2) k 0 = 0 then 0 else 1) 6 = w5
  have key : ∀ d u f, u + d = 3 → mL_isSo_L290 σ w7 w6 w5 (d + 1 + f) (nI u) = 1 := by
    intro d
    induction d with
    | zero =>
      intro u f hu
      have c0 : mX3_count σ.1 0 = (L_g σ.2) (0 : Int32).toNatClampNeg := cnt0.trans h.1.1.1
      have c1 : mX3_count σ.1 1 = mL_tide σ.2 ((L_g σ.2) (0 : Int32).toNatClampNeg) := by
        rw [cnt1, show mX2_today (W_yard σ.1) = L_g σ.2 0 from h.1.1.1, rd_tide h.1 hd.1]
        rfl
      have c2 : mX3_count σ.1 2 = mL_left σ.2 := cnt2.trans (rd_left h.2.2.2 h.1)
      have c3 : mX3_count σ.1 3 = w5 := (cnt3.trans (rd_boats h)).trans hw5
      have c4 : mX3_count σ.1 4 = w6 := (cnt4.trans (rd_ashores h)).trans hw6
      have c5 : mX3_count σ.1 5 = w7 := (cnt5.trans (rd_works h)).trans hw7
      have c6 : mX3_count σ.1 6 = (L_g σ.2) (5 : Int32).toNatClampNeg := cnt6.trans h.1.2.2.1.1
      have c7 : mX3_count σ.1 7 = (L_g σ.2) (6 : Int32).toNatClampNeg := cnt7.trans h.1.2.2.1.2
      have c8 : mX3_count σ.1 8 = mL_masts σ.2 0 := cnt8.trans (rd_masts h.2.2.1 (c := 0) (by decide))
      have c9 : mX3_count σ.1 9 = mL_masts σ.2 1 := cnt9.trans (rd_masts h.2.2.1 (c := 1) (by decide))
      have ct : mX3_tide σ.1 (((L_g σ.2) (0 : Int32).toNatClampNeg) + 9) = mL_tide σ.2 (((L_g σ.2) (0 : Int32).toNatClampNeg) + 9) := by
        show mX3_tide σ.1 (L_g σ.2 0 + 9) = mL_tide σ.2 (L_g σ.2 0 + 9)
        unfold mX3_tide
        rw [if_neg (within_ne (k := 9999) rfl (in_iff.mpr (by rw [e9]; omega))), rd_tide h.1 (by rw [e9]; omega)]
      rw [show 0 + 1 + f = f + 1 by omega, show u = 3 by omega, mL_isSo_L290, if_pos e3, if_pos c0, if_pos c1, if_pos c2, if_pos c3, if_pos c4, if_pos c5, if_pos c6, if_pos c7, if_pos c8, if_pos c9, if_pos ct]
    | succ d ih =>
      intro u f hu
      have hu3 : u < 3 := by omega
      have d0 : mX3_cradle σ.1 (nI u) 0 = (L_g σ.2) (7 + nI u).toNatClampNeg := by
        unfold mX3_cradle mX2_cradlesOf
        rw [if_neg (iskind hu3), if_pos rfl, ixs (by omega), show (7 + nI u).toNatClampNeg = 7 + u from ixg (c := 7) (by decide) (by omega), (h.1.2.2.2.2.1 u hu3).1]
      have d1 : mX3_cradle σ.1 (nI u) 1 = mL_taken σ.2 (nI u) := by
        unfold mX3_cradle mX2_cradlesTaken
        rw [if_neg (iskind hu3), if_neg one0, if_pos rfl, rd_taken h.2.2.1 hu3]
      have d2 : mX3_cradle σ.1 (nI u) 2 = mL_bears (nI u) := by
        unfold mX3_cradle
        rw [if_neg (iskind hu3), if_neg (by decide), if_neg (by decide), if_pos rfl]
        have hu4 : u = 0 ∨ u = 1 ∨ u = 2 := by omega
        rcases hu4 with rfl | rfl | rfl <;> rfl
      have d3 : mX3_count σ.1 (10 + nI u) = (L_g σ.2) (2 + nI u).toNatClampNeg := by
        rw [show (2 + nI u).toNatClampNeg = 2 + u from ixg (c := 2) (by decide) (by omega), ← h.1.2.2.2.1.1 u hu3]
        have hu4 : u = 0 ∨ u = 1 ∨ u = 2 := by omega
        rcases hu4 with rfl | rfl | rfl
        · exact cnt10
        · exact cnt11
        · exact cnt12
      rw [show d + 1 + 1 + f = (d + 1 + f) + 1 by omega, mL_isSo_L290, if_neg (n3 hu3), if_pos d0, if_pos d1, if_pos d2, if_pos d3, nI1]
      exact ih (u + 1) f (by omega)
  exact key 3 0 1 (by omega)
theorem so_140 (h : RelQ (W_yard σ.1) σ.2 T n q) {i : Nat} (hi : i < 4) {w7 w6 w5 : Int32} : mL_isSo_L140 σ (nI (n i)) (nI i) w7 w6 w5 8 0 = 1 := by
  have hn := (h.2.1 i hi).1
  have key : ∀ d u f, u + d = n i → mL_isSo_L140 σ (nI (n i)) (nI i) w7 w6 w5 (d + 1 + f) (nI u) = 1 := by
    intro d
    induction d with
    | zero =>
      intro u f hu
      rw [show 0 + 1 + f = f + 1 by omega, show u = n i by omega, mL_isSo_L140, if_pos (nI_le (Nat.le_refl _) (by omega))]
    | succ d ih =>
      intro u f hu
      have b : mX3_stands σ.1 (nI i) (nI u) = (L_r σ.2) (((7 * nI i) + 1) + nI u).toNatClampNeg := by
        unfold mX3_stands
        rw [if_neg (isrow hi), if_pos (nge' (by omega)), rd_boatAt h hi (by omega), ixr1 hi (by omega), show L_r σ.2 (7 * i + (u + 1)) = _ from ((h.2.1 i hi).2.2 u (by omega)).2]
      rw [show d + 1 + 1 + f = (d + 1 + f) + 1 by omega, mL_isSo_L140, if_neg (nI_ge (by omega) (by omega)), if_pos b, nI1]
      exact ih (u + 1) f (by omega)
  have := key (n i) 0 (7 - n i) (by omega)
  rw [show n i + 1 + (7 - n i) = 8 by omega] at this
  exact this
theorem so_121 (h : RelQ (W_yard σ.1) σ.2 T n q) : mL_isSo_L121 σ (sm (fun k => if BB (L_b σ.2) k 0 = 0 then 0 else if BB (L_b σ.2) k 8 ≤ 0 then 0 else 1) 6) (sm (fun k => if BB (L_b σ.2) k 0 = 0 then 0 else if BB (L_b σ.2) k 5 < 0 then 0 else 1) 6) (sm (fun k => if BB (L_b σ.2) k 0 = 0 then 0 else 1) 6) 6 0 = 1 := by
  have h290 := so_290 h
  generalize sm (fun k => if BB (L_b σ.2) k 0 = 0 then 0 else if BB (L_b σ.2) k 8 ≤ 0 then 0 else 1) 6 = w7 at *
  generalize sm (fun k => if BB (L_b σ.2) k 0 = 0 then 0 else if BB (L_b σ.2) k 5 < 0 then 0 else 1) 6 = w6 at *
  generalize sm (fun k => if BB (L_b σ.2) k 0 = 0 then 0 else 1) 6 = w5 at *
  have key : ∀ d u f, u + d = 4 → mL_isSo_L121 σ w7 w6 w5 (d + 1 + f) (nI u) = 1 := by
    intro d
    induction d with
    | zero =>
      intro u f hu
      rw [show 0 + 1 + f = f + 1 by omega, show u = 4 by omega, mL_isSo_L121, if_pos e4]
      exact h290
    | succ d ih =>
      intro u f hu
      have hu4 : u < 4 := by omega
      have hn := (h.2.1 u hu4).1
      have er : (L_r σ.2) (7 * nI u).toNatClampNeg = nI (n u) := by rw [ixr0 hu4]; exact (h.2.1 u hu4).2.1
      have eg : (L_g σ.2) (10 + nI u).toNatClampNeg = L_g σ.2 (10 + u) := by rw [show (10 + nI u).toNatClampNeg = 10 + u from ixg (c := 10) (by decide) (by omega)]
      have r0 : mX3_row σ.1 (nI u) 0 = L_g σ.2 (10 + u) := by
        unfold mX3_row mX2_metresOf
        rw [if_neg (isrow hu4), if_pos rfl, ixs (by omega), (h.1.2.2.2.2.2 u hu4).1]
      have r1 : mX3_row σ.1 (nI u) 1 = L_g σ.2 (10 + u) - mL_room σ.2 (nI u) := by
        unfold mX3_row
        rw [if_neg (isrow hu4), if_neg one0, if_pos rfl, rd_mt h.2.1 h.2.2.1 hu4, rd_room h.2.1 h.2.2.1 hu4]
        grind
      have r2 : mX3_row σ.1 (nI u) 2 = nI (n u) := by
        unfold mX3_row
        rw [if_neg (isrow hu4), if_neg (by decide), if_neg (by decide), if_pos rfl, rd_in h.2.1 h.2.2.1 hu4]
      have r3 : mX3_row σ.1 (nI u) 3 = ((if nI (n u) = 0 then (-5) else ((L_r σ.2) ((7 * nI u) + nI (n u)).toNatClampNeg)) : Int32) := by
        unfold mX3_row
        rw [if_neg (isrow hu4), if_neg (by decide), if_neg (by decide), if_neg (by decide), if_pos rfl, rd_in h.2.1 h.2.2.1 hu4]
        by_cases c : n u = 0
        · rw [c, if_pos (show nI 0 = 0 from rfl)]
          have : nI 0 - 1 = -1 := by decide
          rw [this]
          -- nobody stands at -1
          have key2 : ∀ d a f, a + d = 20 → mX2_boatAt_L2 (W_yard σ.1) (nI u) (-1) (d + 1 + f) (nI a) = -5 := by
            intro d
            induction d with
            | zero =>
              intro a f ha
              rw [show 0 + 1 + f = f + 1 by omega, mX2_boatAt_L2, show a = 20 by omega, if_pos e20]
            | succ d ih =>
              intro a f ha
              have i1 := ih (a + 1) f (by omega)
              rw [show d + 1 + 1 + f = (d + 1 + f) + 1 by omega, mX2_boatAt_L2, if_neg (i20 (by omega)), nI1, i1]
              unfold mX2_standsIn
              rw [fa4 (by omega)]
              by_cases c4 : FY (W_yard σ.1) a 4 = nI u
              · obtain ⟨q1, q2, q3⟩ := (rd_row h.2.2.1 (by omega) hu4).mp c4
                obtain ⟨j', hj', _⟩ := h.2.2.1.2.2.2 a q1 q2 u hu4 q3
                omega
              · rw [if_neg c4, if_pos rfl]
          exact key2 20 0 1 (by omega)
        · obtain ⟨m, hm⟩ : ∃ m, n u = m + 1 := ⟨n u - 1, by omega⟩
          rw [if_neg (nI_ne0 (by omega) (by omega)), ixr hu4 (by omega), hm, nI_pred, rd_boatAt h hu4 (by omega), show L_r σ.2 (7 * u + (m + 1)) = _ from ((h.2.1 u hu4).2.2 m (by omega)).2]
      have r4 : mX3_stands σ.1 (nI u) (nI (n u)) = -5 := by
        unfold mX3_stands
        rw [if_neg (isrow hu4), if_pos (nge' (by omega)), rd_noBoat h hu4]
      rw [show d + 1 + 1 + f = (d + 1 + f) + 1 by omega, mL_isSo_L121, if_neg (n4 hu4), er, eg, so_140 h hu4, if_neg one0, if_pos r0, if_pos r1, if_pos r2, if_pos r3, if_pos r4, nI1]
      exact ih (u + 1) f (by omega)
  exact key 4 0 1 (by omega)
theorem so_12 (h : RelQ (W_yard σ.1) σ.2 T n q) : mL_isSo σ = 1 := by
  have h121 := so_121 h
  have key : ∀ d u f, u + d = 6 → mL_isSo_L12 σ (d + 1 + f) (nI u) (sm (fun k => if BB (L_b σ.2) k 0 = 0 then 0 else if BB (L_b σ.2) k 8 ≤ 0 then 0 else 1) u) (sm (fun k => if BB (L_b σ.2) k 0 = 0 then 0 else if BB (L_b σ.2) k 5 < 0 then 0 else 1) u) (sm (fun k => if BB (L_b σ.2) k 0 = 0 then 0 else 1) u) = 1 := by
    intro d
    induction d with
    | zero =>
      intro u f hu
      rw [show 0 + 1 + f = f + 1 by omega, show u = 6 by omega, mL_isSo_L12, if_pos e6]
      exact h121
    | succ d ih =>
      intro u f hu
      have hu6 : u < 6 := by omega
      have i1 := ih (u + 1) f (by omega)
      rw [show d + 1 + 1 + f = (d + 1 + f) + 1 by omega, mL_isSo_L12, if_neg (n6 hu6), lo0 hu6, lo8 hu6, lo5 hu6, nI1]
      by_cases h0 : BB (L_b σ.2) u 0 = 0
      · have b0 : mX3_boat σ.1 (nI u) 0 = -1 := by
          unfold mX3_boat
          rw [if_pos (so_kn0 h hu6 h0)]
        have b1 : mX3_launchDay σ.1 (nI u) = -1 := by
          unfold mX3_launchDay
          rw [if_pos (so_kn0 h hu6 h0)]
        rw [if_pos h0, if_pos b0, if_pos b1]
        show _ = _
        have e1 : ∀ v : Nat → Int32, v u = 0 → sm v (u + 1) = sm v u := fun v hv => by
          show sm v u + v u = _
          rw [hv, add0]
        rw [e1 _ (if_pos h0), e1 _ (if_pos h0), e1 _ (if_pos h0)] at i1
        exact i1
      · have e1 : ∀ v : Nat → Int32, sm v (u + 1) = sm v u + v u := fun v => rfl
        rw [if_neg h0, so_boat h hu6 h0, if_neg one0]
        rw [e1, e1, e1, if_neg h0, if_neg h0, if_neg h0] at i1
        exact i1
  exact key 6 0 1 (by omega)
end SO
