/-! the calls that tell -/
section TELLS
variable {ω : WS} {τ : MS} {T : Nat}
theorem t_boat (h : RelW ω τ T) (x1 x2 : Int32) : mX3_boat ω x1 x2 = mX4_boat τ x1 x2 := by
  have hY := h.1
  unfold mX3_boat mX4_boat
  rw [kn_eq hY]
  by_cases c1 : mX4_isBoat τ x1 = 0
  · rw [if_pos c1, if_pos c1]
  · rw [if_neg c1, if_neg c1]
    obtain ⟨k, hk, rfl, hb⟩ := kn_get c1
    obtain ⟨b0, b1, b2, b3, b4, b6, b7, b8, b9, b10⟩ := (hY.p hk hb).1
    by_cases c2 : mX2_isFact x2 = 0
    · rw [if_pos c2]
      have n : ∀ i : Nat, i < 11 → ¬ x2 = nI i := fun i hi e => by
        subst e
        unfold mX2_isFact mX3_within at c2
        rw [if_neg (nI_pos (by omega)), if_neg (show ¬ (10 : Int32) < nI i from nI_nlt (b := i) (a := 10) (by omega) (by decide))] at c2
        exact absurd c2 (by decide)
      rw [if_neg (show ¬ x2 = 0 from n 0 (by decide)), if_neg (show ¬ x2 = 1 from n 1 (by decide)), if_neg (show ¬ x2 = 2 from n 2 (by decide)), if_neg (show ¬ x2 = 3 from n 3 (by decide)), if_neg (show ¬ x2 = 4 from n 4 (by decide)), if_neg (show ¬ x2 = 5 from n 5 (by decide)), if_neg (show ¬ x2 = 6 from n 6 (by decide)), if_neg (show ¬ x2 = 7 from n 7 (by decide)), if_neg (show ¬ x2 = 8 from n 8 (by decide)), if_neg (show ¬ x2 = 9 from n 9 (by decide)), if_neg (show ¬ x2 = 10 from n 10 (by decide))]
    · rw [if_neg c2]
      obtain ⟨w, hw, rfl⟩ := vp_in_of (in_within (k := 10) rfl c2) (by decide)
      rw [fact_nI hk hw]
      rcases (show w = 0 ∨ w = 1 ∨ w = 2 ∨ w = 3 ∨ w = 4 ∨ w = 5 ∨ w = 6 ∨ w = 7 ∨ w = 8 ∨ w = 9 ∨ w = 10 by omega) with rfl | rfl | rfl | rfl | rfl | rfl | rfl | rfl | rfl | rfl | rfl
      · rw [if_pos (show nI 0 = 0 from rfl)]
        exact b0.trans (zo1 hk).symm
      · rw [if_neg (show ¬ nI 1 = 0 by decide), if_pos (show nI 1 = 1 from rfl)]
        exact b1.trans (zo2 hk).symm
      · rw [if_neg (show ¬ nI 2 = 0 by decide), if_neg (show ¬ nI 2 = 1 by decide), if_pos (show nI 2 = 2 from rfl)]
        exact b2.trans (zo3 hk).symm
      · rw [if_neg (show ¬ nI 3 = 0 by decide), if_neg (show ¬ nI 3 = 1 by decide), if_neg (show ¬ nI 3 = 2 by decide), if_pos (show nI 3 = 3 from rfl)]
        exact b3.trans (zo4 hk).symm
      · rw [if_neg (show ¬ nI 4 = 0 by decide), if_neg (show ¬ nI 4 = 1 by decide), if_neg (show ¬ nI 4 = 2 by decide), if_neg (show ¬ nI 4 = 3 by decide), if_pos (show nI 4 = 4 from rfl)]
        exact b4.trans (zo5 hk).symm
      · rw [if_neg (show ¬ nI 5 = 0 by decide), if_neg (show ¬ nI 5 = 1 by decide), if_neg (show ¬ nI 5 = 2 by decide), if_neg (show ¬ nI 5 = 3 by decide), if_neg (show ¬ nI 5 = 4 by decide), if_pos (show nI 5 = 5 from rfl)]
        by_cases c3 : mX4_isAshore τ (nI k) = 0
        · rw [if_pos c3]; exact (z5_af hY hk hb c3).2.1
        · rw [if_neg c3]
          obtain ⟨r, hr, e5⟩ := z5_get hY hk hb c3
          exact pl_eq hY hk hb (by rw [e5]; exact ge0 (by omega))
      · rw [if_neg (show ¬ nI 6 = 0 by decide), if_neg (show ¬ nI 6 = 1 by decide), if_neg (show ¬ nI 6 = 2 by decide), if_neg (show ¬ nI 6 = 3 by decide), if_neg (show ¬ nI 6 = 4 by decide), if_neg (show ¬ nI 6 = 5 by decide), if_pos (show nI 6 = 6 from rfl)]
        exact b6.trans (zo6 hk).symm
      · rw [if_neg (show ¬ nI 7 = 0 by decide), if_neg (show ¬ nI 7 = 1 by decide), if_neg (show ¬ nI 7 = 2 by decide), if_neg (show ¬ nI 7 = 3 by decide), if_neg (show ¬ nI 7 = 4 by decide), if_neg (show ¬ nI 7 = 5 by decide), if_neg (show ¬ nI 7 = 6 by decide), if_pos (show nI 7 = 7 from rfl)]
        exact b7.trans (zo7 hk).symm
      · rw [if_neg (show ¬ nI 8 = 0 by decide), if_neg (show ¬ nI 8 = 1 by decide), if_neg (show ¬ nI 8 = 2 by decide), if_neg (show ¬ nI 8 = 3 by decide), if_neg (show ¬ nI 8 = 4 by decide), if_neg (show ¬ nI 8 = 5 by decide), if_neg (show ¬ nI 8 = 6 by decide), if_neg (show ¬ nI 8 = 7 by decide), if_pos (show nI 8 = 8 from rfl)]
        exact b8.trans (zo8 hk).symm
      · rw [if_neg (show ¬ nI 9 = 0 by decide), if_neg (show ¬ nI 9 = 1 by decide), if_neg (show ¬ nI 9 = 2 by decide), if_neg (show ¬ nI 9 = 3 by decide), if_neg (show ¬ nI 9 = 4 by decide), if_neg (show ¬ nI 9 = 5 by decide), if_neg (show ¬ nI 9 = 6 by decide), if_neg (show ¬ nI 9 = 7 by decide), if_neg (show ¬ nI 9 = 8 by decide), if_pos (show nI 9 = 9 from rfl)]
        exact b9.trans (zo9 hk).symm
      · rw [if_neg (show ¬ nI 10 = 0 by decide), if_neg (show ¬ nI 10 = 1 by decide), if_neg (show ¬ nI 10 = 2 by decide), if_neg (show ¬ nI 10 = 3 by decide), if_neg (show ¬ nI 10 = 4 by decide), if_neg (show ¬ nI 10 = 5 by decide), if_neg (show ¬ nI 10 = 6 by decide), if_neg (show ¬ nI 10 = 7 by decide), if_neg (show ¬ nI 10 = 8 by decide), if_neg (show ¬ nI 10 = 9 by decide), if_pos (show nI 10 = 10 from rfl)]
        exact b10.trans (zo10 hk).symm
theorem t_row (h : RelW ω τ T) (x1 x2 : Int32) : mX3_row ω x1 x2 = mX4_row τ x1 x2 := by
  have hY := h.1
  unfold mX3_row mX4_row mX2_metresOf
  rw [show mX2_isRow x1 = mX4_isRow x1 from rfl]
  by_cases c1 : mX4_isRow x1 = 0
  · rw [if_pos c1, if_pos c1]
  · rw [if_neg c1, if_neg c1]
    obtain ⟨r, hr, rfl⟩ := row_get c1
    have g0 : 0 ≤ (nI r).toInt := ge0 (by omega)
    rw [me_eq hY hr, mt_eq hY g0, bi_eq hY g0, ba_eq hY g0]
theorem t_stands (h : RelW ω τ T) (x1 x2 : Int32) : mX3_stands ω x1 x2 = mX4_stands τ x1 x2 := by
  have hY := h.1
  unfold mX3_stands mX4_stands
  rw [show mX2_isRow x1 = mX4_isRow x1 from rfl]
  by_cases c1 : mX4_isRow x1 = 0
  · rw [if_pos c1, if_pos c1]
  · rw [if_neg c1, if_neg c1]
    obtain ⟨r, hr, rfl⟩ := row_get c1
    rw [ba_eq hY (ge0 (by omega))]
theorem be_eq {k : Nat} (hk : k < 3) : mX2_bears (nI k) = mX4_bears (nI k) := by
  rcases (show k = 0 ∨ k = 1 ∨ k = 2 by omega) with rfl | rfl | rfl <;> rfl
theorem t_cradle (h : RelW ω τ T) (x1 x2 : Int32) : mX3_cradle ω x1 x2 = mX4_cradle τ x1 x2 := by
  have hY := h.1
  unfold mX3_cradle mX4_cradle mX2_cradlesOf mX2_cradlesTaken
  rw [show mX2_isKind x1 = mX4_isKind x1 from rfl]
  by_cases c1 : mX4_isKind x1 = 0
  · rw [if_pos c1, if_pos c1]
  · rw [if_neg c1, if_neg c1]
    obtain ⟨r, hr, rfl⟩ := kind_get c1
    rw [cr_eq hY hr, tk_eq hY (ge0 (by omega)), be_eq hr]
theorem t_tide (h : RelW ω τ T) (x1 : Int32) : mX3_tide ω x1 = mX4_tide τ x1 := by
  unfold mX3_tide mX4_tide
  rw [tide_eq h.1]
  rfl
theorem t_liftReason (h : RelW ω τ T) (x1 x2 : Int32) : mX3_liftReason ω x1 x2 = mX4_liftReason τ x1 x2 := by
  have hY := h.1
  unfold mX3_liftReason mX4_liftReason
  rw [kn_eq hY, show mX2_isRow x2 = mX4_isRow x2 from rfl]
  by_cases c1 : mX4_isBoat τ x1 = 0
  · rw [if_pos c1, if_pos c1]
  · rw [if_neg c1, if_neg c1]
    by_cases c2 : mX4_isRow x2 = 0
    · rw [if_pos c2, if_pos c2]
    · rw [if_neg c2, if_neg c2]
      obtain ⟨k, hk, rfl, hb⟩ := kn_get c1
      obtain ⟨r, hr, rfl⟩ := row_get c2
      exact wl_eq hY hk hb hr
theorem t_launchReason (h : RelW ω τ T) (x1 : Int32) : mX3_launchReason ω x1 = mX4_launchReason τ x1 := by
  have hY := h.1
  unfold mX3_launchReason mX4_launchReason
  rw [kn_eq hY]
  by_cases c1 : mX4_isBoat τ x1 = 0
  · rw [if_pos c1, if_pos c1]
  · rw [if_neg c1, if_neg c1]
    obtain ⟨k, hk, rfl, hb⟩ := kn_get c1
    exact wla_eq hY hk hb
theorem t_blockers (h : RelW ω τ T) (x1 : Int32) : mX3_blockers ω x1 = mX4_blockers τ x1 := by
  have hY := h.1
  unfold mX3_blockers mX4_blockers
  rw [kn_eq hY]
  by_cases c1 : mX4_isBoat τ x1 = 0
  · rw [if_pos c1, if_pos c1]
  · rw [if_neg c1, if_neg c1]
    obtain ⟨k, hk, rfl, hb⟩ := kn_get c1
    rw [as_eq hY hk hb]
    by_cases c2 : mX4_isAshore τ (nI k) = 0
    · rw [if_pos c2, if_pos c2]
    · rw [if_neg c2, if_neg c2]
      obtain ⟨r, hr, e5⟩ := z5_get hY hk hb c2
      exact fo_eq hY hk hb (by rw [e5]; exact ge0 (by omega))
theorem t_launchDay (h : RelW ω τ T) (x1 : Int32) : mX3_launchDay ω x1 = mX4_launchDay τ x1 := by
  have hY := h.1
  unfold mX3_launchDay mX4_launchDay
  rw [kn_eq hY]
  by_cases c1 : mX4_isBoat τ x1 = 0
  · rw [if_pos c1, if_pos c1]
  · rw [if_neg c1, if_neg c1]
    obtain ⟨k, hk, rfl, hb⟩ := kn_get c1
    rw [as_eq hY hk hb]
    by_cases c2 : mX4_isAshore τ (nI k) = 0
    · rw [if_pos c2, mX4_launchDay_L17, if_neg (show ¬ (200 : Int32) < 0 by decide), if_pos c2]
    · rw [if_neg c2]
      exact ld_eq hY hk hb c2
theorem t_bestRow (h : RelW ω τ T) (x1 : Int32) : mX3_bestRow ω x1 = mX4_bestRow τ x1 := by
  have hY := h.1
  unfold mX3_bestRow mX4_bestRow
  rw [kn_eq hY]
  by_cases c1 : mX4_isBoat τ x1 = 0
  · rw [if_pos c1, if_pos c1]
  · rw [if_neg c1, if_neg c1]
    obtain ⟨k, hk, rfl, hb⟩ := kn_get c1
    exact br_eq hY hk hb
theorem t_count (h : RelW ω τ T) (x1 : Int32) : mX3_count ω x1 = mX4_count τ x1 := by
  have hY := h.1
  obtain ⟨s, s1, s2⟩ := h.st
  obtain ⟨r, o, r1, r2, r3, r4, -⟩ := h.2.2.1
  obtain ⟨n, n1, n2, n3, -⟩ := h.2.2.2.1
  rw [cn4, mX4_count_L7, if_pos e20]
  unfold mX3_count mX2_today mX2_liftsSoFar mX2_launchesSoFar mX2_setting mX0_states mX1_length
  rw [tide_eq hY, left_eq hY, bo_eq hY, ac_eq hY, ww_eq hY, mi_eq hY (x := 0) (by decide), mi_eq hY (x := 1) (by decide), day_eq hY, n2, n3, r3, r4, show Y_lifts (W_yard ω) = M_z τ (5 : Int32).toNatClampNeg from hY.1.2.2.1.1, show Y_launches (W_yard ω) = M_z τ (6 : Int32).toNatClampNeg from hY.1.2.2.1.2]
  have q0 : Y_settings (W_yard ω) (0 : Int32).toNatClampNeg = M_z τ 2 := hY.1.2.2.2.1.1
  have q1 : Y_settings (W_yard ω) (1 : Int32).toNatClampNeg = M_z τ 3 := hY.1.2.2.2.1.2.1
  have q2 : Y_settings (W_yard ω) (2 : Int32).toNatClampNeg = M_z τ 4 := hY.1.2.2.2.1.2.2
  rw [q0, q1, q2]
  by_cases c8 : x1 = 8
  · subst c8; rfl
  · by_cases c9 : x1 = 9
    · subst c9; rfl
    · by_cases c10 : x1 = 10
      · subst c10; rfl
      · by_cases c11 : x1 = 11
        · subst c11; rfl
        · by_cases c12 : x1 = 12
          · subst c12; rfl
          · simp only [if_neg c8, if_neg c9, if_neg c10, if_neg c11, if_neg c12]
end TELLS
