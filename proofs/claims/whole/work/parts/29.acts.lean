/-! the acts: what they answer and leave, beside the reference's -/
def Act (τ : MS) (T : Nat) (p : Int32 × YS) (e : Int32) (q : Int32 × MS) : Prop := (e = 0 ∧ p.1 = q.1 ∧ 0 ≤ p.1.toInt ∧ q.2.2 = τ.2 ∧ RelY p.2 (M_z q.2) (T + 1)) ∨ (e.toInt < 0 ∧ p.1 = e ∧ RelY p.2 (M_z τ) T)
theorem fn0 {σ : YS} {k j u : Nat} (hk : k < 20) (hu : u < 11) (v : Int32) : FY (mX2_note σ (nI k) 0 v) j u = if j = k ∧ u = 0 then v else FY σ j u := FY_note (w := 0) hk (by decide) hu v
theorem fn1 {σ : YS} {k j u : Nat} (hk : k < 20) (hu : u < 11) (v : Int32) : FY (mX2_note σ (nI k) 1 v) j u = if j = k ∧ u = 1 then v else FY σ j u := FY_note (w := 1) hk (by decide) hu v
theorem fn2 {σ : YS} {k j u : Nat} (hk : k < 20) (hu : u < 11) (v : Int32) : FY (mX2_note σ (nI k) 2 v) j u = if j = k ∧ u = 2 then v else FY σ j u := FY_note (w := 2) hk (by decide) hu v
theorem fn3 {σ : YS} {k j u : Nat} (hk : k < 20) (hu : u < 11) (v : Int32) : FY (mX2_note σ (nI k) 3 v) j u = if j = k ∧ u = 3 then v else FY σ j u := FY_note (w := 3) hk (by decide) hu v
theorem fn4 {σ : YS} {k j u : Nat} (hk : k < 20) (hu : u < 11) (v : Int32) : FY (mX2_note σ (nI k) 4 v) j u = if j = k ∧ u = 4 then v else FY σ j u := FY_note (w := 4) hk (by decide) hu v
theorem fn5 {σ : YS} {k j u : Nat} (hk : k < 20) (hu : u < 11) (v : Int32) : FY (mX2_note σ (nI k) 5 v) j u = if j = k ∧ u = 5 then v else FY σ j u := FY_note (w := 5) hk (by decide) hu v
theorem fn6 {σ : YS} {k j u : Nat} (hk : k < 20) (hu : u < 11) (v : Int32) : FY (mX2_note σ (nI k) 6 v) j u = if j = k ∧ u = 6 then v else FY σ j u := FY_note (w := 6) hk (by decide) hu v
theorem fn7 {σ : YS} {k j u : Nat} (hk : k < 20) (hu : u < 11) (v : Int32) : FY (mX2_note σ (nI k) 7 v) j u = if j = k ∧ u = 7 then v else FY σ j u := FY_note (w := 7) hk (by decide) hu v
theorem fn8 {σ : YS} {k j u : Nat} (hk : k < 20) (hu : u < 11) (v : Int32) : FY (mX2_note σ (nI k) 8 v) j u = if j = k ∧ u = 8 then v else FY σ j u := FY_note (w := 8) hk (by decide) hu v
theorem fn9 {σ : YS} {k j u : Nat} (hk : k < 20) (hu : u < 11) (v : Int32) : FY (mX2_note σ (nI k) 9 v) j u = if j = k ∧ u = 9 then v else FY σ j u := FY_note (w := 9) hk (by decide) hu v
theorem fn10 {σ : YS} {k j u : Nat} (hk : k < 20) (hu : u < 11) (v : Int32) : FY (mX2_note σ (nI k) 10 v) j u = if j = k ∧ u = 10 then v else FY σ j u := FY_note (w := 10) hk (by decide) hu v
theorem zp0 {τ : MS} {k j u : Nat} (hk : k < 20) (hu : u < 12) (v : Int32) : ZB (M_z (mX4_put τ (nI k) 0 v)) j u = if j = k ∧ u = 0 then v else ZB (M_z τ) j u := ZB_put (w := 0) hk (by decide) hu v
theorem zq0 {τ : MS} {k i : Nat} (hk : k < 20) (hi : i < 15) (v : Int32) : M_z (mX4_put τ (nI k) 0 v) i = M_z τ i := Z_put (w := 0) hk (by decide) hi v
theorem zp1 {τ : MS} {k j u : Nat} (hk : k < 20) (hu : u < 12) (v : Int32) : ZB (M_z (mX4_put τ (nI k) 1 v)) j u = if j = k ∧ u = 1 then v else ZB (M_z τ) j u := ZB_put (w := 1) hk (by decide) hu v
theorem zq1 {τ : MS} {k i : Nat} (hk : k < 20) (hi : i < 15) (v : Int32) : M_z (mX4_put τ (nI k) 1 v) i = M_z τ i := Z_put (w := 1) hk (by decide) hi v
theorem zp2 {τ : MS} {k j u : Nat} (hk : k < 20) (hu : u < 12) (v : Int32) : ZB (M_z (mX4_put τ (nI k) 2 v)) j u = if j = k ∧ u = 2 then v else ZB (M_z τ) j u := ZB_put (w := 2) hk (by decide) hu v
theorem zq2 {τ : MS} {k i : Nat} (hk : k < 20) (hi : i < 15) (v : Int32) : M_z (mX4_put τ (nI k) 2 v) i = M_z τ i := Z_put (w := 2) hk (by decide) hi v
theorem zp3 {τ : MS} {k j u : Nat} (hk : k < 20) (hu : u < 12) (v : Int32) : ZB (M_z (mX4_put τ (nI k) 3 v)) j u = if j = k ∧ u = 3 then v else ZB (M_z τ) j u := ZB_put (w := 3) hk (by decide) hu v
theorem zq3 {τ : MS} {k i : Nat} (hk : k < 20) (hi : i < 15) (v : Int32) : M_z (mX4_put τ (nI k) 3 v) i = M_z τ i := Z_put (w := 3) hk (by decide) hi v
theorem zp4 {τ : MS} {k j u : Nat} (hk : k < 20) (hu : u < 12) (v : Int32) : ZB (M_z (mX4_put τ (nI k) 4 v)) j u = if j = k ∧ u = 4 then v else ZB (M_z τ) j u := ZB_put (w := 4) hk (by decide) hu v
theorem zq4 {τ : MS} {k i : Nat} (hk : k < 20) (hi : i < 15) (v : Int32) : M_z (mX4_put τ (nI k) 4 v) i = M_z τ i := Z_put (w := 4) hk (by decide) hi v
theorem zp5 {τ : MS} {k j u : Nat} (hk : k < 20) (hu : u < 12) (v : Int32) : ZB (M_z (mX4_put τ (nI k) 5 v)) j u = if j = k ∧ u = 5 then v else ZB (M_z τ) j u := ZB_put (w := 5) hk (by decide) hu v
theorem zq5 {τ : MS} {k i : Nat} (hk : k < 20) (hi : i < 15) (v : Int32) : M_z (mX4_put τ (nI k) 5 v) i = M_z τ i := Z_put (w := 5) hk (by decide) hi v
theorem zp6 {τ : MS} {k j u : Nat} (hk : k < 20) (hu : u < 12) (v : Int32) : ZB (M_z (mX4_put τ (nI k) 6 v)) j u = if j = k ∧ u = 6 then v else ZB (M_z τ) j u := ZB_put (w := 6) hk (by decide) hu v
theorem zq6 {τ : MS} {k i : Nat} (hk : k < 20) (hi : i < 15) (v : Int32) : M_z (mX4_put τ (nI k) 6 v) i = M_z τ i := Z_put (w := 6) hk (by decide) hi v
theorem zp7 {τ : MS} {k j u : Nat} (hk : k < 20) (hu : u < 12) (v : Int32) : ZB (M_z (mX4_put τ (nI k) 7 v)) j u = if j = k ∧ u = 7 then v else ZB (M_z τ) j u := ZB_put (w := 7) hk (by decide) hu v
theorem zq7 {τ : MS} {k i : Nat} (hk : k < 20) (hi : i < 15) (v : Int32) : M_z (mX4_put τ (nI k) 7 v) i = M_z τ i := Z_put (w := 7) hk (by decide) hi v
theorem zp8 {τ : MS} {k j u : Nat} (hk : k < 20) (hu : u < 12) (v : Int32) : ZB (M_z (mX4_put τ (nI k) 8 v)) j u = if j = k ∧ u = 8 then v else ZB (M_z τ) j u := ZB_put (w := 8) hk (by decide) hu v
theorem zq8 {τ : MS} {k i : Nat} (hk : k < 20) (hi : i < 15) (v : Int32) : M_z (mX4_put τ (nI k) 8 v) i = M_z τ i := Z_put (w := 8) hk (by decide) hi v
theorem zp9 {τ : MS} {k j u : Nat} (hk : k < 20) (hu : u < 12) (v : Int32) : ZB (M_z (mX4_put τ (nI k) 9 v)) j u = if j = k ∧ u = 9 then v else ZB (M_z τ) j u := ZB_put (w := 9) hk (by decide) hu v
theorem zq9 {τ : MS} {k i : Nat} (hk : k < 20) (hi : i < 15) (v : Int32) : M_z (mX4_put τ (nI k) 9 v) i = M_z τ i := Z_put (w := 9) hk (by decide) hi v
theorem zp10 {τ : MS} {k j u : Nat} (hk : k < 20) (hu : u < 12) (v : Int32) : ZB (M_z (mX4_put τ (nI k) 10 v)) j u = if j = k ∧ u = 10 then v else ZB (M_z τ) j u := ZB_put (w := 10) hk (by decide) hu v
theorem zq10 {τ : MS} {k i : Nat} (hk : k < 20) (hi : i < 15) (v : Int32) : M_z (mX4_put τ (nI k) 10 v) i = M_z τ i := Z_put (w := 10) hk (by decide) hi v
theorem zp11 {τ : MS} {k j u : Nat} (hk : k < 20) (hu : u < 12) (v : Int32) : ZB (M_z (mX4_put τ (nI k) 11 v)) j u = if j = k ∧ u = 11 then v else ZB (M_z τ) j u := ZB_put (w := 11) hk (by decide) hu v
theorem zq11 {τ : MS} {k i : Nat} (hk : k < 20) (hi : i < 15) (v : Int32) : M_z (mX4_put τ (nI k) 11 v) i = M_z τ i := Z_put (w := 11) hk (by decide) hi v
theorem uc_hd {τ : MS} {i : Nat} : M_z (mX4_useCrane τ) i = if i = 5 then M_z τ 5 + 1 else if i = 1 then M_z τ 1 + 1 else M_z τ i := by
  show upd (upd (M_z τ) 1 (M_z τ 1 + 1)) 5 (upd (M_z τ) 1 (M_z τ 1 + 1) 5 + 1) i = _
  unfold upd
  by_cases c : i = 5
  · rw [if_pos c, if_pos c, if_neg (by decide)]
  · rw [if_neg c, if_neg c]
theorem uc_b {τ : MS} {j u : Nat} : ZB (M_z (mX4_useCrane τ)) j u = ZB (M_z τ) j u := by
  show M_z (mX4_useCrane τ) (15 + 12 * j + u) = _
  rw [uc_hd, if_neg (by omega), if_neg (by omega)]
theorem sd_hd {τ : MS} {k i : Nat} (hk : k < 20) (hi : i < 15) (x : Int32) : M_z (mX4_stand τ (nI k) x) i = if i = 7 then M_z τ 7 + 1 else M_z τ i := by
  show upd (M_z (mX4_put (mX4_put τ (nI k) 5 x) (nI k) 11 (M_z (mX4_put τ (nI k) 5 x) 7))) 7 (M_z (mX4_put (mX4_put τ (nI k) 5 x) (nI k) 11 (M_z (mX4_put τ (nI k) 5 x) 7)) 7 + 1) i = _
  unfold upd
  rw [zq11 hk (by decide), zq5 hk (by decide)]
  by_cases c : i = 7
  · rw [if_pos c, if_pos c]
  · rw [if_neg c, if_neg c, zq11 hk hi, zq5 hk hi]
theorem sd_b {τ : MS} {k j u : Nat} (hk : k < 20) (hu : u < 12) (x : Int32) : ZB (M_z (mX4_stand τ (nI k) x)) j u = if j = k ∧ u = 11 then M_z τ 7 else if j = k ∧ u = 5 then x else ZB (M_z τ) j u := by
  show upd (M_z (mX4_put (mX4_put τ (nI k) 5 x) (nI k) 11 (M_z (mX4_put τ (nI k) 5 x) 7))) 7 (M_z (mX4_put (mX4_put τ (nI k) 5 x) (nI k) 11 (M_z (mX4_put τ (nI k) 5 x) 7)) 7 + 1) (15 + 12 * j + u) = _
  rw [show upd (M_z (mX4_put (mX4_put τ (nI k) 5 x) (nI k) 11 (M_z (mX4_put τ (nI k) 5 x) 7))) 7 (M_z (mX4_put (mX4_put τ (nI k) 5 x) (nI k) 11 (M_z (mX4_put τ (nI k) 5 x) 7)) 7 + 1) (15 + 12 * j + u) = ZB (M_z (mX4_put (mX4_put τ (nI k) 5 x) (nI k) 11 (M_z (mX4_put τ (nI k) 5 x) 7))) j u from ZB_hd (by decide) _, zp11 hk hu, zp5 hk hu, zq5 hk (by decide)]
theorem bi_ge {τ : MS} (x : Int32) : 0 ≤ (mX4_boatsIn τ x).toInt := by
  rw [bi4_sm, sm_ct (p := inrw (M_z τ) x) (fun i _ => rfl)]
  have := ct_le (p := inrw (M_z τ) x) 20
  exact ge0 (by omega)
theorem RH.crane {σ σ' : YS} {z z' : Nat → Int32} (h : RH σ z) (hl : (z 1).toInt < (z 3).toInt) (s1 : Y_day σ' = Y_day σ) (s2 : Y_liftsToday σ' = Y_liftsToday σ + 1) (s3 : Y_lifts σ' = Y_lifts σ + 1) (s4 : Y_launches σ' = z' 6) (s5 : Y_settings σ' = Y_settings σ) (s6 : Y_cradles σ' = Y_cradles σ) (s7 : Y_metres σ' = Y_metres σ)
    (z1 : z' 1 = z 1 + 1) (z5 : z' 5 = z 5 + 1) (zz : ∀ i, i < 15 → i ≠ 1 → i ≠ 5 → i ≠ 6 → i ≠ 7 → z' i = z i) : RH σ' z' := by
  obtain ⟨h1, h2, h3, h4, h5, h6, h7⟩ := h
  have l9 := h5.2.1.2
  have e1 : (z 1 + 1).toInt = (z 1).toInt + 1 := up_add (d := 1) (k := 1) (M := 9) rfl h2.2.1 h2.2.2 (by decide) (by decide)
  unfold RH
  rw [s1, s2, s3, s4, s5, s6, s7, z1, z5, zz 0 (by decide) (by decide) (by decide) (by decide) (by decide), zz 2 (by decide) (by decide) (by decide) (by decide) (by decide), zz 3 (by decide) (by decide) (by decide) (by decide) (by decide), zz 4 (by decide) (by decide) (by decide) (by decide) (by decide), e1]
  refine ⟨h1, ⟨by rw [h2.1], by omega, by omega⟩, ⟨by rw [h3.1], rfl⟩, h4, h5, fun k hk => ?_, fun k hk => ?_⟩
  · rw [zz (8 + k) (by omega) (by omega) (by omega) (by omega) (by omega)]; exact h6 k hk
  · rw [zz (11 + k) (by omega) (by omega) (by omega) (by omega) (by omega)]; exact h7 k hk
section ACTS
variable {σ : YS} {τ : MS} {T : Nat}
theorem left_lt (h : ¬ mX4_liftsLeft τ = 0) : (M_z τ 1).toInt < (M_z τ 3).toInt := by
  unfold mX4_liftsLeft at h
  by_cases c : M_z τ (3 : Int32).toNatClampNeg ≤ M_z τ (1 : Int32).toNatClampNeg
  · rw [if_pos c] at h; exact absurd rfl h
  · have := nle_lt.mp c
    rw [lt_ti] at this
    exact this
theorem wl_rng (x y : Int32) : mX4_whyNoLift τ x y = 0 ∨ (1 ≤ (mX4_whyNoLift τ x y).toInt ∧ (mX4_whyNoLift τ x y).toInt ≤ 7) := by
  unfold mX4_whyNoLift
  repeat' split
  all_goals first | exact Or.inl rfl | exact Or.inr (by decide)
theorem wla_rng (x : Int32) : mX4_whyNoLaunch τ x = 0 ∨ (1 ≤ (mX4_whyNoLaunch τ x).toInt ∧ (mX4_whyNoLaunch τ x).toInt ≤ 7) := by
  unfold mX4_whyNoLaunch
  repeat' split
  all_goals first | exact Or.inl rfl | exact Or.inr (by decide)
theorem wl_zero {x y : Int32} (h : mX4_whyNoLift τ x y = 0) : mX4_isAshore τ x = 0 ∧ ¬ mX4_cradleFor τ x = -5 ∧ ¬ mX4_liftsLeft τ = 0 := by
  unfold mX4_whyNoLift at h
  by_cases c1 : mX4_isAshore τ x = 0
  · rw [if_pos c1] at h
    refine ⟨c1, ?_⟩
    split at h
    · split at h
      · split at h
        · exact absurd h (by decide)
        · rename_i c4
          refine ⟨c4, fun c => ?_⟩
          rw [if_pos c] at h
          split at h
          · exact absurd h (by decide)
          · split at h
            · exact absurd h (by decide)
            · split at h
              · exact absurd h (by decide)
              · exact absurd h (by decide)
      · exact absurd h (by decide)
    · exact absurd h (by decide)
  · rw [if_neg c1] at h
    exact absurd h (by decide)
theorem wla_zero {x : Int32} (h : mX4_whyNoLaunch τ x = 0) : ¬ mX4_isAshore τ x = 0 ∧ ¬ 0 < mX4_blockersOf τ x ∧ ¬ mX4_liftsLeft τ = 0 := by
  unfold mX4_whyNoLaunch at h
  by_cases c1 : mX4_isAshore τ x = 0
  · rw [if_pos c1] at h
    exact absurd h (by decide)
  · rw [if_neg c1] at h
    refine ⟨c1, ?_⟩
    split at h
    · split at h
      · rename_i c3
        refine ⟨nlt_le.mpr c3, fun c => ?_⟩
        rw [if_pos c] at h
        split at h
        · split at h
          · exact absurd h (by decide)
          · exact absurd h (by decide)
        · exact absurd h (by decide)
      · exact absurd h (by decide)
    · exact absurd h (by decide)
theorem neg10 {w : Int32} (h : 1 ≤ w.toInt ∧ w.toInt ≤ 7) : (-10 - w).toInt < 0 := by
  rw [ti_sub (x := -10) (by show _ ≤ (-10 : Int) - _; omega) (by show (-10 : Int) - _ < _; omega)]
  show (-10 : Int) - _ < 0
  omega
/-- standing in a row: the common part of a lift and a move -/
theorem inrow_not {k : Nat} {r x : Int32} (h5 : ZB (M_z τ) k 5 = x) (hne : ¬ x = r) : ¬ inrw (M_z τ) r k := fun c => hne (h5.symm.trans c.2)
theorem put_mo {x y v : Int32} : (mX4_put τ x y v).2 = τ.2 := rfl
theorem uc_mo : (mX4_useCrane τ).2 = τ.2 := rfl
theorem sd_mo {x y : Int32} : (mX4_stand τ x y).2 = τ.2 := rfl
def lfY (σ : YS) (x r cc : Int32) : YS := mX2_takeLift (mX2_note (mX2_putAtOuterEnd (mX2_note σ x 6 cc) x r) x 10 (mX2_fact (mX2_putAtOuterEnd (mX2_note σ x 6 cc) x r) x 10 + 1))
def lfM (τ : MS) (x r cc : Int32) : MS := mX4_useCrane (mX4_stand (mX4_put (mX4_put (mX4_put τ x 6 cc) x 9 0) x 10 (mX4_of (mX4_put (mX4_put τ x 6 cc) x 9 0) x 10 + 1)) x r)
theorem lfM_mo {x r cc : Int32} : (lfM τ x r cc).2 = τ.2 := by
  unfold lfM
  rw [uc_mo, sd_mo, put_mo, put_mo, put_mo]
theorem tl_f {j u : Nat} : FY (mX2_takeLift σ) j u = FY σ j u := rfl
theorem lfY_f {k : Nat} (hk : k < 20) (r cc : Int32) {u j : Nat} (hu : u < 11) : FY (lfY σ (nI k) r cc) j u = if j = k ∧ u = 10 then FY σ k 10 + 1 else if j = k ∧ u = 4 then r else if j = k ∧ u = 5 then mX2_boatsIn (mX2_note σ (nI k) 6 cc) r else if j = k ∧ u = 6 then cc else FY σ j u := by
  unfold lfY
  rw [tl_f, fn10 hk hu, fa10 hk]
  unfold mX2_putAtOuterEnd
  rw [fn4 hk hu, fn5 hk hu, fn6 hk hu, fn4 hk (by decide), fn5 hk (by decide), fn6 hk (by decide)]
  rw [if_neg (fun c : k = k ∧ (10 : Nat) = 4 => absurd c.2 (by decide)), if_neg (fun c : k = k ∧ (10 : Nat) = 5 => absurd c.2 (by decide)), if_neg (fun c : k = k ∧ (10 : Nat) = 6 => absurd c.2 (by decide))]
theorem lfM_b {k : Nat} (hk : k < 20) (r cc : Int32) {u j : Nat} (hu : u < 12) : ZB (M_z (lfM τ (nI k) r cc)) j u = if j = k ∧ u = 11 then M_z τ 7 else if j = k ∧ u = 5 then r else if j = k ∧ u = 10 then ZB (M_z τ) k 10 + 1 else if j = k ∧ u = 9 then 0 else if j = k ∧ u = 6 then cc else ZB (M_z τ) j u := by
  unfold lfM
  rw [uc_b, sd_b hk hu, zq10 hk (by decide), zq9 hk (by decide), zq6 hk (by decide), zp10 hk hu, zo10 hk, zp9 hk hu, zp6 hk hu, zp9 hk (by decide), zp6 hk (by decide)]
  rw [if_neg (fun c : k = k ∧ (10 : Nat) = 9 => absurd c.2 (by decide)), if_neg (fun c : k = k ∧ (10 : Nat) = 6 => absurd c.2 (by decide))]
theorem lfM_h {k : Nat} (hk : k < 20) (r cc : Int32) {i : Nat} (hi : i < 15) : M_z (lfM τ (nI k) r cc) i = if i = 5 then M_z τ 5 + 1 else if i = 1 then M_z τ 1 + 1 else if i = 7 then M_z τ 7 + 1 else M_z τ i := by
  unfold lfM
  rw [uc_hd, sd_hd hk (by decide), sd_hd hk (by decide), sd_hd hk hi, if_neg (show ¬ (5 : Nat) = 7 by decide), if_neg (show ¬ (1 : Nat) = 7 by decide), zq10 hk (by decide), zq9 hk (by decide), zq6 hk (by decide), zq10 hk (by decide), zq9 hk (by decide), zq6 hk (by decide), zq10 hk (by decide), zq9 hk (by decide), zq6 hk (by decide), zq10 hk hi, zq9 hk hi, zq6 hk hi]
theorem bi_note (h : RelY σ (M_z τ) T) {k r : Nat} (hk : k < 20) (hr : r < 4) (cc : Int32) : mX2_boatsIn (mX2_note σ (nI k) 6 cc) (nI r) = nI (ct (inrw (M_z τ) (nI r)) 20) := by
  have hr0 : 0 ≤ (nI r).toInt := ge0 (by omega)
  rw [← sm_ct (v := fun i => if inrw (M_z τ) (nI r) i then 1 else 0) (fun i _ => rfl), ← bi4_sm, ← bi_eq h hr0]
  rw [show mX2_boatsIn (mX2_note σ (nI k) 6 cc) (nI r) = _ from bw_sm (w := 4) (by decide) (nI r), show mX2_boatsIn σ (nI r) = _ from bw_sm (w := 4) (by decide) (nI r)]
  refine sm_congr fun i hi => ?_
  have e : FY (mX2_note σ (nI k) 6 cc) i 4 = FY σ i 4 := by rw [fn6 hk (by decide), if_neg (fun c => absurd c.2 (by decide))]
  simp only [e]
theorem lift_core (hT : T < 2 ^ 30) (h : RelY σ (M_z τ) T) {k r : Nat} (hk : k < 20) (hb : ZB (M_z τ) k 0 = 1) (hr : r < 4) (a0 : mX4_isAshore τ (nI k) = 0) (a2 : ¬ mX4_liftsLeft τ = 0) (cc : Int32) (hcr : 0 ≤ cc.toInt ∧ cc.toInt ≤ 2) : RelY (lfY σ (nI k) (nI r) cc) (M_z (lfM τ (nI k) (nI r) cc)) (T + 1) := by
  obtain ⟨f1, f2, f3, f4⟩ := z5_af h hk hb a0
  obtain ⟨bE, bG, bS⟩ := h.p hk hb
  obtain ⟨t, ⟨t1, t2⟩, tP⟩ := h.2.1
  have hr0 : 0 ≤ (nI r).toInt := ge0 (by omega)
  have hbi := bi_note h hk hr cc
  have hH : ∀ i, i < 15 → M_z (lfM τ (nI k) (nI r) cc) i = if i = 5 then M_z τ 5 + 1 else if i = 1 then M_z τ 1 + 1 else if i = 7 then M_z τ 7 + 1 else M_z τ i := fun i hi => lfM_h hk _ _ hi
  have oF : ∀ j, j < 20 → j ≠ k → ∀ w, w < 11 → FY (lfY σ (nI k) (nI r) cc) j w = FY σ j w := fun j _ hj w hw => by
    rw [lfY_f hk _ _ hw, if_neg (fun c => hj c.1), if_neg (fun c => hj c.1), if_neg (fun c => hj c.1), if_neg (fun c => hj c.1)]
  have oZ : ∀ j, j < 20 → j ≠ k → ∀ w, w < 12 → ZB (M_z (lfM τ (nI k) (nI r) cc)) j w = ZB (M_z τ) j w := fun j _ hj w hw => by
    rw [lfM_b hk _ _ hw, if_neg (fun c => hj c.1), if_neg (fun c => hj c.1), if_neg (fun c => hj c.1), if_neg (fun c => hj c.1), if_neg (fun c => hj c.1)]
  have kF : ∀ u, u < 11 → FY (lfY σ (nI k) (nI r) cc) k u = if u = 10 then FY σ k 10 + 1 else if u = 4 then nI r else if u = 5 then nI (ct (inrw (M_z τ) (nI r)) 20) else if u = 6 then cc else FY σ k u := fun u hu => by
    rw [lfY_f hk _ _ hu, hbi]; simp only [true_and]
  have kZ : ∀ u, u < 12 → ZB (M_z (lfM τ (nI k) (nI r) cc)) k u = if u = 11 then nI t else if u = 5 then nI r else if u = 10 then ZB (M_z τ) k 10 + 1 else if u = 9 then 0 else if u = 6 then cc else ZB (M_z τ) k u := fun u hu => by
    rw [lfM_b hk _ _ hu, t1]; simp only [true_and]
  have y1 : Y_day (lfY σ (nI k) (nI r) cc) = Y_day σ := rfl
  have y2 : Y_liftsToday (lfY σ (nI k) (nI r) cc) = Y_liftsToday σ + 1 := rfl
  have y3 : Y_lifts (lfY σ (nI k) (nI r) cc) = Y_lifts σ + 1 := rfl
  have y4 : Y_launches (lfY σ (nI k) (nI r) cc) = Y_launches σ := rfl
  have y5 : Y_settings (lfY σ (nI k) (nI r) cc) = Y_settings σ := rfl
  have y6 : Y_cradles (lfY σ (nI k) (nI r) cc) = Y_cradles σ := rfl
  have y7 : Y_metres (lfY σ (nI k) (nI r) cc) = Y_metres σ := rfl
  generalize M_z (lfM τ (nI k) (nI r) cc) = z' at *
  generalize lfY σ (nI k) (nI r) cc = σ' at *
  refine rel_mk (k := k) (t' := t + 1) h (h.1.crane (left_lt a2) y1 y2 y3 ?_ y5 y6 y7 (by rw [hH 1 (by decide)]; rfl) (by rw [hH 5 (by decide)]; rfl) (fun i hi n1 n5 _ n7 => by rw [hH i hi, if_neg n5, if_neg n1, if_neg n7])) ?_ ⟨?_, by omega⟩ oF oZ ?_ ?_
  · rw [hH 6 (by decide), y4]
    exact h.1.2.2.1.2
  · rw [hH 0 (by decide)]; exact Int.le_refl _
  · rw [hH 7 (by decide)]
    show M_z τ 7 + 1 = _
    rw [t1, nI1]
  · refine Or.inr ⟨?_, ?_, ?_, ?_⟩
    · exact (kZ 0 (by decide)).trans hb
    · unfold RE
      rw [kF 0 (by decide), kF 1 (by decide), kF 2 (by decide), kF 3 (by decide), kF 4 (by decide), kF 6 (by decide), kF 7 (by decide), kF 8 (by decide), kF 9 (by decide), kF 10 (by decide), kZ 1 (by decide), kZ 2 (by decide), kZ 3 (by decide), kZ 4 (by decide), kZ 5 (by decide), kZ 6 (by decide), kZ 7 (by decide), kZ 8 (by decide), kZ 9 (by decide), kZ 10 (by decide)]
      obtain ⟨b0, b1, b2, b3, b4, b6, b7, b8, b9, b10⟩ := bE
      exact ⟨b0, b1, b2, b3, rfl, rfl, b7, b8, b9.trans f4, congrArg (· + 1) b10⟩
    · unfold RG
      rw [kZ 1 (by decide), kZ 2 (by decide), kZ 3 (by decide), kZ 4 (by decide), kZ 7 (by decide), kZ 8 (by decide), kZ 9 (by decide), hH 0 (by decide)]
      obtain ⟨g1, g2, g3, g4, g5, g6, g7⟩ := bG
      exact ⟨g1, g2, g3, g4, g5, g6, show (0 : Int) ≤ (0 : Int32).toInt by decide, h.1.1.2.1⟩
    · unfold RS
      rw [kZ 5 (by decide), kZ 6 (by decide)]
      refine Or.inr ⟨⟨hr0, ?_⟩, hcr⟩
      show (nI r).toInt ≤ 3
      rw [nI_ti (by omega)]; omega
  · refine tP.stand (k := k) (by omega) hk (fun j hj hjk => oF j hj hjk 5 (by decide)) (fun j hj hjk => oZ j hj hjk 0 (by decide)) (fun j hj hjk => oZ j hj hjk 5 (by decide)) (fun j hj hjk => oZ j hj hjk 11 (by decide)) (CL.hid (fun c => ?_)) hr0 (kZ 5 (by decide)) (kZ 11 (by decide)) (inrow_not f1 (fun c => ?_)) (kF 5 (by decide))
    · rw [f1] at c; exact absurd c.2 (by decide)
    · rw [← c] at hr0; exact absurd hr0 (by decide)
theorem lift_act (hT : T < 2 ^ 30) (h : RelY σ (M_z τ) T) (x1 x2 : Int32) : Act τ T (mX2_liftInto σ x1 x2) (mX4_noLift τ x1 x2) (mX4_doLift τ x1 x2) := by
  rw [show mX4_doLift τ x1 x2 = (mX4_boatsIn (lfM τ x1 x2 (mX4_cradleFor τ x1)) x2, lfM τ x1 x2 (mX4_cradleFor τ x1)) from rfl,
    show mX2_liftInto σ x1 x2 = (if (mX2_knows σ x1) = 0 then ((-1), σ) else (if (mX2_isRow x2) = 0 then ((-1), σ) else (if (mX2_whyNoLift σ x1 x2) = 0 then (mX2_boatsIn (lfY σ x1 x2 (mX2_cradleFor σ x1)) x2, lfY σ x1 x2 (mX2_cradleFor σ x1)) else (((-10) - (mX2_whyNoLift σ x1 x2)), σ)))) from rfl]
  unfold mX4_noLift
  rw [kn_eq h, show mX2_isRow x2 = mX4_isRow x2 from rfl]
  by_cases c1 : mX4_isBoat τ x1 = 0
  · rw [if_pos c1, if_pos c1]
    exact Or.inr ⟨by decide, rfl, h⟩
  · rw [if_neg c1, if_neg c1]
    by_cases c2 : mX4_isRow x2 = 0
    · rw [if_pos c2, if_pos c2]
      exact Or.inr ⟨by decide, rfl, h⟩
    · rw [if_neg c2, if_neg c2]
      obtain ⟨k, hk, rfl, hb⟩ := kn_get c1
      obtain ⟨r, hr, rfl⟩ := row_get c2
      rw [wl_eq h hk hb hr]
      rcases wl_rng (τ := τ) (nI k) (nI r) with w0 | w1
      · rw [w0, if_pos rfl, if_pos (by decide)]
        obtain ⟨a0, a1, a2⟩ := wl_zero w0
        have hR := lift_core hT h hk hb hr a0 a2 _ (cf_rng h hk hb a1)
        rw [cf_eq h hk hb]
        generalize lfY σ (nI k) (nI r) (mX4_cradleFor τ (nI k)) = σ' at *
        have hm := lfM_mo (τ := τ) (x := nI k) (r := nI r) (cc := mX4_cradleFor τ (nI k))
        generalize lfM τ (nI k) (nI r) (mX4_cradleFor τ (nI k)) = τ' at *
        have he := bi_eq hR (x := nI r) (ge0 (by omega))
        exact Or.inl ⟨rfl, he, by show 0 ≤ (mX2_boatsIn σ' (nI r)).toInt; rw [he]; exact bi_ge _, hm, hR⟩
      · have n0 : ¬ mX4_whyNoLift τ (nI k) (nI r) = 0 := fun c => by rw [c] at w1; exact absurd w1.1 (by decide)
        rw [if_neg n0, if_neg (by rw [le_ti]; show ¬ _ ≤ (0 : Int); omega)]
        exact Or.inr ⟨neg10 w1, rfl, h⟩
end ACTS
