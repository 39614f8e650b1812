/-! a step of the yard: settings, cradles, rows, a boat that goes -/
theorem QG.y {Y Y' : YS} {γ γ' : LAS} {T : Nat} (h : QG Y γ T) (e : Y'.2 = Y.2) (hg : L_g γ' = L_g γ) : QG Y' γ' T := by
  have d1 : Y_day Y' = Y_day Y := congrArg (·.2.2.2.1) e
  have d2 : Y_liftsToday Y' = Y_liftsToday Y := congrArg (·.2.2.2.2.1) e
  have d3 : Y_lifts Y' = Y_lifts Y := congrArg (·.2.2.2.2.2.1) e
  have d4 : Y_launches Y' = Y_launches Y := congrArg (·.2.2.2.2.2.2) e
  have d5 : Y_settings Y' = Y_settings Y := congrArg (·.2.2.1) e
  have d6 : Y_cradles Y' = Y_cradles Y := congrArg (·.1) e
  have d7 : Y_metres Y' = Y_metres Y := congrArg (·.2.1) e
  unfold QG at *
  rw [hg, d1, d2, d3, d4, d5, d6, d7]
  exact h
theorem low_rng {x k : Int32} {m : Nat} (hk : k.toInt = m) (h0 : 0 < m) : 0 ≤ (mL_low x k).toInt ∧ (mL_low x k).toInt < (m : Int) := in_iff.mp (in_low hk h0)
theorem c_low {x k c : Int32} {m z : Nat} (hk : k.toInt = m) (h0 : 0 < m) (hm : m < 1000) (hc : c.toInt = z) (hz : z < 1000) : (z : Int) ≤ (c + mL_low x k).toInt ∧ (c + mL_low x k).toInt < (z : Int) + m := by
  have a := low_rng (x := x) hk h0
  rw [ti_add (by omega) (by omega), hc]
  omega
section YC
variable {σ : VS} {T : Nat} {n : Nat → Nat} {q : Nat → Nat → Nat}
theorem g_set (h : RelQ (W_yard σ.1) σ.2 T n q) (hk : HOK (W_hist σ.1)) (hT : T < 100) (x y : Int32) (c6 : mL_low x 9 = 6) : Good (mL_yard_J743 σ x y) (T + 1) := by
  unfold mL_yard_J743
  obtain ⟨c, hc, ec⟩ := low_nI (x := y) (k := 3) (m := 3) rfl (by decide) (by decide)
  rw [if_pos c6, ec]
  generalize hv : (if nI c = 0 then mL_low (y >>> ((2 : Int32) &&& 31)) 10 else (if nI c = 1 then 1 + mL_low (y >>> ((2 : Int32) &&& 31)) 9 else 10 + mL_low (y >>> ((2 : Int32) &&& 31)) 21) : Int32) = v
  have hr : (tvL c).toInt ≤ v.toInt ∧ v.toInt ≤ (tvG c).toInt := by
    have r0 := low_rng (x := y >>> ((2 : Int32) &&& 31)) (k := 10) (m := 10) rfl (by decide)
    have r1 := c_low (x := y >>> ((2 : Int32) &&& 31)) (k := 9) (m := 9) (c := 1) (z := 1) rfl (by decide) (by decide) rfl (by decide)
    have r2 := c_low (x := y >>> ((2 : Int32) &&& 31)) (k := 21) (m := 21) (c := 10) (z := 10) rfl (by decide) (by decide) rfl (by decide)
    have hc3 : c = 0 ∨ c = 1 ∨ c = 2 := by omega
    rcases hc3 with rfl | rfl | rfl
    · rw [if_pos (by decide)] at hv
      subst hv
      exact ⟨r0.1, by show _ ≤ (9 : Int); omega⟩
    · rw [if_neg (by decide), if_pos (by decide)] at hv
      subst hv
      exact ⟨r1.1, by show _ ≤ (9 : Int); omega⟩
    · rw [if_neg (by decide), if_neg (by decide)] at hv
      subst hv
      exact ⟨by show (1 : Int) ≤ _; omega, by show _ ≤ (30 : Int); omega⟩
  rw [show (2 + nI c).toNatClampNeg = 2 + c from ixg (c := 2) (by decide) (by omega)]
  obtain ⟨Y', e, hR⟩ := set_rel h hc hr
  obtain ⟨a1, w1⟩ := e_set e
  obtain ⟨a2, w2⟩ := e_set (ω := (mX3_set σ.1 (nI c) v).2) (x1 := 3) (x2 := 0) (e := -1) (Y := W_yard (mX3_set σ.1 (nI c) v).2) (by unfold mX2_changeSetting; rw [if_pos (by decide)])
  obtain ⟨a3, w3⟩ := e_set (ω := (mX3_set (mX3_set σ.1 (nI c) v).2 3 0).2) (x1 := 1) (x2 := 0) (e := -2) (Y := W_yard (mX3_set (mX3_set σ.1 (nI c) v).2 3 0).2) (by unfold mX2_changeSetting; rw [if_neg (by decide), if_pos (by decide)])
  rw [if_pos a1, if_pos a2, if_pos a3]
  refine ⟨rfl, ⟨n, q, ?_⟩, hok_set (hok_set (hok_set hk))⟩
  show RelQ (W_yard (mX3_set (mX3_set (mX3_set σ.1 (nI c) v).2 3 0).2 1 0).2) _ (T + 1) n q
  rw [w3, w2, w1]
  exact rl_up hR hT
theorem g_row (h : RelQ (W_yard σ.1) σ.2 T n q) (hk : HOK (W_hist σ.1)) (hT : T < 100) (x y : Int32) (c5 : mL_low x 9 = 5) : Good (mL_yard_J607 σ x y) (T + 1) := by
  unfold mL_yard_J607
  obtain ⟨c, hc, ec⟩ := low_nI (x := y) (k := 4) (m := 4) rfl (by decide) (by decide)
  have r2 := c_low (x := y >>> ((2 : Int32) &&& 31)) (k := 51) (m := 51) (c := 10) (z := 10) rfl (by decide) (by decide) rfl (by decide)
  rw [if_pos c5, ec, show (10 + nI c).toNatClampNeg = 10 + c from ixg (c := 10) (by decide) (by omega)]
  generalize 10 + mL_low (y >>> ((2 : Int32) &&& 31)) 51 = v at *
  have hv : 10 ≤ v.toInt ∧ v.toInt ≤ 60 := ⟨r2.1, by omega⟩
  by_cases a : 0 ≤ ((mL_room σ.2 (nI c)) - L_g σ.2 (10 + c)) + v
  · obtain ⟨Y', e, hR⟩ := row_rel h hc hv ((row_iff h hc hv).mp a)
    obtain ⟨a1, w1⟩ := e_setRow e
    obtain ⟨a2, w2⟩ := e_setRow (ω := (mX3_setRow σ.1 (nI c) v).2) (x1 := 4) (x2 := 9) (e := -1) (Y := W_yard (mX3_setRow σ.1 (nI c) v).2) (by unfold mX2_changeRow; rw [if_pos (by decide)])
    obtain ⟨a3, w3⟩ := e_setRow (ω := (mX3_setRow (mX3_setRow σ.1 (nI c) v).2 4 9).2) (x1 := 3) (x2 := 9) (e := -2) (Y := W_yard (mX3_setRow (mX3_setRow σ.1 (nI c) v).2 4 9).2) (by unfold mX2_changeRow; rw [if_neg (by decide), if_pos (by decide)])
    rw [if_pos a, if_pos a1, if_pos a2, if_pos a3]
    refine ⟨rfl, ⟨n, q, ?_⟩, hok_setRow (hok_setRow (hok_setRow hk))⟩
    show RelQ (W_yard (mX3_setRow (mX3_setRow (mX3_setRow σ.1 (nI c) v).2 4 9).2 3 9).2) _ (T + 1) n q
    rw [w3, w2, w1]
    exact rl_up hR hT
  · obtain ⟨a1, w1⟩ := e_setRow (ω := σ.1) (row_no hc hv (fun z => a ((row_iff h hc hv).mpr z)))
    rw [if_neg a, if_pos a1]
    refine ⟨rfl, ⟨n, q, ?_⟩, hok_setRow hk⟩
    show RelQ (W_yard (mX3_setRow σ.1 (nI c) v).2) σ.2 (T + 1) n q
    rw [w1]
    exact rl_up h hT
theorem g_cra (h : RelQ (W_yard σ.1) σ.2 T n q) (hk : HOK (W_hist σ.1)) (hT : T < 100) (x y : Int32) (c4 : mL_low x 9 = 4) : Good (mL_yard_J481 σ x y) (T + 1) := by
  unfold mL_yard_J481
  obtain ⟨c, hc, ec⟩ := low_nI (x := y) (k := 3) (m := 3) rfl (by decide) (by decide)
  have r2 := low_rng (x := y >>> ((2 : Int32) &&& 31)) (k := 10) (m := 10) rfl (by decide)
  rw [if_pos c4, ec, show (7 + nI c).toNatClampNeg = 7 + c from ixg (c := 7) (by decide) (by omega)]
  generalize mL_low (y >>> ((2 : Int32) &&& 31)) 10 = v at *
  have hv : 0 ≤ v.toInt ∧ v.toInt ≤ 9 := ⟨r2.1, by omega⟩
  by_cases a : mL_taken σ.2 (nI c) ≤ v
  · obtain ⟨Y', e, hR⟩ := cra_rel h hc hv a
    obtain ⟨a1, w1⟩ := e_setCradles e
    obtain ⟨a2, w2⟩ := e_setCradles (ω := (mX3_setCradles σ.1 (nI c) v).2) (x1 := 3) (x2 := 10) (e := -1) (Y := W_yard (mX3_setCradles σ.1 (nI c) v).2) (by unfold mX2_changeCradles; rw [if_pos (by decide)])
    obtain ⟨a3, w3⟩ := e_setCradles (ω := (mX3_setCradles (mX3_setCradles σ.1 (nI c) v).2 3 10).2) (x1 := 0) (x2 := 10) (e := -2) (Y := W_yard (mX3_setCradles (mX3_setCradles σ.1 (nI c) v).2 3 10).2) (by unfold mX2_changeCradles; rw [if_neg (by decide), if_pos (by decide)])
    rw [if_pos a, if_pos a1, if_pos a2, if_pos a3]
    refine ⟨rfl, ⟨n, q, ?_⟩, hok_setCradles (hok_setCradles (hok_setCradles hk))⟩
    show RelQ (W_yard (mX3_setCradles (mX3_setCradles (mX3_setCradles σ.1 (nI c) v).2 3 10).2 0 10).2) _ (T + 1) n q
    rw [w3, w2, w1]
    exact rl_up hR hT
  · obtain ⟨a1, w1⟩ := e_setCradles (ω := σ.1) (cra_no h hc hv a)
    rw [if_neg a, if_pos a1]
    refine ⟨rfl, ⟨n, q, ?_⟩, hok_setCradles hk⟩
    show RelQ (W_yard (mX3_setCradles σ.1 (nI c) v).2) σ.2 (T + 1) n q
    rw [w1]
    exact rl_up h hT
/-- what a refused act leaves -/
theorem go_rel {Y : YS} {γ : LAS} (h : RelQ Y γ T n q) {k : Nat} (hk : k < 6) (h0 : ¬ BB (L_b γ) k 0 = 0) (h5 : BB (L_b γ) k 5 < 0) : RelQ (mX2_forget Y (nI k)) (L_g γ, upd (L_b γ) (10 * k + 0) 0, L_t γ, L_r γ) T n q := by
  obtain ⟨pE, pV, pM, pS⟩ := rq_p h hk h0
  have hF : ∀ j u, u < 11 → FY (mX2_forget Y (nI k)) j u = if j = k then -5 else FY Y j u := fun j u hu => fg_f (by omega) hu
  have hB : ∀ j u, u < 10 → BB (upd (L_b γ) (10 * k + 0) 0) j u = if j = k ∧ u = 0 then 0 else BB (L_b γ) j u := fun j u hu => BB_upd (by decide) hu 0
  have e5 : BB (L_b γ) k 5 = -1 := by
    rcases pS with s | ⟨⟨i, hi, s1, s2⟩, _⟩
    · exact s.1
    · rw [s1] at h5
      exact absurd h5 (nge (by omega))
  refine ⟨h.1.y (fg_o (by omega)) rfl, h.2.1, ?_, h.2.2.2⟩
  refine h.2.2.1.mk1 (k := k) (fun j _ hj w hw => by rw [hF j w hw, if_neg hj]) (fun j _ hj w hw => by rw [hB j w hw, if_neg (fun z => hj z.1)]) (fun _ _ _ => rfl) hk ?_ ?_
  · obtain ⟨c, hc, e⟩ := (h.2.2.1.1 k hk).1
    refine ⟨⟨c, hc, by rw [hB k 4 (by decide), if_neg (fun z => absurd z.2 (by decide))]; exact e⟩, Or.inl ⟨by rw [hB k 0 (by decide), if_pos ⟨rfl, rfl⟩], fun w hw => by rw [hF k w hw, if_pos rfl]⟩⟩
  · refine h.2.2.1.w.out (k := k) (fun j _ hj => by rw [hB j 0 (by decide), if_neg (fun z => hj z.1)]) (fun j _ hj => by rw [hB j 5 (by decide), if_neg (fun z => hj z.1)]) (fun j _ hj => by rw [hF j 5 (by decide), if_neg hj]) ?_ ?_
    · rintro ⟨_, i, hi, e⟩
      rw [e5] at e
      exact nIm1 (by omega) e.symm
    · rintro ⟨e, _⟩
      rw [hB k 0 (by decide), if_pos ⟨rfl, rfl⟩] at e
      exact absurd e (by decide)
theorem rd_sum {Y : YS} {γ : LAS} (h : RelQ Y γ T n q) : mX2_boats Y = sm (fun k => BB (L_b γ) k 0) 6 := by
  rw [rd_boats h]
  refine sm_congr (fun k hk => ?_)
  rcases (h.2.2.1.1 k hk).k0 with e | e
  · rw [e, if_pos rfl]
  · rw [e, if_neg one0]
theorem l438 {x y w8 w7 : Int32} {σ : VS} : ∀ d u f, u + d = 6 → mL_yard_L438 x y w8 w7 (d + 1 + f) σ (nI u) (sm (fun k => BB (L_b σ.2) k 0) u) = (if (mX3_goAway σ.1 w8).1 = sm (fun k => BB (L_b σ.2) k 0) 6 then (1, ((mX3_goAway σ.1 w8).2, σ.2)) else (0, ((mX3_goAway σ.1 w8).2, σ.2))) := by
  intro d
  induction d with
  | zero =>
    intro u f hu
    rw [show 0 + 1 + f = f + 1 by omega, show u = 6 by omega, mL_yard_L438, if_pos e6]
  | succ d ih =>
    intro u f hu
    have i1 := ih (u + 1) f (by omega)
    rw [show d + 1 + 1 + f = (d + 1 + f) + 1 by omega, mL_yard_L438, if_neg (n6 (by omega)), lo0 (by omega), nI1]
    exact i1
theorem go_no0 (h : RelQ (W_yard σ.1) σ.2 T n q) {k : Nat} (hk : k < 6) (h0 : BB (L_b σ.2) k 0 = 0) : mX2_removeBoat (W_yard σ.1) (nI k) = (-1, W_yard σ.1) := by
  unfold mX2_removeBoat
  rw [if_pos (so_kn0 h hk h0)]
theorem go_no1 (h : RelQ (W_yard σ.1) σ.2 T n q) {k : Nat} (hk : k < 6) (h0 : ¬ BB (L_b σ.2) k 0 = 0) (hn : ¬ (BB (L_b σ.2) k 5 < 0 ∧ BB (L_b σ.2) k 7 < 0)) : mX2_removeBoat (W_yard σ.1) (nI k) = (-4, W_yard σ.1) := by
  unfold mX2_removeBoat
  rw [if_neg (so_kn h hk h0), rd_ash h hk h0, rd_mast h hk h0]
  by_cases a : BB (L_b σ.2) k 5 < 0
  · rw [if_pos a, if_pos rfl, if_neg (fun z => hn ⟨a, z⟩), if_pos rfl]
  · rw [if_neg a, if_neg one0]
theorem go_yes (h : RelQ (W_yard σ.1) σ.2 T n q) {k : Nat} (hk : k < 6) (h0 : ¬ BB (L_b σ.2) k 0 = 0) (h5 : BB (L_b σ.2) k 5 < 0) (h7 : BB (L_b σ.2) k 7 < 0) : mX2_removeBoat (W_yard σ.1) (nI k) = (mX2_boats (mX2_forget (W_yard σ.1) (nI k)), mX2_forget (W_yard σ.1) (nI k)) := by
  unfold mX2_removeBoat
  rw [if_neg (so_kn h hk h0), rd_ash h hk h0, rd_mast h hk h0, if_pos h5, if_pos rfl, if_pos h7, if_neg one0]
theorem kn6 (h : RelQ (W_yard σ.1) σ.2 T n q) : mX2_knows (W_yard σ.1) 6 = 0 := by
  refine Classical.byContradiction fun c => ?_
  obtain ⟨k, hk, e, _⟩ := kn_get2 h c
  have := (nI_eq (a := 6) (b := k) (by decide) (by omega)).mp e
  omega
theorem g_go (h : RelQ (W_yard σ.1) σ.2 T n q) (hk : HOK (W_hist σ.1)) (hT : T < 100) (x y : Int32) (c3 : mL_low x 9 = 3) : Good (mL_yard_J327 σ x y) (T + 1) := by
  unfold mL_yard_J327
  obtain ⟨k, hk6, ek⟩ := low_nI (x := y) (k := 6) (m := 6) rfl (by decide) (by decide)
  rw [if_pos c3, ek, lo0 hk6, lo5 hk6, lo7 hk6, ixb0 hk6]
  by_cases h0 : BB (L_b σ.2) k 0 = 0
  · obtain ⟨a1, w1⟩ := e_goAway (go_no0 h hk6 h0)
    rw [if_pos h0, if_pos a1]
    refine ⟨rfl, ⟨n, q, ?_⟩, hok_goAway hk⟩
    show RelQ (W_yard (mX3_goAway σ.1 (nI k)).2) σ.2 (T + 1) n q
    rw [w1]
    exact rl_up h hT
  · rw [if_neg h0]
    by_cases c : (y &&& 24) ≤ 0
    · rw [if_pos c]
      by_cases h5 : 0 ≤ BB (L_b σ.2) k 5
      · obtain ⟨a1, w1⟩ := e_goAway (go_no1 h hk6 h0 (fun z => nlt_le.mpr h5 z.1))
        rw [if_pos h5, if_pos a1]
        refine ⟨rfl, ⟨n, q, ?_⟩, hok_goAway hk⟩
        show RelQ (W_yard (mX3_goAway σ.1 (nI k)).2) σ.2 (T + 1) n q
        rw [w1]
        exact rl_up h hT
      · rw [if_neg h5]
        by_cases h7 : BB (L_b σ.2) k 7 < 0
        · have hR := go_rel h hk6 h0 (nle_lt.mp h5)
          obtain ⟨a1, w1⟩ := e_goAway (go_yes h hk6 h0 (nle_lt.mp h5) h7)
          rw [if_pos h7]
          have e8 := l438 (x := x) (y := y) (w8 := nI k) (w7 := mL_low x 9) (σ := (σ.1, (L_g σ.2, upd (L_b σ.2) (10 * k + 0) 0, L_t σ.2, L_r σ.2))) 6 0 1 (by decide)
          have e9 : mL_yard_L438 x y (nI k) (mL_low x 9) 8 (σ.1, (L_g σ.2, upd (L_b σ.2) (10 * k + 0) 0, L_t σ.2, L_r σ.2)) 0 0 = _ := e8
          rw [e9, if_pos (a1.trans (rd_sum hR))]
          refine ⟨rfl, ⟨n, q, ?_⟩, hok_goAway hk⟩
          show RelQ (W_yard (mX3_goAway σ.1 (nI k)).2) _ (T + 1) n q
          rw [w1]
          exact rl_up hR hT
        · obtain ⟨a1, w1⟩ := e_goAway (go_no1 h hk6 h0 (fun z => h7 z.2))
          rw [if_neg h7, if_pos a1]
          refine ⟨rfl, ⟨n, q, ?_⟩, hok_goAway hk⟩
          show RelQ (W_yard (mX3_goAway σ.1 (nI k)).2) σ.2 (T + 1) n q
          rw [w1]
          exact rl_up h hT
    · obtain ⟨a1, w1⟩ := e_goAway (ω := σ.1) (x1 := 6) (e := -1) (Y := W_yard σ.1) (by unfold mX2_removeBoat; rw [if_pos (kn6 h)])
      rw [if_neg c, if_pos a1]
      refine ⟨rfl, ⟨n, q, ?_⟩, hok_goAway hk⟩
      show RelQ (W_yard (mX3_goAway σ.1 6).2) σ.2 (T + 1) n q
      rw [w1]
      exact rl_up h hT
end YC
