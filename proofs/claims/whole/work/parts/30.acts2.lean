/-! launch, move, masts, work, the passing of days -/
section ACTS2
variable {σ : YS} {τ : MS} {T : Nat}
def laY (σ : YS) (x : Int32) : YS := Y_set_launches (mX2_takeLift (mX2_noteAfloat σ x)) ((Y_launches (mX2_takeLift (mX2_noteAfloat σ x))) + 1)
def laM (τ : MS) (x : Int32) : MS := M_set_z (mX4_useCrane (mX4_put (mX4_put (mX4_put τ x 5 (-5)) x 6 (-5)) x 9 0)) (upd (M_z (mX4_useCrane (mX4_put (mX4_put (mX4_put τ x 5 (-5)) x 6 (-5)) x 9 0))) (6 : Int32).toNatClampNeg (((M_z (mX4_useCrane (mX4_put (mX4_put (mX4_put τ x 5 (-5)) x 6 (-5)) x 9 0))) (6 : Int32).toNatClampNeg) + 1))
def moY (σ : YS) (x r : Int32) : YS := mX2_takeLift (mX2_putAtOuterEnd σ x r)
def moM (τ : MS) (x r : Int32) : MS := mX4_useCrane (mX4_stand τ x r)
theorem sl_f {v : Int32} {j u : Nat} : FY (Y_set_launches σ v) j u = FY σ j u := rfl
theorem sz_mo {v : Nat → Int32} : (M_set_z τ v).2 = τ.2 := rfl
theorem sz_z {v : Nat → Int32} : M_z (M_set_z τ v) = v := rfl
theorem laM_mo {x : Int32} : (laM τ x).2 = τ.2 := by
  unfold laM
  rw [sz_mo, uc_mo, put_mo, put_mo, put_mo]
theorem moM_mo {x r : Int32} : (moM τ x r).2 = τ.2 := by
  unfold moM
  rw [uc_mo, sd_mo]
theorem laY_f {k : Nat} (hk : k < 20) {u j : Nat} (hu : u < 11) : FY (laY σ (nI k)) j u = if j = k ∧ u = 9 then 0 else if j = k ∧ u = 6 then -5 else if j = k ∧ u = 5 then -5 else if j = k ∧ u = 4 then -5 else FY σ j u := by
  unfold laY
  rw [sl_f, tl_f]
  unfold mX2_noteAfloat
  rw [fn9 hk hu, fn6 hk hu, fn5 hk hu, fn4 hk hu]
theorem laM_b {k : Nat} (hk : k < 20) {u j : Nat} (hu : u < 12) : ZB (M_z (laM τ (nI k))) j u = if j = k ∧ u = 9 then 0 else if j = k ∧ u = 6 then -5 else if j = k ∧ u = 5 then -5 else ZB (M_z τ) j u := by
  unfold laM
  rw [sz_z]
  refine (ZB_hd (n := 6) (by decide) _).trans ?_
  rw [uc_b, zp9 hk hu, zp6 hk hu, zp5 hk hu]
theorem laM_h {k : Nat} (hk : k < 20) {i : Nat} (hi : i < 15) : M_z (laM τ (nI k)) i = if i = 6 then M_z τ 6 + 1 else if i = 5 then M_z τ 5 + 1 else if i = 1 then M_z τ 1 + 1 else M_z τ i := by
  unfold laM
  rw [sz_z]
  show upd _ 6 (M_z (mX4_useCrane (mX4_put (mX4_put (mX4_put τ (nI k) 5 (-5)) (nI k) 6 (-5)) (nI k) 9 0)) 6 + 1) i = _
  unfold upd
  rw [uc_hd, uc_hd, if_neg (show ¬ (6 : Nat) = 5 by decide), if_neg (show ¬ (6 : Nat) = 1 by decide), zq9 hk (by decide), zq6 hk (by decide), zq5 hk (by decide), zq9 hk (by decide), zq6 hk (by decide), zq5 hk (by decide), zq9 hk (by decide), zq6 hk (by decide), zq5 hk (by decide), zq9 hk hi, zq6 hk hi, zq5 hk hi]
theorem moY_f {k : Nat} (hk : k < 20) (r : Int32) {u j : Nat} (hu : u < 11) : FY (moY σ (nI k) r) j u = if j = k ∧ u = 4 then r else if j = k ∧ u = 5 then mX2_boatsIn σ r else FY σ j u := by
  unfold moY
  rw [tl_f]
  unfold mX2_putAtOuterEnd
  rw [fn4 hk hu, fn5 hk hu]
theorem moM_b {k : Nat} (hk : k < 20) (r : Int32) {u j : Nat} (hu : u < 12) : ZB (M_z (moM τ (nI k) r)) j u = if j = k ∧ u = 11 then M_z τ 7 else if j = k ∧ u = 5 then r else ZB (M_z τ) j u := by
  unfold moM
  rw [uc_b, sd_b hk hu]
theorem moM_h {k : Nat} (hk : k < 20) (r : Int32) {i : Nat} (hi : i < 15) : M_z (moM τ (nI k) r) i = if i = 5 then M_z τ 5 + 1 else if i = 1 then M_z τ 1 + 1 else if i = 7 then M_z τ 7 + 1 else M_z τ i := by
  unfold moM
  rw [uc_hd, sd_hd hk (by decide), sd_hd hk (by decide), sd_hd hk hi, if_neg (show ¬ (5 : Nat) = 7 by decide), if_neg (show ¬ (1 : Nat) = 7 by decide)]
theorem launch_core (h : RelY σ (M_z τ) T) {k : Nat} (hk : k < 20) (hb : ZB (M_z τ) k 0 = 1) (a1 : ¬ 0 < mX4_blockersOf τ (nI k)) (a2 : ¬ mX4_liftsLeft τ = 0) : RelY (laY σ (nI k)) (M_z (laM τ (nI k))) T := by
  obtain ⟨bE, bG, bS⟩ := h.p hk hb
  obtain ⟨t, ⟨t1, t2⟩, tP⟩ := h.2.1
  have hC := CL.of hk hb a1
  have hH : ∀ i, i < 15 → M_z (laM τ (nI k)) i = if i = 6 then M_z τ 6 + 1 else if i = 5 then M_z τ 5 + 1 else if i = 1 then M_z τ 1 + 1 else M_z τ i := fun i hi => laM_h hk hi
  have oF : ∀ j, j < 20 → j ≠ k → ∀ w, w < 11 → FY (laY σ (nI k)) j w = FY σ j w := fun j _ hj w hw => by
    rw [laY_f hk hw, if_neg (fun c => hj c.1), if_neg (fun c => hj c.1), if_neg (fun c => hj c.1), if_neg (fun c => hj c.1)]
  have oZ : ∀ j, j < 20 → j ≠ k → ∀ w, w < 12 → ZB (M_z (laM τ (nI k))) j w = ZB (M_z τ) j w := fun j _ hj w hw => by
    rw [laM_b hk hw, if_neg (fun c => hj c.1), if_neg (fun c => hj c.1), if_neg (fun c => hj c.1)]
  have kF : ∀ u, u < 11 → FY (laY σ (nI k)) k u = if u = 9 then 0 else if u = 6 then -5 else if u = 5 then -5 else if u = 4 then -5 else FY σ k u := fun u hu => by
    rw [laY_f hk hu]; simp only [true_and]
  have kZ : ∀ u, u < 12 → ZB (M_z (laM τ (nI k))) k u = if u = 9 then 0 else if u = 6 then -5 else if u = 5 then -5 else ZB (M_z τ) k u := fun u hu => by
    rw [laM_b hk hu]; simp only [true_and]
  have y1 : Y_day (laY σ (nI k)) = Y_day σ := rfl
  have y2 : Y_liftsToday (laY σ (nI k)) = Y_liftsToday σ + 1 := rfl
  have y3 : Y_lifts (laY σ (nI k)) = Y_lifts σ + 1 := rfl
  have y4 : Y_launches (laY σ (nI k)) = Y_launches σ + 1 := rfl
  have y5 : Y_settings (laY σ (nI k)) = Y_settings σ := rfl
  have y6 : Y_cradles (laY σ (nI k)) = Y_cradles σ := rfl
  have y7 : Y_metres (laY σ (nI k)) = Y_metres σ := rfl
  generalize M_z (laM τ (nI k)) = z' at *
  generalize laY σ (nI k) = σ' at *
  refine rel_mk (k := k) (t' := t) h (h.1.crane (left_lt a2) y1 y2 y3 ?_ y5 y6 y7 (by rw [hH 1 (by decide)]; rfl) (by rw [hH 5 (by decide)]; rfl) (fun i hi n1 n5 n6 n7 => by rw [hH i hi, if_neg n6, if_neg n5, if_neg n1])) ?_ ⟨?_, t2⟩ oF oZ ?_ ?_
  · rw [hH 6 (by decide), y4, h.1.2.2.1.2]
    rfl
  · rw [hH 0 (by decide)]; exact Int.le_refl _
  · rw [hH 7 (by decide)]
    exact t1
  · refine Or.inr ⟨?_, ?_, ?_, ?_⟩
    · exact (kZ 0 (by decide)).trans hb
    · unfold RE
      rw [kF 0 (by decide), kF 1 (by decide), kF 2 (by decide), kF 3 (by decide), kF 4 (by decide), kF 6 (by decide), kF 7 (by decide), kF 8 (by decide), kF 9 (by decide), kF 10 (by decide), kZ 1 (by decide), kZ 2 (by decide), kZ 3 (by decide), kZ 4 (by decide), kZ 5 (by decide), kZ 6 (by decide), kZ 7 (by decide), kZ 8 (by decide), kZ 9 (by decide), kZ 10 (by decide)]
      obtain ⟨b0, b1, b2, b3, b4, b6, b7, b8, b9, b10⟩ := bE
      exact ⟨b0, b1, b2, b3, rfl, rfl, b7, b8, rfl, b10⟩
    · unfold RG
      rw [kZ 1 (by decide), kZ 2 (by decide), kZ 3 (by decide), kZ 4 (by decide), kZ 7 (by decide), kZ 8 (by decide), kZ 9 (by decide), hH 0 (by decide)]
      obtain ⟨g1, g2, g3, g4, g5, g6, g7⟩ := bG
      exact ⟨g1, g2, g3, g4, g5, g6, show (0 : Int) ≤ (0 : Int32).toInt by decide, h.1.1.2.1⟩
    · unfold RS
      rw [kZ 5 (by decide), kZ 6 (by decide), kZ 9 (by decide), kF 5 (by decide)]
      exact Or.inl ⟨rfl, rfl, rfl, rfl⟩
  · refine tP.hide (k := k) (fun j hj hjk => oF j hj hjk 5 (by decide)) (fun j hj hjk => oZ j hj hjk 0 (by decide)) (fun j hj hjk => oZ j hj hjk 5 (by decide)) (fun j hj hjk => oZ j hj hjk 11 (by decide)) hC (fun c => ?_)
    rw [kZ 5 (by decide)] at c
    exact absurd (show (0 : Int) ≤ (-5 : Int32).toInt from c.2) (by decide)
theorem launch_act (h : RelY σ (M_z τ) T) (x1 : Int32) : Act τ T (mX2_putAfloat σ x1) (mX4_noLaunch τ x1) (mX4_doLaunch τ x1) := by
  rw [show mX4_doLaunch τ x1 = (mX4_of τ x1 9, laM τ x1) from rfl,
    show mX2_putAfloat σ x1 = (if (mX2_knows σ x1) = 0 then ((-1), σ) else (if (mX2_whyNoLaunch σ x1) = 0 then ((mX2_fact σ x1 9), laY σ x1) else (((-10) - (mX2_whyNoLaunch σ x1)), σ))) from rfl]
  unfold mX4_noLaunch
  rw [kn_eq h]
  by_cases c1 : mX4_isBoat τ x1 = 0
  · rw [if_pos c1, if_pos c1]
    exact Or.inr ⟨by decide, rfl, h⟩
  · rw [if_neg c1, if_neg c1]
    obtain ⟨k, hk, rfl, hb⟩ := kn_get c1
    rw [wla_eq h hk hb]
    rcases wla_rng (τ := τ) (nI k) with w0 | w1
    · rw [w0, if_pos rfl, if_pos (by decide)]
      obtain ⟨a0, a1, a2⟩ := wla_zero w0
      have hR := (launch_core h hk hb a1 a2).up (Nat.le_succ T)
      rw [fa9 hk, zo9 hk]
      have hm := laM_mo (τ := τ) (x := nI k)
      generalize laY σ (nI k) = σ' at *
      generalize laM τ (nI k) = τ' at *
      have e9 := (h.p hk hb).1.2.2.2.2.2.2.2.2.1
      have g9 := (h.p hk hb).2.1.2.2.2.2.2.2.1
      exact Or.inl ⟨rfl, e9, by show 0 ≤ (FY σ k 9).toInt; rw [e9]; exact g9, hm, hR⟩
    · have n0 : ¬ mX4_whyNoLaunch τ (nI k) = 0 := fun c => by rw [c] at w1; exact absurd w1.1 (by decide)
      rw [if_neg n0, if_neg (by rw [le_ti]; show ¬ _ ≤ (0 : Int); omega)]
      exact Or.inr ⟨neg10 w1, rfl, h⟩
theorem move_core (hT : T < 2 ^ 30) (h : RelY σ (M_z τ) T) {k r : Nat} (hk : k < 20) (hb : ZB (M_z τ) k 0 = 1) (hr : r < 4) (a0 : ¬ mX4_isAshore τ (nI k) = 0) (a1 : ¬ 0 < mX4_blockersOf τ (nI k)) (a2 : ¬ mX4_liftsLeft τ = 0) (hne : ¬ ZB (M_z τ) k 5 = nI r) : RelY (moY σ (nI k) (nI r)) (M_z (moM τ (nI k) (nI r))) (T + 1) := by
  obtain ⟨bE, bG, bS⟩ := h.p hk hb
  obtain ⟨t, ⟨t1, t2⟩, tP⟩ := h.2.1
  obtain ⟨r0, hr0', e5⟩ := z5_get h hk hb a0
  have hC := CL.of hk hb a1
  have hr0 : 0 ≤ (nI r).toInt := ge0 (by omega)
  have hbi : mX2_boatsIn σ (nI r) = nI (ct (inrw (M_z τ) (nI r)) 20) := by
    rw [bi_eq h hr0, bi4_sm]
    exact sm_ct (fun i _ => rfl)
  have hH : ∀ i, i < 15 → M_z (moM τ (nI k) (nI r)) i = if i = 5 then M_z τ 5 + 1 else if i = 1 then M_z τ 1 + 1 else if i = 7 then M_z τ 7 + 1 else M_z τ i := fun i hi => moM_h hk _ hi
  have oF : ∀ j, j < 20 → j ≠ k → ∀ w, w < 11 → FY (moY σ (nI k) (nI r)) j w = FY σ j w := fun j _ hj w hw => by
    rw [moY_f hk _ hw, if_neg (fun c => hj c.1), if_neg (fun c => hj c.1)]
  have oZ : ∀ j, j < 20 → j ≠ k → ∀ w, w < 12 → ZB (M_z (moM τ (nI k) (nI r))) j w = ZB (M_z τ) j w := fun j _ hj w hw => by
    rw [moM_b hk _ hw, if_neg (fun c => hj c.1), if_neg (fun c => hj c.1)]
  have kF : ∀ u, u < 11 → FY (moY σ (nI k) (nI r)) k u = if u = 4 then nI r else if u = 5 then nI (ct (inrw (M_z τ) (nI r)) 20) else FY σ k u := fun u hu => by
    rw [moY_f hk _ hu, hbi]; simp only [true_and]
  have kZ : ∀ u, u < 12 → ZB (M_z (moM τ (nI k) (nI r))) k u = if u = 11 then nI t else if u = 5 then nI r else ZB (M_z τ) k u := fun u hu => by
    rw [moM_b hk _ hu, t1]; simp only [true_and]
  have y1 : Y_day (moY σ (nI k) (nI r)) = Y_day σ := rfl
  have y2 : Y_liftsToday (moY σ (nI k) (nI r)) = Y_liftsToday σ + 1 := rfl
  have y3 : Y_lifts (moY σ (nI k) (nI r)) = Y_lifts σ + 1 := rfl
  have y4 : Y_launches (moY σ (nI k) (nI r)) = Y_launches σ := rfl
  have y5 : Y_settings (moY σ (nI k) (nI r)) = Y_settings σ := rfl
  have y6 : Y_cradles (moY σ (nI k) (nI r)) = Y_cradles σ := rfl
  have y7 : Y_metres (moY σ (nI k) (nI r)) = Y_metres σ := rfl
  generalize M_z (moM τ (nI k) (nI r)) = z' at *
  generalize moY σ (nI k) (nI r) = σ' at *
  refine rel_mk (k := k) (t' := t + 1) h (h.1.crane (left_lt a2) y1 y2 y3 ?_ y5 y6 y7 (by rw [hH 1 (by decide)]; rfl) (by rw [hH 5 (by decide)]; rfl) (fun i hi n1 n5 _ n7 => by rw [hH i hi, if_neg n5, if_neg n1, if_neg n7])) ?_ ⟨?_, by omega⟩ oF oZ ?_ ?_
  · rw [hH 6 (by decide), y4]
    exact h.1.2.2.1.2
  · rw [hH 0 (by decide)]; exact Int.le_refl _
  · rw [hH 7 (by decide)]
    show M_z τ 7 + 1 = _
    rw [t1, nI1]
  · refine Or.inr ⟨?_, ?_, ?_, ?_⟩
    · exact (kZ 0 (by decide)).trans hb
    · unfold RE
      rw [kF 0 (by decide), kF 1 (by decide), kF 2 (by decide), kF 3 (by decide), kF 4 (by decide), kF 6 (by decide), kF 7 (by decide), kF 8 (by decide), kF 9 (by decide), kF 10 (by decide), kZ 1 (by decide), kZ 2 (by decide), kZ 3 (by decide), kZ 4 (by decide), kZ 5 (by decide), kZ 6 (by decide), kZ 7 (by decide), kZ 8 (by decide), kZ 9 (by decide), kZ 10 (by decide)]
      obtain ⟨b0, b1, b2, b3, b4, b6, b7, b8, b9, b10⟩ := bE
      exact ⟨b0, b1, b2, b3, rfl, b6, b7, b8, b9, b10⟩
    · unfold RG
      rw [kZ 1 (by decide), kZ 2 (by decide), kZ 3 (by decide), kZ 4 (by decide), kZ 7 (by decide), kZ 8 (by decide), kZ 9 (by decide), hH 0 (by decide)]
      exact bG
    · unfold RS
      rw [kZ 5 (by decide), kZ 6 (by decide)]
      refine Or.inr ⟨⟨hr0, ?_⟩, ?_⟩
      · show (nI r).toInt ≤ 3
        rw [nI_ti (by omega)]; omega
      · rcases bS with q | q
        · have := q.1
          rw [e5] at this
          exact absurd this (m5_ne (ge0 (by omega)))
        · exact q.2
  · exact tP.stand (k := k) (by omega) hk (fun j hj hjk => oF j hj hjk 5 (by decide)) (fun j hj hjk => oZ j hj hjk 0 (by decide)) (fun j hj hjk => oZ j hj hjk 5 (by decide)) (fun j hj hjk => oZ j hj hjk 11 (by decide)) hC hr0 (kZ 5 (by decide)) (kZ 11 (by decide)) (fun c => hne c.2) (kF 5 (by decide))
theorem move_act (hT : T < 2 ^ 30) (h : RelY σ (M_z τ) T) (x1 x2 : Int32) : Act τ T (mX2_moveTo σ x1 x2) (mX4_noMove τ x1 x2) (mX4_doMove τ x1 x2) := by
  rw [show mX4_doMove τ x1 x2 = (mX4_boatsIn (moM τ x1 x2) x2, moM τ x1 x2) from rfl,
    show mX2_moveTo σ x1 x2 = (if (mX2_knows σ x1) = 0 then ((-1), σ) else (if (mX2_isRow x2) = 0 then ((-1), σ) else (if (mX2_isAshore σ x1) = 0 then ((-4), σ) else (if 0 < (mX2_boatsFartherOut σ x1) then ((-4), σ) else (if (mX2_standsIn σ x1 x2) = 0 then (if (mX2_hasRoom σ x2 x1) = 0 then ((-3), σ) else (if (mX2_liftsLeft σ) = 0 then ((-3), σ) else ((mX2_boatsIn (moY σ x1 x2) x2), moY σ x1 x2))) else ((-4), σ)))))) from rfl]
  unfold mX4_noMove
  rw [kn_eq h, show mX2_isRow x2 = mX4_isRow x2 from rfl]
  by_cases c1 : mX4_isBoat τ x1 = 0
  · rw [if_pos c1, if_pos c1]
    exact Or.inr ⟨by decide, rfl, h⟩
  · rw [if_neg c1, if_neg c1]
    by_cases c2 : mX4_isRow x2 = 0
    · rw [if_pos c2, if_pos c2]
      exact Or.inr ⟨by decide, rfl, h⟩
    · rw [if_neg c2, if_neg c2]
      obtain ⟨k, hk, rfl, hb⟩ := kn_get c1
      obtain ⟨r, hr, rfl⟩ := row_get c2
      rw [as_eq h hk hb, st_eq h hk hb, hr_eq h hk hb hr, left_eq h, zo5 hk]
      by_cases c3 : mX4_isAshore τ (nI k) = 0
      · rw [if_pos c3, if_pos c3]
        exact Or.inr ⟨by decide, rfl, h⟩
      · rw [if_neg c3, if_neg c3]
        obtain ⟨r0, hr0', e5⟩ := z5_get h hk hb c3
        rw [fo_eq h hk hb (by rw [e5]; exact ge0 (by omega))]
        by_cases c4 : 0 < mX4_blockersOf τ (nI k)
        · rw [if_pos c4, if_pos c4]
          exact Or.inr ⟨by decide, rfl, h⟩
        · rw [if_neg c4, if_neg c4]
          by_cases c5 : ZB (M_z τ) k 5 = nI r
          · rw [if_pos c5, if_pos c5.symm, if_neg one_ne]
            exact Or.inr ⟨by decide, rfl, h⟩
          · rw [if_neg (fun c : nI r = ZB (M_z τ) k 5 => c5 c.symm), if_pos rfl, if_neg c5]
            by_cases c6 : mX4_hasRoom τ (nI k) (nI r) = 0
            · rw [if_pos c6, if_pos c6]
              exact Or.inr ⟨by decide, rfl, h⟩
            · rw [if_neg c6, if_neg c6]
              by_cases c7 : mX4_liftsLeft τ = 0
              · rw [if_pos c7, if_pos c7]
                exact Or.inr ⟨by decide, rfl, h⟩
              · rw [if_neg c7, if_neg c7]
                have hR := move_core hT h hk hb hr c3 c4 c7 c5
                have hm := moM_mo (τ := τ) (x := nI k) (r := nI r)
                generalize moY σ (nI k) (nI r) = σ' at *
                generalize moM τ (nI k) (nI r) = τ' at *
                have he := bi_eq hR (x := nI r) (ge0 (by omega))
                exact Or.inl ⟨rfl, he, by show 0 ≤ (mX2_boatsIn σ' (nI r)).toInt; rw [he]; exact bi_ge _, hm, hR⟩
/-- one boat, a column that has no part in the places -/
theorem col_core (h : RelY σ (M_z τ) T) {k : Nat} (hk : k < 20) {σ' : YS} {z' : Nat → Int32} {w : Nat} (hw : w ≠ 0 ∧ w ≠ 5 ∧ w ≠ 11) (hH : RH σ' z') (h0 : z' 0 = M_z τ 0) (h7 : z' 7 = M_z τ 7) (oF : ∀ j, j < 20 → j ≠ k → ∀ u, u < 11 → FY σ' j u = FY σ j u) (f5 : FY σ' k 5 = FY σ k 5) (oZ : ∀ j, j < 20 → ∀ u, u < 12 → ¬ (j = k ∧ u = w) → ZB z' j u = ZB (M_z τ) j u) (hB : RB (FY σ' k) (ZB z' k) (M_z τ 0).toInt) : RelY σ' z' T := by
  obtain ⟨t, ⟨t1, t2⟩, tP⟩ := h.2.1
  refine rel_mk (k := k) (t' := t) h hH (by rw [h0]; exact Int.le_refl _) ⟨by rw [h7]; exact t1, t2⟩ oF (fun j hj hjk u hu => oZ j hj u hu (fun c => hjk c.1)) (by rw [h0]; exact hB) (tP.same (fun j hj => ?_) (fun j hj => oZ j hj 0 (by decide) (fun c => hw.1 c.2.symm)) (fun j hj => oZ j hj 5 (by decide) (fun c => hw.2.1 c.2.symm)) (fun j hj => oZ j hj 11 (by decide) (fun c => hw.2.2 c.2.symm)))
  by_cases e : j = k
  · subst e; exact f5
  · exact oF j hj e 5 (by decide)
theorem mast_core (h : RelY σ (M_z τ) T) {k : Nat} (hk : k < 20) (hb : ZB (M_z τ) k 0 = 1) {v : Int32} (hv : v = -5 ∨ v = 0 ∨ v = 1) : RelY (mX2_note σ (nI k) 7 v) (M_z (mX4_put τ (nI k) 7 v)) T := by
  obtain ⟨bE, bG, bS⟩ := h.p hk hb
  have kF : ∀ u, u < 11 → FY (mX2_note σ (nI k) 7 v) k u = if u = 7 then v else FY σ k u := fun u hu => by
    rw [fn7 hk hu]; simp only [true_and]
  have kZ : ∀ u, u < 12 → ZB (M_z (mX4_put τ (nI k) 7 v)) k u = if u = 7 then v else ZB (M_z τ) k u := fun u hu => by
    rw [zp7 hk hu]; simp only [true_and]
  refine col_core (w := 7) (k := k) h hk ⟨by decide, by decide, by decide⟩ (RH.congr (σ := mX2_note σ (nI k) 7 v) h.1 (fun i hi _ => zq7 hk hi v)) (zq7 hk (by decide) v) (zq7 hk (by decide) v) (fun j _ hj u hu => by rw [fn7 hk hu, if_neg (fun c => hj c.1)]) (by rw [kF 5 (by decide)]; rfl) (fun j _ u hu hc => by rw [zp7 hk hu, if_neg hc]) (Or.inr ⟨(kZ 0 (by decide)).trans hb, ?_, ?_, ?_⟩)
  · unfold RE
    rw [kF 0 (by decide), kF 1 (by decide), kF 2 (by decide), kF 3 (by decide), kF 4 (by decide), kF 6 (by decide), kF 7 (by decide), kF 8 (by decide), kF 9 (by decide), kF 10 (by decide), kZ 1 (by decide), kZ 2 (by decide), kZ 3 (by decide), kZ 4 (by decide), kZ 5 (by decide), kZ 6 (by decide), kZ 7 (by decide), kZ 8 (by decide), kZ 9 (by decide), kZ 10 (by decide)]
    obtain ⟨b0, b1, b2, b3, b4, b6, b7, b8, b9, b10⟩ := bE
    exact ⟨b0, b1, b2, b3, b4, b6, rfl, b8, b9, b10⟩
  · unfold RG
    rw [kZ 1 (by decide), kZ 2 (by decide), kZ 3 (by decide), kZ 4 (by decide), kZ 7 (by decide), kZ 8 (by decide), kZ 9 (by decide)]
    obtain ⟨g1, g2, g3, g4, g5, g6, g7⟩ := bG
    exact ⟨g1, g2, g3, g4, hv, g6, g7⟩
  · unfold RS
    rw [kZ 5 (by decide), kZ 6 (by decide), kZ 9 (by decide), kF 5 (by decide)]
    exact bS
theorem work_core (h : RelY σ (M_z τ) T) {k : Nat} (hk : k < 20) (hb : ZB (M_z τ) k 0 = 1) {v : Int32} (hv : 0 ≤ v.toInt ∧ v.toInt ≤ 99) : RelY (mX2_note σ (nI k) 8 v) (M_z (mX4_put τ (nI k) 8 v)) T := by
  obtain ⟨bE, bG, bS⟩ := h.p hk hb
  have kF : ∀ u, u < 11 → FY (mX2_note σ (nI k) 8 v) k u = if u = 8 then v else FY σ k u := fun u hu => by
    rw [fn8 hk hu]; simp only [true_and]
  have kZ : ∀ u, u < 12 → ZB (M_z (mX4_put τ (nI k) 8 v)) k u = if u = 8 then v else ZB (M_z τ) k u := fun u hu => by
    rw [zp8 hk hu]; simp only [true_and]
  refine col_core (w := 8) (k := k) h hk ⟨by decide, by decide, by decide⟩ (RH.congr (σ := mX2_note σ (nI k) 8 v) h.1 (fun i hi _ => zq8 hk hi v)) (zq8 hk (by decide) v) (zq8 hk (by decide) v) (fun j _ hj u hu => by rw [fn8 hk hu, if_neg (fun c => hj c.1)]) (by rw [kF 5 (by decide)]; rfl) (fun j _ u hu hc => by rw [zp8 hk hu, if_neg hc]) (Or.inr ⟨(kZ 0 (by decide)).trans hb, ?_, ?_, ?_⟩)
  · unfold RE
    rw [kF 0 (by decide), kF 1 (by decide), kF 2 (by decide), kF 3 (by decide), kF 4 (by decide), kF 6 (by decide), kF 7 (by decide), kF 8 (by decide), kF 9 (by decide), kF 10 (by decide), kZ 1 (by decide), kZ 2 (by decide), kZ 3 (by decide), kZ 4 (by decide), kZ 5 (by decide), kZ 6 (by decide), kZ 7 (by decide), kZ 8 (by decide), kZ 9 (by decide), kZ 10 (by decide)]
    obtain ⟨b0, b1, b2, b3, b4, b6, b7, b8, b9, b10⟩ := bE
    exact ⟨b0, b1, b2, b3, b4, b6, b7, rfl, b9, b10⟩
  · unfold RG
    rw [kZ 1 (by decide), kZ 2 (by decide), kZ 3 (by decide), kZ 4 (by decide), kZ 7 (by decide), kZ 8 (by decide), kZ 9 (by decide)]
    obtain ⟨g1, g2, g3, g4, g5, g6, g7⟩ := bG
    exact ⟨g1, g2, g3, g4, g5, hv, g7⟩
  · unfold RS
    rw [kZ 5 (by decide), kZ 6 (by decide), kZ 9 (by decide), kF 5 (by decide)]
    exact bS
theorem off_act (h : RelY σ (M_z τ) T) (x1 : Int32) : Act τ T (mX2_takeMastOff σ x1) (mX4_noMast τ x1 0) (mX4_doMast τ x1 0) := by
  rw [show mX4_doMast τ x1 0 = ((mX4_rackFor τ x1), (mX4_put τ x1 7 (mX4_rackFor τ x1))) from rfl]
  unfold mX2_takeMastOff mX4_noMast
  rw [kn_eq h]
  by_cases c1 : mX4_isBoat τ x1 = 0
  · rw [if_pos c1, if_pos c1]
    exact Or.inr ⟨by decide, rfl, h⟩
  · rw [if_neg c1, if_neg c1]
    obtain ⟨k, hk, rfl, hb⟩ := kn_get c1
    rw [as_eq h hk hb, hm_eq h hk hb, rf_eq h hk hb, zo7 hk]
    by_cases c2 : mX4_isAshore τ (nI k) = 0
    · rw [if_pos c2, if_pos c2]
      by_cases c3 : ZB (M_z τ) k 7 = -5
      · rw [if_pos c3, if_pos c3, if_neg one_ne, if_neg (show ¬ (0 : Int32) = 1 by decide), if_pos rfl]
        by_cases c4 : mX4_rackFor τ (nI k) = -5
        · rw [if_pos c4, if_pos c4]
          exact Or.inr ⟨by decide, rfl, h⟩
        · rw [if_neg c4, if_neg c4]
          have hr := rf_rng (τ := τ) (k := k)
          have hR := (mast_core h hk hb hr).up (Nat.le_succ T)
          refine Or.inl ⟨rfl, rfl, ?_, put_mo, hR⟩
          show 0 ≤ (mX4_rackFor τ (nI k)).toInt
          rcases hr with q | q | q
          · exact absurd q c4
          · rw [q]; decide
          · rw [q]; decide
      · rw [if_neg c3, if_neg c3, if_pos rfl, if_pos rfl]
        exact Or.inr ⟨by decide, rfl, h⟩
    · rw [if_neg c2, if_neg c2]
      exact Or.inr ⟨by decide, rfl, h⟩
theorem up_act (h : RelY σ (M_z τ) T) (x1 : Int32) : Act τ T (mX2_putMastUp σ x1) (mX4_noMast τ x1 1) (mX4_doMast τ x1 1) := by
  rw [show mX4_doMast τ x1 1 = ((mX4_of τ x1 7), (mX4_put τ x1 7 (-5))) from rfl]
  unfold mX2_putMastUp mX4_noMast
  rw [kn_eq h]
  by_cases c1 : mX4_isBoat τ x1 = 0
  · rw [if_pos c1, if_pos c1]
    exact Or.inr ⟨by decide, rfl, h⟩
  · rw [if_neg c1, if_neg c1]
    obtain ⟨k, hk, rfl, hb⟩ := kn_get c1
    rw [as_eq h hk hb, fa7 hk, zo7 hk]
    have e7 := (h.p hk hb).1.2.2.2.2.2.2.1
    have g7 := (h.p hk hb).2.1.2.2.2.2.1
    by_cases c2 : mX4_isAshore τ (nI k) = 0
    · rw [if_pos c2, if_pos c2]
      have hR := mast_core h hk hb (v := -5) (Or.inl rfl)
      by_cases c3 : ZB (M_z τ) k 7 = -5
      · rw [if_pos c3, if_pos rfl]
        refine Or.inr ⟨by decide, e7.trans c3, ?_⟩
        refine hR.zcongr (fun i hi => ?_)
        show M_z τ i = upd (M_z τ) ((15 + (12 * nI k)) + nI 7).toNatClampNeg (-5) i
        rw [ixz hk (by decide)]
        unfold upd
        by_cases e : i = 15 + 12 * k + 7
        · rw [if_pos e, e]; exact c3
        · rw [if_neg e]
      · rw [if_neg c3, if_neg (show ¬ (1 : Int32) = 0 by decide), if_neg (show ¬ (1 : Int32) = 0 by decide)]
        refine Or.inl ⟨rfl, e7, ?_, put_mo, hR.up (Nat.le_succ T)⟩
        show 0 ≤ (FY σ k 7).toInt
        rw [e7]
        rcases g7 with q | q | q
        · exact absurd q c3
        · rw [q]; decide
        · rw [q]; decide
    · rw [if_neg c2, if_neg c2]
      exact Or.inr ⟨by decide, rfl, h⟩
end ACTS2
