/-! a step of a boat: masts, work, nobody; then every step -/
section GM
variable {σ : VS} {T : Nat} {n : Nat → Nat} {q : Nat → Nat → Nat} {k i : Nat} {x y : Int32}
theorem mast_rel {Y : YS} {γ γ' : LAS} (h : RelQ Y γ T n q) (hk : k < 6) (h0 : ¬ BB (L_b γ) k 0 = 0) {fv bv : Int32} (hv : (bv = -1 ∧ fv = -5) ∨ ∃ c : Nat, c < 2 ∧ bv = nI c ∧ fv = nI c) (hB : ∀ j u, u < 10 → BB (L_b γ') j u = if j = k ∧ u = 7 then bv else BB (L_b γ) j u) (hg : L_g γ' = L_g γ) (ht : L_t γ' = L_t γ) (hr : L_r γ' = L_r γ) : RelQ (mX2_note Y (nI k) 7 fv) γ' T n q := by
  obtain ⟨pE, pV, pM, pS⟩ := rq_p h hk h0
  have p0 := ((h.2.2.1.1 k hk).p h0).1
  have hF : ∀ j u, u < 11 → FY (mX2_note Y (nI k) 7 fv) j u = if j = k ∧ u = 7 then fv else FY Y j u := fun j u hu => fn7 (by omega) hu fv
  have bk : ∀ u, u < 10 → BB (L_b γ') k u = if u = 7 then bv else BB (L_b γ) k u := fun u hu => by rw [hB k u hu]; simp only [true_and]
  have fk : ∀ u, u < 11 → FY (mX2_note Y (nI k) 7 fv) k u = if u = 7 then fv else FY Y k u := fun u hu => by rw [hF k u hu]; simp only [true_and]
  refine ⟨h.1.y rfl hg, by rw [hr]; exact h.2.1, ?_, h.2.2.2⟩
  refine h.2.2.1.mk1 (k := k) (fun j _ hj w hw => by rw [hF j w hw, if_neg (fun z => hj z.1)]) (fun j _ hj w hw => by rw [hB j w hw, if_neg (fun z => hj z.1)]) (fun j _ _ => congrFun ht j) hk ?_ ?_
  · obtain ⟨c4, hc4, eK⟩ := (h.2.2.1.1 k hk).1
    refine ⟨⟨c4, hc4, (bk 4 (by decide)).trans eK⟩, Or.inr ⟨(bk 0 (by decide)).trans p0, ?_, ?_, ?_, ?_⟩⟩
    · exact ⟨(fk 0 (by decide)).trans (pE.1.trans (bk 1 (by decide)).symm), (fk 1 (by decide)).trans (pE.2.1.trans (bk 2 (by decide)).symm), (fk 2 (by decide)).trans (pE.2.2.1.trans (bk 3 (by decide)).symm), (fk 3 (by decide)).trans (pE.2.2.2.1.trans (bk 4 (by decide)).symm), (fk 8 (by decide)).trans (pE.2.2.2.2.1.trans (bk 8 (by decide)).symm), (fk 10 (by decide)).trans (pE.2.2.2.2.2.trans (congrFun ht k).symm)⟩
    · unfold QV
      rw [bk 1 (by decide), bk 2 (by decide), bk 3 (by decide), bk 8 (by decide)]
      exact pV
    · unfold QM
      rw [bk 7 (by decide), fk 7 (by decide)]
      exact hv
    · unfold QS
      rw [bk 5 (by decide), bk 6 (by decide), bk 9 (by decide), fk 4 (by decide), fk 5 (by decide), fk 6 (by decide), fk 9 (by decide)]
      exact pS
  · exact h.2.2.1.w.same (fun j _ => by rw [hB j 0 (by decide), if_neg (fun z => absurd z.2 (by decide))]) (fun j _ => by rw [hB j 5 (by decide), if_neg (fun z => absurd z.2 (by decide))]) (fun j _ => by rw [hF j 5 (by decide), if_neg (fun z => absurd z.2 (by decide))])
theorem work_rel {Y : YS} {γ γ' : LAS} (h : RelQ Y γ T n q) (hk : k < 6) (h0 : ¬ BB (L_b γ) k 0 = 0) {v : Int32} (hv : 0 ≤ v.toInt ∧ v.toInt ≤ 99) (hB : ∀ j u, u < 10 → BB (L_b γ') j u = if j = k ∧ u = 8 then v else BB (L_b γ) j u) (hg : L_g γ' = L_g γ) (ht : L_t γ' = L_t γ) (hr : L_r γ' = L_r γ) : RelQ (mX2_note Y (nI k) 8 v) γ' T n q := by
  obtain ⟨pE, pV, pM, pS⟩ := rq_p h hk h0
  have p0 := ((h.2.2.1.1 k hk).p h0).1
  have hF : ∀ j u, u < 11 → FY (mX2_note Y (nI k) 8 v) j u = if j = k ∧ u = 8 then v else FY Y j u := fun j u hu => fn8 (by omega) hu v
  have bk : ∀ u, u < 10 → BB (L_b γ') k u = if u = 8 then v else BB (L_b γ) k u := fun u hu => by rw [hB k u hu]; simp only [true_and]
  have fk : ∀ u, u < 11 → FY (mX2_note Y (nI k) 8 v) k u = if u = 8 then v else FY Y k u := fun u hu => by rw [hF k u hu]; simp only [true_and]
  refine ⟨h.1.y rfl hg, by rw [hr]; exact h.2.1, ?_, h.2.2.2⟩
  refine h.2.2.1.mk1 (k := k) (fun j _ hj w hw => by rw [hF j w hw, if_neg (fun z => hj z.1)]) (fun j _ hj w hw => by rw [hB j w hw, if_neg (fun z => hj z.1)]) (fun j _ _ => congrFun ht j) hk ?_ ?_
  · obtain ⟨c4, hc4, eK⟩ := (h.2.2.1.1 k hk).1
    refine ⟨⟨c4, hc4, (bk 4 (by decide)).trans eK⟩, Or.inr ⟨(bk 0 (by decide)).trans p0, ?_, ?_, ?_, ?_⟩⟩
    · exact ⟨(fk 0 (by decide)).trans (pE.1.trans (bk 1 (by decide)).symm), (fk 1 (by decide)).trans (pE.2.1.trans (bk 2 (by decide)).symm), (fk 2 (by decide)).trans (pE.2.2.1.trans (bk 3 (by decide)).symm), (fk 3 (by decide)).trans (pE.2.2.2.1.trans (bk 4 (by decide)).symm), (fk 8 (by decide)).trans (bk 8 (by decide)).symm, (fk 10 (by decide)).trans (pE.2.2.2.2.2.trans (congrFun ht k).symm)⟩
    · have b8 : BB (L_b γ') k 8 = v := bk 8 (by decide)
      unfold QV
      rw [bk 1 (by decide), bk 2 (by decide), bk 3 (by decide), b8]
      exact ⟨pV.1, pV.2.1, pV.2.2.1, hv⟩
    · unfold QM
      rw [bk 7 (by decide), fk 7 (by decide)]
      exact pM
    · unfold QS
      rw [bk 5 (by decide), bk 6 (by decide), bk 9 (by decide), fk 4 (by decide), fk 5 (by decide), fk 6 (by decide), fk 9 (by decide)]
      exact pS
  · exact h.2.2.1.w.same (fun j _ => by rw [hB j 0 (by decide), if_neg (fun z => absurd z.2 (by decide))]) (fun j _ => by rw [hB j 5 (by decide), if_neg (fun z => absurd z.2 (by decide))]) (fun j _ => by rw [hF j 5 (by decide), if_neg (fun z => absurd z.2 (by decide))])
theorem rd_m5 {Y : YS} {γ : LAS} (h : RelQ Y γ T n q) (hk : k < 6) (h0 : ¬ BB (L_b γ) k 0 = 0) (h7 : BB (L_b γ) k 7 < 0) {c : Nat} (hc : c < 2) : ¬ 6 ≤ mX2_mastsIn Y (nI c) := by
  have e : mX2_mastsIn Y (nI c) = nI (ct (fun j => FY Y j 7 = nI c) 20) := by
    rw [show mX2_mastsIn Y (nI c) = _ from bw_sm (w := 7) (by decide) (nI c), sm_ct (p := fun j => FY Y j 7 = nI c) (fun _ _ => rfl)]
  have hlt := ct_lt (p := fun j => FY Y j 7 = nI c) (q := fun j => j < 6) (n := 20) (j := k) (fun a ha e => by
    by_cases z : a < 6
    · exact z
    · rw [h.2.2.1.2.1 a (by omega) ha 7 (by decide)] at e
      exact absurd e.symm (nIm5 (by omega))) (by omega) (fun e => by
    obtain ⟨pE, pV, pM, pS⟩ := rq_p h hk h0
    rcases pM with m | ⟨c7, hc7, m1, m2⟩
    · rw [m.2] at e
      exact nIm5 (by omega) e.symm
    · rw [m1] at h7
      exact nge (by omega) h7) hk
  have h3 : ct (fun j => j < 6) 20 = 6 := by decide
  rw [e]
  exact n6 (by omega)
theorem rack_of {Y : YS} {γ : LAS} (h : RelQ Y γ T n q) (hk : k < 6) (h0 : ¬ BB (L_b γ) k 0 = 0) (h7 : BB (L_b γ) k 7 < 0) : mX2_rackFor Y (nI k) = (if 13 ≤ BB (L_b γ) k 1 then 1 else 0) := by
  obtain ⟨pE, pV, pM, pS⟩ := rq_p h hk h0
  have e1 : (12 : Int32) < BB (L_b γ) k 1 ↔ (13 : Int32) ≤ BB (L_b γ) k 1 := by
    rw [lt_ti, le_ti]
    have a : (12 : Int32).toInt = 12 := rfl
    have b : (13 : Int32).toInt = 13 := rfl
    omega
  have m0 : ¬ 6 ≤ mX2_mastsIn Y 0 := rd_m5 h hk h0 h7 (c := 0) (by decide)
  have m1 : ¬ 6 ≤ mX2_mastsIn Y 1 := rd_m5 h hk h0 h7 (c := 1) (by decide)
  unfold mX2_rackFor
  rw [fa0 (by omega), show FY Y k 0 = _ from pE.1]
  by_cases c : (13 : Int32) ≤ BB (L_b γ) k 1
  · rw [if_pos (e1.mpr c), if_neg m1, if_pos c]
  · rw [if_neg (fun z => c (e1.mp z)), if_neg m0, if_neg c]
theorem g_mast (h : RelQ (W_yard σ.1) σ.2 T n q) (hh : HOK (W_hist σ.1)) (hT : T < 100) (hk : k < 6) (h0 : ¬ BB (L_b σ.2) k 0 = 0) (ek : mL_low y 6 = nI k) : Good (mL_boats_J590 σ x y) (T + 1) := by
  unfold mL_boats_J590
  obtain ⟨pE, pV, pM, pS⟩ := rq_p h hk h0
  rw [ek, lo5 hk, lo7 hk, lo1 hk, show ((10 * nI k) + 7).toNatClampNeg = 10 * k + 7 from ixb (w := 7) hk (by decide)]
  have hu : (if ((y >>> ((5 : Int32) &&& 31)) &&& 3) = 0 then (1 : Int32) else 0) = 1 ∨ (if ((y >>> ((5 : Int32) &&& 31)) &&& 3) = 0 then (1 : Int32) else 0) = 0 := by
    split
    · exact Or.inl rfl
    · exact Or.inr rfl
  generalize (if ((y >>> ((5 : Int32) &&& 31)) &&& 3) = 0 then (1 : Int32) else 0) = u at *
  have done : ∀ (e : Int32) (Y' : YS) (γ' : LAS), (mX3_mast σ.1 (nI k) u).1 = e ∧ W_yard (mX3_mast σ.1 (nI k) u).2 = Y' → RelQ Y' γ' T n q → Good (if (mX3_mast σ.1 (nI k) u).1 = e then (1, ((mX3_mast σ.1 (nI k) u).2, γ')) else (0, ((mX3_mast σ.1 (nI k) u).2, γ'))) (T + 1) := fun e Y' γ' a r => by
    rw [if_pos a.1]
    refine ⟨rfl, ⟨n, q, ?_⟩, hok_mast hh⟩
    show RelQ (W_yard (mX3_mast σ.1 (nI k) u).2) γ' (T + 1) n q
    rw [a.2]
    exact rl_up r hT
  by_cases c5 : BB (L_b σ.2) k 5 < 0
  · rw [if_pos c5]
    rcases hu with rfl | rfl
    · -- up
      have hC : mX2_putMastUp (W_yard σ.1) (nI k) = (FY (W_yard σ.1) k 7, mX2_note (W_yard σ.1) (nI k) 7 (-5)) := by
        unfold mX2_putMastUp
        rw [if_neg (so_kn h hk h0), rd_ash h hk h0, if_pos c5, if_pos rfl, fa7 (by omega)]
      have hE := e_mast1 (ω := σ.1) (x2 := 1) (by decide) hC
      rcases pM with m | ⟨c7, hc7, m1, m2⟩
      · have hm : BB (L_b σ.2) k 7 = -1 := m.1
        rw [hm, if_neg (show ¬ (0 : Int32) ≤ -1 by decide), if_pos rfl]
        rw [show FY (W_yard σ.1) k 7 = -5 from m.2] at hE
        refine done (-5) _ σ.2 hE (mast_rel h hk h0 (Or.inl ⟨rfl, rfl⟩) (fun j u hu => ?_) rfl rfl rfl)
        by_cases z : j = k ∧ u = 7
        · rw [if_pos z, z.1, z.2]; exact hm
        · rw [if_neg z]
      · have hm : BB (L_b σ.2) k 7 = nI c7 := m1
        rw [hm, if_pos (nge' (by omega)), if_neg (show ¬ (1 : Int32) = 0 by decide), if_neg one0, if_neg one0]
        rw [show FY (W_yard σ.1) k 7 = nI c7 from m2] at hE
        exact done (nI c7) _ _ hE (mast_rel h hk h0 (Or.inl ⟨rfl, rfl⟩) (fun j u hu => BB_upd (by decide) hu (-1)) rfl rfl rfl)
    · -- off
      rcases pM with m | ⟨c7, hc7, m1, m2⟩
      · have hm : BB (L_b σ.2) k 7 = -1 := m.1
        have h7 : BB (L_b σ.2) k 7 < 0 := by rw [hm]; decide
        have hrk := rack_of h hk h0 h7
        obtain ⟨c, hc, ec⟩ : ∃ c : Nat, c < 2 ∧ (if 13 ≤ BB (L_b σ.2) k 1 then (1 : Int32) else 0) = nI c := by
          split
          · exact ⟨1, by decide, rfl⟩
          · exact ⟨0, by decide, rfl⟩
        have hC : mX2_takeMastOff (W_yard σ.1) (nI k) = (nI c, mX2_note (W_yard σ.1) (nI k) 7 (nI c)) := by
          unfold mX2_takeMastOff
          rw [if_neg (so_kn h hk h0), rd_ash h hk h0, if_pos c5, if_pos rfl, rd_mast h hk h0, if_pos h7, if_neg one0, hrk, ec, if_neg (nIm5 (by omega))]
        have hE := e_mast0 (ω := σ.1) (x2 := 0) rfl hC
        rw [hm, if_neg (show ¬ (0 : Int32) ≤ -1 by decide), if_neg (show ¬ (0 : Int32) = 1 by decide), if_pos rfl, if_pos rfl, ec]
        exact done (nI c) _ _ hE (mast_rel h hk h0 (Or.inr ⟨c, hc, rfl, rfl⟩) (fun j u hu => BB_upd (by decide) hu (nI c)) rfl rfl rfl)
      · have hm : BB (L_b σ.2) k 7 = nI c7 := m1
        have hC : mX2_takeMastOff (W_yard σ.1) (nI k) = (-5, W_yard σ.1) := by
          unfold mX2_takeMastOff
          rw [if_neg (so_kn h hk h0), rd_ash h hk h0, if_pos c5, if_pos rfl, rd_mast h hk h0, hm, if_neg (nge (by omega)), if_pos rfl]
        have hE := e_mast0 (ω := σ.1) (x2 := 0) rfl hC
        rw [hm, if_pos (nge' (by omega)), if_pos rfl]
        exact done (-5) _ σ.2 hE h
  · rw [if_neg c5]
    rcases hu with rfl | rfl
    · exact done (-4) _ σ.2 (e_mast1 (ω := σ.1) (x2 := 1) (Y := W_yard σ.1) (by decide) (by
        unfold mX2_putMastUp
        rw [if_neg (so_kn h hk h0), rd_ash h hk h0, if_neg c5, if_neg one0])) h
    · exact done (-4) _ σ.2 (e_mast0 (ω := σ.1) (x2 := 0) (Y := W_yard σ.1) rfl (by
        unfold mX2_takeMastOff
        rw [if_neg (so_kn h hk h0), rd_ash h hk h0, if_neg c5, if_neg one0])) h
theorem g_work (h : RelQ (W_yard σ.1) σ.2 T n q) (hh : HOK (W_hist σ.1)) (hT : T < 100) (hk : k < 6) (h0 : ¬ BB (L_b σ.2) k 0 = 0) (ek : mL_low y 6 = nI k) : Good (mL_boats_J751 σ x y) (T + 1) := by
  unfold mL_boats_J751
  obtain ⟨pE, pV, pM, pS⟩ := rq_p h hk h0
  have i8 : ((10 * nI k) + 8).toNatClampNeg = 10 * k + 8 := ixb (w := 8) hk (by decide)
  have hD : 1 ≤ (1 + mL_low (y >>> ((5 : Int32) &&& 31)) (if ((y >>> ((4 : Int32) &&& 31)) &&& 1) = 0 then 9 else 99)).toInt ∧ (1 + mL_low (y >>> ((5 : Int32) &&& 31)) (if ((y >>> ((4 : Int32) &&& 31)) &&& 1) = 0 then 9 else 99)).toInt ≤ 99 := by
    have s1 := c_low (x := y >>> ((5 : Int32) &&& 31)) (k := 9) (m := 9) (c := 1) (z := 1) rfl (by decide) (by decide) rfl (by decide)
    have s2 := c_low (x := y >>> ((5 : Int32) &&& 31)) (k := 99) (m := 99) (c := 1) (z := 1) rfl (by decide) (by decide) rfl (by decide)
    split
    · exact ⟨s1.1, by omega⟩
    · exact ⟨s2.1, by omega⟩
  rw [ek, i8, lo8 hk, lo8 hk]
  generalize 1 + mL_low (y >>> ((5 : Int32) &&& 31)) (if ((y >>> ((4 : Int32) &&& 31)) &&& 1) = 0 then 9 else 99) = D at *
  have f8 : FY (W_yard σ.1) k 8 = BB (L_b σ.2) k 8 := pE.2.2.2.2.1
  have z8 := pV.2.2.2
  have es : (BB (L_b σ.2) k 8 + D).toInt = (BB (L_b σ.2) k 8).toInt + D.toInt := ti_add (by omega) (by omega)
  have wi : ¬ mX3_within D 1 99 = 0 := wi_ne (lo := 1) (hi := 99) hD.1 hD.2
  by_cases c : BB (L_b σ.2) k 8 + D ≤ 99
  · have c2 := c
    rw [le_ti, es] at c2
    have e99 : (99 : Int32).toInt = 99 := rfl
    have hC : mX2_orderWork (W_yard σ.1) (nI k) D = (BB (L_b σ.2) k 8 + D, mX2_note (W_yard σ.1) (nI k) 8 (BB (L_b σ.2) k 8 + D)) := by
      unfold mX2_orderWork
      rw [if_neg (so_kn h hk h0), if_neg wi, fa8 (by omega), f8, if_pos c]
    obtain ⟨a1, w1⟩ := e_work hC
    have e8 : BB (L_b ((L_g σ.2, upd (L_b σ.2) (10 * k + 8) (L_b σ.2 (10 * k + 8) + D), L_t σ.2, L_r σ.2) : LAS)) k 8 = BB (L_b σ.2) k 8 + D := upd_same
    rw [if_pos c, if_pos (a1.trans e8.symm)]
    refine ⟨rfl, ⟨n, q, ?_⟩, hok_work hh⟩
    show RelQ (W_yard (mX3_work σ.1 (nI k) D).2) _ (T + 1) n q
    rw [w1]
    exact rl_up (work_rel h hk h0 (by rw [es]; omega) (fun j u hu => BB_upd (by decide) hu _) rfl rfl rfl) hT
  · have hC : mX2_orderWork (W_yard σ.1) (nI k) D = (-3, W_yard σ.1) := by
      unfold mX2_orderWork
      rw [if_neg (so_kn h hk h0), if_neg wi, fa8 (by omega), f8, if_neg c]
    obtain ⟨a1, w1⟩ := e_work hC
    obtain ⟨a2, w2⟩ := e_work (ω := (mX3_work σ.1 (nI k) D).2) (x1 := nI k) (x2 := 100) (e := -2) (Y := W_yard (mX3_work σ.1 (nI k) D).2) (by
      unfold mX2_orderWork
      rw [w1, if_neg (so_kn h hk h0), if_pos (by decide)])
    rw [if_neg c, if_pos a1, if_pos a2]
    refine ⟨rfl, ⟨n, q, ?_⟩, hok_work (hok_work hh)⟩
    show RelQ (W_yard (mX3_work (mX3_work σ.1 (nI k) D).2 (nI k) 100).2) σ.2 (T + 1) n q
    rw [w2, w1]
    exact rl_up h hT
/-- every step of a boat -/
theorem g_boats (h : RelQ (W_yard σ.1) σ.2 T n q) (hh : HOK (W_hist σ.1)) (hT : T < 100) (x y : Int32) : Good (mL_boats σ x y) (T + 1) := by
  obtain ⟨k, hk, ek⟩ := low_nI (x := y) (k := 6) (m := 6) rfl (by decide) (by decide)
  obtain ⟨i, hi, ei⟩ := low_nI (x := y >>> ((3 : Int32) &&& 31)) (k := 4) (m := 4) rfl (by decide) (by decide)
  by_cases h0 : BB (L_b σ.2) k 0 = 0
  · unfold mL_boats
    have kn := so_kn0 h hk h0
    obtain ⟨a1, w1⟩ := e_lift (ω := σ.1) (x1 := nI k) (x2 := nI i) (e := -1) (Y := W_yard σ.1) (by unfold mX2_liftInto; rw [if_pos kn])
    obtain ⟨a2, w2⟩ := e_launch (ω := (mX3_lift σ.1 (nI k) (nI i)).2) (x1 := nI k) (e := -1) (Y := W_yard σ.1) (by unfold mX2_putAfloat; rw [w1, if_pos kn])
    obtain ⟨a3, w3⟩ := e_mast1 (ω := (mX3_launch (mX3_lift σ.1 (nI k) (nI i)).2 (nI k)).2) (x1 := nI k) (x2 := 1) (e := -1) (Y := W_yard σ.1) (by decide) (by unfold mX2_putMastUp; rw [w2, if_pos kn])
    obtain ⟨a4, w4⟩ := e_work (ω := (mX3_mast (mX3_launch (mX3_lift σ.1 (nI k) (nI i)).2 (nI k)).2 (nI k) 1).2) (x1 := nI k) (x2 := 0) (e := -1) (Y := W_yard σ.1) (by unfold mX2_orderWork; rw [w3, if_pos kn])
    obtain ⟨a5, w5⟩ := e_move (ω := (mX3_work (mX3_mast (mX3_launch (mX3_lift σ.1 (nI k) (nI i)).2 (nI k)).2 (nI k) 1).2 (nI k) 0).2) (x1 := nI k) (x2 := nI i) (e := -1) (Y := W_yard σ.1) (by unfold mX2_moveTo; rw [w4, if_pos kn])
    rw [ek, ei, lo0 hk, if_pos h0, if_pos a1, if_pos a2, if_pos a3, if_pos a4, if_pos a5]
    refine ⟨rfl, ⟨n, q, ?_⟩, hok_move (hok_work (hok_mast (hok_launch (hok_lift hh))))⟩
    show RelQ (W_yard (mX3_move (mX3_work (mX3_mast (mX3_launch (mX3_lift σ.1 (nI k) (nI i)).2 (nI k)).2 (nI k) 1).2 (nI k) 0).2 (nI k) (nI i)).2) σ.2 (T + 1) n q
    rw [w5]
    exact rl_up h hT
  · have e0 : ¬ (mL_of σ.2 (mL_low y 6) 0) = 0 := by rw [ek, lo0 hk]; exact h0
    unfold mL_boats
    rw [if_neg e0]
    unfold mL_boats_J98
    split
    · unfold mL_boats_J246
      split
      · unfold mL_boats_J392
        split
        · exact g_move h hh hT hk h0 hi ek ei
        · unfold mL_boats_J583
          split
          · exact g_work h hh hT hk h0 ek
          · exact g_mast h hh hT hk h0 ek
      · exact g_launch h hh hT hk h0 ek
    · exact g_lift h hh hT hk h0 hi ek ei
/-- every step of the yard -/
theorem g_yard (h : RelQ (W_yard σ.1) σ.2 T n q) (hh : HOK (W_hist σ.1)) (hT : T < 100) (x y : Int32) : Good (mL_yard σ x y) (T + 1) := by
  unfold mL_yard
  split
  · by_cases c3 : mL_low x 9 = 3
    · exact g_go h hh hT x y c3
    · have e : mL_yard_J327 σ x y = mL_yard_J481 σ x y := by unfold mL_yard_J327; rw [if_neg c3]
      rw [e]
      by_cases c4 : mL_low x 9 = 4
      · exact g_cra h hh hT x y c4
      · have e : mL_yard_J481 σ x y = mL_yard_J607 σ x y := by unfold mL_yard_J481; rw [if_neg c4]
        rw [e]
        by_cases c5 : mL_low x 9 = 5
        · exact g_row h hh hT x y c5
        · have e : mL_yard_J607 σ x y = mL_yard_J743 σ x y := by unfold mL_yard_J607; rw [if_neg c5]
          rw [e]
          by_cases c6 : mL_low x 9 = 6
          · exact g_set h hh hT x y c6
          · have e : mL_yard_J743 σ x y = mL_yard_J873 σ x y := by unfold mL_yard_J743; rw [if_neg c6]
            rw [e]
            exact g_pass h hh hT x y
  · unfold mL_yard_J22
    exact g_come h hh hT x y 6 0 1 (by decide) (fun j hj => absurd hj (Nat.not_lt_zero j))
end GM
