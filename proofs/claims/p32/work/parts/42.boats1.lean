/-! a step of a boat: a lift, a launch, a move: the law's text -/
theorem crn {g : Nat → Int32} : (upd (upd g (1 : Int32).toNatClampNeg ((g (1 : Int32).toNatClampNeg) + 1)) (5 : Int32).toNatClampNeg (((upd g (1 : Int32).toNatClampNeg ((g (1 : Int32).toNatClampNeg) + 1)) (5 : Int32).toNatClampNeg) + 1)) = upd (upd g 1 (g 1 + 1)) 5 (g 5 + 1) := by
  show upd (upd g 1 (g 1 + 1)) 5 (upd g 1 (g 1 + 1) 5 + 1) = _
  rw [upd_ne (f := g) (i := 1) (j := 5) (by decide)]
theorem crn1 {g : Nat → Int32} : upd (upd g 1 (g 1 + 1)) 5 (g 5 + 1) 1 = g 1 + 1 := by rw [upd_ne (by decide), upd_same]
theorem crn5 {g : Nat → Int32} : upd (upd g 1 (g 1 + 1)) 5 (g 5 + 1) 5 = g 5 + 1 := upd_same
theorem crnz {g : Nat → Int32} {i : Nat} (h1 : i ≠ 1) (h5 : i ≠ 5) : upd (upd g 1 (g 1 + 1)) 5 (g 5 + 1) i = g i := by rw [upd_ne h5, upd_ne h1]
theorem crl1 {g : Nat → Int32} : upd (upd (upd g 1 (g 1 + 1)) 5 (g 5 + 1)) 6 (g 6 + 1) 1 = g 1 + 1 := by rw [upd_ne (by decide), crn1]
theorem crl5 {g : Nat → Int32} : upd (upd (upd g 1 (g 1 + 1)) 5 (g 5 + 1)) 6 (g 6 + 1) 5 = g 5 + 1 := by rw [upd_ne (by decide), crn5]
theorem crl6 {g : Nat → Int32} : upd (upd (upd g 1 (g 1 + 1)) 5 (g 5 + 1)) 6 (g 6 + 1) 6 = g 6 + 1 := upd_same
theorem crlz {g : Nat → Int32} {i : Nat} (h1 : i ≠ 1) (h5 : i ≠ 5) (h6 : i ≠ 6) : upd (upd (upd g 1 (g 1 + 1)) 5 (g 5 + 1)) 6 (g 6 + 1) i = g i := by rw [upd_ne h6, crnz h1 h5]
section GL
variable {σ : VS} {T : Nat} {n : Nat → Nat} {q : Nat → Nat → Nat} {k i : Nat} {x y : Int32}
theorem lift_no (h : RelQ (W_yard σ.1) σ.2 T n q) (hk : k < 6) (h0 : ¬ BB (L_b σ.2) k 0 = 0) (hi : i < 4) (c : ¬ mL_liftReason σ.2 (nI k) (nI i) ≤ 0) : mX2_liftInto (W_yard σ.1) (nI k) (nI i) = (-10 - mL_liftReason σ.2 (nI k) (nI i), W_yard σ.1) := by
  unfold mX2_liftInto
  rw [if_neg (so_kn h hk h0), if_neg (isrow hi), rd_why h hk h0 hi, if_neg (fun z => c (by rw [z]; decide))]
theorem kl2_of (h : RelQ (W_yard σ.1) σ.2 T n q) (hk : k < 6) (h0 : ¬ BB (L_b σ.2) k 0 = 0) (hi : i < 4) : ¬ mL_liftReason σ.2 (nI k) (nI i) ≤ 0 → KeelOK (W_yard (mX3_lift σ.1 (nI k) (nI i)).2) := fun c => by
  rw [(e_lift (lift_no h hk h0 hi c)).2]
  exact keel_ok h
theorem g_lift (h : RelQ (W_yard σ.1) σ.2 T n q) (hh : HOK (W_hist σ.1)) (hT : T < 100) (hk : k < 6) (h0 : ¬ BB (L_b σ.2) k 0 = 0) (hi : i < 4) (ek : mL_low y 6 = nI k) (ei : mL_low (y >>> ((3 : Int32) &&& 31)) 4 = nI i) : Good (mL_boats_J104 σ x y) (T + 1) := by
  unfold mL_boats_J104
  rw [ek, ei]
  by_cases c : mL_liftReason σ.2 (nI k) (nI i) ≤ 0
  · obtain ⟨w0, cr0⟩ := lr_zero c
    have h5 : BB (L_b σ.2) k 5 < 0 := by
      have := lr_af c
      rw [lo5 hk] at this
      exact this
    obtain ⟨cr, hcr, e1, e2⟩ : ∃ cr, cr < 3 ∧ mL_cradle σ.2 (nI k) = nI cr ∧ mX2_cradleFor (W_yard σ.1) (nI k) = nI cr := by
      rcases rd_cradle h hk h0 with ⟨a, _⟩ | r
      · rw [a] at cr0
        exact absurd cr0 (by decide)
      · exact r
    have i6 : ((10 * nI k) + 6).toNatClampNeg = 10 * k + 6 := ixb (w := 6) hk (by decide)
    have i9 : ((10 * nI k) + 9).toNatClampNeg = 10 * k + 9 := ixb (w := 9) hk (by decide)
    have hn5 : n i ≤ 5 := rd_n5 h.2.1 h.2.2.1 hi hk (fun e => by
      rw [show BB (L_b σ.2) k 5 = nI i from e] at h5
      exact nge (by omega) h5)
    rw [if_pos c, e1, i6, i9, ixs (by omega)]
    have hC : mX2_liftInto (W_yard σ.1) (nI k) (nI i) = (mX2_boatsIn (lfY (W_yard σ.1) (nI k) (nI i) (nI cr)) (nI i), lfY (W_yard σ.1) (nI k) (nI i) (nI cr)) := by
      unfold mX2_liftInto
      rw [if_neg (so_kn h hk h0), if_neg (isrow hi), rd_why h hk h0 hi, if_pos w0, e2]
      rfl
    generalize hγ : ((L_g σ.2, upd (upd (L_b σ.2) (10 * k + 6) (nI cr)) (10 * k + 9) 0, upd (L_t σ.2) k (L_t σ.2 k + 1), L_r σ.2) : LAS) = γ0
    have r0 : RR (L_r γ0) i 0 = nI (n i) := by rw [← hγ]; exact (h.2.1 i hi).2.1
    have eg : L_g (mL_stand γ0 (nI k) (nI i)) = L_g σ.2 := by rw [← hγ]; rfl
    have et : L_t (mL_stand γ0 (nI k) (nI i)) = upd (L_t σ.2) k (L_t σ.2 k + 1) := by rw [← hγ]; rfl
    have eb : L_b (mL_stand γ0 (nI k) (nI i)) = upd (upd (upd (L_b σ.2) (10 * k + 6) (nI cr)) (10 * k + 9) 0) (10 * k + 5) (nI i) := by rw [st_b hk, ← hγ]
    have er : ∀ a, a < 4 → ∀ c, c < 7 → RR (L_r (mL_stand γ0 (nI k) (nI i))) a c = if a = i ∧ c = n i + 1 then nI k else if a = i ∧ c = 0 then nI (n i + 1) else RR (L_r σ.2) a c := fun a _ c hc => by rw [st_r hi hn5 r0 hc, ← hγ]
    generalize mL_stand γ0 (nI k) (nI i) = γs at *
    have hR := lift_rel (γ' := (upd (upd (L_g σ.2) 1 (L_g σ.2 1 + 1)) 5 (L_g σ.2 5 + 1), L_b γs, L_t γs, L_r γs)) h hT hk h0 h5 hi hcr (fun j u hu => by
        show BB (L_b γs) j u = _
        rw [eb, BB_upd (by decide) hu, BB_upd (by decide) hu, BB_upd (by decide) hu]) (fun j => by
        show L_t γs j = _
        rw [et]; rfl) er crn1 crn5 (fun i h1 h5 => crnz h1 h5)
    obtain ⟨a1, w1⟩ := e_lift hC
    have hans : mX2_boatsIn (lfY (W_yard σ.1) (nI k) (nI i) (nI cr)) (nI i) = (L_r γs) (7 * nI i).toNatClampNeg := by
      rw [rd_in hR.2.1 hR.2.2.1 hi, ixr0 hi]
      exact (hR.2.1 i hi).2.1.symm
    have key : mL_boats_S207 (σ.1, γs) x y = (1, ((mX3_lift σ.1 (nI k) (nI i)).2, (upd (upd (L_g σ.2) 1 (L_g σ.2 1 + 1)) 5 (L_g σ.2 5 + 1), L_b γs, L_t γs, L_r γs))) := by
      unfold mL_boats_S207
      rw [ek, ei, crn]
      rw [show L_g ((σ.1, γs) : VS).2 = L_g σ.2 from eg]
      exact if_pos (a1.trans hans)
    rw [key]
    refine ⟨rfl, ⟨nUp n i, qUp q n i k, ?_⟩, hok_lift hh⟩
    show RelQ (W_yard (mX3_lift σ.1 (nI k) (nI i)).2) _ (T + 1) (nUp n i) (qUp q n i k)
    rw [w1]
    exact hR
  · obtain ⟨a1, w1⟩ := e_lift (lift_no h hk h0 hi c)
    obtain ⟨a2, w2⟩ := e_lift (ω := (mX3_lift σ.1 (nI k) (nI i)).2) (x1 := nI k) (x2 := 4) (e := -1) (Y := W_yard (mX3_lift σ.1 (nI k) (nI i)).2) (by
      unfold mX2_liftInto
      rw [w1, if_neg (so_kn h hk h0), if_pos (by decide)])
    rw [if_neg c, if_pos a1, if_pos a2]
    refine ⟨rfl, ⟨n, q, ?_⟩, hok_lift (hok_lift hh)⟩
    show RelQ (W_yard (mX3_lift (mX3_lift σ.1 (nI k) (nI i)).2 (nI k) 4).2) σ.2 (T + 1) n q
    rw [w2, w1]
    exact rl_up h hT
theorem g_launch (h : RelQ (W_yard σ.1) σ.2 T n q) (hh : HOK (W_hist σ.1)) (hT : T < 100) (hk : k < 6) (h0 : ¬ BB (L_b σ.2) k 0 = 0) (ek : mL_low y 6 = nI k) : Good (mL_boats_J252 σ x y) (T + 1) := by
  unfold mL_boats_J252
  rw [ek]
  by_cases c : mL_launchReason σ.2 (nI k) ≤ 0
  · obtain ⟨w0, cl⟩ := la_zero c
    have h5 : 0 ≤ BB (L_b σ.2) k 5 := by
      have := lr_as c
      rw [lo5 hk] at this
      exact this
    obtain ⟨pE, pV, pM, pS⟩ := rq_p h hk h0
    obtain ⟨i, j, hi, hj, e, e1, e2, e3, hn⟩ := rd_at h hk h0 h5
    have ep : mL_place σ.2 (nI k) = nI j := by rw [← e]; exact rd_place h.2.1 h.2.2.1 hi hj
    have b5 : mL_of σ.2 (nI k) 5 = nI i := (lo5 hk).trans e1
    have er : L_r σ.2 (7 * nI i).toNatClampNeg = nI (n i) := by rw [ixr0 hi]; exact (h.2.1 i hi).2.1
    obtain ⟨m, hm⟩ : ∃ m, n i = m + 1 := ⟨n i - 1, by omega⟩
    rw [b5, er, ep, hm, nI_pred, nI_leI (by omega) (by omega)] at cl
    have i5 : ((10 * nI k) + 5).toNatClampNeg = 10 * k + 5 := ixb (w := 5) hk (by decide)
    have i6 : ((10 * nI k) + 6).toNatClampNeg = 10 * k + 6 := ixb (w := 6) hk (by decide)
    have i9 : ((10 * nI k) + 9).toNatClampNeg = 10 * k + 9 := ixb (w := 9) hk (by decide)
    rw [if_pos c, i5, i6, i9, b5, er, ixr0 hi, crn, lo9 hk]
    have hC : mX2_putAfloat (W_yard σ.1) (nI k) = (BB (L_b σ.2) k 9, laY (W_yard σ.1) (nI k)) := by
      unfold mX2_putAfloat
      rw [if_neg (so_kn h hk h0), rd_whyL h hk h0, if_pos w0, fa9 (by omega)]
      have f9 : FY (W_yard σ.1) k 9 = BB (L_b σ.2) k 9 := by
        rcases pS with s | ⟨_, _, s3⟩
        · rw [show BB (L_b σ.2) k 5 = -1 from s.1] at h5
          exact absurd h5 (by decide)
        · exact s3
      rw [f9]
      rfl
    obtain ⟨a1, w1⟩ := e_launch hC
    rw [if_pos a1]
    have hR := launch_rel (γ' := (upd (upd (upd (L_g σ.2) 1 (L_g σ.2 1 + 1)) 5 (L_g σ.2 5 + 1)) 6 (L_g σ.2 6 + 1), upd (upd (upd (L_b σ.2) (10 * k + 5) (-1)) (10 * k + 6) (-1)) (10 * k + 9) 0, L_t σ.2, upd (L_r σ.2) (7 * i + 0) (nI (n i) - 1))) h hT hk h0 hi hj e (by omega) (fun j u hu => by
        show BB (upd (upd (upd (L_b σ.2) (10 * k + 5) (-1)) (10 * k + 6) (-1)) (10 * k + 9) 0) j u = _
        rw [BB_upd (by decide) hu, BB_upd (by decide) hu, BB_upd (by decide) hu]) rfl (fun a _ c hc => by
        show RR (upd (L_r σ.2) (7 * i + 0) (nI (n i) - 1)) a c = _
        rw [RR_upd (by decide) hc, hm, nI_pred]
        rfl) crl1 crl5 crl6 (fun i h1 h5 h6 => crlz h1 h5 h6)
    have e6 : upd (upd (L_g σ.2) 1 (L_g σ.2 1 + 1)) 5 (L_g σ.2 5 + 1) (6 : Int32).toNatClampNeg = L_g σ.2 6 := crnz (by decide) (by decide)
    rw [e6]
    refine ⟨rfl, ⟨nDn n i, q, ?_⟩, hok_launch hh⟩
    show RelQ (W_yard (mX3_launch σ.1 (nI k)).2) _ (T + 1) (nDn n i) q
    rw [w1]
    exact hR
  · have hC : mX2_putAfloat (W_yard σ.1) (nI k) = (-10 - mL_launchReason σ.2 (nI k), W_yard σ.1) := by
      unfold mX2_putAfloat
      rw [if_neg (so_kn h hk h0), rd_whyL h hk h0, if_neg (fun z => c (by rw [z]; decide))]
    obtain ⟨a1, w1⟩ := e_launch hC
    rw [if_neg c, if_pos a1]
    refine ⟨rfl, ⟨n, q, ?_⟩, hok_launch hh⟩
    show RelQ (W_yard (mX3_launch σ.1 (nI k)).2) σ.2 (T + 1) n q
    rw [w1]
    exact rl_up h hT
theorem g_move_no (h : RelQ (W_yard σ.1) σ.2 T n q) (hh : HOK (W_hist σ.1)) (hT : T < 100) (hk : k < 6) (h0 : ¬ BB (L_b σ.2) k 0 = 0) (ek : mL_low y 6 = nI k) (ei : mL_low (y >>> ((3 : Int32) &&& 31)) 4 = nI i) (hC : mX2_moveTo (W_yard σ.1) (nI k) (nI i) = (-4, W_yard σ.1)) : Good (mL_boats_J442 σ x y) (T + 1) := by
  unfold mL_boats_J442
  rw [ek, ei]
  obtain ⟨a1, w1⟩ := e_move hC
  obtain ⟨a2, w2⟩ := e_move (ω := (mX3_move σ.1 (nI k) (nI i)).2) (x1 := nI k) (x2 := -1) (e := -1) (Y := W_yard (mX3_move σ.1 (nI k) (nI i)).2) (by
    unfold mX2_moveTo
    rw [w1, if_neg (so_kn h hk h0), if_pos (by decide)])
  rw [if_pos a1, if_pos a2]
  refine ⟨rfl, ⟨n, q, ?_⟩, hok_move (hok_move hh)⟩
  show RelQ (W_yard (mX3_move (mX3_move σ.1 (nI k) (nI i)).2 (nI k) (-1)).2) σ.2 (T + 1) n q
  rw [w2, w1]
  exact rl_up h hT
theorem g_move_full (h : RelQ (W_yard σ.1) σ.2 T n q) (hh : HOK (W_hist σ.1)) (hT : T < 100) (ek : mL_low y 6 = nI k) (ei : mL_low (y >>> ((3 : Int32) &&& 31)) 4 = nI i) (hC : mX2_moveTo (W_yard σ.1) (nI k) (nI i) = (-3, W_yard σ.1)) : Good (mL_boats_J502 σ x y) (T + 1) := by
  unfold mL_boats_J502
  rw [ek, ei]
  obtain ⟨a1, w1⟩ := e_move hC
  rw [if_pos a1]
  refine ⟨rfl, ⟨n, q, ?_⟩, hok_move hh⟩
  show RelQ (W_yard (mX3_move σ.1 (nI k) (nI i)).2) σ.2 (T + 1) n q
  rw [w1]
  exact rl_up h hT
theorem g_move (h : RelQ (W_yard σ.1) σ.2 T n q) (hh : HOK (W_hist σ.1)) (hT : T < 100) (hk : k < 6) (h0 : ¬ BB (L_b σ.2) k 0 = 0) (hi : i < 4) (ek : mL_low y 6 = nI k) (ei : mL_low (y >>> ((3 : Int32) &&& 31)) 4 = nI i) : Good (mL_boats_J398 σ x y) (T + 1) := by
  have hC0 : mX2_moveTo (W_yard σ.1) (nI k) (nI i) = (if mX2_isAshore (W_yard σ.1) (nI k) = 0 then (-4, W_yard σ.1) else (if 0 < mX2_boatsFartherOut (W_yard σ.1) (nI k) then (-4, W_yard σ.1) else (if mX2_standsIn (W_yard σ.1) (nI k) (nI i) = 0 then (if mX2_hasRoom (W_yard σ.1) (nI i) (nI k) = 0 then (-3, W_yard σ.1) else (if mX2_liftsLeft (W_yard σ.1) = 0 then (-3, W_yard σ.1) else (mX2_boatsIn (moY (W_yard σ.1) (nI k) (nI i)) (nI i), moY (W_yard σ.1) (nI k) (nI i)))) else (-4, W_yard σ.1)))) := by
    unfold mX2_moveTo
    rw [if_neg (so_kn h hk h0), if_neg (isrow hi)]
    rfl
  rw [rd_ash h hk h0] at hC0
  unfold mL_boats_J398
  rw [ek, ei, lo5 hk]
  by_cases c5 : BB (L_b σ.2) k 5 < 0
  · rw [if_pos c5]
    refine g_move_no h hh hT hk h0 ek ei ?_
    rw [hC0, if_pos c5, if_pos rfl]
  · have h5 : 0 ≤ BB (L_b σ.2) k 5 := nlt_le.mp c5
    obtain ⟨i1, j, hi1, hj, e, e1, e2, e3, hn⟩ := rd_at h hk h0 h5
    have ep : mL_place σ.2 (nI k) = nI j := by rw [← e]; exact rd_place h.2.1 h.2.2.1 hi1 hj
    have er : L_r σ.2 (7 * nI i1).toNatClampNeg = nI (n i1) := by rw [ixr0 hi1]; exact (h.2.1 i1 hi1).2.1
    have hs : mX2_standsIn (W_yard σ.1) (nI k) (nI i) = if nI i1 = nI i then 1 else 0 := by
      unfold mX2_standsIn
      rw [fa4 (by omega), e2]
    rw [if_neg c5, if_neg one0, rd_far h hk hi1 e2 e3, hs] at hC0
    have hfar : (0 < (nI (n i1) - 1) - nI j) ↔ ¬ nI (n i1) - 1 ≤ nI j := by rw [← far_iff hn hj]; exact nle_lt.symm
    rw [if_neg c5, e1]
    by_cases cs : nI i1 = nI i
    · rw [if_pos cs]
      refine g_move_no h hh hT hk h0 ek ei ?_
      rw [hC0, if_pos cs]
      by_cases cf : 0 < (nI (n i1) - 1) - nI j
      · rw [if_pos cf]
      · rw [if_neg cf, if_neg one0]
    · rw [if_neg cs, er, ep]
      rw [if_neg cs, if_pos rfl] at hC0
      by_cases cl : nI (n i1) - 1 ≤ nI j
      · rw [if_neg (fun z => hfar.mp z cl), rd_fits h hk h0 hi, rd_left h.2.2.2 h.1] at hC0
        rw [if_pos cl, lo1 hk]
        by_cases cr : mL_room σ.2 (nI i) < BB (L_b σ.2) k 1 + 1
        · rw [if_pos cr]
          refine g_move_full h hh hT ek ei ?_
          rw [hC0, if_pos cr, if_pos rfl]
        · rw [if_neg cr]
          rw [if_neg cr, if_neg one0] at hC0
          by_cases cz : mL_left σ.2 = 0
          · rw [if_pos cz]
            refine g_move_full h hh hT ek ei ?_
            rw [hC0, if_pos cz]
          · rw [if_neg cz]
            rw [if_neg cz] at hC0
            unfold mL_boats_J521
            rw [ek, ei, lo5 hk, e1, er, ixr0 hi1]
            obtain ⟨m, hm⟩ : ∃ m, n i1 = m + 1 := ⟨n i1 - 1, by omega⟩
            have hl : n i1 ≤ j + 1 := by
              rw [hm, nI_pred, nI_leI (by omega) (by omega)] at cl
              omega
            have hne : i ≠ i1 := fun z => cs (by rw [z])
            have hn5 : n i ≤ 5 := rd_n5 h.2.1 h.2.2.1 hi hk (fun e => cs (e1.symm.trans e))
            have em : nI (n i1) - 1 = nI (n i1 - 1) := by rw [hm, nI_pred]; rfl
            rw [em]
            generalize hγ : ((L_g σ.2, L_b σ.2, L_t σ.2, upd (L_r σ.2) (7 * i1 + 0) (nI (n i1 - 1))) : LAS) = γ0
            have rr : ∀ a c, c < 7 → RR (L_r γ0) a c = if a = i1 ∧ c = 0 then nI (n i1 - 1) else RR (L_r σ.2) a c := fun a c hc => by
              rw [← hγ]
              exact RR_upd (by decide) hc _
            have r0 : RR (L_r γ0) i 0 = nI (n i) := by
              rw [rr i 0 (by decide), if_neg (fun z => hne z.1)]
              exact (h.2.1 i hi).2.1
            have eg : L_g (mL_stand γ0 (nI k) (nI i)) = L_g σ.2 := by rw [← hγ]; rfl
            have et : L_t (mL_stand γ0 (nI k) (nI i)) = L_t σ.2 := by rw [← hγ]; rfl
            have eb : L_b (mL_stand γ0 (nI k) (nI i)) = upd (L_b σ.2) (10 * k + 5) (nI i) := by rw [st_b hk, ← hγ]
            have ers : ∀ a, a < 4 → ∀ c, c < 7 → RR (L_r (mL_stand γ0 (nI k) (nI i))) a c = if a = i ∧ c = n i + 1 then nI k else if a = i ∧ c = 0 then nI (n i + 1) else if a = i1 ∧ c = 0 then nI (n i1 - 1) else RR (L_r σ.2) a c := fun a _ c hc => by rw [st_r hi hn5 r0 hc, rr a c hc]
            generalize mL_stand γ0 (nI k) (nI i) = γs at *
            have hR := move_rel (γ' := (upd (upd (L_g σ.2) 1 (L_g σ.2 1 + 1)) 5 (L_g σ.2 5 + 1), L_b γs, L_t γs, L_r γs)) h hT hk h0 hi1 hj e hl e1 hi hne (fun j u hu => by
                show BB (L_b γs) j u = _
                rw [eb, BB_upd (by decide) hu]) et ers crn1 crn5 (fun i h1 h5 => crnz h1 h5)
            obtain ⟨a1, w1⟩ := e_move hC0
            have hans : mX2_boatsIn (moY (W_yard σ.1) (nI k) (nI i)) (nI i) = (L_r γs) (7 * nI i).toNatClampNeg := by
              rw [rd_in hR.2.1 hR.2.2.1 hi, ixr0 hi]
              exact (hR.2.1 i hi).2.1.symm
            have key : mL_boats_S544 (σ.1, γs) x y = (1, ((mX3_move σ.1 (nI k) (nI i)).2, (upd (upd (L_g σ.2) 1 (L_g σ.2 1 + 1)) 5 (L_g σ.2 5 + 1), L_b γs, L_t γs, L_r γs))) := by
              unfold mL_boats_S544
              rw [ek, ei, crn]
              rw [show L_g ((σ.1, γs) : VS).2 = L_g σ.2 from eg]
              exact if_pos (a1.trans hans)
            rw [key]
            refine ⟨rfl, ⟨nUp (nDn n i1) i, qUp q (nDn n i1) i k, ?_⟩, hok_move hh⟩
            show RelQ (W_yard (mX3_move σ.1 (nI k) (nI i)).2) _ (T + 1) (nUp (nDn n i1) i) (qUp q (nDn n i1) i k)
            rw [w1]
            exact hR
      · rw [if_neg cl]
        refine g_move_no h hh hT hk h0 ek ei ?_
        rw [hC0, if_pos (hfar.mpr cl)]
end GL
