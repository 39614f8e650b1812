/-! a step of the yard: a boat that comes, days that pass -/
def coB (b : Nat → Int32) (x v1 v2 v3 v4 : Int32) : Nat → Int32 := upd (upd (upd (upd (upd (upd (upd (upd (upd (upd b (10 * x).toNatClampNeg 1) ((10 * x) + 1).toNatClampNeg v1) ((10 * x) + 2).toNatClampNeg v2) ((10 * x) + 3).toNatClampNeg v3) ((10 * x) + 4).toNatClampNeg v4) ((10 * x) + 5).toNatClampNeg (-1)) ((10 * x) + 6).toNatClampNeg (-1)) ((10 * x) + 7).toNatClampNeg (-1)) ((10 * x) + 8).toNatClampNeg 0) ((10 * x) + 9).toNatClampNeg 0
theorem coB_f {b : Nat → Int32} {k : Nat} (hk : k < 6) {v1 v2 v3 v4 : Int32} {j u : Nat} (hu : u < 10) : BB (coB b (nI k) v1 v2 v3 v4) j u = if j = k then (if u = 9 then 0 else if u = 8 then 0 else if u = 7 then -1 else if u = 6 then -1 else if u = 5 then -1 else if u = 4 then v4 else if u = 3 then v3 else if u = 2 then v2 else if u = 1 then v1 else if u = 0 then 1 else BB b j u) else BB b j u := by
  unfold coB
  rw [ixb0 hk, show ((10 * nI k) + 1).toNatClampNeg = 10 * k + 1 from ixb (w := 1) hk (by decide), show ((10 * nI k) + 2).toNatClampNeg = 10 * k + 2 from ixb (w := 2) hk (by decide), show ((10 * nI k) + 3).toNatClampNeg = 10 * k + 3 from ixb (w := 3) hk (by decide), show ((10 * nI k) + 4).toNatClampNeg = 10 * k + 4 from ixb (w := 4) hk (by decide), show ((10 * nI k) + 5).toNatClampNeg = 10 * k + 5 from ixb (w := 5) hk (by decide), show ((10 * nI k) + 6).toNatClampNeg = 10 * k + 6 from ixb (w := 6) hk (by decide), show ((10 * nI k) + 7).toNatClampNeg = 10 * k + 7 from ixb (w := 7) hk (by decide), show ((10 * nI k) + 8).toNatClampNeg = 10 * k + 8 from ixb (w := 8) hk (by decide), show ((10 * nI k) + 9).toNatClampNeg = 10 * k + 9 from ixb (w := 9) hk (by decide)]
  rw [BB_upd (by decide) hu, BB_upd (by decide) hu, BB_upd (by decide) hu, BB_upd (by decide) hu, BB_upd (by decide) hu, BB_upd (by decide) hu, BB_upd (by decide) hu, BB_upd (by decide) hu, BB_upd (by decide) hu, BB_upd (by decide) hu]
  by_cases c : j = k
  · subst c; simp only [true_and, if_true, reduceIte]
  · simp only [c, false_and, if_false, reduceIte]
section YD
variable {σ : VS} {T : Nat} {n : Nat → Nat} {q : Nat → Nat → Nat}
theorem lf_at {Y : YS} {γ : LAS} (h : RelQ Y γ T n q) {k : Nat} (hk : k < 6) (h0 : BB (L_b γ) k 0 = 0) (hl : ∀ j, j < k → ¬ BB (L_b γ) j 0 = 0) : mX2_lowestFreeNumber Y = nI k := by
  have key : ∀ d u f, u + d = k → mX2_lowestFreeNumber_L2 Y (d + 1 + f) (nI u) = nI k := by
    intro d
    induction d with
    | zero =>
      intro u f hu
      rw [show 0 + 1 + f = f + 1 by omega, show u = k by omega, mX2_lowestFreeNumber_L2, if_neg (i20 (by omega)), rd_kn h hk, if_pos h0, if_pos rfl]
    | succ d ih =>
      intro u f hu
      rw [show d + 1 + 1 + f = (d + 1 + f) + 1 by omega, mX2_lowestFreeNumber_L2, if_neg (i20 (by omega)), rd_kn h (by omega), if_neg (hl u (by omega)), if_neg one0, nI1]
      exact ih (u + 1) f (by omega)
  have := key k 0 (21 - k) (by omega)
  rw [show k + 1 + (21 - k) = 22 by omega] at this
  exact this
theorem come_rel {Y : YS} {γ : LAS} (h : RelQ Y γ T n q) {k : Nat} (hk : k < 6) (h0 : BB (L_b γ) k 0 = 0) (hl : ∀ j, j < k → ¬ BB (L_b γ) j 0 = 0) {x1 x2 x3 : Int32} {c : Nat} (hc : c < 3) (g1 : 3 ≤ x1.toInt ∧ x1.toInt ≤ 20) (g2 : 5 ≤ x2.toInt ∧ x2.toInt ≤ 40) (g3 : 1 ≤ x3.toInt ∧ x3.toInt ≤ 30) :
    mX2_addBoat Y x1 x2 x3 (nI c) = (nI k, coY Y (nI k) x1 x2 x3 (nI c)) ∧ RelQ (coY Y (nI k) x1 x2 x3 (nI c)) (L_g γ, coB (L_b γ) (nI k) x1 x2 x3 (nI c), upd (L_t γ) k 0, L_r γ) T n q := by
  refine ⟨?_, ?_⟩
  · unfold mX2_addBoat
    rw [if_neg (iskind hc), if_neg (wi_ne (lo := 3) (hi := 20) g1.1 g1.2), if_neg (wi_ne (lo := 5) (hi := 40) g2.1 g2.2), if_neg (wi_ne (lo := 1) (hi := 30) g3.1 g3.2), lf_at h hk h0 hl, if_neg (nIm5 (by omega))]
    rfl
  · have hF : ∀ j u, u < 11 → FY (coY Y (nI k) x1 x2 x3 (nI c)) j u = _ := fun j u hu => coY_f (by omega) hu
    have hB : ∀ j u, u < 10 → BB (coB (L_b γ) (nI k) x1 x2 x3 (nI c)) j u = _ := fun j u hu => coB_f hk hu
    refine ⟨h.1.y coY_o rfl, h.2.1, ?_, h.2.2.2⟩
    refine h.2.2.1.mk1 (k := k) (fun j _ hj w hw => by rw [hF j w hw, if_neg hj]) (fun j _ hj w hw => by rw [hB j w hw, if_neg hj]) (fun j _ hj => upd_ne hj) hk ?_ ?_
    · have e : ∀ u, u < 10 → BB (coB (L_b γ) (nI k) x1 x2 x3 (nI c)) k u = _ := fun u hu => (hB k u hu).trans (if_pos rfl)
      have f : ∀ u, u < 11 → FY (coY Y (nI k) x1 x2 x3 (nI c)) k u = _ := fun u hu => (hF k u hu).trans (if_pos rfl)
      refine ⟨⟨c, hc, e 4 (by decide)⟩, Or.inr ⟨e 0 (by decide), ⟨(f 0 (by decide)).trans (e 1 (by decide)).symm, (f 1 (by decide)).trans (e 2 (by decide)).symm, (f 2 (by decide)).trans (e 3 (by decide)).symm, (f 3 (by decide)).trans (e 4 (by decide)).symm, (f 8 (by decide)).trans (e 8 (by decide)).symm, (f 10 (by decide)).trans upd_same.symm⟩, ?_, Or.inl ⟨e 7 (by decide), f 7 (by decide)⟩, Or.inl ⟨e 5 (by decide), f 4 (by decide), f 5 (by decide), f 6 (by decide), f 9 (by decide)⟩⟩⟩
      have e1 : BB (coB (L_b γ) (nI k) x1 x2 x3 (nI c)) k 1 = x1 := e 1 (by decide)
      have e2 : BB (coB (L_b γ) (nI k) x1 x2 x3 (nI c)) k 2 = x2 := e 2 (by decide)
      have e3 : BB (coB (L_b γ) (nI k) x1 x2 x3 (nI c)) k 3 = x3 := e 3 (by decide)
      have e8 : BB (coB (L_b γ) (nI k) x1 x2 x3 (nI c)) k 8 = 0 := e 8 (by decide)
      unfold QV
      show (3 ≤ (BB (coB (L_b γ) (nI k) x1 x2 x3 (nI c)) k 1).toInt ∧ _) ∧ (5 ≤ (BB (coB (L_b γ) (nI k) x1 x2 x3 (nI c)) k 2).toInt ∧ _) ∧ (1 ≤ (BB (coB (L_b γ) (nI k) x1 x2 x3 (nI c)) k 3).toInt ∧ _) ∧ (0 ≤ (BB (coB (L_b γ) (nI k) x1 x2 x3 (nI c)) k 8).toInt ∧ _)
      rw [e1, e2, e3, e8]
      exact ⟨g1, g2, g3, by decide⟩
    · refine h.2.2.1.w.out (k := k) (fun j _ hj => by rw [hB j 0 (by decide), if_neg hj]) (fun j _ hj => by rw [hB j 5 (by decide), if_neg hj]) (fun j _ hj => by rw [hF j 5 (by decide), if_neg hj]) ?_ ?_
      · rintro ⟨e, _⟩
        rw [show BB (L_b γ) k 0 = 0 from h0] at e
        exact absurd e (by decide)
      · rintro ⟨_, i, hi, e⟩
        rw [hB k 5 (by decide)] at e
        exact nIm1 (n := i) (by omega) (e.symm.trans (if_pos rfl))
theorem come_wr (h : RelQ (W_yard σ.1) σ.2 T n q) (hh : HOK (W_hist σ.1)) (hT : T < 100) {k : Nat} (hk : k < 6) (h0 : BB (L_b σ.2) k 0 = 0) (hl : ∀ j, j < k → ¬ BB (L_b σ.2) j 0 = 0) {x1 x2 x3 x4 : Int32} {c : Nat} (hc : c < 3) (hx4 : x4 = nI c) (g1 : 3 ≤ x1.toInt ∧ x1.toInt ≤ 20) (g2 : 5 ≤ x2.toInt ∧ x2.toInt ≤ 40) (g3 : 1 ≤ x3.toInt ∧ x3.toInt ≤ 30) {γ' : LAS} (hγ : γ' = (L_g σ.2, coB (L_b σ.2) (nI k) x1 x2 x3 x4, upd (L_t σ.2) (nI k).toNatClampNeg 0, L_r σ.2)) :
    Good (if (mX3_come σ.1 (mL_of γ' (nI k) 1) (mL_of γ' (nI k) 2) (mL_of γ' (nI k) 3) (mL_of γ' (nI k) 4)).1 = nI k then (1, ((mX3_come σ.1 (mL_of γ' (nI k) 1) (mL_of γ' (nI k) 2) (mL_of γ' (nI k) 3) (mL_of γ' (nI k) 4)).2, γ')) else (0, ((mX3_come σ.1 (mL_of γ' (nI k) 1) (mL_of γ' (nI k) 2) (mL_of γ' (nI k) 3) (mL_of γ' (nI k) 4)).2, γ'))) (T + 1) := by
  subst hx4
  have e : ∀ u, u < 10 → BB (coB (L_b σ.2) (nI k) x1 x2 x3 (nI c)) k u = _ := fun u hu => (coB_f hk hu).trans (if_pos rfl)
  have e1 : BB (L_b γ') k 1 = x1 := by rw [hγ]; exact e 1 (by decide)
  have e2 : BB (L_b γ') k 2 = x2 := by rw [hγ]; exact e 2 (by decide)
  have e3 : BB (L_b γ') k 3 = x3 := by rw [hγ]; exact e 3 (by decide)
  have e4 : BB (L_b γ') k 4 = nI c := by rw [hγ]; exact e 4 (by decide)
  rw [lo1 hk, lo2 hk, lo3 hk, lo4 hk, e1, e2, e3, e4]
  obtain ⟨r1, r2⟩ := come_rel h hk h0 hl hc g1 g2 g3
  obtain ⟨a1, w1⟩ := e_come r1
  rw [if_pos a1]
  refine ⟨rfl, ⟨n, q, ?_⟩, hok_come hh⟩
  show RelQ (W_yard (mX3_come σ.1 x1 x2 x3 (nI c)).2) γ' (T + 1) n q
  rw [w1, hγ, ixs (by omega)]
  exact rl_up r2 hT
theorem g_come (h : RelQ (W_yard σ.1) σ.2 T n q) (hh : HOK (W_hist σ.1)) (hT : T < 100) (x y : Int32) {w8 w7 : Int32} : ∀ d u f, u + d = 6 → (∀ j, j < u → ¬ BB (L_b σ.2) j 0 = 0) → Good (mL_yard_L25 x y w8 w7 (d + 1 + f) σ (nI u)) (T + 1) := by
  intro d
  induction d with
  | zero =>
    intro u f hu hl
    rw [show 0 + 1 + f = f + 1 by omega, show u = 6 by omega, mL_yard_L25, if_pos e6, if_pos (show nI 6 = 6 from rfl)]
    obtain ⟨a1, w1⟩ := e_come (ω := σ.1) (x1 := 3) (x2 := 5) (x3 := 1) (x4 := 3) (e := -1) (Y := W_yard σ.1) (by unfold mX2_addBoat; rw [if_pos (by decide)])
    obtain ⟨a2, w2⟩ := e_come (ω := (mX3_come σ.1 3 5 1 3).2) (x1 := 2) (x2 := 5) (x3 := 1) (x4 := 0) (e := -2) (Y := W_yard (mX3_come σ.1 3 5 1 3).2) (by unfold mX2_addBoat; rw [if_neg (by decide), if_pos (by decide)])
    obtain ⟨a3, w3⟩ := e_come (ω := (mX3_come (mX3_come σ.1 3 5 1 3).2 2 5 1 0).2) (x1 := 3) (x2 := 41) (x3 := 1) (x4 := 0) (e := -2) (Y := W_yard (mX3_come (mX3_come σ.1 3 5 1 3).2 2 5 1 0).2) (by unfold mX2_addBoat; rw [if_neg (by decide), if_neg (by decide), if_pos (by decide)])
    rw [if_pos a1, if_pos a2, if_pos a3]
    refine ⟨rfl, ⟨n, q, ?_⟩, hok_come (hok_come (hok_come hh))⟩
    show RelQ (W_yard (mX3_come (mX3_come (mX3_come σ.1 3 5 1 3).2 2 5 1 0).2 3 41 1 0).2) σ.2 (T + 1) n q
    rw [w3, w2, w1]
    exact rl_up h hT
  | succ d ih =>
    intro u f hu hl
    rw [show d + 1 + 1 + f = (d + 1 + f) + 1 by omega, mL_yard_L25, if_neg (n6 (by omega)), lo0 (by omega)]
    rcases (h.2.2.1.1 u (by omega)).k0 with c | c
    · obtain ⟨k4, hk4, e4⟩ := low_nI (x := y >>> ((12 : Int32) &&& 31)) (k := 3) (m := 3) rfl (by decide) (by decide)
      have r1 := c_low (x := y) (k := 18) (m := 18) (c := 3) (z := 3) rfl (by decide) (by decide) rfl (by decide)
      have r2 : 5 ≤ (5 + mL_low (y >>> ((5 : Int32) &&& 31)) (if ((y >>> ((4 : Int32) &&& 31)) &&& 3) = 0 then 36 else 27)).toInt ∧ (5 + mL_low (y >>> ((5 : Int32) &&& 31)) (if ((y >>> ((4 : Int32) &&& 31)) &&& 3) = 0 then 36 else 27)).toInt ≤ 40 := by
        have s1 := c_low (x := y >>> ((5 : Int32) &&& 31)) (k := 36) (m := 36) (c := 5) (z := 5) rfl (by decide) (by decide) rfl (by decide)
        have s2 := c_low (x := y >>> ((5 : Int32) &&& 31)) (k := 27) (m := 27) (c := 5) (z := 5) rfl (by decide) (by decide) rfl (by decide)
        split
        · exact ⟨s1.1, by omega⟩
        · exact ⟨s2.1, by omega⟩
      have r3 : 1 ≤ (1 + mL_low (y >>> ((8 : Int32) &&& 31)) (if ((y >>> ((7 : Int32) &&& 31)) &&& 3) = 0 then 30 else 16)).toInt ∧ (1 + mL_low (y >>> ((8 : Int32) &&& 31)) (if ((y >>> ((7 : Int32) &&& 31)) &&& 3) = 0 then 30 else 16)).toInt ≤ 30 := by
        have s1 := c_low (x := y >>> ((8 : Int32) &&& 31)) (k := 30) (m := 30) (c := 1) (z := 1) rfl (by decide) (by decide) rfl (by decide)
        have s2 := c_low (x := y >>> ((8 : Int32) &&& 31)) (k := 16) (m := 16) (c := 1) (z := 1) rfl (by decide) (by decide) rfl (by decide)
        split
        · exact ⟨s1.1, by omega⟩
        · exact ⟨s2.1, by omega⟩
      rw [if_neg (fun z => by rw [c] at z; exact absurd z (by decide)), if_neg (fun z => by
        have := (nI_eq (a := u) (b := 6) (by omega) (by decide)).mp z
        omega)]
      exact come_wr h hh hT (by omega) c hl hk4 e4 ⟨r1.1, by omega⟩ r2 r3 rfl
    · rw [if_pos c, nI1]
      refine ih (u + 1) f (by omega) (fun j hj => ?_)
      by_cases e : j = u
      · rw [e, c]; exact one0
      · exact hl j (by omega)
end YD
