/-! the passing of days -/
section ACTS3
variable {σ : YS} {τ : MS} {T : Nat}
theorem RelY.srng (h : RelY σ (M_z τ) T) : 0 ≤ (M_z τ 2).toInt ∧ (M_z τ 2).toInt ≤ 9 := h.1.2.2.2.2.1.1
theorem tide_ge (hs : 0 ≤ (M_z τ 2).toInt ∧ (M_z τ 2).toInt ≤ 9) {d : Nat} (hd : d < 2 ^ 31) : 0 ≤ (mX4_tideAt τ (nI d)).toInt := by
  unfold mX4_tideAt
  rw [show (14 : Int32) = nI 14 from rfl, pk_rem hd (by decide) (by decide), show (2 : Int32).toNatClampNeg = 2 from rfl]
  have hm : d % 14 < 14 := Nat.mod_lt _ (by decide)
  generalize d % 14 = m at hm
  generalize M_z τ 2 = s at hs
  have e : (nI m - 7).toInt = (m : Int) - 7 := by
    rw [ti_sub (y := 7) (by rw [nI_ti (by omega)]; show _ ≤ (m : Int) - 7; omega) (by rw [nI_ti (by omega)]; show (m : Int) - 7 < _; omega), nI_ti (by omega)]
    rfl
  have bnd : ∀ w : Int32, 0 ≤ w.toInt → w.toInt ≤ 7 → 0 ≤ (30 + s * w).toInt := by
    intro w w0 w7
    have h1 : 0 ≤ s.toInt * w.toInt := Int.mul_nonneg hs.1 w0
    have h2 : s.toInt * w.toInt ≤ 9 * 7 := Int.mul_le_mul hs.2 w7 w0 (by decide)
    have e2 : (s * w).toInt = s.toInt * w.toInt := ti_mul (by omega) (by omega)
    have e3 : (30 + s * w).toInt = 30 + s.toInt * w.toInt := by
      rw [ti_add (x := 30) (by rw [e2]; show _ ≤ (30 : Int) + _; omega) (by rw [e2]; show (30 : Int) + _ < _; omega), e2]
      rfl
    rw [e3]; omega
  split
  · rename_i c
    rw [le_ti, e] at c
    have c : (0 : Int) ≤ (m : Int) - 7 := c
    exact bnd _ (by rw [e]; omega) (by rw [e]; omega)
  · rename_i c
    rw [le_ti, e] at c
    have c : ¬ (0 : Int) ≤ (m : Int) - 7 := c
    have e4 : (-(nI m - 7)).toInt = 7 - (m : Int) := by
      rw [← Int32.zero_sub, ti_sub (x := 0) (by rw [e]; show _ ≤ (0 : Int) - _; omega) (by rw [e]; show (0 : Int) - _ < _; omega), e]
      show (0 : Int) - _ = _
      omega
    exact bnd _ (by rw [e4]; omega) (by rw [e4]; omega)
/-- in the middle of the passing: boats below i have had their days -/
def PI (σ : YS) (z : Nat → Int32) (T : Nat) (D D' : Int) (i : Nat) : Prop := RH σ z ∧ (z 0).toInt = D' ∧ (∃ t, RT z T t ∧ RP σ z t) ∧ ∀ k, k < 20 → RB (FY σ k) (ZB z k) (if k < i then D' else D)
theorem PI.skip {z : Nat → Int32} {D D' : Int} {i : Nat} (h : PI σ z T D D' i) (h9 : D ≤ D') : PI σ z T D D' (i + 1) := by
  obtain ⟨h1, h2, h3, h4⟩ := h
  refine ⟨h1, h2, h3, fun k hk => (h4 k hk).mono ?_⟩
  by_cases c : k < i
  · rw [if_pos c, if_pos (by omega)]; exact Int.le_refl _
  · rw [if_neg c]
    by_cases c2 : k < i + 1
    · rw [if_pos c2]; exact h9
    · rw [if_neg c2]; exact Int.le_refl _
theorem pass_step {D D' : Int} {i : Nat} {x : Int32} (hi : i < 20) (h : PI σ (M_z τ) T D D' i) (hx : 1 ≤ x.toInt ∧ x.toInt ≤ 99) (hD : D' = D + x.toInt) (hD' : D' ≤ 9999) (h0 : 0 ≤ D) (hb : ZB (M_z τ) i 0 = 1) (hs : 0 ≤ (ZB (M_z τ) i 5).toInt) {w : Int32} (hw : 0 ≤ w.toInt ∧ w.toInt ≤ 99) : PI (mX2_note (mX2_note σ (nI i) 9 (FY σ i 9 + x)) (nI i) 8 w) (M_z (mX4_put (mX4_put τ (nI i) 9 (ZB (M_z τ) i 9 + x)) (nI i) 8 w)) T D D' (i + 1) := by
  obtain ⟨h1, h2, ⟨t, ⟨t1, t2⟩, tP⟩, h4⟩ := h
  have hF : ∀ j u, u < 11 → FY (mX2_note (mX2_note σ (nI i) 9 (FY σ i 9 + x)) (nI i) 8 w) j u = if j = i ∧ u = 8 then w else if j = i ∧ u = 9 then FY σ i 9 + x else FY σ j u := fun j u hu => by rw [fn8 hi hu, fn9 hi hu]
  have hZ : ∀ j u, u < 12 → ZB (M_z (mX4_put (mX4_put τ (nI i) 9 (ZB (M_z τ) i 9 + x)) (nI i) 8 w)) j u = if j = i ∧ u = 8 then w else if j = i ∧ u = 9 then ZB (M_z τ) i 9 + x else ZB (M_z τ) j u := fun j u hu => by rw [zp8 hi hu, zp9 hi hu]
  have hH : ∀ j, j < 15 → M_z (mX4_put (mX4_put τ (nI i) 9 (ZB (M_z τ) i 9 + x)) (nI i) 8 w) j = M_z τ j := fun j hj => by rw [zq8 hi hj, zq9 hi hj]
  refine ⟨RH.congr (σ := mX2_note (mX2_note σ (nI i) 9 (FY σ i 9 + x)) (nI i) 8 w) h1 (fun j hj _ => hH j hj), by rw [hH 0 (by decide)]; exact h2, ⟨t, ⟨by rw [hH 7 (by decide)]; exact t1, t2⟩, ?_⟩, fun k hk => ?_⟩
  · refine tP.same (fun j _ => ?_) (fun j _ => ?_) (fun j _ => ?_) (fun j _ => ?_)
    · rw [hF j 5 (by decide), if_neg (fun c => absurd c.2 (by decide)), if_neg (fun c => absurd c.2 (by decide))]
    · rw [hZ j 0 (by decide), if_neg (fun c => absurd c.2 (by decide)), if_neg (fun c => absurd c.2 (by decide))]
    · rw [hZ j 5 (by decide), if_neg (fun c => absurd c.2 (by decide)), if_neg (fun c => absurd c.2 (by decide))]
    · rw [hZ j 11 (by decide), if_neg (fun c => absurd c.2 (by decide)), if_neg (fun c => absurd c.2 (by decide))]
  · by_cases e : k = i
    · subst e
      have kF : ∀ u, u < 11 → FY (mX2_note (mX2_note σ (nI k) 9 (FY σ k 9 + x)) (nI k) 8 w) k u = if u = 8 then w else if u = 9 then FY σ k 9 + x else FY σ k u := fun u hu => by
        rw [hF k u hu]; simp only [true_and]
      have kZ : ∀ u, u < 12 → ZB (M_z (mX4_put (mX4_put τ (nI k) 9 (ZB (M_z τ) k 9 + x)) (nI k) 8 w)) k u = if u = 8 then w else if u = 9 then ZB (M_z τ) k 9 + x else ZB (M_z τ) k u := fun u hu => by
        rw [hZ k u hu]; simp only [true_and]
      rcases h4 k hk with a | ⟨a, bE, bG, bS⟩
      · exact absurd (a.1.symm.trans hb) (by decide)
      rw [if_neg (Nat.lt_irrefl k)] at bG
      rw [if_pos (Nat.lt_succ_self k)]
      refine Or.inr ⟨(kZ 0 (by decide)).trans hb, ?_, ?_, ?_⟩
      · unfold RE
        rw [kF 0 (by decide), kF 1 (by decide), kF 2 (by decide), kF 3 (by decide), kF 4 (by decide), kF 6 (by decide), kF 7 (by decide), kF 8 (by decide), kF 9 (by decide), kF 10 (by decide), kZ 1 (by decide), kZ 2 (by decide), kZ 3 (by decide), kZ 4 (by decide), kZ 5 (by decide), kZ 6 (by decide), kZ 7 (by decide), kZ 8 (by decide), kZ 9 (by decide), kZ 10 (by decide)]
        obtain ⟨b0, b1, b2, b3, b4, b6, b7, b8, b9, b10⟩ := bE
        exact ⟨b0, b1, b2, b3, b4, b6, b7, rfl, congrArg (· + x) b9, b10⟩
      · unfold RG
        rw [kZ 1 (by decide), kZ 2 (by decide), kZ 3 (by decide), kZ 4 (by decide), kZ 7 (by decide), kZ 8 (by decide), kZ 9 (by decide)]
        obtain ⟨g1, g2, g3, g4, g5, g6, g7⟩ := bG
        refine ⟨g1, g2, g3, g4, g5, hw, ?_⟩
        show 0 ≤ (ZB (M_z τ) k 9 + x).toInt ∧ (ZB (M_z τ) k 9 + x).toInt ≤ D'
        rw [ti_add (by omega) (by omega)]
        omega
      · unfold RS
        rw [kZ 5 (by decide), kZ 6 (by decide)]
        rcases bS with q | q
        · have q1 := q.1
          rw [q1] at hs
          exact absurd hs (by decide)
        · exact Or.inr q
    · have hlt : (k < i + 1) ↔ k < i := by omega
      have hh := (h4 k hk).congr (F' := FY (mX2_note (mX2_note σ (nI i) 9 (FY σ i 9 + x)) (nI i) 8 w) k) (Z' := ZB (M_z (mX4_put (mX4_put τ (nI i) 9 (ZB (M_z τ) i 9 + x)) (nI i) 8 w)) k) (fun u hu => by rw [hF k u hu, if_neg (fun c => e c.1), if_neg (fun c => e c.1)]) (fun u hu => by rw [hZ k u hu, if_neg (fun c => e c.1), if_neg (fun c => e c.1)])
      simp only [hlt]
      exact hh
theorem pass_loop {D D' : Int} {x : Int32} (hx : 1 ≤ x.toInt ∧ x.toInt ≤ 99) (hD : D' = D + x.toInt) (hD' : D' ≤ 9999) (h0 : 0 ≤ D) : ∀ d i, i + d = 20 → ∀ (σ : YS) (τ : MS), PI σ (M_z τ) T D D' i → (mX2_letPass_L45 x (d + 2) σ (nI i)).1 = (mX4_doPass_L19 x (d + 2) τ (nI i)).1 ∧ 0 ≤ (mX2_letPass_L45 x (d + 2) σ (nI i)).1.toInt ∧ (mX4_doPass_L19 x (d + 2) τ (nI i)).2.2 = τ.2 ∧ RelY (mX2_letPass_L45 x (d + 2) σ (nI i)).2 (M_z (mX4_doPass_L19 x (d + 2) τ (nI i)).2) T := by
  intro d
  induction d with
  | zero =>
    intro i hi σ τ h
    have hi : i = 20 := by omega
    subst hi
    have hR : RelY σ (M_z τ) T := ⟨h.1, h.2.2.1, fun k hk => by have := h.2.2.2 k hk; rw [if_pos hk] at this; rw [h.2.1]; exact this⟩
    rw [mX2_letPass_L45, mX4_doPass_L19, if_pos e20, if_pos e20, tide_eq hR, day_eq hR]
    refine ⟨rfl, ?_, rfl, hR⟩
    obtain ⟨n, hn, e⟩ := vp_in_of (in_iff.mpr (show 0 ≤ (M_z τ 0).toInt ∧ (M_z τ 0).toInt < ((10000 : Nat) : Int) by have := h.1.1.2; omega)) (by decide)
    show 0 ≤ (mX4_tideAt τ (M_z τ 0)).toInt
    rw [e]
    exact tide_ge hR.srng (by omega)
  | succ d ih =>
    intro i hi σ τ h
    have hi20 : i < 20 := by omega
    rw [show d + 1 + 2 = (d + 2) + 1 by omega, mX2_letPass_L45, mX4_doPass_L19, if_neg (i20 hi20), if_neg (i20 hi20), nI1, zo0 hi20]
    unfold mX2_isAshore mX4_isAshore
    rw [fa4 hi20, zo5 hi20]
    rcases h.2.2.2 i hi20 with a | ⟨a, bE, bG, bS⟩
    · rw [if_pos a.2.2.1, if_pos rfl, if_neg (by rw [a.1]; decide)]
      exact ih (i + 1) (by omega) σ τ (h.skip (by omega))
    · have e4 : FY σ i 4 = ZB (M_z τ) i 5 := bE.2.2.2.2.1
      rw [e4, if_pos a]
      by_cases q : ZB (M_z τ) i 5 = -5
      · rw [q, if_pos rfl, if_pos rfl, if_pos (show (-5 : Int32) < 0 by decide), if_pos rfl]
        exact ih (i + 1) (by omega) σ τ (h.skip (by omega))
      · have q5 : 0 ≤ (ZB (M_z τ) i 5).toInt := by
          rcases bS with s | s
          · exact absurd s.1 q
          · exact s.1.1
        have q6 : ¬ ZB (M_z τ) i 5 < 0 := by rw [lt_ti]; show ¬ _ < (0 : Int); omega
        rw [if_neg q, if_neg one_ne, if_neg q6, if_neg one_ne]
        have b8 : FY σ i 8 = ZB (M_z τ) i 8 := bE.2.2.2.2.2.2.2.1
        have g8 := bG.2.2.2.2.2.1
        have x8 : mX2_fact (mX2_note σ (nI i) 9 (mX2_fact σ (nI i) 9 + x)) (nI i) 8 = ZB (M_z τ) i 8 := by
          rw [fa8 hi20, fn9 hi20 (by decide), if_neg (fun c => absurd c.2 (by decide)), b8]
        have y8 : mX4_of (mX4_put τ (nI i) 9 (mX4_of τ (nI i) 9 + x)) (nI i) 8 = ZB (M_z τ) i 8 := by
          rw [zo8 hi20, zp9 hi20 (by decide), if_neg (fun c => absurd c.2 (by decide))]
        rw [x8, y8, fa9 hi20, zo9 hi20]
        have es := ti_sub (x := ZB (M_z τ) i 8) (y := x) (by omega) (by omega)
        by_cases c : ZB (M_z τ) i 8 ≤ x
        · rw [if_pos c, if_neg (by rw [lt_ti, es]; rw [le_ti] at c; show ¬ (0 : Int) < _; omega)]
          exact ih (i + 1) (by omega) _ _ (pass_step hi20 h hx hD hD' h0 a q5 (w := 0) ⟨by decide, by decide⟩)
        · rw [if_neg c, if_pos (by rw [lt_ti, es]; rw [le_ti] at c; show (0 : Int) < _; omega)]
          rw [le_ti] at c
          exact ih (i + 1) (by omega) _ _ (pass_step hi20 h hx hD hD' h0 a q5 (w := ZB (M_z τ) i 8 - x) ⟨by rw [es]; omega, by rw [es]; omega⟩)
theorem rng_get {x : Int32} {lo hi : Int32} (c : ¬ mX4_in x lo hi = 0) : lo.toInt ≤ x.toInt ∧ x.toInt ≤ hi.toInt := by
  unfold mX4_in at c
  split at c
  · exact absurd rfl c
  · rename_i c1
    split at c
    · exact absurd rfl c
    · rename_i c2
      rw [lt_ti] at c1 c2
      omega
theorem pass_act (h : RelY σ (M_z τ) T) (x : Int32) : Act τ T (mX2_letPass σ x) (mX4_noPass τ x) (mX4_doPass τ x) := by
  unfold mX2_letPass mX4_noPass mX4_doPass
  rw [show mX3_within x 1 99 = mX4_in x 1 99 from rfl, day_eq h, show (0 : Int32).toNatClampNeg = 0 from rfl, show (1 : Int32).toNatClampNeg = 1 from rfl]
  by_cases c1 : mX4_in x 1 99 = 0
  · rw [if_pos c1, if_pos c1]
    exact Or.inr ⟨by decide, rfl, h⟩
  · rw [if_neg c1, if_neg c1]
    by_cases c2 : M_z τ 0 + x ≤ 9999
    · rw [if_pos c2, if_pos c2]
      have hx : 1 ≤ x.toInt ∧ x.toInt ≤ 99 := rng_get c1
      have hd := h.1.1.2
      have e : (M_z τ 0 + x).toInt = (M_z τ 0).toInt + x.toInt := ti_add (by omega) (by omega)
      have c3 : (M_z τ 0).toInt + x.toInt ≤ 9999 := by rw [le_ti, e] at c2; exact c2
      have hz : ∀ j, upd (upd (M_z τ) 0 (M_z τ 0 + x)) 1 0 j = if j = 1 then 0 else if j = 0 then M_z τ 0 + x else M_z τ j := fun j => rfl
      have hzb : ∀ k u, ZB (upd (upd (M_z τ) 0 (M_z τ 0 + x)) 1 0) k u = ZB (M_z τ) k u := fun k u => (ZB_hd (by decide) _).trans (ZB_hd (by decide) _)
      have hP : PI (Y_set_liftsToday (Y_set_day σ (M_z τ 0 + x)) 0) (M_z (M_set_z (M_set_z τ (upd (M_z τ) 0 (M_z τ 0 + x))) (upd (M_z (M_set_z τ (upd (M_z τ) 0 (M_z τ 0 + x)))) 1 0))) T (M_z τ 0).toInt ((M_z τ 0).toInt + x.toInt) 0 := by
        rw [sz_z, sz_z]
        obtain ⟨t, ⟨t1, t2⟩, tP⟩ := h.2.1
        refine ⟨?_, by rw [hz, if_neg (by decide), if_pos rfl, e], ⟨t, ⟨by rw [hz, if_neg (by decide), if_neg (by decide)]; exact t1, t2⟩, tP.same (σ' := Y_set_liftsToday (Y_set_day σ (M_z τ 0 + x)) 0) (fun _ _ => rfl) (fun j _ => hzb j 0) (fun j _ => hzb j 5) (fun j _ => hzb j 11)⟩, fun k hk => ?_⟩
        · obtain ⟨h1, h2, h3, h4, h5, h6, h7⟩ := h.1
          unfold RH
          rw [hz 0, hz 1, hz 5, hz 6, hz 2, hz 3, hz 4]
          refine ⟨⟨rfl, ?_, ?_⟩, ⟨rfl, show (0 : Int) ≤ (0 : Int32).toInt by decide, show (0 : Int32).toInt ≤ (9 : Int) by decide⟩, h3, h4, h5, fun k hk => ?_, fun k hk => ?_⟩
          · show 0 ≤ (M_z τ 0 + x).toInt
            rw [e]; omega
          · show (M_z τ 0 + x).toInt ≤ 9999
            rw [e]; omega
          · rw [hz (8 + k), if_neg (by omega), if_neg (by omega)]; exact h6 k hk
          · rw [hz (11 + k), if_neg (by omega), if_neg (by omega)]; exact h7 k hk
        · rw [if_neg (Nat.not_lt_zero k)]
          exact (h.2.2 k hk).congr (fun _ _ => rfl) (fun u _ => hzb k u)
      obtain ⟨r1, r2, r3, r4⟩ := pass_loop (T := T) hx rfl c3 hd.1 20 0 (by omega) _ _ hP
      exact Or.inl ⟨rfl, r1, r2, r3, r4.up (Nat.le_succ T)⟩
    · rw [if_neg c2, if_neg c2]
      exact Or.inr ⟨by decide, rfl, h⟩
end ACTS3
