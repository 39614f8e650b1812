/-! readers of one boat, of a row, of the crane -/
theorem nle_lt {a b : Int32} : ¬ a ≤ b ↔ b < a := by rw [le_ti, lt_ti]; omega
theorem nlt_le {a b : Int32} : ¬ a < b ↔ b ≤ a := by rw [le_ti, lt_ti]; omega
theorem nI_ti {n : Nat} (h : n < 2 ^ 31) : (nI n).toInt = (n : Int) := nI_toInt h
theorem ge0 {n : Nat} (h : n < 2 ^ 31) : 0 ≤ (nI n).toInt := by rw [nI_ti h]; omega
theorem first_last {L1 : Nat → Int32 → Int32} {L2 : Nat → Int32 → Int32 → Int32} {P : Nat → Prop} [DecidablePred P] {d : Int32} {N : Nat} (h1e : ∀ n, L1 (n + 1) (nI N) = d) (h1s : ∀ n i, i < N → L1 (n + 1) (nI i) = if P i then nI i else L1 n (nI (i + 1)))
    (h2e : ∀ n c, L2 (n + 1) (nI N) c = c) (h2s : ∀ n i c, i < N → L2 (n + 1) (nI i) c = L2 n (nI (i + 1)) (if P i then nI i else c)) (hu : ∀ i j, i < N → j < N → P i → P j → i = j) (m : Nat) : L1 (N + 1 + m) (nI 0) = L2 (N + 1 + m) (nI 0) d := by
  have none : ∀ dd i c, i + dd = N → (∀ j, i ≤ j → j < N → ¬ P j) → L2 (dd + 1 + m) (nI i) c = c := by
    intro dd
    induction dd with
    | zero =>
      intro i c hi _
      have hi : i = N := by omega
      subst hi
      rw [show 0 + 1 + m = m + 1 by omega, h2e]
    | succ dd ih =>
      intro i c hi hn
      rw [show dd + 1 + 1 + m = (dd + 1 + m) + 1 by omega, h2s _ i _ (by omega), if_neg (hn i (Nat.le_refl i) (by omega))]
      exact ih (i + 1) c (by omega) (fun j h1 h2 => hn j (by omega) h2)
  have key : ∀ dd i, i + dd = N → L1 (dd + 1 + m) (nI i) = L2 (dd + 1 + m) (nI i) d := by
    intro dd
    induction dd with
    | zero =>
      intro i hi
      have hi : i = N := by omega
      subst hi
      rw [show 0 + 1 + m = m + 1 by omega, h2e, h1e]
    | succ dd ih =>
      intro i hi
      rw [show dd + 1 + 1 + m = (dd + 1 + m) + 1 by omega, h1s _ i (by omega), h2s _ i _ (by omega)]
      by_cases a : P i
      · rw [if_pos a, if_pos a]
        exact (none dd (i + 1) (nI i) (by omega) (fun j h1 h2 c => by have := hu i j (by omega) h2 a c; omega)).symm
      · rw [if_neg a, if_neg a]
        exact ih (i + 1) (by omega)
  exact key N 0 (by omega)
section REL2
variable {σ : YS} {τ : MS} {T : Nat}
theorem left_rng (h : RelY σ (M_z τ) T) : 0 ≤ (mX4_liftsLeft τ).toInt ∧ (mX4_liftsLeft τ).toInt ≤ 9 := by
  unfold mX4_liftsLeft
  have h1 : 0 ≤ (M_z τ (1 : Int32).toNatClampNeg).toInt ∧ (M_z τ (1 : Int32).toNatClampNeg).toInt ≤ 9 := h.1.2.1.2
  have h3 : 1 ≤ (M_z τ (3 : Int32).toNatClampNeg).toInt ∧ (M_z τ (3 : Int32).toNatClampNeg).toInt ≤ 9 := h.1.2.2.2.2.1.2.1
  have e := ti_sub (x := M_z τ (3 : Int32).toNatClampNeg) (y := M_z τ (1 : Int32).toNatClampNeg) (by omega) (by omega)
  by_cases c : M_z τ (3 : Int32).toNatClampNeg ≤ M_z τ (1 : Int32).toNatClampNeg
  · rw [if_pos c]; decide
  · rw [if_neg c, e]; rw [le_ti] at c; omega
theorem left_le0 (h : RelY σ (M_z τ) T) : mX4_liftsLeft τ ≤ 0 ↔ mX4_liftsLeft τ = 0 := by
  rw [le_ti, eq_ti]
  have := (left_rng h).1
  show _ ≤ (0 : Int) ↔ _ = (0 : Int)
  omega
theorem cr_eq (h : RelY σ (M_z τ) T) {k : Nat} (hk : k < 3) : Y_cradles σ (nI k).toNatClampNeg = M_z τ (8 + nI k).toNatClampNeg := by
  rw [show (8 : Int32) = nI 8 from rfl, nI_add, nI_clamp (show k < 2 ^ 31 by omega), nI_clamp (show 8 + k < 2 ^ 31 by omega)]
  exact (h.1.2.2.2.2.2.1 k hk).1
theorem me_eq (h : RelY σ (M_z τ) T) {k : Nat} (hk : k < 4) : Y_metres σ (nI k).toNatClampNeg = M_z τ (11 + nI k).toNatClampNeg := by
  rw [show (11 : Int32) = nI 11 from rfl, nI_add, nI_clamp (show k < 2 ^ 31 by omega), nI_clamp (show 11 + k < 2 ^ 31 by omega)]
  exact (h.1.2.2.2.2.2.2 k hk).1
theorem fr_eq (h : RelY σ (M_z τ) T) {k : Nat} (hk : k < 3) : mX2_hasFreeCradle σ (nI k) = mX4_isFree τ (nI k) := by
  unfold mX2_hasFreeCradle mX4_isFree mX2_cradlesOf
  rw [cr_eq h hk, tk_eq h (ge0 (by omega))]
theorem ml_eq (h : RelY σ (M_z τ) T) {k : Nat} (hk : k < 4) : mX2_metresLeft σ (nI k) = mX4_metresLeft τ (nI k) := by
  unfold mX2_metresLeft mX4_metresLeft mX2_metresOf
  rw [me_eq h hk, mt_eq h (ge0 (by omega))]
theorem hr_eq (h : RelY σ (M_z τ) T) {k r : Nat} (hk : k < 20) (hb : ZB (M_z τ) k 0 = 1) (hr : r < 4) : mX2_hasRoom σ (nI r) (nI k) = mX4_hasRoom τ (nI k) (nI r) := by
  unfold mX2_hasRoom mX4_hasRoom
  rw [ml_eq h hr, fa0 hk, zo1 hk, show FY σ k 0 = ZB (M_z τ) k 1 from (h.p hk hb).1.1]
theorem half {w v : Int32} {n m : Int} (h1 : 1 ≤ w.toInt ∧ w.toInt ≤ 30) (hv : v.toInt = n) (hm : (v / 2).toInt = m) (he : n = 2 * m) : (v < 2 * w) ↔ v / 2 < w := by
  rw [lt_ti, lt_ti, hv, hm, ti_mul (x := 2) (by show _ ≤ 2 * w.toInt; omega) (by show 2 * w.toInt < _; omega)]
  show n < 2 * w.toInt ↔ _
  omega
theorem cf_eq (h : RelY σ (M_z τ) T) {k : Nat} (hk : k < 20) (hb : ZB (M_z τ) k 0 = 1) : mX2_cradleFor σ (nI k) = mX4_cradleFor τ (nI k) := by
  obtain ⟨b, g, d⟩ := h.p hk hb
  have g3 := g.2.2.1
  have g4 := g.2.2.2.1
  have f0 : mX2_hasFreeCradle σ 0 = mX4_isFree τ 0 := fr_eq h (k := 0) (by decide)
  have f1 : mX2_hasFreeCradle σ 1 = mX4_isFree τ 1 := fr_eq h (k := 1) (by decide)
  have f2 : mX2_hasFreeCradle σ 2 = mX4_isFree τ 2 := fr_eq h (k := 2) (by decide)
  unfold mX2_cradleFor mX4_cradleFor
  rw [fa3 hk, fa2 hk, zo4 hk, zo3 hk, show FY σ k 3 = ZB (M_z τ) k 4 from b.2.2.2.1, show FY σ k 2 = ZB (M_z τ) k 3 from b.2.2.1]
  have hq : ZB (M_z τ) k 4 = 0 ∨ ZB (M_z τ) k 4 = 1 ∨ ZB (M_z τ) k 4 = 2 := by
    rw [eq_ti, eq_ti, eq_ti]
    show _ = (0 : Int) ∨ _ = (1 : Int) ∨ _ = (2 : Int)
    omega
  generalize ZB (M_z τ) k 3 = w at g3 ⊢
  rcases hq with q | q | q <;> rw [q]
  · rw [show mX2_otherKindFor 0 = 2 from rfl, show (2 : Int32) - 0 = 2 from rfl, f0, f2, show mX2_bears 0 = 30 from rfl, show mX2_bears 2 = 20 from rfl, show mX4_bears 0 = 30 from rfl, show mX4_bears 2 = 20 from rfl]
    simp only [half g3 (show (20 : Int32).toInt = 20 from rfl) (show ((20 : Int32) / 2).toInt = 10 from rfl) rfl, show ¬ ((2 : Int32) = -5) by decide, show ¬ ((2 : Int32) = 0) by decide, if_false]
  · rw [show mX2_otherKindFor 1 = -5 from rfl, show (2 : Int32) - 1 = 1 from rfl, f1, show mX2_bears 1 = 12 from rfl, show mX4_bears 1 = 12 from rfl]
    simp only [if_true]
  · rw [show mX2_otherKindFor 2 = 0 from rfl, show (2 : Int32) - 2 = 0 from rfl, f0, f2, show mX2_bears 0 = 30 from rfl, show mX2_bears 2 = 20 from rfl, show mX4_bears 0 = 30 from rfl, show mX4_bears 2 = 20 from rfl]
    simp only [half g3 (show (30 : Int32).toInt = 30 from rfl) (show ((30 : Int32) / 2).toInt = 15 from rfl) rfl, show ¬ ((0 : Int32) = -5) by decide, show ¬ ((0 : Int32) = 2) by decide, if_false]
theorem cf_rng (h : RelY σ (M_z τ) T) {k : Nat} (hk : k < 20) (hb : ZB (M_z τ) k 0 = 1) (hc : ¬ mX4_cradleFor τ (nI k) = -5) : 0 ≤ (mX4_cradleFor τ (nI k)).toInt ∧ (mX4_cradleFor τ (nI k)).toInt ≤ 2 := by
  have g4 := (h.p hk hb).2.1.2.2.2.1
  unfold mX4_cradleFor at hc ⊢
  rw [zo4 hk] at hc ⊢
  have e := ti_sub (x := 2) (y := ZB (M_z τ) k 4) (by show _ ≤ 2 - _; omega) (by show 2 - _ < _; omega)
  have e2 : (2 - ZB (M_z τ) k 4).toInt = 2 - (ZB (M_z τ) k 4).toInt := e
  split at hc
  · rename_i c1
    rw [if_pos c1]
    split at hc
    · exact absurd rfl hc
    · rename_i c2
      rw [if_neg c2]
      split at hc
      · exact absurd rfl hc
      · rename_i c3
        rw [if_neg c3]
        split at hc
        · exact absurd rfl hc
        · rename_i c4
          rw [if_neg c4, e2]; omega
  · rename_i c1
    rw [if_neg c1]
    split at hc
    · rename_i c5
      rw [if_pos c5]
      split at hc
      · exact absurd rfl hc
      · rename_i c2
        rw [if_neg c2]
        split at hc
        · exact absurd rfl hc
        · rename_i c3
          rw [if_neg c3]
          split at hc
          · exact absurd rfl hc
          · rename_i c4
            rw [if_neg c4, e2]; omega
    · rename_i c5
      rw [if_neg c5]; omega
theorem z5_get (h : RelY σ (M_z τ) T) {k : Nat} (hk : k < 20) (hb : ZB (M_z τ) k 0 = 1) (ha : ¬ mX4_isAshore τ (nI k) = 0) : ∃ r, r < 4 ∧ ZB (M_z τ) k 5 = nI r := by
  obtain ⟨b, g, d⟩ := h.p hk hb
  unfold mX4_isAshore at ha
  rw [zo5 hk] at ha
  rcases d with d | d
  · rw [show ZB (M_z τ) k 5 = -5 from d.1] at ha
    exact absurd (by decide) ha
  · exact vp_in_of (in_iff.mpr (by have := d.1; omega)) (by decide)
theorem z5_af (h : RelY σ (M_z τ) T) {k : Nat} (hk : k < 20) (hb : ZB (M_z τ) k 0 = 1) (ha : mX4_isAshore τ (nI k) = 0) : ZB (M_z τ) k 5 = -5 ∧ FY σ k 5 = -5 ∧ ZB (M_z τ) k 6 = -5 ∧ ZB (M_z τ) k 9 = 0 := by
  obtain ⟨b, g, d⟩ := h.p hk hb
  unfold mX4_isAshore at ha
  rw [zo5 hk] at ha
  rcases d with d | d
  · exact d
  · rw [if_neg (by rw [lt_ti]; have := d.1.1; show ¬ _ < (0 : Int); omega)] at ha
    exact absurd ha (by decide)
theorem pl_eq (h : RelY σ (M_z τ) T) {k : Nat} (hk : k < 20) (hb : ZB (M_z τ) k 0 = 1) (h5 : 0 ≤ (ZB (M_z τ) k 5).toInt) : FY σ k 5 = mX4_placeOf τ (nI k) := by
  obtain ⟨t, -, hp⟩ := h.2.1
  rw [pl4_sm hk]
  exact (hp k hk hb h5).1
theorem fo_eq (h : RelY σ (M_z τ) T) {k : Nat} (hk : k < 20) (hb : ZB (M_z τ) k 0 = 1) (h5 : 0 ≤ (ZB (M_z τ) k 5).toInt) : mX2_boatsFartherOut σ (nI k) = mX4_blockersOf τ (nI k) := by
  unfold mX2_boatsFartherOut mX4_blockersOf
  rw [fa4 hk, fa5 hk, zo5 hk, show FY σ k 4 = ZB (M_z τ) k 5 from (h.p hk hb).1.2.2.2.2.1, bi_eq h h5, pl_eq h hk hb h5]
theorem pl_uniq (h : RelY σ (M_z τ) T) {i j : Nat} (hi : i < 20) (hj : j < 20) (bi : ZB (M_z τ) i 0 = 1) (bj : ZB (M_z τ) j 0 = 1) (h5 : 0 ≤ (ZB (M_z τ) i 5).toInt) (he : ZB (M_z τ) j 5 = ZB (M_z τ) i 5) (hp : mX4_placeOf τ (nI i) = mX4_placeOf τ (nI j)) : i = j := by
  obtain ⟨t, -, hP⟩ := h.2.1
  rw [pl4_sm hi, pl4_sm hj] at hp
  have l1 := ct_le (p := bef (M_z τ) i) 20
  have l2 := ct_le (p := bef (M_z τ) j) 20
  have e : ct (bef (M_z τ) i) 20 = ct (bef (M_z τ) j) 20 := by
    have := congrArg Int32.toInt hp
    rw [nI_ti (by omega), nI_ti (by omega)] at this
    omega
  by_cases hne : i = j
  · exact hne
  · have hd := (hP i hi bi h5).2.2 j hj (fun c => hne c.symm) bj he
    have hd2 : (ZB (M_z τ) j 11).toInt ≠ (ZB (M_z τ) i 11).toInt := fun c => hd (eq_ti.mpr c)
    rcases Int.lt_or_le (ZB (M_z τ) j 11).toInt (ZB (M_z τ) i 11).toInt with c | c
    · have := ct_lt (p := bef (M_z τ) j) (q := bef (M_z τ) i) (n := 20) (j := j) (fun q _ a => ⟨a.1, a.2.1.trans he, by have := a.2.2; rw [lt_ti] at this ⊢; omega⟩) hj (fun a => by have := a.2.2; rw [lt_ti] at this; omega) ⟨bj, he, by rw [lt_ti]; exact c⟩
      omega
    · have := ct_lt (p := bef (M_z τ) i) (q := bef (M_z τ) j) (n := 20) (j := i) (fun q _ a => ⟨a.1, a.2.1.trans he.symm, by have := a.2.2; rw [lt_ti] at this ⊢; omega⟩) hi (fun a => by have := a.2.2; rw [lt_ti] at this; omega) ⟨bi, he.symm, by rw [lt_ti]; omega⟩
      omega
theorem ba_eq (h : RelY σ (M_z τ) T) {x : Int32} (hx : 0 ≤ x.toInt) (r : Int32) : mX2_boatAt σ x r = mX4_boatAt τ x r := by
  refine first_last (L1 := mX2_boatAt_L2 σ x r) (L2 := mX4_boatAt_L6 τ x r) (P := fun i => inrw (M_z τ) x i ∧ mX4_placeOf τ (nI i) = r) (d := -5) (N := 20) (fun n => ?_) (fun n i hi => ?_) (fun n c => ?_) (fun n i c hi => ?_) (fun i j hi hj a c => ?_) 1
  · simp only [mX2_boatAt_L2, if_pos e20]
  · simp only [mX2_boatAt_L2, if_neg (i20 hi), nI1, mX2_standsIn, fa4 hi, fa5 hi]
    by_cases a : inrw (M_z τ) x i
    · have a4 := (f_row h hx hi).mpr a
      have h5 : 0 ≤ (ZB (M_z τ) i 5).toInt := by rw [a.2]; exact hx
      rw [if_pos a4, if_neg one_ne, pl_eq h hi a.1 h5]
      by_cases c : mX4_placeOf τ (nI i) = r
      · rw [if_pos c, if_pos ⟨a, c⟩]
      · rw [if_neg c, if_neg (fun q => c q.2)]
    · rw [if_neg (fun q => a ((f_row h hx hi).mp q)), if_pos rfl, if_neg (fun q => a q.1)]
  · simp only [mX4_boatAt_L6, if_pos e20]
  · simp only [mX4_boatAt_L6, if_neg (i20 hi), nI1, isIn_eq hi]
    by_cases a : inrw (M_z τ) x i
    · rw [if_pos a, if_neg one_ne]
      by_cases c : mX4_placeOf τ (nI i) = r
      · rw [if_pos c, if_pos ⟨a, c⟩]
      · rw [if_neg c, if_neg (fun q => c q.2)]
    · rw [if_neg a, if_pos rfl, if_neg (fun q => a q.1)]
  · exact pl_uniq h hi hj a.1.1 c.1.1 (by rw [a.1.2]; exact hx) (c.1.2.trans a.1.2.symm) (a.2.trans c.2.symm)
theorem de_eq (h : RelY σ (M_z τ) T) {k : Nat} (hk : k < 20) (hb : ZB (M_z τ) k 0 = 1) (x : Int32) : mX2_isDeepEnough σ (nI k) x = if ZB (M_z τ) k 2 ≤ mX4_tideAt τ x then 1 else 0 := by
  unfold mX2_isDeepEnough
  rw [tide_eq h, fa1 hk, show FY σ k 1 = ZB (M_z τ) k 2 from (h.p hk hb).1.2.1]
  by_cases c : ZB (M_z τ) k 2 ≤ mX4_tideAt τ x
  · rw [if_pos c, if_neg (nlt_le.mpr c)]
  · rw [if_neg c, if_pos (nle_lt.mp c)]
theorem cb_eq (h : RelY σ (M_z τ) T) {k : Nat} (hk : k < 20) (hb : ZB (M_z τ) k 0 = 1) : mX2_craneBears σ (nI k) = if ZB (M_z τ) k 3 ≤ M_z τ (4 : Int32).toNatClampNeg then 1 else 0 := by
  unfold mX2_craneBears
  rw [fa2 hk, show FY σ k 2 = ZB (M_z τ) k 3 from (h.p hk hb).1.2.2.1, show Y_settings σ (2 : Int32).toNatClampNeg = M_z τ (4 : Int32).toNatClampNeg from h.1.2.2.2.1.2.2]
  by_cases c : ZB (M_z τ) k 3 ≤ M_z τ (4 : Int32).toNatClampNeg
  · rw [if_pos c, if_neg (nlt_le.mpr c)]
  · rw [if_neg c, if_pos (nle_lt.mp c)]
theorem hm_eq (h : RelY σ (M_z τ) T) {k : Nat} (hk : k < 20) (hb : ZB (M_z τ) k 0 = 1) : mX2_hasMast σ (nI k) = if ZB (M_z τ) k 7 = -5 then 1 else 0 := by
  unfold mX2_hasMast
  rw [fa7 hk, show FY σ k 7 = ZB (M_z τ) k 7 from (h.p hk hb).1.2.2.2.2.2.2.1]
theorem day_eq (h : RelY σ (M_z τ) T) : Y_day σ = M_z τ (0 : Int32).toNatClampNeg := h.1.1.1
theorem wl_eq (h : RelY σ (M_z τ) T) {k r : Nat} (hk : k < 20) (hb : ZB (M_z τ) k 0 = 1) (hr : r < 4) : mX2_whyNoLift σ (nI k) (nI r) = mX4_whyNoLift τ (nI k) (nI r) := by
  unfold mX2_whyNoLift mX4_whyNoLift
  rw [as_eq h hk hb, de_eq h hk hb, day_eq h, cb_eq h hk hb, cf_eq h hk hb, hr_eq h hk hb hr, hm_eq h hk hb, left_eq h, fa0 hk, show FY σ k 0 = ZB (M_z τ) k 1 from (h.p hk hb).1.1, zo2 hk, zo3 hk, zo1 hk, zo7 hk]
  have l0 := left_le0 h
  by_cases c1 : mX4_isAshore τ (nI k) = 0
  · rw [if_pos c1, if_pos c1]
    by_cases c2 : ZB (M_z τ) k 2 ≤ mX4_tideAt τ (M_z τ (0 : Int32).toNatClampNeg)
    · rw [if_pos c2, if_pos c2, if_neg one_ne]
      by_cases c3 : ZB (M_z τ) k 3 ≤ M_z τ (4 : Int32).toNatClampNeg
      · rw [if_pos c3, if_pos c3, if_neg one_ne]
        by_cases c4 : mX4_cradleFor τ (nI k) = -5
        · rw [if_pos c4, if_pos c4]
        · rw [if_neg c4, if_neg c4]
          by_cases c5 : mX4_hasRoom τ (nI k) (nI r) = 0
          · rw [if_pos c5, if_pos c5]
          · rw [if_neg c5, if_neg c5]
            simp only [l0]
            by_cases c6 : ZB (M_z τ) k 7 = -5
            · rw [if_pos c6, if_neg one_ne, if_pos c6]
            · rw [if_neg c6, if_pos rfl, if_neg c6]
              simp only [ite_self]
      · rw [if_neg c3, if_neg c3, if_pos rfl]
    · rw [if_neg c2, if_neg c2, if_pos rfl]
  · rw [if_neg c1, if_neg c1]
theorem wla_eq (h : RelY σ (M_z τ) T) {k : Nat} (hk : k < 20) (hb : ZB (M_z τ) k 0 = 1) : mX2_whyNoLaunch σ (nI k) = mX4_whyNoLaunch τ (nI k) := by
  unfold mX2_whyNoLaunch mX4_whyNoLaunch
  rw [as_eq h hk hb, de_eq h hk hb, day_eq h, cb_eq h hk hb, left_eq h, fa8 hk, show FY σ k 8 = ZB (M_z τ) k 8 from (h.p hk hb).1.2.2.2.2.2.2.2.1, zo2 hk, zo3 hk, zo8 hk]
  have l0 := left_le0 h
  by_cases c1 : mX4_isAshore τ (nI k) = 0
  · rw [if_pos c1, if_pos c1]
  · rw [if_neg c1, if_neg c1]
    obtain ⟨r, hr, e5⟩ := z5_get h hk hb c1
    rw [fo_eq h hk hb (by rw [e5]; exact ge0 (by omega))]
    by_cases c2 : ZB (M_z τ) k 2 ≤ mX4_tideAt τ (M_z τ (0 : Int32).toNatClampNeg)
    · rw [if_pos c2, if_pos c2, if_neg one_ne]
      by_cases c3 : ZB (M_z τ) k 3 ≤ M_z τ (4 : Int32).toNatClampNeg
      · rw [if_pos c3, if_pos c3, if_neg one_ne]
        simp only [l0]
      · rw [if_neg c3, if_neg c3, if_pos rfl]
    · rw [if_neg c2, if_neg c2, if_pos rfl]
theorem rf_eq (h : RelY σ (M_z τ) T) {k : Nat} (hk : k < 20) (hb : ZB (M_z τ) k 0 = 1) : mX2_rackFor σ (nI k) = mX4_rackFor τ (nI k) := by
  unfold mX2_rackFor mX4_rackFor
  rw [fa0 hk, show FY σ k 0 = ZB (M_z τ) k 1 from (h.p hk hb).1.1, zo1 hk, mi_eq h (x := 1) (by decide), mi_eq h (x := 0) (by decide)]
theorem rf_rng {k : Nat} : mX4_rackFor τ (nI k) = -5 ∨ mX4_rackFor τ (nI k) = 0 ∨ mX4_rackFor τ (nI k) = 1 := by
  unfold mX4_rackFor
  split
  · split
    · exact Or.inl rfl
    · exact Or.inr (Or.inr rfl)
  · split
    · split
      · exact Or.inl rfl
      · exact Or.inr (Or.inr rfl)
    · exact Or.inr (Or.inl rfl)
end REL2
