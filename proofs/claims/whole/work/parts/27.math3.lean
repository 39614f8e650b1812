/-! rows to stand in, the day of the launch, the counts -/
def dn (P : Nat → Prop) [DecidablePred P] (v : Nat → Int32) : Nat → Int32 → Int32
  | 0, acc => acc
  | m + 1, acc => dn P v m (if P m then v m else acc)
def upf (P : Nat → Prop) [DecidablePred P] (v : Nat → Int32) (d : Int32) : Nat → Nat → Int32
  | 0, _ => d
  | c + 1, i => if P i then v i else upf P v d c (i + 1)
theorem dn_none {P : Nat → Prop} [DecidablePred P] {v : Nat → Int32} {m : Nat} : ∀ {acc : Int32}, (∀ i, i < m → ¬ P i) → dn P v m acc = acc := by
  induction m with
  | zero => intro acc _; rfl
  | succ m ih =>
    intro acc h
    show dn P v m (if P m then v m else acc) = acc
    rw [if_neg (h m (Nat.lt_succ_self m))]
    exact ih (fun i hi => h i (Nat.lt_succ_of_lt hi))
theorem dn_first {P : Nat → Prop} [DecidablePred P] {v : Nat → Int32} {i : Nat} (hP : P i) (hn : ∀ j, j < i → ¬ P j) {m : Nat} : ∀ {acc : Int32}, i < m → dn P v m acc = v i := by
  induction m with
  | zero => intro acc h; omega
  | succ m ih =>
    intro acc h
    show dn P v m (if P m then v m else acc) = v i
    by_cases e : i = m
    · subst e
      rw [if_pos hP]
      exact dn_none hn
    · exact ih (by omega)
theorem up_none {P : Nat → Prop} [DecidablePred P] {v : Nat → Int32} {d : Int32} {c : Nat} : ∀ {i : Nat}, (∀ j, i ≤ j → j < i + c → ¬ P j) → upf P v d c i = d := by
  induction c with
  | zero => intro i _; rfl
  | succ c ih =>
    intro i h
    show (if P i then v i else upf P v d c (i + 1)) = d
    rw [if_neg (h i (Nat.le_refl i) (by omega))]
    exact ih (fun j h1 h2 => h j (by omega) (by omega))
theorem up_first {P : Nat → Prop} [DecidablePred P] {v : Nat → Int32} {d : Int32} {k : Nat} (hP : P k) {c : Nat} : ∀ {i : Nat}, i ≤ k → k < i + c → (∀ j, i ≤ j → j < k → ¬ P j) → upf P v d c i = v k := by
  induction c with
  | zero => intro i h1 h2; omega
  | succ c ih =>
    intro i h1 h2 hn
    show (if P i then v i else upf P v d c (i + 1)) = v k
    by_cases e : i = k
    · subst e; rw [if_pos hP]
    · rw [if_neg (hn i (Nat.le_refl i) (by omega))]
      exact ih (by omega) (by omega) (fun j h1 h2 => hn j (by omega) h2)
theorem has_first (P : Nat → Prop) [DecidablePred P] (m : Nat) : (∀ i, i < m → ¬ P i) ∨ ∃ i, i < m ∧ P i ∧ ∀ j, j < i → ¬ P j := by
  induction m with
  | zero => exact Or.inl (fun i h => by omega)
  | succ m ih =>
    rcases ih with h | ⟨i, h1, h2, h3⟩
    · by_cases c : P m
      · exact Or.inr ⟨m, Nat.lt_succ_self m, c, h⟩
      · refine Or.inl (fun i hi => ?_)
        by_cases e : i = m
        · subst e; exact c
        · exact h i (by omega)
    · exact Or.inr ⟨i, Nat.lt_succ_of_lt h1, h2, h3⟩
section REL3
variable {σ : YS} {τ : MS} {T : Nat}
theorem st_eq (h : RelY σ (M_z τ) T) {k : Nat} (hk : k < 20) (hb : ZB (M_z τ) k 0 = 1) (x : Int32) : mX2_standsIn σ (nI k) x = if x = mX4_of τ (nI k) 5 then 1 else 0 := by
  unfold mX2_standsIn
  rw [fa4 hk, zo5 hk, show FY σ k 4 = ZB (M_z τ) k 5 from (h.p hk hb).1.2.2.2.2.1]
  by_cases c : ZB (M_z τ) k 5 = x
  · rw [if_pos c, if_pos c.symm]
  · rw [if_neg c, if_neg (fun e => c e.symm)]
theorem br_eq (h : RelY σ (M_z τ) T) {k : Nat} (hk : k < 20) (hb : ZB (M_z τ) k 0 = 1) : mX2_tightestRow σ (nI k) = mX4_bestRow_L15 τ (nI k) 6 0 (-5) := by
  have key : ∀ d i, i + d = 4 → ∀ u : Int32, (u = -5 ∨ ∃ r, r < 4 ∧ u = nI r) → mX2_tightestRow_L5 σ (nI k) (d + 1 + 1) (nI i) u = mX4_bestRow_L15 τ (nI k) (d + 1 + 1) (nI i) u := by
    intro d
    induction d with
    | zero =>
      intro i hi u hu
      have hi : i = 4 := by omega
      subst hi
      have e : (4 : Int32) ≤ nI 4 := nI_le (a := 4) (Nat.le_refl 4) (by decide)
      simp only [mX2_tightestRow_L5, mX4_bestRow_L15, if_pos e]
    | succ d ih =>
      intro i hi u hu
      have e : ¬ (4 : Int32) ≤ nI i := nI_ge (b := 4) (by omega) (by decide)
      have hi4 : i < 4 := by omega
      rw [mX2_tightestRow_L5, mX4_bestRow_L15, if_neg e, if_neg e, st_eq h hk hb, hr_eq h hk hb hi4, nI1]
      have i1 := ih (i + 1) (by omega) u hu
      have i2 := ih (i + 1) (by omega) (nI i) (Or.inr ⟨i, hi4, rfl⟩)
      rw [i1, i2]
      by_cases c : nI i = mX4_of τ (nI k) 5
      · rw [if_pos c, if_neg one_ne, if_pos c]
      · rw [if_neg c, if_pos rfl, if_neg c]
        by_cases c2 : mX4_hasRoom τ (nI k) (nI i) = 0
        · rw [if_pos c2, if_pos c2]
        · rw [if_neg c2, if_neg c2]
          rcases hu with q | ⟨r, hr, q⟩
          · rw [q, if_pos rfl, if_pos (by decide)]
          · rw [q, if_neg (m5_ne (ge0 (by omega))), if_neg (nI_pos (by omega)), ml_eq h hr, ml_eq h hi4]
  exact key 4 0 (by omega) (-5) (Or.inl rfl)
/-- a day on which a boat ashore could be launched -/
abbrev okd (τ : MS) (k i : Nat) : Prop := (0 < i ∨ ¬ mX4_liftsLeft τ ≤ 0) ∧ ZB (M_z τ) k 2 ≤ mX4_tideAt τ (M_z τ (0 : Int32).toNatClampNeg + nI i)
abbrev okm (τ : MS) (k i : Nat) : Prop := okd τ k i ∧ ¬ nI i < ZB (M_z τ) k 8 ∧ ¬ M_z τ (4 : Int32).toNatClampNeg < ZB (M_z τ) k 3
theorem ld4 {k : Nat} (hk : k < 20) (ha : ¬ mX4_isAshore τ (nI k) = 0) : ∀ (m : Nat) (acc : Int32) (f : Nat), m ≤ 200 → mX4_launchDay_L17 τ (nI k) (m + 2 + f) (nI m) acc = dn (okm τ k) (fun i => M_z τ (0 : Int32).toNatClampNeg + nI i) (m + 1) acc := by
  intro m
  have step : ∀ (m : Nat) (acc : Int32) (n : Nat), m ≤ 200 → mX4_launchDay_L17 τ (nI k) (n + 1) (nI m) acc = mX4_launchDay_L17 τ (nI k) n (nI m + (-1)) (if okm τ k m then M_z τ (0 : Int32).toNatClampNeg + nI m else acc) := by
    intro m acc n hm
    rw [mX4_launchDay_L17, if_neg (nI_pos (by omega)), if_neg ha, zo8 hk, zo3 hk, zo2 hk]
    by_cases c1 : (0 : Int32) < nI m
    · have c1' : 0 < m := by
        rw [lt_ti, nI_ti (by omega)] at c1
        have : (0 : Int) < (m : Int) := c1
        omega
      rw [if_pos c1]
      by_cases c2 : nI m < ZB (M_z τ) k 8
      · rw [if_pos c2, if_neg (fun q => q.2.1 c2)]
      · rw [if_neg c2]
        by_cases c3 : M_z τ (4 : Int32).toNatClampNeg < ZB (M_z τ) k 3
        · rw [if_pos c3, if_neg (fun q => q.2.2 c3)]
        · rw [if_neg c3]
          by_cases c4 : mX4_tideAt τ (M_z τ (0 : Int32).toNatClampNeg + nI m) < ZB (M_z τ) k 2
          · rw [if_pos c4, if_neg (fun q => (nle_lt.mpr c4) q.1.2)]
          · rw [if_neg c4, if_pos ⟨⟨Or.inl c1', nlt_le.mp c4⟩, c2, c3⟩]
    · have c1' : ¬ 0 < m := fun c => by
        rw [lt_ti, nI_ti (by omega)] at c1
        have : ¬ (0 : Int) < (m : Int) := c1
        omega
      rw [if_neg c1]
      by_cases c0 : mX4_liftsLeft τ ≤ 0
      · rw [if_pos c0, if_neg (fun q => q.1.1.elim c1' (fun z => z c0))]
      · rw [if_neg c0]
        by_cases c2 : nI m < ZB (M_z τ) k 8
        · rw [if_pos c2, if_neg (fun q => q.2.1 c2)]
        · rw [if_neg c2]
          by_cases c3 : M_z τ (4 : Int32).toNatClampNeg < ZB (M_z τ) k 3
          · rw [if_pos c3, if_neg (fun q => q.2.2 c3)]
          · rw [if_neg c3]
            by_cases c4 : mX4_tideAt τ (M_z τ (0 : Int32).toNatClampNeg + nI m) < ZB (M_z τ) k 2
            · rw [if_pos c4, if_neg (fun q => (nle_lt.mpr c4) q.1.2)]
            · rw [if_neg c4, if_pos ⟨⟨Or.inr c0, nlt_le.mp c4⟩, c2, c3⟩]
  induction m with
  | zero =>
    intro acc f _
    rw [show 0 + 2 + f = (f + 1) + 1 by omega, step 0 acc _ (by omega), show nI 0 + (-1) = -1 from rfl, mX4_launchDay_L17, if_pos (by decide)]
    rfl
  | succ m ih =>
    intro acc f hm
    rw [show m + 1 + 2 + f = (m + 2 + f) + 1 by omega, step (m + 1) acc _ hm, show nI (m + 1) + (-1) = nI m by rw [nI_succ]; grind]
    exact ih _ f (by omega)
theorem ld2 (h : RelY σ (M_z τ) T) {k : Nat} (hk : k < 20) (hb : ZB (M_z τ) k 0 = 1) : ∀ (c i f : Nat), i + c = 201 → mX2_firstLaunchDay_L19 σ (nI k) (c + 1 + f) (nI i) = upf (okd τ k) (fun i => M_z τ (0 : Int32).toNatClampNeg + nI i) (-5) c i := by
  intro c
  induction c with
  | zero =>
    intro i f hi
    have hi : i = 201 := by omega
    subst hi
    rw [show 0 + 1 + f = f + 1 by omega, mX2_firstLaunchDay_L19, if_pos (show (200 : Int32) < nI 201 from nI_lt (a := 200) (b := 201) (by decide) (by decide))]
    rfl
  | succ c ih =>
    intro i f hi
    have i1 := ih (i + 1) f (by omega)
    rw [show c + 1 + 1 + f = (c + 1 + f) + 1 by omega, mX2_firstLaunchDay_L19, if_neg (show ¬ (200 : Int32) < nI i from nI_nlt (b := i) (a := 200) (by omega) (by decide)), nI1, i1, de_eq h hk hb, day_eq h, left_eq h]
    show _ = (if okd τ k i then _ else _)
    by_cases c1 : (0 : Int32) < nI i
    · have c1' : 0 < i := by
        rw [lt_ti, nI_ti (by omega)] at c1
        have : (0 : Int) < (i : Int) := c1
        omega
      rw [if_pos c1]
      by_cases c4 : ZB (M_z τ) k 2 ≤ mX4_tideAt τ (M_z τ (0 : Int32).toNatClampNeg + nI i)
      · rw [if_pos c4, if_neg one_ne, if_pos ⟨Or.inl c1', c4⟩]
      · rw [if_neg c4, if_pos rfl, if_neg (fun q => c4 q.2)]
    · have c1' : ¬ 0 < i := fun c => by
        rw [lt_ti, nI_ti (by omega)] at c1
        have : ¬ (0 : Int) < (i : Int) := c1
        omega
      rw [if_neg c1]
      by_cases c0 : mX4_liftsLeft τ ≤ 0
      · rw [if_pos c0, if_neg (fun q => q.1.elim c1' (fun z => z c0))]
      · rw [if_neg c0]
        by_cases c4 : ZB (M_z τ) k 2 ≤ mX4_tideAt τ (M_z τ (0 : Int32).toNatClampNeg + nI i)
        · rw [if_pos c4, if_neg one_ne, if_pos ⟨Or.inr c0, c4⟩]
        · rw [if_neg c4, if_pos rfl, if_neg (fun q => c4 q.2)]
theorem ld_eq (h : RelY σ (M_z τ) T) {k : Nat} (hk : k < 20) (hb : ZB (M_z τ) k 0 = 1) (ha : ¬ mX4_isAshore τ (nI k) = 0) : mX2_firstLaunchDay σ (nI k) = mX4_launchDay_L17 τ (nI k) 202 200 (-5) := by
  have e4 := ld4 (τ := τ) hk ha 200 (-5) 0 (Nat.le_refl _)
  refine Eq.trans ?_ (show mX4_launchDay_L17 τ (nI k) 202 200 (-5) = _ from e4).symm
  unfold mX2_firstLaunchDay
  rw [cb_eq h hk hb, fa8 hk, show FY σ k 8 = ZB (M_z τ) k 8 from (h.p hk hb).1.2.2.2.2.2.2.2.1]
  by_cases c3 : ZB (M_z τ) k 3 ≤ M_z τ (4 : Int32).toNatClampNeg
  · rw [if_pos c3, if_neg one_ne]
    have g8 := (h.p hk hb).2.1.2.2.2.2.2.1
    obtain ⟨w, hw, e8⟩ := vp_in_of (in_iff.mpr (show 0 ≤ (ZB (M_z τ) k 8).toInt ∧ (ZB (M_z τ) k 8).toInt < ((100 : Nat) : Int) by omega)) (by decide)
    rw [show mX2_firstLaunchDay_L19 σ (nI k) 202 (ZB (M_z τ) k 8) = mX2_firstLaunchDay_L19 σ (nI k) 202 (nI w) from congrArg _ e8]
    have e2 := ld2 h hk hb (201 - w) w w (by omega)
    rw [show 201 - w + 1 + w = 202 by omega] at e2
    rw [e2]
    have c3' := nlt_le.mpr c3
    have lt8 : ∀ i, i < 201 → (¬ nI i < nI w ↔ w ≤ i) := fun i hi => by rw [lt_ti, nI_ti (by omega), nI_ti (by omega)]; omega
    rcases has_first (okm τ k) 201 with hn | ⟨i, h1, h2, h3⟩
    · rw [dn_none hn]
      refine up_none (fun j j1 j2 c => hn j (by omega) ⟨c, ?_, c3'⟩)
      rw [e8]; exact (lt8 j (by omega)).mpr j1
    · rw [dn_first h2 h3 h1]
      have hw2 : w ≤ i := (lt8 i h1).mp (by rw [← e8]; exact h2.2.1)
      refine up_first h2.1 hw2 (by omega) (fun j j1 j2 c => h3 j j2 ⟨c, ?_, c3'⟩)
      rw [e8]; exact (lt8 j (by omega)).mpr j1
  · rw [if_neg c3, if_pos rfl]
    exact (dn_none (fun i _ c => c.2.2 (nle_lt.mp c3))).symm
theorem cn4 (x : Int32) : mX4_count τ x = mX4_count_L7 τ x 2 (nI 20) (sm (fun i => if ZB (M_z τ) i 0 = 1 ∧ ¬ ZB (M_z τ) i 8 ≤ 0 then 1 else 0) 20) (sm (fun i => if ZB (M_z τ) i 0 = 1 ∧ ¬ ZB (M_z τ) i 5 < 0 then 1 else 0) 20) := by
  have key : ∀ d i, i + d = 20 → mX4_count_L7 τ x (d + 2) (nI i) (sm (fun i => if ZB (M_z τ) i 0 = 1 ∧ ¬ ZB (M_z τ) i 8 ≤ 0 then 1 else 0) i) (sm (fun i => if ZB (M_z τ) i 0 = 1 ∧ ¬ ZB (M_z τ) i 5 < 0 then 1 else 0) i) = mX4_count_L7 τ x 2 (nI 20) (sm (fun i => if ZB (M_z τ) i 0 = 1 ∧ ¬ ZB (M_z τ) i 8 ≤ 0 then 1 else 0) 20) (sm (fun i => if ZB (M_z τ) i 0 = 1 ∧ ¬ ZB (M_z τ) i 5 < 0 then 1 else 0) 20) := by
    intro d
    induction d with
    | zero =>
      intro i hi
      have hi : i = 20 := by omega
      subst hi
      rfl
    | succ d ih =>
      intro i hi
      have hi20 : i < 20 := by omega
      have i1 := ih (i + 1) (by omega)
      rw [show d + 1 + 2 = (d + 2) + 1 by omega, mX4_count_L7, if_neg (i20 hi20), zo0 hi20, zo8 hi20, nI1]
      unfold mX4_isAshore
      rw [zo5 hi20, ← i1]
      simp only [sm]
      by_cases a : ZB (M_z τ) i 0 = 1
      · by_cases b : ZB (M_z τ) i 5 < 0
        · by_cases c : ZB (M_z τ) i 8 ≤ 0
          · rw [if_pos a, if_pos b, if_pos rfl, if_pos a, if_pos c, if_neg (fun q => q.2 c), if_neg (fun q => q.2 b)]
          · rw [if_pos a, if_pos b, if_pos rfl, if_pos a, if_neg c, if_pos ⟨a, c⟩, if_neg (fun q => q.2 b)]
        · by_cases c : ZB (M_z τ) i 8 ≤ 0
          · rw [if_pos a, if_neg b, if_neg one_ne, if_pos a, if_pos c, if_neg (fun q => q.2 c), if_pos ⟨a, b⟩]
          · rw [if_pos a, if_neg b, if_neg one_ne, if_pos a, if_neg c, if_pos ⟨a, c⟩, if_pos ⟨a, b⟩]
      · rw [if_neg a, if_neg a, if_neg (fun q => a q.1), if_neg (fun q => a q.1)]
  exact key 20 0 (by omega)
end REL3
