/-! a step of a boat: a lift, a launch, a move -/
theorem QG.crane {Y Y' : YS} {γ γ' : LAS} {T : Nat} (h : QG Y γ T) (hT : T < 200) (y1 : Y_day Y' = Y_day Y) (y2 : Y_liftsToday Y' = Y_liftsToday Y + 1) (y3 : Y_lifts Y' = Y_lifts Y + 1) (y4 : Y_launches Y' = L_g γ' 6) (y5 : Y_settings Y' = Y_settings Y) (y6 : Y_cradles Y' = Y_cradles Y) (y7 : Y_metres Y' = Y_metres Y) (g1 : L_g γ' 1 = L_g γ 1 + 1) (g5 : L_g γ' 5 = L_g γ 5 + 1) (gz : ∀ i, i ≠ 1 → i ≠ 5 → i ≠ 6 → L_g γ' i = L_g γ i) : QG Y' γ' (T + 1) := by
  obtain ⟨⟨a1, a2, a3⟩, ⟨b1, b2, b3⟩, c, d, e, f⟩ := h
  have e1 : (L_g γ 1 + 1).toInt = (L_g γ 1).toInt + 1 := up_add (d := 1) (k := 1) (M := 200) rfl b2 (by omega) (by decide) (by decide)
  unfold QG
  rw [gz 0 (by decide) (by decide) (by decide), g1, g5, gz 2 (by decide) (by decide) (by decide), gz 3 (by decide) (by decide) (by decide), gz 4 (by decide) (by decide) (by decide), e1, y1, y2, y3, y4, y5, y6, y7]
  refine ⟨⟨a1, a2, by omega⟩, ⟨by rw [b1], by omega, by omega⟩, ⟨by rw [c.1], rfl⟩, ⟨fun j hj => ?_, d.2⟩, fun j hj => ?_, fun j hj => ?_⟩
  · rw [gz (2 + j) (by omega) (by omega) (by omega)]; exact d.1 j hj
  · rw [gz (7 + j) (by omega) (by omega) (by omega)]; exact e j hj
  · rw [gz (10 + j) (by omega) (by omega) (by omega)]; exact f j hj
theorem lr_zero {γ : LAS} {x y : Int32} (c : mL_liftReason γ x y ≤ 0) : mL_liftReason γ x y = 0 ∧ 0 ≤ mL_cradle γ x := by
  unfold mL_liftReason at c ⊢
  split at c
  · split at c
    · split at c
      · split at c
        · rename_i h1 h2 h3 h4
          refine ⟨?_, h4⟩
          rw [if_pos h1, if_pos h2, if_pos h3, if_pos h4]
          split at c
          · rename_i h5
            rw [if_pos h5]
            split at c
            · rename_i h6
              rw [if_pos h6]
              split at c
              · exact absurd c (by decide)
              · rename_i h7; rw [if_neg h7]
            · rename_i h6
              rw [if_neg h6]
              split at c
              · rename_i h7
                rw [if_pos h7]
                split at c
                · exact absurd c (by decide)
                · rename_i h8; rw [if_neg h8]
              · exact absurd c (by decide)
          · exact absurd c (by decide)
        · exact absurd c (by decide)
      · exact absurd c (by decide)
    · exact absurd c (by decide)
  · exact absurd c (by decide)
theorem la_zero {γ : LAS} {x : Int32} (c : mL_launchReason γ x ≤ 0) : mL_launchReason γ x = 0 ∧ ((L_r γ) (7 * (mL_of γ x 5)).toNatClampNeg) - 1 ≤ mL_place γ x := by
  unfold mL_launchReason at c ⊢
  split at c
  · split at c
    · split at c
      · rename_i h1 h2 h3
        refine ⟨?_, h3⟩
        rw [if_pos h1, if_pos h2, if_pos h3]
        split at c
        · rename_i h4
          rw [if_pos h4]
          split at c
          · rename_i h5
            rw [if_pos h5]
            split at c
            · exact absurd c (by decide)
            · rename_i h7; rw [if_neg h7]
          · exact absurd c (by decide)
        · exact absurd c (by decide)
      · exact absurd c (by decide)
    · exact absurd c (by decide)
  · exact absurd c (by decide)
theorem st_r {γ : LAS} {i k m : Nat} (hi : i < 4) (hm : m ≤ 5) (h0 : RR (L_r γ) i 0 = nI m) {a c : Nat} (hc : c < 7) : RR (L_r (mL_stand γ (nI k) (nI i))) a c = if a = i ∧ c = m + 1 then nI k else if a = i ∧ c = 0 then nI (m + 1) else RR (L_r γ) a c := by
  have e : L_r (mL_stand γ (nI k) (nI i)) = upd (upd (L_r γ) (7 * i + 0) (nI (m + 1))) (7 * i + (m + 1)) (nI k) := by
    show upd (upd (L_r γ) (7 * nI i).toNatClampNeg (((L_r γ) (7 * nI i).toNatClampNeg) + 1)) ((7 * nI i) + ((upd (L_r γ) (7 * nI i).toNatClampNeg (((L_r γ) (7 * nI i).toNatClampNeg) + 1)) (7 * nI i).toNatClampNeg)).toNatClampNeg (nI k) = _
    rw [upd_same, ixr0 hi, show L_r γ (7 * i + 0) = nI m from h0, nI1, ixr hi (by omega)]
  rw [e, RR_upd (by omega) hc, RR_upd (by decide) hc]
theorem st_b {γ : LAS} {i k : Nat} (hk : k < 6) : L_b (mL_stand γ (nI k) (nI i)) = upd (L_b γ) (10 * k + 5) (nI i) := by
  show upd (L_b γ) ((10 * nI k) + 5).toNatClampNeg (nI i) = _
  rw [show ((10 * nI k) + 5).toNatClampNeg = 10 * k + 5 from ixb (w := 5) hk (by decide)]
section BT
variable {Y : YS} {γ γ' : LAS} {T : Nat} {n : Nat → Nat} {q : Nat → Nat → Nat}
theorem bi_note6 (h : RelQ Y γ T n q) {k i : Nat} (hk : k < 6) (hi : i < 4) (cc : Int32) : mX2_boatsIn (mX2_note Y (nI k) 6 cc) (nI i) = nI (n i) := by
  rw [← rd_in h.2.1 h.2.2.1 hi, show mX2_boatsIn (mX2_note Y (nI k) 6 cc) (nI i) = _ from bw_sm (w := 4) (by decide) (nI i), show mX2_boatsIn Y (nI i) = _ from bw_sm (w := 4) (by decide) (nI i)]
  refine sm_congr fun j hj => ?_
  have e : FY (mX2_note Y (nI k) 6 cc) j 4 = FY Y j 4 := by rw [fn6 (by omega) (by decide), if_neg (fun c => absurd c.2 (by decide))]
  simp only [e]
theorem lift_rel (h : RelQ Y γ T n q) (hT : T < 100) {k i c : Nat} (hk : k < 6) (h0 : ¬ BB (L_b γ) k 0 = 0) (h5 : BB (L_b γ) k 5 < 0) (hi : i < 4) (hc : c < 3)
    (hB : ∀ j u, u < 10 → BB (L_b γ') j u = if j = k ∧ u = 5 then nI i else if j = k ∧ u = 9 then 0 else if j = k ∧ u = 6 then nI c else BB (L_b γ) j u) (ht : ∀ j, L_t γ' j = if j = k then L_t γ k + 1 else L_t γ j)
    (hr : ∀ a, a < 4 → ∀ c, c < 7 → RR (L_r γ') a c = if a = i ∧ c = n i + 1 then nI k else if a = i ∧ c = 0 then nI (n i + 1) else RR (L_r γ) a c)
    (g1 : L_g γ' 1 = L_g γ 1 + 1) (g5 : L_g γ' 5 = L_g γ 5 + 1) (gz : ∀ i, i ≠ 1 → i ≠ 5 → L_g γ' i = L_g γ i) : RelQ (lfY Y (nI k) (nI i) (nI c)) γ' (T + 1) (nUp n i) (qUp q n i k) := by
  obtain ⟨pE, pV, pM, pS⟩ := rq_p h hk h0
  have p0 := ((h.2.2.1.1 k hk).p h0).1
  have hs : BB (L_b γ) k 5 = -1 ∧ FY Y k 4 = -5 ∧ FY Y k 5 = -5 ∧ FY Y k 6 = -5 ∧ FY Y k 9 = 0 := by
    rcases pS with s | ⟨⟨i, hi, s1, s2⟩, _⟩
    · exact s
    · rw [s1] at h5
      exact absurd h5 (nge (by omega))
  have hF : ∀ j u, u < 11 → FY (lfY Y (nI k) (nI i) (nI c)) j u = if j = k ∧ u = 10 then FY Y k 10 + 1 else if j = k ∧ u = 4 then nI i else if j = k ∧ u = 5 then nI (n i) else if j = k ∧ u = 6 then nI c else FY Y j u := fun j u hu => by
    rw [lfY_f (by omega) _ _ hu, bi_note6 h hk hi]
  have hn5 : n i ≤ 5 := rd_n5 h.2.1 h.2.2.1 hi hk (fun e => by
    rw [hs.1] at e
    exact nIm1 (by omega) e.symm)
  refine ⟨h.1.crane h.2.2.2 rfl rfl rfl (h.1.2.2.1.2.trans (gz 6 (by decide) (by decide)).symm) rfl rfl rfl g1 g5 (fun i h1 h5 _ => gz i h1 h5), h.2.1.stand hi hn5 hk hr, ?_, by omega⟩
  have bk : ∀ u, u < 10 → BB (L_b γ') k u = if u = 5 then nI i else if u = 9 then 0 else if u = 6 then nI c else BB (L_b γ) k u := fun u hu => by
    rw [hB k u hu]; simp only [true_and]
  have fk : ∀ u, u < 11 → FY (lfY Y (nI k) (nI i) (nI c)) k u = if u = 10 then FY Y k 10 + 1 else if u = 4 then nI i else if u = 5 then nI (n i) else if u = 6 then nI c else FY Y k u := fun u hu => by
    rw [hF k u hu]; simp only [true_and]
  refine h.2.2.1.mk1 (k := k) (fun j _ hj w hw => by rw [hF j w hw, if_neg (fun z => hj z.1), if_neg (fun z => hj z.1), if_neg (fun z => hj z.1), if_neg (fun z => hj z.1)]) (fun j _ hj w hw => by rw [hB j w hw, if_neg (fun z => hj z.1), if_neg (fun z => hj z.1), if_neg (fun z => hj z.1)]) (fun j _ hj => by rw [ht j, if_neg hj]) hk ?_ ?_
  · obtain ⟨c4, hc4, eK⟩ := (h.2.2.1.1 k hk).1
    have e10 : L_t γ' k = L_t γ k + 1 := by rw [ht k, if_pos rfl]
    refine ⟨⟨c4, hc4, (bk 4 (by decide)).trans eK⟩, Or.inr ⟨(bk 0 (by decide)).trans p0, ?_, ?_, ?_, Or.inr ⟨⟨i, hi, bk 5 (by decide), fk 4 (by decide)⟩, ⟨c, hc, bk 6 (by decide), fk 6 (by decide)⟩, ?_⟩⟩⟩
    · exact ⟨(fk 0 (by decide)).trans (pE.1.trans (bk 1 (by decide)).symm), (fk 1 (by decide)).trans (pE.2.1.trans (bk 2 (by decide)).symm), (fk 2 (by decide)).trans (pE.2.2.1.trans (bk 3 (by decide)).symm), (fk 3 (by decide)).trans (pE.2.2.2.1.trans (bk 4 (by decide)).symm), (fk 8 (by decide)).trans (pE.2.2.2.2.1.trans (bk 8 (by decide)).symm), by rw [fk 10 (by decide), if_pos rfl, e10, show FY Y k 10 = _ from pE.2.2.2.2.2]⟩
    · unfold QV
      rw [bk 1 (by decide), bk 2 (by decide), bk 3 (by decide), bk 8 (by decide)]
      exact pV
    · rcases pM with m | ⟨c7, hc7, m1, m2⟩
      · exact Or.inl ⟨(bk 7 (by decide)).trans m.1, (fk 7 (by decide)).trans m.2⟩
      · exact Or.inr ⟨c7, hc7, (bk 7 (by decide)).trans m1, (fk 7 (by decide)).trans m2⟩
    · exact (fk 9 (by decide)).trans (hs.2.2.2.2.trans (bk 9 (by decide)).symm)
  · refine h.2.2.1.w.stand hk hi (fun j _ hj => by rw [hB j 0 (by decide), if_neg (fun z => hj z.1), if_neg (fun z => hj z.1), if_neg (fun z => hj z.1)]) (fun j _ hj => by rw [hB j 5 (by decide), if_neg (fun z => hj z.1), if_neg (fun z => hj z.1), if_neg (fun z => hj z.1)]) (fun j _ hj => by rw [hF j 5 (by decide), if_neg (fun z => hj z.1), if_neg (fun z => hj z.1), if_neg (fun z => hj z.1), if_neg (fun z => hj z.1)]) ?_ ((bk 0 (by decide)).trans p0) (bk 5 (by decide)) (fk 5 (by decide))
    rintro ⟨_, i, hi, e⟩
    rw [hs.1] at e
    exact nIm1 (by omega) e.symm
theorem launch_rel (h : RelQ Y γ T n q) (hT : T < 100) {k i j : Nat} (hk : k < 6) (h0 : ¬ BB (L_b γ) k 0 = 0) (hi : i < 4) (hj : j < n i) (hq : q i j = k) (hl : n i ≤ j + 1)
    (hB : ∀ j u, u < 10 → BB (L_b γ') j u = if j = k ∧ u = 9 then 0 else if j = k ∧ u = 6 then -1 else if j = k ∧ u = 5 then -1 else BB (L_b γ) j u) (ht : L_t γ' = L_t γ)
    (hr : ∀ a, a < 4 → ∀ c, c < 7 → RR (L_r γ') a c = if a = i ∧ c = 0 then nI (n i - 1) else RR (L_r γ) a c)
    (g1 : L_g γ' 1 = L_g γ 1 + 1) (g5 : L_g γ' 5 = L_g γ 5 + 1) (g6 : L_g γ' 6 = L_g γ 6 + 1) (gz : ∀ i, i ≠ 1 → i ≠ 5 → i ≠ 6 → L_g γ' i = L_g γ i) : RelQ (laY Y (nI k)) γ' (T + 1) (nDn n i) q := by
  obtain ⟨pE, pV, pM, pS⟩ := rq_p h hk h0
  have p0 := ((h.2.2.1.1 k hk).p h0).1
  have hF : ∀ j u, u < 11 → FY (laY Y (nI k)) j u = if j = k ∧ u = 9 then 0 else if j = k ∧ u = 6 then -5 else if j = k ∧ u = 5 then -5 else if j = k ∧ u = 4 then -5 else FY Y j u := fun j u hu => laY_f (by omega) hu
  refine ⟨h.1.crane h.2.2.2 rfl rfl rfl ?_ rfl rfl rfl g1 g5 gz, h.2.1.leave hi (by omega) hr, ?_, by omega⟩
  · rw [g6, ← h.1.2.2.1.2]; rfl
  have bk : ∀ u, u < 10 → BB (L_b γ') k u = if u = 9 then 0 else if u = 6 then -1 else if u = 5 then -1 else BB (L_b γ) k u := fun u hu => by
    rw [hB k u hu]; simp only [true_and]
  have fk : ∀ u, u < 11 → FY (laY Y (nI k)) k u = if u = 9 then 0 else if u = 6 then -5 else if u = 5 then -5 else if u = 4 then -5 else FY Y k u := fun u hu => by
    rw [hF k u hu]; simp only [true_and]
  refine h.2.2.1.mk1 (k := k) (fun j _ hj w hw => by rw [hF j w hw, if_neg (fun z => hj z.1), if_neg (fun z => hj z.1), if_neg (fun z => hj z.1), if_neg (fun z => hj z.1)]) (fun j _ hj w hw => by rw [hB j w hw, if_neg (fun z => hj z.1), if_neg (fun z => hj z.1), if_neg (fun z => hj z.1)]) (fun j _ _ => congrFun ht j) hk ?_ ?_
  · obtain ⟨c4, hc4, eK⟩ := (h.2.2.1.1 k hk).1
    refine ⟨⟨c4, hc4, (bk 4 (by decide)).trans eK⟩, Or.inr ⟨(bk 0 (by decide)).trans p0, ?_, ?_, ?_, Or.inl ⟨bk 5 (by decide), fk 4 (by decide), fk 5 (by decide), fk 6 (by decide), fk 9 (by decide)⟩⟩⟩
    · exact ⟨(fk 0 (by decide)).trans (pE.1.trans (bk 1 (by decide)).symm), (fk 1 (by decide)).trans (pE.2.1.trans (bk 2 (by decide)).symm), (fk 2 (by decide)).trans (pE.2.2.1.trans (bk 3 (by decide)).symm), (fk 3 (by decide)).trans (pE.2.2.2.1.trans (bk 4 (by decide)).symm), (fk 8 (by decide)).trans (pE.2.2.2.2.1.trans (bk 8 (by decide)).symm), (fk 10 (by decide)).trans (pE.2.2.2.2.2.trans (congrFun ht k).symm)⟩
    · unfold QV
      rw [bk 1 (by decide), bk 2 (by decide), bk 3 (by decide), bk 8 (by decide)]
      exact pV
    · rcases pM with m | ⟨c7, hc7, m1, m2⟩
      · exact Or.inl ⟨(bk 7 (by decide)).trans m.1, (fk 7 (by decide)).trans m.2⟩
      · exact Or.inr ⟨c7, hc7, (bk 7 (by decide)).trans m1, (fk 7 (by decide)).trans m2⟩
  · refine h.2.2.1.w.leave (k := k) hi (fun a ha => (h.2.1 a ha).1) (fun j _ hj => by rw [hB j 0 (by decide), if_neg (fun z => hj z.1), if_neg (fun z => hj z.1), if_neg (fun z => hj z.1)]) (fun j _ hj => by rw [hB j 5 (by decide), if_neg (fun z => hj z.1), if_neg (fun z => hj z.1), if_neg (fun z => hj z.1)]) (fun j _ hj => by rw [hF j 5 (by decide), if_neg (fun z => hj z.1), if_neg (fun z => hj z.1), if_neg (fun z => hj z.1), if_neg (fun z => hj z.1)]) hj hl hq ?_
    rintro ⟨_, a, ha, e⟩
    rw [bk 5 (by decide)] at e
    exact nIm1 (n := a) (by omega) (e.symm.trans rfl)
theorem move_rel (h : RelQ Y γ T n q) (hT : T < 100) {k i j i2 : Nat} (hk : k < 6) (h0 : ¬ BB (L_b γ) k 0 = 0) (hi : i < 4) (hj : j < n i) (hq : q i j = k) (hl : n i ≤ j + 1) (e5 : BB (L_b γ) k 5 = nI i) (hi2 : i2 < 4) (hne : i2 ≠ i)
    (hB : ∀ j u, u < 10 → BB (L_b γ') j u = if j = k ∧ u = 5 then nI i2 else BB (L_b γ) j u) (ht : L_t γ' = L_t γ)
    (hr : ∀ a, a < 4 → ∀ c, c < 7 → RR (L_r γ') a c = if a = i2 ∧ c = n i2 + 1 then nI k else if a = i2 ∧ c = 0 then nI (n i2 + 1) else if a = i ∧ c = 0 then nI (n i - 1) else RR (L_r γ) a c)
    (g1 : L_g γ' 1 = L_g γ 1 + 1) (g5 : L_g γ' 5 = L_g γ 5 + 1) (gz : ∀ i, i ≠ 1 → i ≠ 5 → L_g γ' i = L_g γ i) : RelQ (moY Y (nI k) (nI i2)) γ' (T + 1) (nUp (nDn n i) i2) (qUp q (nDn n i) i2 k) := by
  obtain ⟨pE, pV, pM, pS⟩ := rq_p h hk h0
  have p0 := ((h.2.2.1.1 k hk).p h0).1
  have nd : nDn n i i2 = n i2 := if_neg hne
  have hF : ∀ j u, u < 11 → FY (moY Y (nI k) (nI i2)) j u = if j = k ∧ u = 4 then nI i2 else if j = k ∧ u = 5 then nI (n i2) else FY Y j u := fun j u hu => by
    rw [moY_f (by omega) _ hu, rd_in h.2.1 h.2.2.1 hi2]
  have hn5 : n i2 ≤ 5 := rd_n5 h.2.1 h.2.2.1 hi2 hk (fun e => hne ((nI_eq (by omega) (by omega)).mp (e.symm.trans e5)))
  have hR1 : QR (fun p => if p = 7 * i + 0 then nI (n i - 1) else L_r γ p) (nDn n i) q := h.2.1.leave hi (by omega) (fun a ha c hc => by
    show (if 7 * a + c = 7 * i + 0 then nI (n i - 1) else L_r γ (7 * a + c)) = _
    by_cases z : a = i ∧ c = 0
    · rw [if_pos z, if_pos (by omega)]
    · rw [if_neg z, if_neg (by omega)])
  have hW1 : QW (FY Y) (fun a b => if a = k ∧ b = 5 then -1 else BB (L_b γ) a b) (nDn n i) q := by
    refine h.2.2.1.w.leave (k := k) hi (fun a ha => (h.2.1 a ha).1) (fun j _ hj => if_neg (fun z => hj z.1)) (fun j _ hj => if_neg (fun z => hj z.1)) (fun j _ hj => rfl) hj hl hq ?_
    rintro ⟨_, a, ha, e⟩
    exact nIm1 (n := a) (by omega) (e.symm.trans (if_pos ⟨rfl, rfl⟩))
  refine ⟨h.1.crane h.2.2.2 rfl rfl rfl (h.1.2.2.1.2.trans (gz 6 (by decide) (by decide)).symm) rfl rfl rfl g1 g5 (fun i h1 h5 _ => gz i h1 h5), hR1.stand hi2 (by rw [nd]; exact hn5) hk (fun a ha c hc => ?_), ?_, by omega⟩
  · rw [hr a ha c hc, nd]
    show _ = if a = i2 ∧ c = n i2 + 1 then nI k else if a = i2 ∧ c = 0 then nI (n i2 + 1) else (if 7 * a + c = 7 * i + 0 then nI (n i - 1) else L_r γ (7 * a + c))
    by_cases z : a = i ∧ c = 0
    · rw [if_pos z, if_pos (show 7 * a + c = 7 * i + 0 by omega)]
    · rw [if_neg z, if_neg (show ¬ 7 * a + c = 7 * i + 0 by omega)]
  have bk : ∀ u, u < 10 → BB (L_b γ') k u = if u = 5 then nI i2 else BB (L_b γ) k u := fun u hu => by
    rw [hB k u hu]; simp only [true_and]
  have fk : ∀ u, u < 11 → FY (moY Y (nI k) (nI i2)) k u = if u = 4 then nI i2 else if u = 5 then nI (n i2) else FY Y k u := fun u hu => by
    rw [hF k u hu]; simp only [true_and]
  refine h.2.2.1.mk1 (k := k) (fun j _ hj w hw => by rw [hF j w hw, if_neg (fun z => hj z.1), if_neg (fun z => hj z.1)]) (fun j _ hj w hw => by rw [hB j w hw, if_neg (fun z => hj z.1)]) (fun j _ _ => congrFun ht j) hk ?_ ?_
  · obtain ⟨c4, hc4, eK⟩ := (h.2.2.1.1 k hk).1
    refine ⟨⟨c4, hc4, (bk 4 (by decide)).trans eK⟩, Or.inr ⟨(bk 0 (by decide)).trans p0, ?_, ?_, ?_, ?_⟩⟩
    · exact ⟨(fk 0 (by decide)).trans (pE.1.trans (bk 1 (by decide)).symm), (fk 1 (by decide)).trans (pE.2.1.trans (bk 2 (by decide)).symm), (fk 2 (by decide)).trans (pE.2.2.1.trans (bk 3 (by decide)).symm), (fk 3 (by decide)).trans (pE.2.2.2.1.trans (bk 4 (by decide)).symm), (fk 8 (by decide)).trans (pE.2.2.2.2.1.trans (bk 8 (by decide)).symm), (fk 10 (by decide)).trans (pE.2.2.2.2.2.trans (congrFun ht k).symm)⟩
    · unfold QV
      rw [bk 1 (by decide), bk 2 (by decide), bk 3 (by decide), bk 8 (by decide)]
      exact pV
    · rcases pM with m | ⟨c7, hc7, m1, m2⟩
      · exact Or.inl ⟨(bk 7 (by decide)).trans m.1, (fk 7 (by decide)).trans m.2⟩
      · exact Or.inr ⟨c7, hc7, (bk 7 (by decide)).trans m1, (fk 7 (by decide)).trans m2⟩
    · rcases pS with s | ⟨_, ⟨c, hc, s3, s4⟩, s5⟩
      · have := s.1
        rw [show BB (L_b γ) k 5 = nI i from e5] at this
        exact absurd this (nIm1 (by omega))
      · exact Or.inr ⟨⟨i2, hi2, bk 5 (by decide), fk 4 (by decide)⟩, ⟨c, hc, (bk 6 (by decide)).trans s3, (fk 6 (by decide)).trans s4⟩, (fk 9 (by decide)).trans (s5.trans (bk 9 (by decide)).symm)⟩
  · refine hW1.stand hk hi2 (fun j _ hj => by rw [hB j 0 (by decide), if_neg (fun z => hj z.1), if_neg (fun z => hj z.1)]) (fun j _ hj => by rw [hB j 5 (by decide), if_neg (fun z => hj z.1), if_neg (fun z => hj z.1)]) (fun j _ hj => by rw [hF j 5 (by decide), if_neg (fun z => hj z.1), if_neg (fun z => hj z.1)]) ?_ ((bk 0 (by decide)).trans p0) (bk 5 (by decide)) (by rw [nd]; exact fk 5 (by decide))
    rintro ⟨_, a, ha, e⟩
    exact nIm1 (n := a) (by omega) (e.symm.trans (if_pos ⟨rfl, rfl⟩))
end BT
