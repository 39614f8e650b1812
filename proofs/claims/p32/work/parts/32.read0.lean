/-! what the class tells and the law reckons: the same, part one -/
theorem QB.k0 {F Z : Nat → Int32} {t : Int32} (h : QB F Z t) : Z 0 = 0 ∨ Z 0 = 1 := by
  rcases h.2 with a | a
  · exact Or.inl a.1
  · exact Or.inr a.1
theorem QB.p {F Z : Nat → Int32} {t : Int32} (h : QB F Z t) (h0 : ¬ Z 0 = 0) : Z 0 = 1 ∧ QE F Z t ∧ QV Z ∧ QM F Z ∧ QS F Z := by
  rcases h.2 with a | a
  · exact absurd a.1 h0
  · exact a
theorem QB.a {F Z : Nat → Int32} {t : Int32} (h : QB F Z t) (h0 : Z 0 = 0) : ∀ w, w < 11 → F w = -5 := by
  rcases h.2 with a | a
  · exact a.2
  · rw [a.1] at h0; exact absurd h0 (by decide)
theorem one0 : ¬ (1 : Int32) = 0 := by decide
theorem m1lt : (-1 : Int32) < 0 := by decide
theorem nge {n : Nat} (h : n < 1000) : ¬ nI n < 0 := nI_pos (by omega)
theorem nge' {n : Nat} (h : n < 1000) : 0 ≤ nI n := nI_pos' (by omega)
section RD
variable {Y : YS} {γ : LAS} {T : Nat} {n : Nat → Nat} {q : Nat → Nat → Nat}
theorem sm_cut {v : Nat → Int32} : ∀ d, (∀ k, 6 ≤ k → k < 6 + d → v k = 0) → sm v (6 + d) = sm v 6 := by
  intro d
  induction d with
  | zero => intro _; rfl
  | succ d ih =>
    intro h
    show sm v (6 + d) + v (6 + d) = sm v 6
    rw [ih (fun k a b => h k a (by omega)), h (6 + d) (by omega) (by omega)]
    grind
theorem rd_row (hY : QY (FY Y) (BB (L_b γ)) (L_t γ) n q) {k i : Nat} (hk : k < 20) (hi : i < 4) : FY Y k 4 = nI i ↔ k < 6 ∧ BB (L_b γ) k 0 = 1 ∧ BB (L_b γ) k 5 = nI i := by
  by_cases c : k < 6
  · have hb := hY.1 k c
    by_cases h0 : BB (L_b γ) k 0 = 0
    · rw [hb.a h0 4 (by decide)]
      refine ⟨fun e => absurd e.symm (nIm5 (by omega)), fun e => ?_⟩
      rw [e.2.1] at h0
      exact absurd h0 one0
    · obtain ⟨p0, pE, pV, pM, pS⟩ := hb.p h0
      rcases pS with s | ⟨⟨j, hj, s1, s2⟩, _, _⟩
      · rw [s.2.1]
        refine ⟨fun e => absurd e.symm (nIm5 (by omega)), fun e => ?_⟩
        have := e.2.2
        rw [s.1] at this
        exact absurd this.symm (nIm1 (by omega))
      · rw [s2, s1]
        exact ⟨fun e => ⟨c, p0, e⟩, fun e => e.2.2⟩
  · rw [hY.2.1 k (by omega) hk 4 (by decide)]
    exact ⟨fun e => absurd e.symm (nIm5 (by omega)), fun e => absurd e.1 c⟩
theorem q_inj (hY : QY (FY Y) (BB (L_b γ)) (L_t γ) n q) (hn : ∀ i, i < 4 → n i ≤ 6) {i a b : Nat} (hi : i < 4) (ha : a < n i) (hb : b < n i) (e : q i a = q i b) : a = b := by
  have h1 := (hY.2.2.1 i hi a ha).2.2.2
  have h2 := (hY.2.2.1 i hi b hb).2.2.2
  rw [e, h2] at h1
  have := hn i hi
  exact ((nI_eq (by omega) (by omega)).mp h1).symm
theorem rd_list (hR : QR (L_r γ) n q) (hY : QY (FY Y) (BB (L_b γ)) (L_t γ) n q) {i : Nat} (hi : i < 4) (v : Nat → Int32) : sm (fun k => if FY Y k 4 = nI i then v k else 0) 20 = sm (fun j => v (q i j)) (n i) ∧ ct (fun k => FY Y k 4 = nI i) 20 = n i := by
  refine sm_list (n i) (fun k => FY Y k 4 = nI i) (fun j hj => ?_) (fun a b ha hb e => q_inj hY (fun i hi => (hR i hi).1) hi ha hb e) (fun k hk e => ?_)
  · obtain ⟨h1, h2, h3, _⟩ := hY.2.2.1 i hi j hj
    exact ⟨by omega, (rd_row hY (by omega) hi).mpr ⟨h1, h2, h3⟩⟩
  · obtain ⟨h1, h2, h3⟩ := (rd_row hY hk hi).mp e
    exact hY.2.2.2 k h1 h2 i hi h3
theorem rd_in (hR : QR (L_r γ) n q) (hY : QY (FY Y) (BB (L_b γ)) (L_t γ) n q) {i : Nat} (hi : i < 4) : mX2_boatsIn Y (nI i) = nI (n i) := by
  rw [show mX2_boatsIn Y (nI i) = _ from bw_sm (w := 4) (by decide) (nI i), sm_ct (p := fun k => FY Y k 4 = nI i) (fun _ _ => rfl), (rd_list hR hY hi (fun _ => 0)).2]
theorem rd_mt (hR : QR (L_r γ) n q) (hY : QY (FY Y) (BB (L_b γ)) (L_t γ) n q) {i : Nat} (hi : i < 4) : mX2_metresTaken Y (nI i) = sm (fun j => BB (L_b γ) (q i j) 1 + 1) (n i) := by
  rw [mt2_sm, (rd_list hR hY hi (fun k => FY Y k 0 + 1)).1]
  refine sm_congr (fun j hj => ?_)
  obtain ⟨h1, h2, h3, _⟩ := hY.2.2.1 i hi j hj
  obtain ⟨_, pE, _⟩ := (hY.1 _ h1).p (by rw [h2]; exact one0)
  show FY Y (q i j) 0 + 1 = _
  rw [show FY Y (q i j) 0 = _ from pE.1]
theorem rd_n5 (hR : QR (L_r γ) n q) (hY : QY (FY Y) (BB (L_b γ)) (L_t γ) n q) {i k : Nat} (hi : i < 4) (hk : k < 6) (hne : ¬ BB (L_b γ) k 5 = nI i) : n i ≤ 5 := by
  have h := (rd_list hR hY hi (fun _ => 0)).2
  have h2 := ct_lt (p := fun k => FY Y k 4 = nI i) (q := fun k => k < 6) (n := 20) (j := k) (fun a ha e => ((rd_row hY ha hi).mp e).1) (by omega) (fun e => hne ((rd_row hY (by omega) hi).mp e).2.2) hk
  have h3 : ct (fun k => k < 6) 20 = 6 := by decide
  omega
theorem rd_room (hR : QR (L_r γ) n q) (hY : QY (FY Y) (BB (L_b γ)) (L_t γ) n q) {i : Nat} (hi : i < 4) : mL_room γ (nI i) = L_g γ (10 + i) - sm (fun j => BB (L_b γ) (q i j) 1 + 1) (n i) := by
  have h6 := (hR i hi).1
  have key : ∀ d j f, j + d = n i → mL_room_L11 γ (nI i) (d + 1 + f) (nI (j + 1)) (L_g γ (10 + i) - sm (fun j => BB (L_b γ) (q i j) 1 + 1) j) = L_g γ (10 + i) - sm (fun j => BB (L_b γ) (q i j) 1 + 1) (n i) := by
    intro d
    induction d with
    | zero =>
      intro j f hj
      rw [show 0 + 1 + f = f + 1 by omega, mL_room_L11, ixr0 hi, show L_r γ (7 * i + 0) = _ from (hR i hi).2.1, if_pos ((nI_ltI (by omega) (by omega)).mpr (by omega)), show j = n i by omega]
    | succ d ih =>
      intro j f hj
      obtain ⟨q1, q2⟩ := (hR i hi).2.2 j (by omega)
      rw [show d + 1 + 1 + f = (d + 1 + f) + 1 by omega, mL_room_L11, ixr0 hi, show L_r γ (7 * i + 0) = _ from (hR i hi).2.1, if_neg (fun c => by rw [nI_ltI (by omega) (by omega)] at c; omega), ixr hi (show j + 1 < 7 by omega), show L_r γ (7 * i + (j + 1)) = _ from q2, lo1 q1, nI1, sub_sub']
      exact ih (j + 1) f (by omega)
  have := key (n i) 0 (7 - n i) (by omega)
  rw [show n i + 1 + (7 - n i) = 8 by omega] at this
  unfold mL_room
  rw [show (10 + nI i).toNatClampNeg = 10 + i from ixg (c := 10) (by decide) (by omega)]
  have e : L_g γ (10 + i) - sm (fun j => BB (L_b γ) (q i j) 1 + 1) 0 = L_g γ (10 + i) := by
    show L_g γ (10 + i) - 0 = _
    grind
  rw [e] at this
  exact this
theorem rd_left2 (hG : QG Y γ T) (hR : QR (L_r γ) n q) (hY : QY (FY Y) (BB (L_b γ)) (L_t γ) n q) {i : Nat} (hi : i < 4) : mX2_metresLeft Y (nI i) = mL_room γ (nI i) := by
  rw [rd_room hR hY hi]
  unfold mX2_metresLeft mX2_metresOf
  rw [rd_mt hR hY hi, ixs (by omega), (hG.2.2.2.2.2 i hi).1]
theorem rd_place (hR : QR (L_r γ) n q) (hY : QY (FY Y) (BB (L_b γ)) (L_t γ) n q) {i j : Nat} (hi : i < 4) (hj : j < n i) : mL_place γ (nI (q i j)) = nI j := by
  have h6 := (hR i hi).1
  obtain ⟨h1, h2, h3, h4⟩ := hY.2.2.1 i hi j hj
  have h5 : mL_of γ (nI (q i j)) 5 = nI i := (lo5 h1).trans h3
  have key : ∀ d u f, u + d = j → mL_place_L2 γ (nI (q i j)) (d + 1 + f) (nI u) = nI j := by
    intro d
    induction d with
    | zero =>
      intro u f hu
      rw [show 0 + 1 + f = f + 1 by omega, mL_place_L2, h5, ixr1 hi (show u < 6 by omega), show u = j by omega, if_pos ((hR i hi).2.2 j (by omega)).2]
    | succ d ih =>
      intro u f hu
      rw [show d + 1 + 1 + f = (d + 1 + f) + 1 by omega, mL_place_L2, h5, ixr1 hi (show u < 6 by omega), if_neg, nI1]
      · exact ih (u + 1) f (by omega)
      · intro c
        obtain ⟨q1, q2⟩ := (hR i hi).2.2 u (by omega)
        have e := q2.symm.trans c
        have := q_inj hY (fun i hi => (hR i hi).1) hi (show u < n i by omega) hj ((nI_eq (by omega) (by omega)).mp e)
        omega
  have := key j 0 (7 - j) (by omega)
  rw [show j + 1 + (7 - j) = 8 by omega] at this
  exact this
theorem rd_tide (hG : QG Y γ T) {x : Int32} (hx : 0 ≤ x.toInt) : mX2_tideOn Y x = mL_tide γ x := by
  unfold mX2_tideOn mL_tide
  rw [show Y_settings Y (0 : Int32).toNatClampNeg = L_g γ (2 : Int32).toNatClampNeg from hG.2.2.2.1.1 0 (by decide)]
  have hr := ti_rem (b := 14) hx (by decide)
  have e14 : (14 : Int32).toInt = 14 := rfl
  rw [e14] at hr
  have h1 := Int.emod_nonneg x.toInt (show (14 : Int) ≠ 0 by decide)
  have h2 := Int.emod_lt_of_pos x.toInt (show (0 : Int) < 14 by decide)
  generalize x - ((x / 14) * 14) = r at *
  have e7 : (7 : Int32).toInt = 7 := rfl
  have e0 : (0 : Int32).toInt = 0 := rfl
  have hs : (r - 7).toInt = r.toInt - 7 := by rw [ti_sub (by omega) (by omega), e7]
  by_cases c : 7 ≤ r
  · have c2 := c
    rw [le_ti] at c2
    rw [if_pos c, if_pos (by rw [le_ti]; omega)]
  · have c2 := c
    rw [le_ti] at c2
    rw [if_neg c, if_neg (by rw [le_ti]; omega)]
    have : (0 : Int32) - (r - 7) = 7 - r := by grind
    rw [this]
theorem rd_left (hT : T < 200) (hG : QG Y γ T) : mX2_liftsLeft Y = mL_left γ := by
  obtain ⟨_, ⟨g1, g2, g3⟩, _, ⟨g4, g5, g6, g7⟩, _⟩ := hG
  unfold mX2_liftsLeft mL_left
  rw [show Y_settings Y (1 : Int32).toNatClampNeg = L_g γ 3 from g4 1 (by decide), g1]
  show (if 0 < L_g γ 3 - L_g γ 1 then L_g γ 3 - L_g γ 1 else 0) = if L_g γ 3 ≤ L_g γ 1 then 0 else L_g γ 3 - L_g γ 1
  have e0 : (0 : Int32).toInt = 0 := rfl
  have hs : (L_g γ 3 - L_g γ 1).toInt = (L_g γ 3).toInt - (L_g γ 1).toInt := ti_sub (by omega) (by omega)
  by_cases c : L_g γ 3 ≤ L_g γ 1
  · have c2 := c
    rw [le_ti] at c2
    rw [if_pos c, if_neg (by rw [lt_ti]; omega)]
  · have c2 := c
    rw [le_ti] at c2
    rw [if_neg c, if_pos (by rw [lt_ti]; omega)]
theorem n6 {i : Nat} (hi : i < 6) : ¬ (6 : Int32) ≤ nI i := nI_ge (b := 6) hi (by decide)
theorem e6 : (6 : Int32) ≤ nI 6 := nI_le (a := 6) (Nat.le_refl 6) (by decide)
theorem rd_taken (hY : QY (FY Y) (BB (L_b γ)) (L_t γ) n q) {c : Nat} (hc : c < 3) : mX2_boatsWith Y 6 (nI c) = mL_taken γ (nI c) := by
  have h1 : mL_taken γ (nI c) = sm (fun k => if BB (L_b γ) k 0 = 1 then (if BB (L_b γ) k 5 < 0 then 0 else (if BB (L_b γ) k 6 = nI c then 1 else 0)) else 0) 6 := by
    refine loopC (L := mL_taken_L4 γ (nI c)) (g := nI) (N := 6) (fun n c => ?_) (fun n i c hi => ?_) 1
    · rw [mL_taken_L4, if_pos e6]
    · rw [mL_taken_L4, if_neg (n6 hi), nI1, lo0 hi, lo5 hi, lo6 hi]
  rw [show mX2_boatsWith Y 6 (nI c) = _ from bw_sm (w := 6) (by decide) (nI c), h1, show (20 : Nat) = 6 + 14 from rfl, sm_cut 14 (fun k a b => by rw [hY.2.1 k a b 6 (by decide), if_neg (fun e => nIm5 (n := c) (by omega) e.symm)])]
  refine sm_congr (fun k hk => ?_)
  have hb := hY.1 k hk
  by_cases h0 : BB (L_b γ) k 0 = 0
  · rw [hb.a h0 6 (by decide), h0, if_neg (fun e => nIm5 (n := c) (by omega) e.symm), if_neg (by decide)]
  · obtain ⟨p0, pE, pV, pM, pS⟩ := hb.p h0
    rw [p0, if_pos rfl]
    rcases pS with s | ⟨⟨j, hj, s1, s2⟩, ⟨c', hc', s3, s4⟩, _⟩
    · rw [s.1, if_pos m1lt, s.2.2.2.1, if_neg (fun e => nIm5 (n := c) (by omega) e.symm)]
    · rw [s1, if_neg (nge (by omega)), s3, s4]
theorem rd_masts (hY : QY (FY Y) (BB (L_b γ)) (L_t γ) n q) {c : Nat} (hc : c < 2) : mX2_mastsIn Y (nI c) = mL_masts γ (nI c) := by
  have h1 : mL_masts γ (nI c) = sm (fun k => if BB (L_b γ) k 0 = 1 then (if BB (L_b γ) k 7 = nI c then 1 else 0) else 0) 6 := by
    refine loopC (L := mL_masts_L4 γ (nI c)) (g := nI) (N := 6) (fun n c => ?_) (fun n i c hi => ?_) 1
    · rw [mL_masts_L4, if_pos e6]
    · rw [mL_masts_L4, if_neg (n6 hi), nI1, lo0 hi, lo7 hi]
  rw [show mX2_mastsIn Y (nI c) = _ from bw_sm (w := 7) (by decide) (nI c), h1, show (20 : Nat) = 6 + 14 from rfl, sm_cut 14 (fun k a b => by rw [hY.2.1 k a b 7 (by decide), if_neg (fun e => nIm5 (n := c) (by omega) e.symm)])]
  refine sm_congr (fun k hk => ?_)
  have hb := hY.1 k hk
  by_cases h0 : BB (L_b γ) k 0 = 0
  · rw [hb.a h0 7 (by decide), h0, if_neg (fun e => nIm5 (n := c) (by omega) e.symm), if_neg (by decide)]
  · obtain ⟨p0, pE, pV, pM, pS⟩ := hb.p h0
    rw [p0, if_pos rfl]
    rcases pM with s | ⟨c', hc', s3, s4⟩
    · rw [s.1, s.2, if_neg (fun e => nIm5 (n := c) (by omega) e.symm), if_neg (fun e => nIm1 (n := c) (by omega) e.symm)]
    · rw [s3, s4]
end RD
