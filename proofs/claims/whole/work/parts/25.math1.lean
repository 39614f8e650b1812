/-! what is read of the two sides: the same -/
theorem i20 {i : Nat} (hi : i < 20) : ¬ (20 : Int32) ≤ nI i := nI_ge (b := 20) hi (by decide)
theorem e20 : (20 : Int32) ≤ nI 20 := nI_le (a := 20) (Nat.le_refl 20) (by decide)
theorem nI1 (i : Nat) : nI i + 1 = nI (i + 1) := (nI_succ i).symm
theorem add0 (c : Int32) : c + 0 = c := Int32.add_zero c
theorem bw_sm {σ : YS} {w : Nat} (hw : w < 11) (v : Int32) : mX2_boatsWith σ (nI w) v = sm (fun i => if FY σ i w = v then 1 else 0) 20 := by
  have hf : ¬ mX2_isFact (nI w) = 0 := ne_X2_isFact (vp_in_nI hw (by decide))
  have h := loopC (L := mX2_boatsWith_L5 σ (nI w) v) (g := fun i => nI (i * 11)) (v := fun i => if FY σ i w = v then 1 else 0) (N := 20) (fun n c => ?_) (fun n i c hi => ?_) 211
  · exact h
  · have h2 : nI (20 * 11) + 11 = nI 231 := rfl
    have h1 : (220 : Int32) < nI 231 := nI_lt (a := 220) (by omega) (by omega)
    simp only [mX2_boatsWith_L5, h2, if_pos h1]
  · have h2 : nI (i * 11) + 11 = nI ((i + 1) * 11) := by rw [show (11 : Int32) = nI 11 from rfl, nI_add]; congr 1; omega
    have h1 : ¬ (220 : Int32) < nI ((i + 1) * 11) := nI_nlt (b := (i + 1) * 11) (a := 220) (by omega) (by omega)
    have h3 : (nI (i * 11) + nI w).toNatClampNeg = i * 11 + w := by rw [nI_add]; exact nI_clamp (by omega)
    simp only [mX2_boatsWith_L5, h2, if_neg h1, if_neg hf, h3]
    by_cases a : FY σ i w = v
    · rw [if_pos a, if_pos a]
    · rw [if_neg a, if_neg a, add0]
theorem mt2_sm {σ : YS} (x : Int32) : mX2_metresTaken σ x = sm (fun i => if FY σ i 4 = x then FY σ i 0 + 1 else 0) 20 := by
  have h := loopC (L := mX2_metresTaken_L4 σ x) (g := fun i => nI (i * 11)) (v := fun i => if FY σ i 4 = x then FY σ i 0 + 1 else 0) (N := 20) (fun n c => ?_) (fun n i c hi => ?_) 201
  · exact h
  · have h2 : nI (20 * 11) + 11 = nI 231 := rfl
    have h1 : (220 : Int32) < nI 231 := nI_lt (a := 220) (by omega) (by omega)
    simp only [mX2_metresTaken_L4, h2, if_pos h1]
  · have h2 : nI (i * 11) + 11 = nI ((i + 1) * 11) := by rw [show (11 : Int32) = nI 11 from rfl, nI_add]; congr 1; omega
    have h1 : ¬ (220 : Int32) < nI ((i + 1) * 11) := nI_nlt (b := (i + 1) * 11) (a := 220) (by omega) (by omega)
    have h3 : (nI (i * 11) + 4).toNatClampNeg = i * 11 + 4 := by rw [show (4 : Int32) = nI 4 from rfl, nI_add]; exact nI_clamp (by omega)
    have h4 : (nI (i * 11) + 0).toNatClampNeg = i * 11 + 0 := by rw [show (0 : Int32) = nI 0 from rfl, nI_add]; exact nI_clamp (by omega)
    simp only [mX2_metresTaken_L4, h2, if_neg h1, h3, h4]
    by_cases a : FY σ i 4 = x
    · rw [if_pos a, if_pos a]
    · rw [if_neg a, if_neg a, add0]
theorem bww_sm {σ : YS} : mX2_boatsWithWork σ = sm (fun i => if FY σ i 8 ≤ 0 then 0 else 1) 20 := by
  refine loopC (L := mX2_boatsWithWork_L4 σ) (g := nI) (N := 20) (fun n c => ?_) (fun n i c hi => ?_) 1
  · simp only [mX2_boatsWithWork_L4, if_pos e20]
  · simp only [mX2_boatsWithWork_L4, if_neg (i20 hi), nI1, fa8 hi]
    by_cases a : FY σ i 8 ≤ 0
    · rw [if_pos a, if_pos a, add0]
    · rw [if_neg a, if_neg a]
theorem isIn_eq {τ : MS} {i : Nat} (hi : i < 20) (x : Int32) : mX4_isIn τ (nI i) x = if inrw (M_z τ) x i then 1 else 0 := by
  unfold mX4_isIn
  rw [zo0 hi, zo5 hi]
  by_cases a : ZB (M_z τ) i 0 = 1
  · by_cases b : ZB (M_z τ) i 5 = x
    · rw [if_pos a, if_pos b, if_pos ⟨a, b⟩]
    · rw [if_pos a, if_neg b, if_neg (fun c => b c.2)]
  · rw [if_neg a, if_neg (fun c => a c.1)]
theorem one_ne : ¬ (1 : Int32) = 0 := by decide
theorem bi4_sm {τ : MS} (x : Int32) : mX4_boatsIn τ x = sm (fun i => if inrw (M_z τ) x i then 1 else 0) 20 := by
  refine loopC (L := mX4_boatsIn_L4 τ x) (g := nI) (N := 20) (fun n c => ?_) (fun n i c hi => ?_) 1
  · simp only [mX4_boatsIn_L4, if_pos e20]
  · simp only [mX4_boatsIn_L4, if_neg (i20 hi), nI1, isIn_eq hi]
    by_cases a : inrw (M_z τ) x i
    · rw [if_pos a, if_neg one_ne]
    · rw [if_neg a, if_pos rfl]
theorem mt4_sm {τ : MS} (x : Int32) : mX4_metresTaken τ x = sm (fun i => if inrw (M_z τ) x i then ZB (M_z τ) i 1 + 1 else 0) 20 := by
  refine loopC (L := mX4_metresTaken_L4 τ x) (g := nI) (N := 20) (fun n c => ?_) (fun n i c hi => ?_) 1
  · simp only [mX4_metresTaken_L4, if_pos e20]
  · simp only [mX4_metresTaken_L4, if_neg (i20 hi), nI1, isIn_eq hi, zo1 hi]
    by_cases a : inrw (M_z τ) x i
    · rw [if_pos a, if_pos a, if_neg one_ne]
    · rw [if_neg a, if_neg a, if_pos rfl]
theorem pl4_sm {τ : MS} {k : Nat} (hk : k < 20) : mX4_placeOf τ (nI k) = nI (ct (bef (M_z τ) k) 20) := by
  rw [← sm_ct (v := fun i => if bef (M_z τ) k i then 1 else 0) (fun i hi => rfl)]
  refine loopC (L := mX4_placeOf_L4 τ (nI k)) (g := nI) (N := 20) (fun n c => ?_) (fun n i c hi => ?_) 1
  · simp only [mX4_placeOf_L4, if_pos e20]
  · simp only [mX4_placeOf_L4, if_neg (i20 hi), nI1, zo5 hk, isIn_eq hi, zo11 hi, zo11 hk]
    by_cases a : inrw (M_z τ) (ZB (M_z τ) k 5) i
    · rw [if_pos a, if_neg one_ne]
      by_cases b : ZB (M_z τ) k 11 ≤ ZB (M_z τ) i 11
      · rw [if_pos b, if_neg (fun c : bef (M_z τ) k i => by have := c.2.2; rw [lt_ti] at this; rw [le_ti] at b; omega)]
      · rw [if_neg b, if_pos (show bef (M_z τ) k i from ⟨a.1, a.2, by rw [le_ti] at b; rw [lt_ti]; omega⟩)]
    · rw [if_neg a, if_pos rfl, if_neg (fun c : bef (M_z τ) k i => a ⟨c.1, c.2.1⟩)]
theorem tk4_sm {τ : MS} (x : Int32) : mX4_taken τ x = sm (fun i => if ZB (M_z τ) i 0 = 1 ∧ ¬ ZB (M_z τ) i 5 < 0 ∧ ZB (M_z τ) i 6 = x then 1 else 0) 20 := by
  refine loopC (L := mX4_taken_L4 τ x) (g := nI) (N := 20) (fun n c => ?_) (fun n i c hi => ?_) 1
  · simp only [mX4_taken_L4, if_pos e20]
  · simp only [mX4_taken_L4, if_neg (i20 hi), nI1, zo0 hi, zo6 hi, mX4_isAshore, zo5 hi]
    by_cases a : ZB (M_z τ) i 0 = 1
    · by_cases b : ZB (M_z τ) i 5 < 0
      · rw [if_pos a, if_pos b, if_pos rfl, if_neg (fun c => c.2.1 b)]
      · by_cases d : ZB (M_z τ) i 6 = x
        · rw [if_pos a, if_neg b, if_neg one_ne, if_pos d, if_pos ⟨a, b, d⟩]
        · rw [if_pos a, if_neg b, if_neg one_ne, if_neg d, if_neg (fun c => d c.2.2)]
    · rw [if_neg a, if_neg (fun c => a c.1)]
theorem mi4_sm {τ : MS} (x : Int32) : mX4_mastsIn τ x = sm (fun i => if ZB (M_z τ) i 0 = 1 ∧ ZB (M_z τ) i 7 = x then 1 else 0) 20 := by
  refine loopC (L := mX4_mastsIn_L4 τ x) (g := nI) (N := 20) (fun n c => ?_) (fun n i c hi => ?_) 1
  · simp only [mX4_mastsIn_L4, if_pos e20]
  · simp only [mX4_mastsIn_L4, if_neg (i20 hi), nI1, zo0 hi, zo7 hi]
    by_cases a : ZB (M_z τ) i 0 = 1
    · by_cases d : ZB (M_z τ) i 7 = x
      · rw [if_pos a, if_pos d, if_pos ⟨a, d⟩]
      · rw [if_pos a, if_neg d, if_neg (fun c => d c.2)]
    · rw [if_neg a, if_neg (fun c => a c.1)]
theorem bo4_sm {τ : MS} : mX4_boats τ = sm (fun i => ZB (M_z τ) i 0) 20 := by
  refine loopC (L := mX4_boats_L4 τ) (g := nI) (N := 20) (fun n c => ?_) (fun n i c hi => ?_) 1
  · simp only [mX4_boats_L4, if_pos e20]
  · simp only [mX4_boats_L4, if_neg (i20 hi), nI1, zo0 hi]
section REL
variable {σ : YS} {τ : MS} {T : Nat}
theorem m5_ne {x : Int32} (h : 0 ≤ x.toInt) : ¬ x = -5 := fun e => by rw [e] at h; exact absurd h (by decide)
theorem RelY.b (h : RelY σ (M_z τ) T) {k : Nat} (hk : k < 20) : RB (FY σ k) (ZB (M_z τ) k) (M_z τ 0).toInt := h.2.2 k hk
theorem RelY.p (h : RelY σ (M_z τ) T) {k : Nat} (hk : k < 20) (h1 : ZB (M_z τ) k 0 = 1) : RE (FY σ k) (ZB (M_z τ) k) ∧ RG (ZB (M_z τ) k) (M_z τ 0).toInt ∧ RS (FY σ k) (ZB (M_z τ) k) := by
  rcases h.b hk with a | a
  · rw [a.1] at h1
    exact absurd h1 (by decide)
  · exact a.2
theorem RelY.z01 (h : RelY σ (M_z τ) T) {k : Nat} (hk : k < 20) : ZB (M_z τ) k 0 = 0 ∨ ZB (M_z τ) k 0 = 1 := by
  rcases h.b hk with a | a
  · exact Or.inl a.1
  · exact Or.inr a.1
theorem f_row (h : RelY σ (M_z τ) T) {x : Int32} (hx : 0 ≤ x.toInt) {k : Nat} (hk : k < 20) : FY σ k 4 = x ↔ inrw (M_z τ) x k := by
  rcases h.b hk with a | a
  · refine ⟨fun e => absurd (e.symm.trans a.2.2.1) (m5_ne hx), fun e => ?_⟩
    have := e.1
    rw [a.1] at this
    exact absurd this (by decide)
  · have e : FY σ k 4 = ZB (M_z τ) k 5 := a.2.1.2.2.2.2.1
    rw [e]
    exact ⟨fun q => ⟨a.1, q⟩, fun q => q.2⟩
theorem bi_eq (h : RelY σ (M_z τ) T) {x : Int32} (hx : 0 ≤ x.toInt) : mX2_boatsIn σ x = mX4_boatsIn τ x := by
  rw [bi4_sm]
  refine (bw_sm (w := 4) (by decide) x).trans (sm_congr fun i hi => ?_)
  simp only [f_row h hx hi]
theorem mt_eq (h : RelY σ (M_z τ) T) {x : Int32} (hx : 0 ≤ x.toInt) : mX2_metresTaken σ x = mX4_metresTaken τ x := by
  rw [mt4_sm, mt2_sm]
  refine sm_congr fun i hi => ?_
  by_cases a : inrw (M_z τ) x i
  · rw [if_pos a, if_pos ((f_row h hx hi).mpr a), (h.p hi a.1).1.1]
  · rw [if_neg a, if_neg (fun c => a ((f_row h hx hi).mp c))]
theorem tk_eq (h : RelY σ (M_z τ) T) {x : Int32} (hx : 0 ≤ x.toInt) : mX2_boatsWith σ 6 x = mX4_taken τ x := by
  rw [tk4_sm]
  refine (bw_sm (w := 6) (by decide) x).trans (sm_congr fun i hi => ?_)
  rcases h.b hi with a | ⟨a, b, -, d⟩
  · rw [if_neg (fun e => absurd (e.symm.trans a.2.2.2.1) (m5_ne hx)), if_neg (fun e => by have := e.1; rw [a.1] at this; exact absurd this (by decide))]
  · have e6 : FY σ i 6 = ZB (M_z τ) i 6 := b.2.2.2.2.2.1
    rw [e6]
    rcases d with d | d
    · have e7 : ZB (M_z τ) i 6 = -5 := d.2.2.1
      rw [e7, if_neg (fun e => absurd e.symm (m5_ne hx)), if_neg (fun e => absurd e.2.2.symm (m5_ne hx))]
    · have e8 : ¬ ZB (M_z τ) i 5 < 0 := by rw [lt_ti]; have := d.1.1; show ¬ _ < (0 : Int); omega
      by_cases c : ZB (M_z τ) i 6 = x
      · rw [if_pos c, if_pos ⟨a, e8, c⟩]
      · rw [if_neg c, if_neg (fun e => c e.2.2)]
theorem mi_eq (h : RelY σ (M_z τ) T) {x : Int32} (hx : 0 ≤ x.toInt) : mX2_mastsIn σ x = mX4_mastsIn τ x := by
  rw [mi4_sm]
  refine (bw_sm (w := 7) (by decide) x).trans (sm_congr fun i hi => ?_)
  rcases h.b hi with a | ⟨a, b, -, d⟩
  · rw [if_neg (fun e => absurd (e.symm.trans a.2.2.2.2.1) (m5_ne hx)), if_neg (fun e => by have := e.1; rw [a.1] at this; exact absurd this (by decide))]
  · have e6 : FY σ i 7 = ZB (M_z τ) i 7 := b.2.2.2.2.2.2.1
    rw [e6]
    by_cases c : ZB (M_z τ) i 7 = x
    · rw [if_pos c, if_pos ⟨a, c⟩]
    · rw [if_neg c, if_neg (fun e => c e.2)]
theorem sm_compl {v w : Nat → Int32} {n : Nat} (h : ∀ i, i < n → v i + w i = 1) : sm v n = nI n - sm w n := by
  have key : sm v n + sm w n = nI n := by
    induction n with
    | zero => rfl
    | succ n ih =>
      have h1 := ih (fun i hi => h i (Nat.lt_succ_of_lt hi))
      have h2 := h n (Nat.lt_succ_self n)
      show (sm v n + v n) + (sm w n + w n) = nI (n + 1)
      rw [nI_succ, ← h1, ← h2]
      grind
  rw [← key]
  grind
theorem bo_eq (h : RelY σ (M_z τ) T) : mX2_boats σ = mX4_boats τ := by
  rw [bo4_sm]
  unfold mX2_boats
  rw [show mX2_boatsWith σ 0 (-5) = _ from bw_sm (w := 0) (by decide) (-5)]
  refine (sm_compl (n := 20) fun i hi => ?_).symm
  rcases h.b hi with a | ⟨a, b, g, -⟩
  · rw [a.1, if_pos a.2.1]; rfl
  · rw [a, if_neg (fun e => ?_)]
    · rfl
    · have := g.1.1
      rw [b.1] at e
      rw [e] at this
      exact absurd this (by decide)
theorem ac_eq (h : RelY σ (M_z τ) T) : mX2_boatsAshore σ = sm (fun i => if ZB (M_z τ) i 0 = 1 ∧ ¬ ZB (M_z τ) i 5 < 0 then 1 else 0) 20 := by
  unfold mX2_boatsAshore
  rw [show mX2_boatsWith σ 4 (-5) = _ from bw_sm (w := 4) (by decide) (-5)]
  refine (sm_compl (n := 20) fun i hi => ?_).symm
  rcases h.b hi with a | ⟨a, b, g, d⟩
  · rw [if_neg (fun e => by have := e.1; rw [a.1] at this; exact absurd this (by decide)), if_pos a.2.2.1]; rfl
  · have e4 : FY σ i 4 = ZB (M_z τ) i 5 := b.2.2.2.2.1
    rw [e4]
    rcases d with d | d
    · have e5 : ZB (M_z τ) i 5 = -5 := d.1
      rw [e5, if_pos rfl, if_neg (fun e => e.2 (by decide))]; rfl
    · have e8 : ¬ ZB (M_z τ) i 5 < 0 := by rw [lt_ti]; have := d.1.1; show ¬ _ < (0 : Int); omega
      rw [if_pos ⟨a, e8⟩, if_neg (m5_ne d.1.1)]; rfl
theorem ww_eq (h : RelY σ (M_z τ) T) : mX2_boatsWithWork σ = sm (fun i => if ZB (M_z τ) i 0 = 1 ∧ ¬ ZB (M_z τ) i 8 ≤ 0 then 1 else 0) 20 := by
  rw [bww_sm]
  refine sm_congr fun i hi => ?_
  rcases h.b hi with a | ⟨a, b, g, d⟩
  · rw [a.2.2.2.2.2, if_pos (by decide), if_neg (fun e => by have := e.1; rw [a.1] at this; exact absurd this (by decide))]
  · have e8 : FY σ i 8 = ZB (M_z τ) i 8 := b.2.2.2.2.2.2.2.1
    rw [e8]
    by_cases c : ZB (M_z τ) i 8 ≤ 0
    · rw [if_pos c, if_neg (fun e => e.2 c)]
    · rw [if_neg c, if_pos ⟨a, c⟩]
theorem kn_eq (h : RelY σ (M_z τ) T) (x : Int32) : mX2_knows σ x = mX4_isBoat τ x := by
  unfold mX2_knows mX4_isBoat
  show (if mX3_within x 0 19 = 0 then _ else _) = (if mX3_within x 0 19 = 0 then _ else _)
  by_cases c : mX3_within x 0 19 = 0
  · rw [if_pos c, if_pos c]
  · rw [if_neg c, if_neg c]
    obtain ⟨k, hk, rfl⟩ := vp_in_of (in_within (k := 19) rfl c) (by decide)
    rw [fa0 hk, zo0 hk]
    rcases h.b hk with a | ⟨a, b, g, -⟩
    · rw [a.1, a.2.1]; decide
    · rw [a, b.1, if_neg (m5_ne (by have := g.1.1; omega)), if_pos rfl]
theorem kn_get {x : Int32} (c : ¬ mX4_isBoat τ x = 0) : ∃ k, k < 20 ∧ x = nI k ∧ ZB (M_z τ) k 0 = 1 := by
  unfold mX4_isBoat at c
  by_cases d : mX4_in x 0 19 = 0
  · rw [if_pos d] at c; exact absurd rfl c
  · rw [if_neg d] at c
    obtain ⟨k, hk, rfl⟩ := vp_in_of (in_within (k := 19) rfl d) (by decide)
    rw [zo0 hk] at c
    refine ⟨k, hk, rfl, ?_⟩
    by_cases e : ZB (M_z τ) k 0 = 1
    · exact e
    · rw [if_neg e] at c; exact absurd rfl c
theorem row_get {x : Int32} (c : ¬ mX4_isRow x = 0) : ∃ k, k < 4 ∧ x = nI k := vp_in_of (in_within (k := 3) rfl c) (by decide)
theorem kind_get {x : Int32} (c : ¬ mX4_isKind x = 0) : ∃ k, k < 3 ∧ x = nI k := vp_in_of (in_within (k := 2) rfl c) (by decide)
theorem as_eq (h : RelY σ (M_z τ) T) {k : Nat} (hk : k < 20) (hb : ZB (M_z τ) k 0 = 1) : mX2_isAshore σ (nI k) = mX4_isAshore τ (nI k) := by
  unfold mX2_isAshore mX4_isAshore
  rw [fa4 hk, zo5 hk]
  obtain ⟨b, g, d⟩ := h.p hk hb
  rw [show FY σ k 4 = ZB (M_z τ) k 5 from b.2.2.2.2.1]
  rcases d with d | d
  · rw [show ZB (M_z τ) k 5 = -5 from d.1]; decide
  · rw [if_neg (m5_ne d.1.1), if_neg (by rw [lt_ti]; have := d.1.1; show ¬ _ < (0 : Int); omega)]
theorem tide_eq (h : RelY σ (M_z τ) T) (x : Int32) : mX2_tideOn σ x = mX4_tideAt τ x := by
  unfold mX2_tideOn mX4_tideAt
  rw [show Y_settings σ (0 : Int32).toNatClampNeg = M_z τ (2 : Int32).toNatClampNeg from h.1.2.2.2.1.1]
  split
  · rfl
  · rw [Int32.zero_sub]
theorem left_eq (h : RelY σ (M_z τ) T) : mX2_liftsLeft σ = mX4_liftsLeft τ := by
  unfold mX2_liftsLeft mX4_liftsLeft
  rw [show Y_settings σ (1 : Int32).toNatClampNeg = M_z τ (3 : Int32).toNatClampNeg from h.1.2.2.2.1.2.1, show Y_liftsToday σ = M_z τ (1 : Int32).toNatClampNeg from h.1.2.1.1]
  have h1 : 0 ≤ (M_z τ (1 : Int32).toNatClampNeg).toInt ∧ (M_z τ (1 : Int32).toNatClampNeg).toInt ≤ 9 := h.1.2.1.2
  have h3 : 1 ≤ (M_z τ (3 : Int32).toNatClampNeg).toInt ∧ (M_z τ (3 : Int32).toNatClampNeg).toInt ≤ 9 := h.1.2.2.2.2.1.2.1
  have e := ti_sub (x := M_z τ (3 : Int32).toNatClampNeg) (y := M_z τ (1 : Int32).toNatClampNeg) (by omega) (by omega)
  by_cases c : M_z τ (3 : Int32).toNatClampNeg ≤ M_z τ (1 : Int32).toNatClampNeg
  · rw [if_pos c, if_neg (by rw [lt_ti, e]; rw [le_ti] at c; show ¬ (0 : Int) < _; omega)]
  · rw [if_neg c, if_pos (by rw [lt_ti, e]; rw [le_ti] at c; show (0 : Int) < _; omega)]
end REL
