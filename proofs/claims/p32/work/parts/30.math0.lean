/-! THE MATH LAYER: the class alone: facts, sums, what an act leaves -/
section MZ
variable {σ : YS}
theorem nI_mul (a b : Nat) : nI a * nI b = nI (a * b) := by
  show Int32.ofNat a * Int32.ofNat b = Int32.ofNat (a * b)
  rw [Int32.ofNat_mul]
abbrev FY (σ : YS) (k w : Nat) : Int32 := Y_facts σ (k * 11 + w)
theorem ixf {k w : Nat} (hk : k < 20) (hw : w < 11) : ((nI k * 11) + nI w).toNatClampNeg = k * 11 + w := by
  rw [show (11 : Int32) = nI 11 from rfl, nI_mul, nI_add]
  exact nI_clamp (by omega)
theorem fact_nI {σ : YS} {k w : Nat} (hk : k < 20) (hw : w < 11) : mX2_fact σ (nI k) (nI w) = FY σ k w := by
  unfold mX2_fact
  rw [ixf hk hw]
theorem fa0 {σ : YS} {k : Nat} (hk : k < 20) : mX2_fact σ (nI k) 0 = FY σ k 0 := fact_nI (w := 0) hk (by decide)
theorem fa1 {σ : YS} {k : Nat} (hk : k < 20) : mX2_fact σ (nI k) 1 = FY σ k 1 := fact_nI (w := 1) hk (by decide)
theorem fa2 {σ : YS} {k : Nat} (hk : k < 20) : mX2_fact σ (nI k) 2 = FY σ k 2 := fact_nI (w := 2) hk (by decide)
theorem fa3 {σ : YS} {k : Nat} (hk : k < 20) : mX2_fact σ (nI k) 3 = FY σ k 3 := fact_nI (w := 3) hk (by decide)
theorem fa4 {σ : YS} {k : Nat} (hk : k < 20) : mX2_fact σ (nI k) 4 = FY σ k 4 := fact_nI (w := 4) hk (by decide)
theorem fa5 {σ : YS} {k : Nat} (hk : k < 20) : mX2_fact σ (nI k) 5 = FY σ k 5 := fact_nI (w := 5) hk (by decide)
theorem fa6 {σ : YS} {k : Nat} (hk : k < 20) : mX2_fact σ (nI k) 6 = FY σ k 6 := fact_nI (w := 6) hk (by decide)
theorem fa7 {σ : YS} {k : Nat} (hk : k < 20) : mX2_fact σ (nI k) 7 = FY σ k 7 := fact_nI (w := 7) hk (by decide)
theorem fa8 {σ : YS} {k : Nat} (hk : k < 20) : mX2_fact σ (nI k) 8 = FY σ k 8 := fact_nI (w := 8) hk (by decide)
theorem fa9 {σ : YS} {k : Nat} (hk : k < 20) : mX2_fact σ (nI k) 9 = FY σ k 9 := fact_nI (w := 9) hk (by decide)
theorem fa10 {σ : YS} {k : Nat} (hk : k < 20) : mX2_fact σ (nI k) 10 = FY σ k 10 := fact_nI (w := 10) hk (by decide)
def sm (v : Nat → Int32) : Nat → Int32
  | 0 => 0
  | n + 1 => sm v n + v n
theorem sm_congr {v w : Nat → Int32} {n : Nat} (h : ∀ i, i < n → v i = w i) : sm v n = sm w n := by
  induction n with
  | zero => rfl
  | succ n ih =>
    show sm v n + v n = sm w n + w n
    rw [ih (fun i hi => h i (Nat.lt_succ_of_lt hi)), h n (Nat.lt_succ_self n)]
theorem loopC {L : Nat → Int32 → Int32 → Int32} {g : Nat → Int32} {v : Nat → Int32} {N : Nat} (hend : ∀ n c, L (n + 1) (g N) c = c) (hstep : ∀ n i c, i < N → L (n + 1) (g i) c = L n (g (i + 1)) (c + v i)) (m : Nat) : L (N + 1 + m) (g 0) 0 = sm v N := by
  have key : ∀ d i, i + d = N → L (d + 1 + m) (g i) (sm v i) = sm v N := by
    intro d
    induction d with
    | zero =>
      intro i hi
      have hi : i = N := by omega
      subst hi
      rw [show 0 + 1 + m = m + 1 by omega]
      exact hend m _
    | succ d ih =>
      intro i hi
      rw [show d + 1 + 1 + m = (d + 1 + m) + 1 by omega, hstep _ i _ (by omega)]
      exact ih (i + 1) (by omega)
  exact key N 0 (by omega)
def ct (p : Nat → Prop) [DecidablePred p] : Nat → Nat
  | 0 => 0
  | n + 1 => ct p n + if p n then 1 else 0
theorem ct_congr {p q : Nat → Prop} [DecidablePred p] [DecidablePred q] {n : Nat} (h : ∀ i, i < n → (p i ↔ q i)) : ct p n = ct q n := by
  induction n with
  | zero => rfl
  | succ n ih =>
    show ct p n + (if p n then 1 else 0) = ct q n + (if q n then 1 else 0)
    rw [ih (fun i hi => h i (Nat.lt_succ_of_lt hi))]
    have := h n (Nat.lt_succ_self n)
    by_cases hp : p n
    · rw [if_pos hp, if_pos (this.mp hp)]
    · rw [if_neg hp, if_neg (fun c => hp (this.mpr c))]
theorem ct_le {p : Nat → Prop} [DecidablePred p] (n : Nat) : ct p n ≤ n := by
  induction n with
  | zero => exact Nat.le_refl 0
  | succ n ih =>
    show ct p n + (if p n then 1 else 0) ≤ n + 1
    split <;> omega
theorem ct_mono {p q : Nat → Prop} [DecidablePred p] [DecidablePred q] {n : Nat} (h : ∀ i, i < n → p i → q i) : ct p n ≤ ct q n := by
  induction n with
  | zero => exact Nat.le_refl 0
  | succ n ih =>
    have h1 := ih (fun i hi => h i (Nat.lt_succ_of_lt hi))
    have h2 := h n (Nat.lt_succ_self n)
    show ct p n + (if p n then 1 else 0) ≤ ct q n + (if q n then 1 else 0)
    by_cases hp : p n
    · rw [if_pos hp, if_pos (h2 hp)]; omega
    · rw [if_neg hp]; omega
theorem ct_lt {p q : Nat → Prop} [DecidablePred p] [DecidablePred q] {n j : Nat} (h : ∀ i, i < n → p i → q i) (hj : j < n) (h1 : ¬ p j) (h2 : q j) : ct p n < ct q n := by
  induction n with
  | zero => omega
  | succ n ih =>
    have hm := ct_mono (p := p) (q := q) (n := n) (fun i hi => h i (Nat.lt_succ_of_lt hi))
    have hn := h n (Nat.lt_succ_self n)
    show ct p n + (if p n then 1 else 0) < ct q n + (if q n then 1 else 0)
    by_cases e : j = n
    · subst e
      rw [if_neg h1, if_pos h2]; omega
    · have := ih (fun i hi => h i (Nat.lt_succ_of_lt hi)) (by omega)
      by_cases hp : p n
      · rw [if_pos hp, if_pos (hn hp)]; omega
      · rw [if_neg hp]; omega
theorem ct_add {p q r : Nat → Prop} [DecidablePred p] [DecidablePred q] [DecidablePred r] {n : Nat} (h : ∀ i, i < n → (p i ↔ q i ∨ r i)) (hd : ∀ i, i < n → ¬ (q i ∧ r i)) : ct p n = ct q n + ct r n := by
  induction n with
  | zero => rfl
  | succ n ih =>
    have h1 := ih (fun i hi => h i (Nat.lt_succ_of_lt hi)) (fun i hi => hd i (Nat.lt_succ_of_lt hi))
    have h2 := h n (Nat.lt_succ_self n)
    have h3 := hd n (Nat.lt_succ_self n)
    show ct p n + (if p n then 1 else 0) = ct q n + (if q n then 1 else 0) + (ct r n + (if r n then 1 else 0))
    by_cases hq : q n
    · have hr : ¬ r n := fun c => h3 ⟨hq, c⟩
      rw [if_pos (h2.mpr (Or.inl hq)), if_pos hq, if_neg hr]; omega
    · by_cases hr : r n
      · rw [if_pos (h2.mpr (Or.inr hr)), if_neg hq, if_pos hr]; omega
      · rw [if_neg (fun c => (h2.mp c).elim hq hr), if_neg hq, if_neg hr]; omega
theorem ct_zero {p : Nat → Prop} [DecidablePred p] {n : Nat} (h : ∀ i, i < n → ¬ p i) : ct p n = 0 := by
  have h1 := ct_mono (p := p) (q := fun _ => False) (n := n) (fun i hi c => h i hi c)
  have h2 : ct (fun _ => False) n = 0 := by
    clear h1 h
    induction n with
    | zero => rfl
    | succ n ih => show ct (fun _ => False) n + (if False then 1 else 0) = 0; rw [ih, if_neg id]
  omega
theorem ct_all {p : Nat → Prop} [DecidablePred p] {n : Nat} (h : ∀ i, i < n → p i) : ct p n = n := by
  induction n with
  | zero => rfl
  | succ n ih => show ct p n + (if p n then 1 else 0) = n + 1; rw [ih (fun i hi => h i (Nat.lt_succ_of_lt hi)), if_pos (h n (Nat.lt_succ_self n))]
theorem ct_lt_all {p : Nat → Prop} [DecidablePred p] {n j : Nat} (hj : j < n) (h : ¬ p j) : ct p n < n := by
  have h1 := ct_lt (p := p) (q := fun _ => True) (n := n) (fun _ _ _ => trivial) hj h trivial
  have h2 : ct (fun _ => True) n = n := ct_all (fun _ _ => trivial)
  omega
theorem ct_pos {p : Nat → Prop} [DecidablePred p] {n j : Nat} (hj : j < n) (h : p j) : 0 < ct p n := by
  have h1 := ct_lt (p := fun _ => False) (q := p) (n := n) (fun _ _ c => c.elim) hj id h
  omega
theorem ct_two {p : Nat → Prop} [DecidablePred p] {n i j : Nat} (hi : i < n) (hj : j < n) (hne : i ≠ j) (h1 : p i) (h2 : p j) : 2 ≤ ct p n := by
  have a := ct_lt (p := fun k => p k ∧ k ≠ j) (q := p) (n := n) (fun _ _ c => c.1) hj (fun c => c.2 rfl) h2
  have b := ct_pos (p := fun k => p k ∧ k ≠ j) hi ⟨h1, hne⟩
  omega
theorem sm_ct {v : Nat → Int32} {p : Nat → Prop} [DecidablePred p] {n : Nat} (h : ∀ i, i < n → v i = if p i then 1 else 0) : sm v n = nI (ct p n) := by
  induction n with
  | zero => rfl
  | succ n ih =>
    show sm v n + v n = nI (ct p n + if p n then 1 else 0)
    rw [ih (fun i hi => h i (Nat.lt_succ_of_lt hi)), h n (Nat.lt_succ_self n)]
    split
    · rw [show (1 : Int32) = nI 1 from rfl, nI_add]
    · rw [show (0 : Int32) = nI 0 from rfl, nI_add]
theorem i20 {i : Nat} (hi : i < 20) : ¬ (20 : Int32) ≤ nI i := nI_ge (b := 20) hi (by decide)
theorem e20 : (20 : Int32) ≤ nI 20 := nI_le (a := 20) (Nat.le_refl 20) (by decide)
theorem nI1 (i : Nat) : nI i + 1 = nI (i + 1) := (nI_succ i).symm
theorem add0 (c : Int32) : c + 0 = c := Int32.add_zero c
theorem bw_sm {σ : YS} {w : Nat} (hw : w < 11) (v : Int32) : mX2_boatsWith σ (nI w) v = sm (fun i => if FY σ i w = v then 1 else 0) 20 := by
  have hf : ¬ mX2_isFact (nI w) = 0 := ne_X2_isFact (vp_in_nI hw (by decide))
  have h := loopC (L := mX2_boatsWith_L5 σ (nI w) v) (g := fun i => nI (i * 11)) (v := fun i => if FY σ i w = v then 1 else 0) (N := 20) (fun n c => ?_) (fun n i c hi => ?_) 211
  · exact h
  · have h2 : nI (20 * 11) + 11 = nI 231 := rfl
    have h1 : (220 : Int32) < nI 231 := nI_lt (a := 220) (by omega) (by omega)
    simp only [mX2_boatsWith_L5, h2, if_pos h1]
  · have h2 : nI (i * 11) + 11 = nI ((i + 1) * 11) := by rw [show (11 : Int32) = nI 11 from rfl, nI_add]; congr 1; omega
    have h1 : ¬ (220 : Int32) < nI ((i + 1) * 11) := nI_nlt (b := (i + 1) * 11) (a := 220) (by omega) (by omega)
    have h3 : (nI (i * 11) + nI w).toNatClampNeg = i * 11 + w := by rw [nI_add]; exact nI_clamp (by omega)
    simp only [mX2_boatsWith_L5, h2, if_neg h1, if_neg hf, h3]
    by_cases a : FY σ i w = v
    · rw [if_pos a, if_pos a]
    · rw [if_neg a, if_neg a, add0]
theorem mt2_sm {σ : YS} (x : Int32) : mX2_metresTaken σ x = sm (fun i => if FY σ i 4 = x then FY σ i 0 + 1 else 0) 20 := by
  have h := loopC (L := mX2_metresTaken_L4 σ x) (g := fun i => nI (i * 11)) (v := fun i => if FY σ i 4 = x then FY σ i 0 + 1 else 0) (N := 20) (fun n c => ?_) (fun n i c hi => ?_) 201
  · exact h
  · have h2 : nI (20 * 11) + 11 = nI 231 := rfl
    have h1 : (220 : Int32) < nI 231 := nI_lt (a := 220) (by omega) (by omega)
    simp only [mX2_metresTaken_L4, h2, if_pos h1]
  · have h2 : nI (i * 11) + 11 = nI ((i + 1) * 11) := by rw [show (11 : Int32) = nI 11 from rfl, nI_add]; congr 1; omega
    have h1 : ¬ (220 : Int32) < nI ((i + 1) * 11) := nI_nlt (b := (i + 1) * 11) (a := 220) (by omega) (by omega)
    have h3 : (nI (i * 11) + 4).toNatClampNeg = i * 11 + 4 := by rw [show (4 : Int32) = nI 4 from rfl, nI_add]; exact nI_clamp (by omega)
    have h4 : (nI (i * 11) + 0).toNatClampNeg = i * 11 + 0 := by rw [show (0 : Int32) = nI 0 from rfl, nI_add]; exact nI_clamp (by omega)
    simp only [mX2_metresTaken_L4, h2, if_neg h1, h3, h4]
    by_cases a : FY σ i 4 = x
    · rw [if_pos a, if_pos a]
    · rw [if_neg a, if_neg a, add0]
theorem bww_sm {σ : YS} : mX2_boatsWithWork σ = sm (fun i => if FY σ i 8 ≤ 0 then 0 else 1) 20 := by
  refine loopC (L := mX2_boatsWithWork_L4 σ) (g := nI) (N := 20) (fun n c => ?_) (fun n i c hi => ?_) 1
  · simp only [mX2_boatsWithWork_L4, if_pos e20]
  · simp only [mX2_boatsWithWork_L4, if_neg (i20 hi), nI1, fa8 hi]
    by_cases a : FY σ i 8 ≤ 0
    · rw [if_pos a, if_pos a, add0]
    · rw [if_neg a, if_neg a]
theorem one_ne : ¬ (1 : Int32) = 0 := by decide
theorem sm_compl {v w : Nat → Int32} {n : Nat} (h : ∀ i, i < n → v i + w i = 1) : sm v n = nI n - sm w n := by
  have key : sm v n + sm w n = nI n := by
    induction n with
    | zero => rfl
    | succ n ih =>
      have h1 := ih (fun i hi => h i (Nat.lt_succ_of_lt hi))
      have h2 := h n (Nat.lt_succ_self n)
      show (sm v n + v n) + (sm w n + w n) = nI (n + 1)
      rw [nI_succ, ← h1, ← h2]
      grind
  rw [← key]
  grind
theorem nle_lt {a b : Int32} : ¬ a ≤ b ↔ b < a := by rw [le_ti, lt_ti]; omega
theorem nlt_le {a b : Int32} : ¬ a < b ↔ b ≤ a := by rw [le_ti, lt_ti]; omega
theorem nI_ti {n : Nat} (h : n < 2 ^ 31) : (nI n).toInt = (n : Int) := nI_toInt h
theorem ge0 {n : Nat} (h : n < 2 ^ 31) : 0 ≤ (nI n).toInt := by rw [nI_ti h]; omega
theorem first_last {L1 : Nat → Int32 → Int32} {L2 : Nat → Int32 → Int32 → Int32} {P : Nat → Prop} [DecidablePred P] {d : Int32} {N : Nat} (h1e : ∀ n, L1 (n + 1) (nI N) = d) (h1s : ∀ n i, i < N → L1 (n + 1) (nI i) = if P i then nI i else L1 n (nI (i + 1)))
    (h2e : ∀ n c, L2 (n + 1) (nI N) c = c) (h2s : ∀ n i c, i < N → L2 (n + 1) (nI i) c = L2 n (nI (i + 1)) (if P i then nI i else c)) (hu : ∀ i j, i < N → j < N → P i → P j → i = j) (m : Nat) : L1 (N + 1 + m) (nI 0) = L2 (N + 1 + m) (nI 0) d := by
  have none : ∀ dd i c, i + dd = N → (∀ j, i ≤ j → j < N → ¬ P j) → L2 (dd + 1 + m) (nI i) c = c := by
    intro dd
    induction dd with
    | zero =>
      intro i c hi _
      have hi : i = N := by omega
      subst hi
      rw [show 0 + 1 + m = m + 1 by omega, h2e]
    | succ dd ih =>
      intro i c hi hn
      rw [show dd + 1 + 1 + m = (dd + 1 + m) + 1 by omega, h2s _ i _ (by omega), if_neg (hn i (Nat.le_refl i) (by omega))]
      exact ih (i + 1) c (by omega) (fun j h1 h2 => hn j (by omega) h2)
  have key : ∀ dd i, i + dd = N → L1 (dd + 1 + m) (nI i) = L2 (dd + 1 + m) (nI i) d := by
    intro dd
    induction dd with
    | zero =>
      intro i hi
      have hi : i = N := by omega
      subst hi
      rw [show 0 + 1 + m = m + 1 by omega, h2e, h1e]
    | succ dd ih =>
      intro i hi
      rw [show dd + 1 + 1 + m = (dd + 1 + m) + 1 by omega, h1s _ i (by omega), h2s _ i _ (by omega)]
      by_cases a : P i
      · rw [if_pos a, if_pos a]
        exact (none dd (i + 1) (nI i) (by omega) (fun j h1 h2 c => by have := hu i j (by omega) h2 a c; omega)).symm
      · rw [if_neg a, if_neg a]
        exact ih (i + 1) (by omega)
  exact key N 0 (by omega)
theorem FY_note {σ : YS} {k w j u : Nat} (hk : k < 20) (hw : w < 11) (hu : u < 11) (v : Int32) : FY (mX2_note σ (nI k) (nI w) v) j u = if j = k ∧ u = w then v else FY σ j u := by
  show upd (Y_facts σ) ((nI k * 11) + nI w).toNatClampNeg v (j * 11 + u) = _
  rw [ixf hk hw]
  unfold upd
  by_cases c : j = k ∧ u = w
  · rw [if_pos c, if_pos (by rw [c.1, c.2])]
  · rw [if_neg c, if_neg (fun e => c (by omega))]
theorem fn0 {σ : YS} {k j u : Nat} (hk : k < 20) (hu : u < 11) (v : Int32) : FY (mX2_note σ (nI k) 0 v) j u = if j = k ∧ u = 0 then v else FY σ j u := FY_note (w := 0) hk (by decide) hu v
theorem fn1 {σ : YS} {k j u : Nat} (hk : k < 20) (hu : u < 11) (v : Int32) : FY (mX2_note σ (nI k) 1 v) j u = if j = k ∧ u = 1 then v else FY σ j u := FY_note (w := 1) hk (by decide) hu v
theorem fn2 {σ : YS} {k j u : Nat} (hk : k < 20) (hu : u < 11) (v : Int32) : FY (mX2_note σ (nI k) 2 v) j u = if j = k ∧ u = 2 then v else FY σ j u := FY_note (w := 2) hk (by decide) hu v
theorem fn3 {σ : YS} {k j u : Nat} (hk : k < 20) (hu : u < 11) (v : Int32) : FY (mX2_note σ (nI k) 3 v) j u = if j = k ∧ u = 3 then v else FY σ j u := FY_note (w := 3) hk (by decide) hu v
theorem fn4 {σ : YS} {k j u : Nat} (hk : k < 20) (hu : u < 11) (v : Int32) : FY (mX2_note σ (nI k) 4 v) j u = if j = k ∧ u = 4 then v else FY σ j u := FY_note (w := 4) hk (by decide) hu v
theorem fn5 {σ : YS} {k j u : Nat} (hk : k < 20) (hu : u < 11) (v : Int32) : FY (mX2_note σ (nI k) 5 v) j u = if j = k ∧ u = 5 then v else FY σ j u := FY_note (w := 5) hk (by decide) hu v
theorem fn6 {σ : YS} {k j u : Nat} (hk : k < 20) (hu : u < 11) (v : Int32) : FY (mX2_note σ (nI k) 6 v) j u = if j = k ∧ u = 6 then v else FY σ j u := FY_note (w := 6) hk (by decide) hu v
theorem fn7 {σ : YS} {k j u : Nat} (hk : k < 20) (hu : u < 11) (v : Int32) : FY (mX2_note σ (nI k) 7 v) j u = if j = k ∧ u = 7 then v else FY σ j u := FY_note (w := 7) hk (by decide) hu v
theorem fn8 {σ : YS} {k j u : Nat} (hk : k < 20) (hu : u < 11) (v : Int32) : FY (mX2_note σ (nI k) 8 v) j u = if j = k ∧ u = 8 then v else FY σ j u := FY_note (w := 8) hk (by decide) hu v
theorem fn9 {σ : YS} {k j u : Nat} (hk : k < 20) (hu : u < 11) (v : Int32) : FY (mX2_note σ (nI k) 9 v) j u = if j = k ∧ u = 9 then v else FY σ j u := FY_note (w := 9) hk (by decide) hu v
theorem fn10 {σ : YS} {k j u : Nat} (hk : k < 20) (hu : u < 11) (v : Int32) : FY (mX2_note σ (nI k) 10 v) j u = if j = k ∧ u = 10 then v else FY σ j u := FY_note (w := 10) hk (by decide) hu v
theorem tl_f {j u : Nat} : FY (mX2_takeLift σ) j u = FY σ j u := rfl
theorem sl_f {v : Int32} {j u : Nat} : FY (Y_set_launches σ v) j u = FY σ j u := rfl
def lfY (σ : YS) (x r cc : Int32) : YS := mX2_takeLift (mX2_note (mX2_putAtOuterEnd (mX2_note σ x 6 cc) x r) x 10 (mX2_fact (mX2_putAtOuterEnd (mX2_note σ x 6 cc) x r) x 10 + 1))
theorem lfY_f {k : Nat} (hk : k < 20) (r cc : Int32) {u j : Nat} (hu : u < 11) : FY (lfY σ (nI k) r cc) j u = if j = k ∧ u = 10 then FY σ k 10 + 1 else if j = k ∧ u = 4 then r else if j = k ∧ u = 5 then mX2_boatsIn (mX2_note σ (nI k) 6 cc) r else if j = k ∧ u = 6 then cc else FY σ j u := by
  unfold lfY
  rw [tl_f, fn10 hk hu, fa10 hk]
  unfold mX2_putAtOuterEnd
  rw [fn4 hk hu, fn5 hk hu, fn6 hk hu, fn4 hk (by decide), fn5 hk (by decide), fn6 hk (by decide)]
  rw [if_neg (fun c : k = k ∧ (10 : Nat) = 4 => absurd c.2 (by decide)), if_neg (fun c : k = k ∧ (10 : Nat) = 5 => absurd c.2 (by decide)), if_neg (fun c : k = k ∧ (10 : Nat) = 6 => absurd c.2 (by decide))]
def laY (σ : YS) (x : Int32) : YS := Y_set_launches (mX2_takeLift (mX2_noteAfloat σ x)) ((Y_launches (mX2_takeLift (mX2_noteAfloat σ x))) + 1)
theorem laY_f {k : Nat} (hk : k < 20) {u j : Nat} (hu : u < 11) : FY (laY σ (nI k)) j u = if j = k ∧ u = 9 then 0 else if j = k ∧ u = 6 then -5 else if j = k ∧ u = 5 then -5 else if j = k ∧ u = 4 then -5 else FY σ j u := by
  unfold laY
  rw [sl_f, tl_f]
  unfold mX2_noteAfloat
  rw [fn9 hk hu, fn6 hk hu, fn5 hk hu, fn4 hk hu]
def moY (σ : YS) (x r : Int32) : YS := mX2_takeLift (mX2_putAtOuterEnd σ x r)
theorem moY_f {k : Nat} (hk : k < 20) (r : Int32) {u j : Nat} (hu : u < 11) : FY (moY σ (nI k) r) j u = if j = k ∧ u = 4 then r else if j = k ∧ u = 5 then mX2_boatsIn σ r else FY σ j u := by
  unfold moY
  rw [tl_f]
  unfold mX2_putAtOuterEnd
  rw [fn4 hk hu, fn5 hk hu]
def coY (σ : YS) (n x1 x2 x3 x4 : Int32) : YS := mX2_noteAfloat (mX2_note (mX2_note (mX2_note (mX2_note (mX2_note (mX2_note (mX2_note σ n 0 x1) n 1 x2) n 2 x3) n 3 x4) n 7 (-5)) n 8 0) n 10 0) n
theorem coY_f {k : Nat} (hk : k < 20) {x1 x2 x3 x4 : Int32} {u j : Nat} (hu : u < 11) : FY (coY σ (nI k) x1 x2 x3 x4) j u = if j = k then (if u = 9 then 0 else if u = 6 then -5 else if u = 5 then -5 else if u = 4 then -5 else if u = 10 then 0 else if u = 8 then 0 else if u = 7 then -5 else if u = 3 then x4 else if u = 2 then x3 else if u = 1 then x2 else if u = 0 then x1 else FY σ j u) else FY σ j u := by
  unfold coY mX2_noteAfloat
  rw [fn9 hk hu, fn6 hk hu, fn5 hk hu, fn4 hk hu, fn10 hk hu, fn8 hk hu, fn7 hk hu, fn3 hk hu, fn2 hk hu, fn1 hk hu, fn0 hk hu]
  by_cases e : j = k
  · simp only [e, true_and, if_true]
  · simp only [e, false_and, if_false]
theorem coY_o {n x1 x2 x3 x4 : Int32} : (coY σ n x1 x2 x3 x4).2 = σ.2 := rfl
theorem fg_loop {k : Nat} (hk : k < 20) : ∀ c i (σ : YS), i + c = 11 → (∀ j u, u < 11 → FY (mX2_forget_L2 (nI k) (c + 2) σ (nI i)) j u = if j = k ∧ i ≤ u then -5 else FY σ j u) ∧ (mX2_forget_L2 (nI k) (c + 2) σ (nI i)).2 = σ.2 := by
  intro c
  induction c with
  | zero =>
    intro i σ hi
    have hi : i = 11 := by omega
    subst hi
    have e : (11 : Int32) ≤ nI 11 := nI_le (a := 11) (Nat.le_refl 11) (by decide)
    rw [mX2_forget_L2, if_pos e]
    exact ⟨fun j u hu => by rw [if_neg (fun c => by omega)], rfl⟩
  | succ c ih =>
    intro i σ hi
    have e : ¬ (11 : Int32) ≤ nI i := nI_ge (b := 11) (by omega) (by decide)
    obtain ⟨i1, i2⟩ := ih (i + 1) (mX2_note σ (nI k) (nI i) (-5)) (by omega)
    rw [show c + 1 + 2 = (c + 2) + 1 by omega, mX2_forget_L2, if_neg e, nI1]
    refine ⟨fun j u hu => ?_, i2.trans rfl⟩
    rw [i1 j u hu, FY_note hk (by omega) hu]
    by_cases a : j = k ∧ i ≤ u
    · rw [if_pos a]
      by_cases b : u = i
      · rw [if_neg (fun c => by omega), if_pos ⟨a.1, b⟩]
      · rw [if_pos ⟨a.1, by omega⟩]
    · rw [if_neg a, if_neg (fun c => a ⟨c.1, by omega⟩), if_neg (fun c => a ⟨c.1, by omega⟩)]
theorem fg_f {k : Nat} (hk : k < 20) {j u : Nat} (hu : u < 11) : FY (mX2_forget σ (nI k)) j u = if j = k then -5 else FY σ j u := by
  have := (fg_loop hk 11 0 σ (by omega)).1 j u hu
  refine Eq.trans (show FY (mX2_forget σ (nI k)) j u = FY (mX2_forget_L2 (nI k) (11 + 2) σ (nI 0)) j u from rfl) (this.trans ?_)
  by_cases e : j = k
  · rw [if_pos e, if_pos ⟨e, Nat.zero_le _⟩]
  · rw [if_neg e, if_neg (fun c => e c.1)]
theorem fg_o {k : Nat} (hk : k < 20) : (mX2_forget σ (nI k)).2 = σ.2 := (fg_loop hk 11 0 σ (by omega)).2
theorem set_1 {η : HS} {a : Int32} : (mX0_settle η a).1 = a := by
  unfold mX0_settle
  split
  · rfl
  · split <;> rfl
theorem set_neg {η : HS} {a : Int32} (h : a.toInt < 0) : (mX0_settle η a).2 = η := by
  unfold mX0_settle
  rw [if_pos (by rw [lt_ti]; exact h)]
theorem half {w v : Int32} {n m : Int} (h1 : 1 ≤ w.toInt ∧ w.toInt ≤ 30) (hv : v.toInt = n) (hm : (v / 2).toInt = m) (he : n = 2 * m) : (v < 2 * w) ↔ v / 2 < w := by
  rw [lt_ti, lt_ti, hv, hm, ti_mul (x := 2) (by show _ ≤ 2 * w.toInt; omega) (by show 2 * w.toInt < _; omega)]
  show n < 2 * w.toInt ↔ _
  omega
end MZ
