/-! THE MATH LAYER: the class and the reference keep a relation, and answer alike. Sums, counts, the relation -/
theorem nI_mul (a b : Nat) : nI a * nI b = nI (a * b) := by
  show Int32.ofNat a * Int32.ofNat b = Int32.ofNat (a * b)
  rw [Int32.ofNat_mul]
abbrev FY (σ : YS) (k w : Nat) : Int32 := Y_facts σ (k * 11 + w)
abbrev ZB (z : Nat → Int32) (k w : Nat) : Int32 := z (15 + 12 * k + w)
theorem ixf {k w : Nat} (hk : k < 20) (hw : w < 11) : ((nI k * 11) + nI w).toNatClampNeg = k * 11 + w := by
  rw [show (11 : Int32) = nI 11 from rfl, nI_mul, nI_add]
  exact nI_clamp (by omega)
theorem ixz {k w : Nat} (hk : k < 20) (hw : w < 12) : ((15 + (12 * nI k)) + nI w).toNatClampNeg = 15 + 12 * k + w := by
  rw [show (15 : Int32) = nI 15 from rfl, show (12 : Int32) = nI 12 from rfl, nI_mul, nI_add, nI_add]
  exact nI_clamp (by omega)
theorem fact_nI {σ : YS} {k w : Nat} (hk : k < 20) (hw : w < 11) : mX2_fact σ (nI k) (nI w) = FY σ k w := by
  unfold mX2_fact
  rw [ixf hk hw]
theorem of_nI {τ : MS} {k w : Nat} (hk : k < 20) (hw : w < 12) : mX4_of τ (nI k) (nI w) = ZB (M_z τ) k w := by
  unfold mX4_of
  rw [ixz hk hw]
theorem fa0 {σ : YS} {k : Nat} (hk : k < 20) : mX2_fact σ (nI k) 0 = FY σ k 0 := fact_nI (w := 0) hk (by decide)
theorem fa1 {σ : YS} {k : Nat} (hk : k < 20) : mX2_fact σ (nI k) 1 = FY σ k 1 := fact_nI (w := 1) hk (by decide)
theorem fa2 {σ : YS} {k : Nat} (hk : k < 20) : mX2_fact σ (nI k) 2 = FY σ k 2 := fact_nI (w := 2) hk (by decide)
theorem fa3 {σ : YS} {k : Nat} (hk : k < 20) : mX2_fact σ (nI k) 3 = FY σ k 3 := fact_nI (w := 3) hk (by decide)
theorem fa4 {σ : YS} {k : Nat} (hk : k < 20) : mX2_fact σ (nI k) 4 = FY σ k 4 := fact_nI (w := 4) hk (by decide)
theorem fa5 {σ : YS} {k : Nat} (hk : k < 20) : mX2_fact σ (nI k) 5 = FY σ k 5 := fact_nI (w := 5) hk (by decide)
theorem fa6 {σ : YS} {k : Nat} (hk : k < 20) : mX2_fact σ (nI k) 6 = FY σ k 6 := fact_nI (w := 6) hk (by decide)
theorem fa7 {σ : YS} {k : Nat} (hk : k < 20) : mX2_fact σ (nI k) 7 = FY σ k 7 := fact_nI (w := 7) hk (by decide)
theorem fa8 {σ : YS} {k : Nat} (hk : k < 20) : mX2_fact σ (nI k) 8 = FY σ k 8 := fact_nI (w := 8) hk (by decide)
theorem fa9 {σ : YS} {k : Nat} (hk : k < 20) : mX2_fact σ (nI k) 9 = FY σ k 9 := fact_nI (w := 9) hk (by decide)
theorem fa10 {σ : YS} {k : Nat} (hk : k < 20) : mX2_fact σ (nI k) 10 = FY σ k 10 := fact_nI (w := 10) hk (by decide)
theorem zo0 {τ : MS} {k : Nat} (hk : k < 20) : mX4_of τ (nI k) 0 = ZB (M_z τ) k 0 := of_nI (w := 0) hk (by decide)
theorem zo1 {τ : MS} {k : Nat} (hk : k < 20) : mX4_of τ (nI k) 1 = ZB (M_z τ) k 1 := of_nI (w := 1) hk (by decide)
theorem zo2 {τ : MS} {k : Nat} (hk : k < 20) : mX4_of τ (nI k) 2 = ZB (M_z τ) k 2 := of_nI (w := 2) hk (by decide)
theorem zo3 {τ : MS} {k : Nat} (hk : k < 20) : mX4_of τ (nI k) 3 = ZB (M_z τ) k 3 := of_nI (w := 3) hk (by decide)
theorem zo4 {τ : MS} {k : Nat} (hk : k < 20) : mX4_of τ (nI k) 4 = ZB (M_z τ) k 4 := of_nI (w := 4) hk (by decide)
theorem zo5 {τ : MS} {k : Nat} (hk : k < 20) : mX4_of τ (nI k) 5 = ZB (M_z τ) k 5 := of_nI (w := 5) hk (by decide)
theorem zo6 {τ : MS} {k : Nat} (hk : k < 20) : mX4_of τ (nI k) 6 = ZB (M_z τ) k 6 := of_nI (w := 6) hk (by decide)
theorem zo7 {τ : MS} {k : Nat} (hk : k < 20) : mX4_of τ (nI k) 7 = ZB (M_z τ) k 7 := of_nI (w := 7) hk (by decide)
theorem zo8 {τ : MS} {k : Nat} (hk : k < 20) : mX4_of τ (nI k) 8 = ZB (M_z τ) k 8 := of_nI (w := 8) hk (by decide)
theorem zo9 {τ : MS} {k : Nat} (hk : k < 20) : mX4_of τ (nI k) 9 = ZB (M_z τ) k 9 := of_nI (w := 9) hk (by decide)
theorem zo10 {τ : MS} {k : Nat} (hk : k < 20) : mX4_of τ (nI k) 10 = ZB (M_z τ) k 10 := of_nI (w := 10) hk (by decide)
theorem zo11 {τ : MS} {k : Nat} (hk : k < 20) : mX4_of τ (nI k) 11 = ZB (M_z τ) k 11 := of_nI (w := 11) hk (by decide)
/-! sums and counts -/
def sm (v : Nat → Int32) : Nat → Int32
  | 0 => 0
  | n + 1 => sm v n + v n
theorem sm_congr {v w : Nat → Int32} {n : Nat} (h : ∀ i, i < n → v i = w i) : sm v n = sm w n := by
  induction n with
  | zero => rfl
  | succ n ih =>
    show sm v n + v n = sm w n + w n
    rw [ih (fun i hi => h i (Nat.lt_succ_of_lt hi)), h n (Nat.lt_succ_self n)]
theorem loopC {L : Nat → Int32 → Int32 → Int32} {g : Nat → Int32} {v : Nat → Int32} {N : Nat} (hend : ∀ n c, L (n + 1) (g N) c = c) (hstep : ∀ n i c, i < N → L (n + 1) (g i) c = L n (g (i + 1)) (c + v i)) (m : Nat) : L (N + 1 + m) (g 0) 0 = sm v N := by
  have key : ∀ d i, i + d = N → L (d + 1 + m) (g i) (sm v i) = sm v N := by
    intro d
    induction d with
    | zero =>
      intro i hi
      have hi : i = N := by omega
      subst hi
      rw [show 0 + 1 + m = m + 1 by omega]
      exact hend m _
    | succ d ih =>
      intro i hi
      rw [show d + 1 + 1 + m = (d + 1 + m) + 1 by omega, hstep _ i _ (by omega)]
      exact ih (i + 1) (by omega)
  exact key N 0 (by omega)
def ct (p : Nat → Prop) [DecidablePred p] : Nat → Nat
  | 0 => 0
  | n + 1 => ct p n + if p n then 1 else 0
theorem ct_congr {p q : Nat → Prop} [DecidablePred p] [DecidablePred q] {n : Nat} (h : ∀ i, i < n → (p i ↔ q i)) : ct p n = ct q n := by
  induction n with
  | zero => rfl
  | succ n ih =>
    show ct p n + (if p n then 1 else 0) = ct q n + (if q n then 1 else 0)
    rw [ih (fun i hi => h i (Nat.lt_succ_of_lt hi))]
    have := h n (Nat.lt_succ_self n)
    by_cases hp : p n
    · rw [if_pos hp, if_pos (this.mp hp)]
    · rw [if_neg hp, if_neg (fun c => hp (this.mpr c))]
theorem ct_le {p : Nat → Prop} [DecidablePred p] (n : Nat) : ct p n ≤ n := by
  induction n with
  | zero => exact Nat.le_refl 0
  | succ n ih =>
    show ct p n + (if p n then 1 else 0) ≤ n + 1
    split <;> omega
theorem ct_mono {p q : Nat → Prop} [DecidablePred p] [DecidablePred q] {n : Nat} (h : ∀ i, i < n → p i → q i) : ct p n ≤ ct q n := by
  induction n with
  | zero => exact Nat.le_refl 0
  | succ n ih =>
    have h1 := ih (fun i hi => h i (Nat.lt_succ_of_lt hi))
    have h2 := h n (Nat.lt_succ_self n)
    show ct p n + (if p n then 1 else 0) ≤ ct q n + (if q n then 1 else 0)
    by_cases hp : p n
    · rw [if_pos hp, if_pos (h2 hp)]; omega
    · rw [if_neg hp]; omega
theorem ct_lt {p q : Nat → Prop} [DecidablePred p] [DecidablePred q] {n j : Nat} (h : ∀ i, i < n → p i → q i) (hj : j < n) (h1 : ¬ p j) (h2 : q j) : ct p n < ct q n := by
  induction n with
  | zero => omega
  | succ n ih =>
    have hm := ct_mono (p := p) (q := q) (n := n) (fun i hi => h i (Nat.lt_succ_of_lt hi))
    have hn := h n (Nat.lt_succ_self n)
    show ct p n + (if p n then 1 else 0) < ct q n + (if q n then 1 else 0)
    by_cases e : j = n
    · subst e
      rw [if_neg h1, if_pos h2]; omega
    · have := ih (fun i hi => h i (Nat.lt_succ_of_lt hi)) (by omega)
      by_cases hp : p n
      · rw [if_pos hp, if_pos (hn hp)]; omega
      · rw [if_neg hp]; omega
theorem ct_add {p q r : Nat → Prop} [DecidablePred p] [DecidablePred q] [DecidablePred r] {n : Nat} (h : ∀ i, i < n → (p i ↔ q i ∨ r i)) (hd : ∀ i, i < n → ¬ (q i ∧ r i)) : ct p n = ct q n + ct r n := by
  induction n with
  | zero => rfl
  | succ n ih =>
    have h1 := ih (fun i hi => h i (Nat.lt_succ_of_lt hi)) (fun i hi => hd i (Nat.lt_succ_of_lt hi))
    have h2 := h n (Nat.lt_succ_self n)
    have h3 := hd n (Nat.lt_succ_self n)
    show ct p n + (if p n then 1 else 0) = ct q n + (if q n then 1 else 0) + (ct r n + (if r n then 1 else 0))
    by_cases hq : q n
    · have hr : ¬ r n := fun c => h3 ⟨hq, c⟩
      rw [if_pos (h2.mpr (Or.inl hq)), if_pos hq, if_neg hr]; omega
    · by_cases hr : r n
      · rw [if_pos (h2.mpr (Or.inr hr)), if_neg hq, if_pos hr]; omega
      · rw [if_neg (fun c => (h2.mp c).elim hq hr), if_neg hq, if_neg hr]; omega
theorem ct_zero {p : Nat → Prop} [DecidablePred p] {n : Nat} (h : ∀ i, i < n → ¬ p i) : ct p n = 0 := by
  have h1 := ct_mono (p := p) (q := fun _ => False) (n := n) (fun i hi c => h i hi c)
  have h2 : ct (fun _ => False) n = 0 := by
    clear h1 h
    induction n with
    | zero => rfl
    | succ n ih => show ct (fun _ => False) n + (if False then 1 else 0) = 0; rw [ih, if_neg id]
  omega
theorem ct_all {p : Nat → Prop} [DecidablePred p] {n : Nat} (h : ∀ i, i < n → p i) : ct p n = n := by
  induction n with
  | zero => rfl
  | succ n ih => show ct p n + (if p n then 1 else 0) = n + 1; rw [ih (fun i hi => h i (Nat.lt_succ_of_lt hi)), if_pos (h n (Nat.lt_succ_self n))]
theorem ct_lt_all {p : Nat → Prop} [DecidablePred p] {n j : Nat} (hj : j < n) (h : ¬ p j) : ct p n < n := by
  have h1 := ct_lt (p := p) (q := fun _ => True) (n := n) (fun _ _ _ => trivial) hj h trivial
  have h2 : ct (fun _ => True) n = n := ct_all (fun _ _ => trivial)
  omega
theorem ct_pos {p : Nat → Prop} [DecidablePred p] {n j : Nat} (hj : j < n) (h : p j) : 0 < ct p n := by
  have h1 := ct_lt (p := fun _ => False) (q := p) (n := n) (fun _ _ c => c.elim) hj id h
  omega
theorem ct_two {p : Nat → Prop} [DecidablePred p] {n i j : Nat} (hi : i < n) (hj : j < n) (hne : i ≠ j) (h1 : p i) (h2 : p j) : 2 ≤ ct p n := by
  have a := ct_lt (p := fun k => p k ∧ k ≠ j) (q := p) (n := n) (fun _ _ c => c.1) hj (fun c => c.2 rfl) h2
  have b := ct_pos (p := fun k => p k ∧ k ≠ j) hi ⟨h1, hne⟩
  omega
theorem sm_ct {v : Nat → Int32} {p : Nat → Prop} [DecidablePred p] {n : Nat} (h : ∀ i, i < n → v i = if p i then 1 else 0) : sm v n = nI (ct p n) := by
  induction n with
  | zero => rfl
  | succ n ih =>
    show sm v n + v n = nI (ct p n + if p n then 1 else 0)
    rw [ih (fun i hi => h i (Nat.lt_succ_of_lt hi)), h n (Nat.lt_succ_self n)]
    split
    · rw [show (1 : Int32) = nI 1 from rfl, nI_add]
    · rw [show (0 : Int32) = nI 0 from rfl, nI_add]
/-! the relation of the class's yard and the reference's row of numbers -/
def RG (Z : Nat → Int32) (D : Int) : Prop :=
  (3 ≤ (Z 1).toInt ∧ (Z 1).toInt ≤ 20) ∧ (5 ≤ (Z 2).toInt ∧ (Z 2).toInt ≤ 40) ∧ (1 ≤ (Z 3).toInt ∧ (Z 3).toInt ≤ 30) ∧ (0 ≤ (Z 4).toInt ∧ (Z 4).toInt ≤ 2) ∧ (Z 7 = -5 ∨ Z 7 = 0 ∨ Z 7 = 1) ∧ (0 ≤ (Z 8).toInt ∧ (Z 8).toInt ≤ 99) ∧ (0 ≤ (Z 9).toInt ∧ (Z 9).toInt ≤ D)
def RE (F Z : Nat → Int32) : Prop := F 0 = Z 1 ∧ F 1 = Z 2 ∧ F 2 = Z 3 ∧ F 3 = Z 4 ∧ F 4 = Z 5 ∧ F 6 = Z 6 ∧ F 7 = Z 7 ∧ F 8 = Z 8 ∧ F 9 = Z 9 ∧ F 10 = Z 10
def RS (F Z : Nat → Int32) : Prop := (Z 5 = -5 ∧ F 5 = -5 ∧ Z 6 = -5 ∧ Z 9 = 0) ∨ ((0 ≤ (Z 5).toInt ∧ (Z 5).toInt ≤ 3) ∧ (0 ≤ (Z 6).toInt ∧ (Z 6).toInt ≤ 2))
def RN (F Z : Nat → Int32) : Prop := Z 0 = 0 ∧ F 0 = -5 ∧ F 4 = -5 ∧ F 6 = -5 ∧ F 7 = -5 ∧ F 8 = -5
def RB (F Z : Nat → Int32) (D : Int) : Prop := RN F Z ∨ (Z 0 = 1 ∧ RE F Z ∧ RG Z D ∧ RS F Z)
abbrev bef (z : Nat → Int32) (k j : Nat) : Prop := ZB z j 0 = 1 ∧ ZB z j 5 = ZB z k 5 ∧ ZB z j 11 < ZB z k 11
abbrev inrw (z : Nat → Int32) (r : Int32) (j : Nat) : Prop := ZB z j 0 = 1 ∧ ZB z j 5 = r
def RP (σ : YS) (z : Nat → Int32) (t : Nat) : Prop := ∀ k, k < 20 → ZB z k 0 = 1 → 0 ≤ (ZB z k 5).toInt →
  FY σ k 5 = nI (ct (bef z k) 20) ∧ (0 ≤ (ZB z k 11).toInt ∧ (ZB z k 11).toInt < t) ∧ ∀ j, j < 20 → j ≠ k → ZB z j 0 = 1 → ZB z j 5 = ZB z k 5 → ZB z j 11 ≠ ZB z k 11
def RH (σ : YS) (z : Nat → Int32) : Prop :=
  (Y_day σ = z 0 ∧ 0 ≤ (z 0).toInt ∧ (z 0).toInt ≤ 9999) ∧ (Y_liftsToday σ = z 1 ∧ 0 ≤ (z 1).toInt ∧ (z 1).toInt ≤ 9) ∧ (Y_lifts σ = z 5 ∧ Y_launches σ = z 6) ∧
  (Y_settings σ 0 = z 2 ∧ Y_settings σ 1 = z 3 ∧ Y_settings σ 2 = z 4) ∧ ((0 ≤ (z 2).toInt ∧ (z 2).toInt ≤ 9) ∧ (1 ≤ (z 3).toInt ∧ (z 3).toInt ≤ 9) ∧ (1 ≤ (z 4).toInt ∧ (z 4).toInt ≤ 30)) ∧
  (∀ k, k < 3 → Y_cradles σ k = z (8 + k) ∧ 0 ≤ (z (8 + k)).toInt ∧ (z (8 + k)).toInt ≤ 9) ∧ (∀ k, k < 4 → Y_metres σ k = z (11 + k) ∧ 10 ≤ (z (11 + k)).toInt ∧ (z (11 + k)).toInt ≤ 60)
def RT (z : Nat → Int32) (T t : Nat) : Prop := z 7 = nI t ∧ t ≤ T
def RelY (σ : YS) (z : Nat → Int32) (T : Nat) : Prop := RH σ z ∧ (∃ t, RT z T t ∧ RP σ z t) ∧ ∀ k, k < 20 → RB (FY σ k) (ZB z k) (z 0).toInt
