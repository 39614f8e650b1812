/-! the law's rows beside the class's state: the relation -/
abbrev BB (b : Nat → Int32) (k w : Nat) : Int32 := b (10 * k + w)
abbrev RR (r : Nat → Int32) (i j : Nat) : Int32 := r (7 * i + j)
theorem ixb {k w : Nat} (hk : k < 6) (hw : w < 10) : ((10 * nI k) + nI w).toNatClampNeg = 10 * k + w := by
  rw [show (10 : Int32) = nI 10 from rfl, nI_mul, nI_add]
  exact nI_clamp (by omega)
theorem ixb0 {k : Nat} (hk : k < 6) : (10 * nI k).toNatClampNeg = 10 * k + 0 := by
  rw [show (10 : Int32) = nI 10 from rfl, nI_mul]
  exact nI_clamp (by omega)
theorem ixr {i j : Nat} (hi : i < 4) (hj : j < 7) : ((7 * nI i) + nI j).toNatClampNeg = 7 * i + j := by
  rw [show (7 : Int32) = nI 7 from rfl, nI_mul, nI_add]
  exact nI_clamp (by omega)
theorem ixr0 {i : Nat} (hi : i < 4) : (7 * nI i).toNatClampNeg = 7 * i + 0 := by
  rw [show (7 : Int32) = nI 7 from rfl, nI_mul]
  exact nI_clamp (by omega)
theorem ixr1 {i j : Nat} (hi : i < 4) (hj : j < 6) : (((7 * nI i) + 1) + nI j).toNatClampNeg = 7 * i + (j + 1) := by
  rw [show (7 : Int32) = nI 7 from rfl, show (1 : Int32) = nI 1 from rfl, nI_mul, nI_add, nI_add, nI_clamp (by omega)]
  omega
theorem ixg {c j : Nat} (hc : c < 100) (hj : j < 100) : (nI c + nI j).toNatClampNeg = c + j := by
  rw [nI_add]
  exact nI_clamp (by omega)
theorem ixs {k : Nat} (hk : k < 1000) : (nI k).toNatClampNeg = k := nI_clamp (by omega)
section RL
variable {γ : LAS} {k w j u i : Nat}
theorem of_nI (hk : k < 6) (hw : w < 10) : mL_of γ (nI k) (nI w) = BB (L_b γ) k w := by
  unfold mL_of
  rw [ixb hk hw]
theorem lo0 (hk : k < 6) : mL_of γ (nI k) 0 = BB (L_b γ) k 0 := of_nI (w := 0) hk (by decide)
theorem lo1 (hk : k < 6) : mL_of γ (nI k) 1 = BB (L_b γ) k 1 := of_nI (w := 1) hk (by decide)
theorem lo2 (hk : k < 6) : mL_of γ (nI k) 2 = BB (L_b γ) k 2 := of_nI (w := 2) hk (by decide)
theorem lo3 (hk : k < 6) : mL_of γ (nI k) 3 = BB (L_b γ) k 3 := of_nI (w := 3) hk (by decide)
theorem lo4 (hk : k < 6) : mL_of γ (nI k) 4 = BB (L_b γ) k 4 := of_nI (w := 4) hk (by decide)
theorem lo5 (hk : k < 6) : mL_of γ (nI k) 5 = BB (L_b γ) k 5 := of_nI (w := 5) hk (by decide)
theorem lo6 (hk : k < 6) : mL_of γ (nI k) 6 = BB (L_b γ) k 6 := of_nI (w := 6) hk (by decide)
theorem lo7 (hk : k < 6) : mL_of γ (nI k) 7 = BB (L_b γ) k 7 := of_nI (w := 7) hk (by decide)
theorem lo8 (hk : k < 6) : mL_of γ (nI k) 8 = BB (L_b γ) k 8 := of_nI (w := 8) hk (by decide)
theorem lo9 (hk : k < 6) : mL_of γ (nI k) 9 = BB (L_b γ) k 9 := of_nI (w := 9) hk (by decide)
theorem BB_upd {b : Nat → Int32} (hw : w < 10) (hu : u < 10) (v : Int32) : BB (upd b (10 * k + w) v) j u = if j = k ∧ u = w then v else BB b j u := by
  show upd b (10 * k + w) v (10 * j + u) = _
  unfold upd
  by_cases c : j = k ∧ u = w
  · rw [if_pos c, if_pos (by rw [c.1, c.2])]
  · rw [if_neg c, if_neg (fun e => c (by omega))]
theorem RR_upd {r : Nat → Int32} {a c : Nat} (hj : j < 7) (hc : c < 7) (v : Int32) : RR (upd r (7 * i + j) v) a c = if a = i ∧ c = j then v else RR r a c := by
  show upd r (7 * i + j) v (7 * a + c) = _
  unfold upd
  by_cases q : a = i ∧ c = j
  · rw [if_pos q, if_pos (by rw [q.1, q.2])]
  · rw [if_neg q, if_neg (fun e => q (by omega))]
end RL
theorem upd_ne {f : Nat → Int32} {i j : Nat} {v : Int32} (h : j ≠ i) : upd f i v j = f j := by
  unfold upd
  rw [if_neg h]
theorem nIm5 {n : Nat} (h : n < 1000) : ¬ nI n = -5 := fun e => by
  have := congrArg Int32.toInt e
  rw [nI_ti (by omega)] at this
  have e5 : (-5 : Int32).toInt = -5 := rfl
  omega
theorem nIm1 {n : Nat} (h : n < 1000) : ¬ nI n = -1 := fun e => by
  have := congrArg Int32.toInt e
  rw [nI_ti (by omega)] at this
  have e5 : (-1 : Int32).toInt = -1 := rfl
  omega
/-! sums along a list without repetition -/
theorem sub_sub' (a b c : Int32) : a - b - c = a - (b + c) := by grind
theorem sm_zero {v : Nat → Int32} {N : Nat} (h : ∀ i, i < N → v i = 0) : sm v N = 0 := by
  induction N with
  | zero => rfl
  | succ N ih =>
    show sm v N + v N = 0
    rw [ih (fun i hi => h i (by omega)), h N (by omega)]
    rfl
theorem sm_one {v w : Nat → Int32} {N k : Nat} {d : Int32} (hk : k < N) (h : ∀ i, i < N → i ≠ k → v i = w i) (hd : v k = w k + d) : sm v N = sm w N + d := by
  induction N with
  | zero => exact absurd hk (Nat.not_lt_zero _)
  | succ N ih =>
    show sm v N + v N = sm w N + w N + d
    by_cases c : k = N
    · subst c
      rw [sm_congr (fun i hi => h i (by omega) (by omega)), hd]
      grind
    · rw [ih (by omega) (fun i hi => h i (by omega)), h N (by omega) (fun e => c e.symm)]
      grind
theorem ct_one {p : Nat → Prop} [DecidablePred p] {N k : Nat} (hk : k < N) (hp : p k) : ct p N = ct (fun i => p i ∧ i ≠ k) N + 1 := by
  induction N with
  | zero => exact absurd hk (Nat.not_lt_zero _)
  | succ N ih =>
    show ct p N + (if p N then 1 else 0) = ct (fun i => p i ∧ i ≠ k) N + (if p N ∧ N ≠ k then 1 else 0) + 1
    by_cases c : k = N
    · subst c
      rw [if_pos hp, if_neg (fun c => c.2 rfl), ct_congr (q := fun i => p i ∧ i ≠ k) (fun i hi => ⟨fun a => ⟨a, by omega⟩, fun a => a.1⟩)]
    · rw [ih (by omega)]
      by_cases e : p N
      · rw [if_pos e, if_pos ⟨e, fun a => c a.symm⟩]
      · rw [if_neg e, if_neg (fun a => e a.1)]
theorem sm_list {v : Nat → Int32} {N : Nat} {q : Nat → Nat} : ∀ (n : Nat) (S : Nat → Prop) [DecidablePred S], (∀ j, j < n → q j < N ∧ S (q j)) → (∀ i j, i < n → j < n → q i = q j → i = j) → (∀ k, k < N → S k → ∃ j, j < n ∧ q j = k) → sm (fun k => if S k then v k else 0) N = sm (fun j => v (q j)) n ∧ ct S N = n := by
  intro n
  induction n with
  | zero =>
    intro S _ _ _ h3
    have hS : ∀ k, k < N → ¬ S k := fun k hk a => by
      obtain ⟨j, hj, _⟩ := h3 k hk a
      exact absurd hj (Nat.not_lt_zero _)
    exact ⟨sm_zero (fun i hi => if_neg (hS i hi)), ct_zero hS⟩
  | succ n ih =>
    intro S _ h1 h2 h3
    obtain ⟨hN, hq⟩ := h1 n (by omega)
    obtain ⟨i1, i2⟩ := ih (fun k => S k ∧ k ≠ q n) (fun j hj => ⟨(h1 j (by omega)).1, (h1 j (by omega)).2, fun e => absurd (h2 j n (by omega) (by omega) e) (by omega)⟩) (fun i j hi hj e => h2 i j (by omega) (by omega) e) (fun k hk a => by
      obtain ⟨j, hj, e⟩ := h3 k hk a.1
      exact ⟨j, by
        have : j ≠ n := fun c => a.2 (by rw [← e, c])
        omega, e⟩)
    refine ⟨?_, by rw [ct_one hN hq, i2]⟩
    show _ = sm (fun j => v (q j)) n + v (q n)
    rw [← i1]
    refine sm_one hN (fun i hi hne => ?_) ?_
    · by_cases a : S i
      · rw [if_pos a, if_pos ⟨a, hne⟩]
      · rw [if_neg a, if_neg (fun c => a c.1)]
    · rw [if_pos hq, if_neg (fun c => c.2 rfl)]
      grind
/-! the relation -/
def QG (Y : YS) (γ : LAS) (T : Nat) : Prop :=
  (Y_day Y = L_g γ 0 ∧ 0 ≤ (L_g γ 0).toInt ∧ (L_g γ 0).toInt ≤ 40 * (T : Int)) ∧ (Y_liftsToday Y = L_g γ 1 ∧ 0 ≤ (L_g γ 1).toInt ∧ (L_g γ 1).toInt ≤ (T : Int)) ∧ (Y_lifts Y = L_g γ 5 ∧ Y_launches Y = L_g γ 6) ∧
  ((∀ j, j < 3 → Y_settings Y j = L_g γ (2 + j)) ∧ (0 ≤ (L_g γ 2).toInt ∧ (L_g γ 2).toInt ≤ 9) ∧ (1 ≤ (L_g γ 3).toInt ∧ (L_g γ 3).toInt ≤ 9) ∧ (1 ≤ (L_g γ 4).toInt ∧ (L_g γ 4).toInt ≤ 30)) ∧
  (∀ j, j < 3 → Y_cradles Y j = L_g γ (7 + j) ∧ 0 ≤ (L_g γ (7 + j)).toInt ∧ (L_g γ (7 + j)).toInt ≤ 9) ∧ (∀ j, j < 4 → Y_metres Y j = L_g γ (10 + j) ∧ 10 ≤ (L_g γ (10 + j)).toInt ∧ (L_g γ (10 + j)).toInt ≤ 60)
def QE (F Z : Nat → Int32) (t : Int32) : Prop := F 0 = Z 1 ∧ F 1 = Z 2 ∧ F 2 = Z 3 ∧ F 3 = Z 4 ∧ F 8 = Z 8 ∧ F 10 = t
def QV (Z : Nat → Int32) : Prop := (3 ≤ (Z 1).toInt ∧ (Z 1).toInt ≤ 20) ∧ (5 ≤ (Z 2).toInt ∧ (Z 2).toInt ≤ 40) ∧ (1 ≤ (Z 3).toInt ∧ (Z 3).toInt ≤ 30) ∧ (0 ≤ (Z 8).toInt ∧ (Z 8).toInt ≤ 99)
def QK (Z : Nat → Int32) : Prop := ∃ c : Nat, c < 3 ∧ Z 4 = nI c
def QM (F Z : Nat → Int32) : Prop := (Z 7 = -1 ∧ F 7 = -5) ∨ ∃ c : Nat, c < 2 ∧ Z 7 = nI c ∧ F 7 = nI c
def QS (F Z : Nat → Int32) : Prop := (Z 5 = -1 ∧ F 4 = -5 ∧ F 5 = -5 ∧ F 6 = -5 ∧ F 9 = 0) ∨ ((∃ i : Nat, i < 4 ∧ Z 5 = nI i ∧ F 4 = nI i) ∧ (∃ c : Nat, c < 3 ∧ Z 6 = nI c ∧ F 6 = nI c) ∧ F 9 = Z 9)
def QN (F Z : Nat → Int32) : Prop := Z 0 = 0 ∧ ∀ w, w < 11 → F w = -5
def QB (F Z : Nat → Int32) (t : Int32) : Prop := QK Z ∧ (QN F Z ∨ (Z 0 = 1 ∧ QE F Z t ∧ QV Z ∧ QM F Z ∧ QS F Z))
def QY (F B : Nat → Nat → Int32) (t : Nat → Int32) (n : Nat → Nat) (q : Nat → Nat → Nat) : Prop :=
  (∀ k, k < 6 → QB (F k) (B k) (t k)) ∧ (∀ k, 6 ≤ k → k < 20 → ∀ w, w < 11 → F k w = -5) ∧ (∀ i, i < 4 → ∀ j, j < n i → q i j < 6 ∧ B (q i j) 0 = 1 ∧ B (q i j) 5 = nI i ∧ F (q i j) 5 = nI j) ∧ (∀ k, k < 6 → B k 0 = 1 → ∀ i, i < 4 → B k 5 = nI i → ∃ j, j < n i ∧ q i j = k)
def QR (r : Nat → Int32) (n : Nat → Nat) (q : Nat → Nat → Nat) : Prop := ∀ i, i < 4 → n i ≤ 6 ∧ RR r i 0 = nI (n i) ∧ ∀ j, j < 6 → q i j < 6 ∧ RR r i (j + 1) = nI (q i j)
def Rel (Y : YS) (γ : LAS) (T : Nat) : Prop := QG Y γ T ∧ ∃ n q, QR (L_r γ) n q ∧ QY (FY Y) (BB (L_b γ)) (L_t γ) n q
