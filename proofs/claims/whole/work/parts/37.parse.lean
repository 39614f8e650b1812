/-! reading a plan: one step, as a function of the text, its length and the place -/
def dgF (t : Nat → Int32) (n i : Nat) : Int32 := if n ≤ i then -5 else if t i < 48 then -5 else if t i ≤ 57 then t i - 48 else -5
def numF (t : Nat → Int32) (n : Nat) (lo hi : Int32) (i : Nat) : Int32 × Nat := if dgF t n i < lo then (-5, i) else if dgF t n i ≤ hi then (if dgF t n i ≤ 0 then (dgF t n i, i + 1) else if dgF t n (i + 1) = -5 then (dgF t n i, i + 1) else if hi < dgF t n i * 10 + dgF t n (i + 1) then (dgF t n i, i + 1) else (dgF t n i * 10 + dgF t n (i + 1), i + 2)) else (-5, i)
/-- what an array of characters keeps: its numbers -/
def chOK (t : Nat → Int32) (n : Nat) : Prop := ∀ k, k < n → 0 ≤ (t k).toInt ∧ (t k).toInt ≤ 65535
section PARSE
variable {π : PS} {τ : MS} {n i : Nat}
theorem P_eta (h : P_at π = nI i) : P_set_at π (nI i) = π := by rw [← h]; rfl
theorem le_nI {a b : Nat} (ha : a < 2 ^ 31) (hb : b < 2 ^ 31) : nI a ≤ nI b ↔ a ≤ b := by
  rw [le_ti, nI_ti ha, nI_ti hb]; omega
theorem lt_nI {a b : Nat} (ha : a < 2 ^ 31) (hb : b < 2 ^ 31) : nI a < nI b ↔ a < b := by
  rw [lt_ti, nI_ti ha, nI_ti hb]; omega
theorem eq_nI {a b : Nat} (ha : a < 2 ^ 31) (hb : b < 2 ^ 31) : nI a = nI b ↔ a = b := by
  rw [eq_ti, nI_ti ha, nI_ti hb]; omega
theorem dg1 (hn : n ≤ 60) (hi : i ≤ 200) (h1 : P_at π = nI i) (h2 : P_length π = nI n) : mX1_digit π = dgF (P_text π) n i := by
  unfold mX1_digit dgF
  rw [h1, h2, nI_clamp (show i < 2 ^ 31 by omega)]
  simp only [le_nI (show n < 2 ^ 31 by omega) (show i < 2 ^ 31 by omega)]
theorem rn1 (hn : n ≤ 60) (hi : i ≤ 100) (h1 : P_at π = nI i) (h2 : P_length π = nI n) (lo hi' : Int32) : mX1_readNumber π lo hi' = ((numF (P_text π) n lo hi' i).1, P_set_at π (nI (numF (P_text π) n lo hi' i).2)) := by
  unfold mX1_readNumber numF
  have d1 := dg1 hn (by omega) h1 h2
  have a1 : P_at π + 1 = nI (i + 1) := by rw [h1, nI1]
  have d2 : mX1_digit (P_set_at π (P_at π + 1)) = dgF (P_text π) n (i + 1) := dg1 (π := P_set_at π (P_at π + 1)) hn (by omega) a1 h2
  rw [d1, d2]
  split
  · rw [P_eta h1]
  · split
    · split
      · rw [a1]
      · split
        · rw [a1]
        · split
          · rw [a1]
          · refine congrArg (Prod.mk _) ?_
            show P_set_at π ((P_at π + 1) + 1) = P_set_at π (nI (i + 2))
            rw [a1, nI1]
    · rw [P_eta h1]
theorem at4 (hn : n ≤ 60) (hi : i ≤ 200) (h2 : M_length τ = nI n) : mX4_at τ (nI i) = if n ≤ i then 0 else M_text τ i := by
  unfold mX4_at
  rw [h2, nI_clamp (show i < 2 ^ 31 by omega)]
  simp only [le_nI (show n < 2 ^ 31 by omega) (show i < 2 ^ 31 by omega)]
/-- a digit, by the class's account and by the reference's -/
theorem dg_cases (t : Nat → Int32) (n i : Nat) (hc : chOK t n) : (dgF t n i = -5 ∧ ((if n ≤ i then (0 : Int32) else t i).toInt < 48 ∨ 57 < (if n ≤ i then (0 : Int32) else t i).toInt)) ∨ (i < n ∧ (48 ≤ (t i).toInt ∧ (t i).toInt ≤ 57) ∧ dgF t n i = t i - 48 ∧ (dgF t n i).toInt = (t i).toInt - 48) := by
  unfold dgF
  by_cases a : n ≤ i
  · rw [if_pos a, if_pos a]; exact Or.inl ⟨rfl, Or.inl (by decide)⟩
  · rw [if_neg a, if_neg a]
    have hh := hc i (by omega)
    by_cases b : t i < 48
    · rw [if_pos b]
      rw [lt_ti] at b
      exact Or.inl ⟨rfl, Or.inl b⟩
    · rw [if_neg b]
      rw [lt_ti] at b
      have b : ¬ (t i).toInt < 48 := b
      by_cases c : t i ≤ 57
      · rw [if_pos c]
        rw [le_ti] at c
        have c : (t i).toInt ≤ 57 := c
        exact Or.inr ⟨by omega, ⟨by omega, c⟩, rfl, ti_sub (y := 48) (by show _ ≤ _ - (48 : Int); omega) (by show _ - (48 : Int) < _; omega)⟩
      · rw [if_neg c]
        rw [le_ti] at c
        have c : ¬ (t i).toInt ≤ 57 := c
        exact Or.inl ⟨rfl, Or.inr (by omega)⟩
theorem isd (c : Int32) : mX4_isDigit c = 0 ↔ c.toInt < 48 ∨ 57 < c.toInt := by
  unfold mX4_isDigit mX4_in
  by_cases a : c < 48
  · rw [if_pos a]
    rw [lt_ti] at a
    exact ⟨fun _ => Or.inl a, fun _ => rfl⟩
  · rw [if_neg a]
    rw [lt_ti] at a
    have a : ¬ c.toInt < 48 := a
    by_cases b : 57 < c
    · rw [if_pos b]
      rw [lt_ti] at b
      exact ⟨fun _ => Or.inr b, fun _ => rfl⟩
    · rw [if_neg b]
      rw [lt_ti] at b
      have b : ¬ 57 < c.toInt := b
      exact ⟨fun e => absurd e (by decide), fun e => by omega⟩
/-- what the reference does with a number read -/
def M_num (τ : MS) (v : Int32) : MS := M_set_first (M_set_second τ (M_first τ)) v
theorem dv {d e : Int32} {p q : Int} (hd : d.toInt = p) (he : e.toInt = q) (hp : 0 ≤ p ∧ p ≤ 99) (hq : 48 ≤ q ∧ q ≤ 57) : (10 * d + e - 48).toInt = 10 * p + q - 48 := by
  have e1 : (10 * d).toInt = 10 * p := by
    rw [ti_mul (x := 10) (by rw [hd]; show _ ≤ (10 : Int) * _; omega) (by rw [hd]; show (10 : Int) * _ < _; omega), hd]
    rfl
  have e2 : (10 * d + e).toInt = 10 * p + q := by rw [ti_add (by rw [e1, he]; omega) (by rw [e1, he]; omega), e1, he]
  rw [ti_sub (y := 48) (by rw [e2]; show _ ≤ _ - (48 : Int); omega) (by rw [e2]; show _ - (48 : Int) < _; omega), e2]
  rfl
theorem rn4 (hn : n ≤ 60) (hi : i ≤ 100) (h2 : M_length τ = nI n) (hc : chOK (M_text τ) n) {lo hi' : Int32} (hlo : 0 ≤ lo.toInt ∧ lo.toInt ≤ 1) (hhi : 3 ≤ hi'.toInt ∧ hi'.toInt ≤ 99) : mX4_readNumber τ (nI i) lo hi' = if (numF (M_text τ) n lo hi' i).1 = -5 then (-1 - nI i, τ) else (nI (numF (M_text τ) n lo hi' i).2, M_num τ (numF (M_text τ) n lo hi' i).1) := by
  unfold mX4_readNumber numF
  rw [at4 hn (by omega) h2]
  rcases dg_cases (M_text τ) n i hc with ⟨d5, d6⟩ | ⟨i1, d6, d7, d8⟩
  · rw [d5, if_pos (show (-5 : Int32) < lo by rw [lt_ti]; show (-5 : Int) < _; omega), if_pos rfl]
    have e : mX4_in ((if n ≤ i then (0 : Int32) else M_text τ i) - 48) lo 9 = 0 := by
      have hb : 0 ≤ (if n ≤ i then (0 : Int32) else M_text τ i).toInt ∧ (if n ≤ i then (0 : Int32) else M_text τ i).toInt ≤ 65535 := by
        by_cases a : n ≤ i
        · rw [if_pos a]; decide
        · rw [if_neg a]; exact hc i (by omega)
      generalize (if n ≤ i then (0 : Int32) else M_text τ i) = c at d6 hb
      have es : (c - 48).toInt = c.toInt - 48 := ti_sub (y := 48) (by show _ ≤ _ - (48 : Int); omega) (by show _ - (48 : Int) < _; omega)
      unfold mX4_in
      by_cases a : c - 48 < lo
      · rw [if_pos a]
      · rw [lt_ti, es] at a
        rw [if_neg (by rw [lt_ti, es]; exact a), if_pos (by rw [lt_ti, es]; show (9 : Int) < _; omega)]
    rw [e, if_pos rfl]
  · rw [if_neg (show ¬ n ≤ i by omega), ← d7]
    have hd : 0 ≤ (dgF (M_text τ) n i).toInt ∧ (dgF (M_text τ) n i).toInt ≤ 9 := by rw [d8]; omega
    generalize dgF (M_text τ) n i = d at hd
    by_cases c1 : d < lo
    · have e : mX4_in d lo 9 = 0 := by unfold mX4_in; rw [if_pos c1]
      rw [e, if_pos c1, if_pos rfl, if_pos rfl]
    · have e : ¬ mX4_in d lo 9 = 0 := by
        unfold mX4_in
        rw [if_neg c1, if_neg (by rw [lt_ti]; show ¬ (9 : Int) < _; omega)]
        decide
      rw [if_neg e, if_neg c1]
      by_cases c2 : d ≤ hi'
      · rw [if_pos c2, if_pos c2, nI1]
        show mX4_readNumber_L36 (nI i) lo hi' (62 + 1) τ (nI (i + 1)) d = _
        rw [mX4_readNumber_L36]
        by_cases c3 : d ≤ 0
        · rw [if_pos c3, if_pos c3, if_neg (fun q => by rw [show d = -5 from q] at hd; exact absurd hd.1 (by decide))]
          rfl
        · have d5n : ¬ d = -5 := fun q => by rw [q] at hd; exact absurd hd.1 (by decide)
          rw [if_neg c3, if_neg c3, at4 hn (by omega) h2]
          rcases dg_cases (M_text τ) n (i + 1) hc with ⟨g5, g6⟩ | ⟨j1, g6, g7, g8⟩
          · rw [if_pos ((isd _).mpr g6), if_pos g5, if_neg d5n]
            rfl
          · have g9 : ¬ dgF (M_text τ) n (i + 1) = -5 := fun q => by rw [q] at g8; have g8 : (-5 : Int) = _ := g8; omega
            rw [if_neg (show ¬ n ≤ i + 1 by omega), if_neg (fun q => by rw [isd] at q; omega), if_neg g9]
            have c3' : ¬ d.toInt ≤ 0 := by rw [le_ti] at c3; exact c3
            have ev := dv (d := d) (e := M_text τ (i + 1)) rfl rfl (by omega) (by omega)
            have ew : (d * 10 + dgF (M_text τ) n (i + 1)).toInt = 10 * d.toInt + (M_text τ (i + 1)).toInt - 48 := by
              have e1 : (d * 10).toInt = d.toInt * 10 := ti_mul (y := 10) (by show _ ≤ _ * (10 : Int); omega) (by show _ * (10 : Int) < _; omega)
              rw [ti_add (by rw [e1, g8]; omega) (by rw [e1, g8]; omega), e1, g8]; omega
            have eq2 : 10 * d + M_text τ (i + 1) - 48 = d * 10 + dgF (M_text τ) n (i + 1) := eq_ti.mpr (ev.trans ew.symm)
            rw [eq2]
            generalize d * 10 + dgF (M_text τ) n (i + 1) = v at ew
            by_cases c4 : hi' < v
            · rw [if_pos c4, if_pos c4, if_neg d5n]
              rfl
            · rw [if_neg c4, if_neg c4]
              have v5 : ¬ v = -5 := fun q => by rw [q] at ew; have ew : (-5 : Int) = _ := ew; omega
              rw [if_neg v5, nI1]
              show mX4_readNumber_L36 (nI i) lo hi' (61 + 1) τ (nI (i + 2)) v = _
              rw [mX4_readNumber_L36, if_neg (by rw [le_ti, ew]; show ¬ _ ≤ (0 : Int); omega), at4 hn (by omega) h2]
              rw [lt_ti] at c4
              rcases dg_cases (M_text τ) n (i + 2) hc with ⟨k5, k6⟩ | ⟨k1, k6, k7, k8⟩
              · rw [if_pos ((isd _).mpr k6)]
                rfl
              · rw [if_neg (show ¬ n ≤ i + 2 by omega), if_neg (fun q => by rw [isd] at q; omega), if_pos (by
                  rw [lt_ti, dv (d := v) (e := M_text τ (i + 2)) rfl rfl (by omega) (by omega)]; omega)]
                rfl
      · rw [if_neg c2, if_neg c2, if_pos rfl]
theorem num_le (t : Nat → Int32) (n : Nat) (lo hi' : Int32) (i : Nat) : (numF t n lo hi' i).2 ≤ i + 2 := by
  unfold numF
  repeat' split
  all_goals (show _ ≤ i + 2; omega)
end PARSE
