/-! one command of a plan, read by both -/
def one1 (p : Int32 × Nat) : Bool × Nat × Int32 × Int32 := if p.1 = -5 then (false, p.2, 0, 0) else (true, p.2, p.1, -5)
def two2 (t : Nat → Int32) (n : Nat) (p : Int32 × Nat) : Bool × Nat × Int32 × Int32 := if p.1 = -5 then (false, p.2, 0, 0) else if n ≤ p.2 then (false, p.2, 0, 0) else if t p.2 = 58 then (if (numF t n 0 3 (p.2 + 1)).1 = -5 then (false, (numF t n 0 3 (p.2 + 1)).2, 0, 0) else (true, (numF t n 0 3 (p.2 + 1)).2, p.1, (numF t n 0 3 (p.2 + 1)).1)) else (false, p.2, 0, 0)
def cmdF (t : Nat → Int32) (n i : Nat) : Bool × Nat × Int32 × Int32 := if n ≤ i then (false, i, 0, 0) else if t i = 43 then one1 (numF t n 0 19 (i + 1)) else if t i = 45 then one1 (numF t n 0 19 (i + 1)) else if t i = 46 then one1 (numF t n 1 99 (i + 1)) else if t i = 100 then one1 (numF t n 0 19 (i + 1)) else if t i = 109 then two2 t n (numF t n 0 19 (i + 1)) else if t i = 117 then two2 t n (numF t n 0 19 (i + 1)) else (false, i, 0, 0)
/-- what the class's reading keeps: all but the place, the things' number and the k-th thing -/
def Kp (π π' : PS) (k : Nat) : Prop := P_text π' = P_text π ∧ P_length π' = P_length π ∧ ∀ m, m ≠ k → P_signs π' m = P_signs π m ∧ P_firsts π' m = P_firsts π m ∧ P_seconds π' m = P_seconds π m
theorem Kp.at' {π : PS} {k : Nat} (v : Int32) : Kp π (P_set_at π v) k := ⟨rfl, rfl, fun _ _ => ⟨rfl, rfl, rfl⟩⟩
section CMD
variable {π : PS} {τ : MS} {n i k : Nat}
/-- the outcome of the class's reading of a thing -/
def Rt (π : PS) (k : Nat) (sg : Int32) (c : Bool × Nat × Int32 × Int32) (r : Int32 × PS) : Prop := r.1 = (if c.1 = true then 1 else 0) ∧ P_at r.2 = nI c.2.1 ∧ Kp π r.2 k ∧ (c.1 = true → P_things r.2 = nI (k + 1) ∧ P_signs r.2 k = sg ∧ P_firsts r.2 k = c.2.2.1 ∧ P_seconds r.2 k = c.2.2.2) ∧ (¬ c.1 = true → P_things r.2 = P_things π)
/-- a thing added where there is room -/
theorem add_ok {σ : PS} (hk : k < 20) (h3 : P_things σ = nI k) {sg a b : Int32} (hs : charOK sg) : (mX1_add σ sg a b).1 = 1 ∧ P_at (mX1_add σ sg a b).2 = P_at σ ∧ P_text (mX1_add σ sg a b).2 = P_text σ ∧ P_length (mX1_add σ sg a b).2 = P_length σ ∧ P_things (mX1_add σ sg a b).2 = nI (k + 1) ∧ P_signs (mX1_add σ sg a b).2 = upd (P_signs σ) k sg ∧ P_firsts (mX1_add σ sg a b).2 = upd (P_firsts σ) k a ∧ P_seconds (mX1_add σ sg a b).2 = upd (P_seconds σ) k b := by
  have e3 : (P_things σ).toNatClampNeg = k := by rw [h3]; exact nI_clamp (by omega)
  have hs : vp_nar .char sg = sg := hs
  have c : P_things σ < 20 := by rw [h3]; exact nI_lt (b := 20) hk (by omega)
  unfold mX1_add
  rw [if_pos c]
  refine ⟨rfl, rfl, rfl, rfl, ?_, ?_, ?_, ?_⟩
  · show P_things σ + 1 = _
    rw [h3, nI1]
  · show upd (P_signs σ) (P_things σ).toNatClampNeg (vp_nar .char sg) = _
    rw [e3, hs]
  · show upd (P_firsts σ) (P_things σ).toNatClampNeg a = _
    rw [e3]
  · show upd (P_seconds σ) (P_things σ).toNatClampNeg b = _
    rw [e3]
theorem rt_J (hk : k < 20) (h3 : P_things π = nI k) {sg a b : Int32} (hs : charOK sg) (j : Nat) : Rt π k sg (if a = -5 then (false, j, 0, 0) else (true, j, a, b)) (mX1_readThing_J178 (P_set_at π (nI j)) sg a b) := by
  unfold mX1_readThing_J178
  by_cases c : a = -5
  · rw [if_pos c, if_pos c]
    exact ⟨rfl, rfl, Kp.at' _, fun e => absurd (show false = true from e) (by decide), fun _ => rfl⟩
  · obtain ⟨a1, a2, a3, a4, a5, a6, a7, a8⟩ := add_ok (σ := P_set_at π (nI j)) (a := a) (b := b) hk h3 hs
    rw [if_neg c, if_neg c, if_neg (by rw [a1]; decide)]
    generalize (mX1_add (P_set_at π (nI j)) sg a b).2 = ρ at a2 a3 a4 a5 a6 a7 a8
    refine ⟨rfl, a2, ⟨a3, a4, fun m hm => ⟨?_, ?_, ?_⟩⟩, fun _ => ⟨a5, ?_, ?_, ?_⟩, fun e => absurd rfl e⟩
    · show P_signs ρ m = _
      rw [a6, ud, if_neg hm]; rfl
    · show P_firsts ρ m = _
      rw [a7, ud, if_neg hm]; rfl
    · show P_seconds ρ m = _
      rw [a8, ud, if_neg hm]; rfl
    · show P_signs ρ k = _
      rw [a6, ud, if_pos rfl]
    · show P_firsts ρ k = _
      rw [a7, ud, if_pos rfl]
    · show P_seconds ρ k = _
      rw [a8, ud, if_pos rfl]
theorem rt_one (hn : n ≤ 60) (hi : i ≤ 90) (h1 : P_at π = nI i) (h2 : P_length π = nI n) (hk : k < 20) (h3 : P_things π = nI k) {sg lo hi' : Int32} (hs : charOK sg) : Rt π k sg (one1 (numF (P_text π) n lo hi' (i + 1))) (mX1_readThing_J178 (mX1_readNumber (P_set_at π (P_at π + 1)) lo hi').2 sg (mX1_readNumber (P_set_at π (P_at π + 1)) lo hi').1 (-5)) := by
  have a1 : P_at π + 1 = nI (i + 1) := by rw [h1, nI1]
  rw [rn1 (π := P_set_at π (P_at π + 1)) hn (i := i + 1) (by omega) a1 h2]
  exact rt_J hk h3 hs _
theorem rch (hn : n ≤ 60) {j : Nat} (hj : j ≤ 100) (h2 : P_length π = nI n) (w : Int32) : mX1_readCharacter (P_set_at π (nI j)) w = if n ≤ j then (0, P_set_at π (nI j)) else if P_text π j = w then (1, P_set_at π (nI (j + 1))) else (0, P_set_at π (nI j)) := by
  unfold mX1_readCharacter
  rw [show P_length (P_set_at π (nI j)) = nI n from h2, show P_at (P_set_at π (nI j)) = nI j from rfl, nI_clamp (show j < 2 ^ 31 by omega), nI1, show P_text (P_set_at π (nI j)) = P_text π from rfl]
  simp only [le_nI (show n < 2 ^ 31 by omega) (show j < 2 ^ 31 by omega)]
  rfl
theorem rt_two (hn : n ≤ 60) (hi : i ≤ 90) (h1 : P_at π = nI i) (h2 : P_length π = nI n) (hk : k < 20) (h3 : P_things π = nI k) {sg : Int32} (hs : charOK sg) : Rt π k sg (two2 (P_text π) n (numF (P_text π) n 0 19 (i + 1)))
    (if (mX1_readNumber (P_set_at π (P_at π + 1)) 0 19).1 = (-5) then (0, (mX1_readNumber (P_set_at π (P_at π + 1)) 0 19).2) else (if (mX1_readCharacter (mX1_readNumber (P_set_at π (P_at π + 1)) 0 19).2 58).1 = 0 then (0, (mX1_readCharacter (mX1_readNumber (P_set_at π (P_at π + 1)) 0 19).2 58).2) else (if (mX1_readNumber (mX1_readCharacter (mX1_readNumber (P_set_at π (P_at π + 1)) 0 19).2 58).2 0 3).1 = (-5) then (0, (mX1_readNumber (mX1_readCharacter (mX1_readNumber (P_set_at π (P_at π + 1)) 0 19).2 58).2 0 3).2) else (mX1_readThing_J178 (mX1_readNumber (mX1_readCharacter (mX1_readNumber (P_set_at π (P_at π + 1)) 0 19).2 58).2 0 3).2 sg (mX1_readNumber (P_set_at π (P_at π + 1)) 0 19).1 (mX1_readNumber (mX1_readCharacter (mX1_readNumber (P_set_at π (P_at π + 1)) 0 19).2 58).2 0 3).1)))) := by
  have a1 : P_at π + 1 = nI (i + 1) := by rw [h1, nI1]
  have hl := num_le (P_text π) n 0 19 (i + 1)
  rw [rn1 (π := P_set_at π (P_at π + 1)) hn (i := i + 1) (by omega) a1 h2]
  show Rt π k sg (two2 (P_text π) n (numF (P_text π) n 0 19 (i + 1))) (if (numF (P_text π) n 0 19 (i + 1)).1 = -5 then (0, P_set_at π (nI (numF (P_text π) n 0 19 (i + 1)).2)) else (if (mX1_readCharacter (P_set_at π (nI (numF (P_text π) n 0 19 (i + 1)).2)) 58).1 = 0 then (0, (mX1_readCharacter (P_set_at π (nI (numF (P_text π) n 0 19 (i + 1)).2)) 58).2) else (if (mX1_readNumber (mX1_readCharacter (P_set_at π (nI (numF (P_text π) n 0 19 (i + 1)).2)) 58).2 0 3).1 = (-5) then (0, (mX1_readNumber (mX1_readCharacter (P_set_at π (nI (numF (P_text π) n 0 19 (i + 1)).2)) 58).2 0 3).2) else (mX1_readThing_J178 (mX1_readNumber (mX1_readCharacter (P_set_at π (nI (numF (P_text π) n 0 19 (i + 1)).2)) 58).2 0 3).2 sg (numF (P_text π) n 0 19 (i + 1)).1 (mX1_readNumber (mX1_readCharacter (P_set_at π (nI (numF (P_text π) n 0 19 (i + 1)).2)) 58).2 0 3).1))))
  generalize numF (P_text π) n 0 19 (i + 1) = p at hl
  obtain ⟨v, j⟩ := p
  have hl : j ≤ i + 1 + 2 := hl
  unfold two2
  dsimp only
  rw [rch hn (by omega) h2]
  by_cases c1 : v = -5
  · rw [if_pos c1, if_pos c1]
    exact ⟨rfl, rfl, Kp.at' _, fun e => absurd (show false = true from e) (by decide), fun _ => rfl⟩
  · rw [if_neg c1, if_neg c1]
    by_cases c2 : n ≤ j
    · rw [if_pos c2, if_pos c2, if_pos rfl]
      exact ⟨rfl, rfl, Kp.at' _, fun e => absurd (show false = true from e) (by decide), fun _ => rfl⟩
    · rw [if_neg c2, if_neg c2]
      by_cases c3 : P_text π j = 58
      · rw [if_pos c3, if_pos c3, if_neg one_ne]
        dsimp only
        rw [rn1 (π := P_set_at π (nI (j + 1))) hn (i := j + 1) (by omega) rfl h2]
        show Rt π k sg (if (numF (P_text π) n 0 3 (j + 1)).1 = -5 then (false, (numF (P_text π) n 0 3 (j + 1)).2, 0, 0) else (true, (numF (P_text π) n 0 3 (j + 1)).2, v, (numF (P_text π) n 0 3 (j + 1)).1)) (if (numF (P_text π) n 0 3 (j + 1)).1 = -5 then (0, P_set_at π (nI (numF (P_text π) n 0 3 (j + 1)).2)) else mX1_readThing_J178 (P_set_at π (nI (numF (P_text π) n 0 3 (j + 1)).2)) sg v (numF (P_text π) n 0 3 (j + 1)).1)
        by_cases c4 : (numF (P_text π) n 0 3 (j + 1)).1 = -5
        · rw [if_pos c4, if_pos c4]
          exact ⟨rfl, rfl, Kp.at' _, fun e => absurd (show false = true from e) (by decide), fun _ => rfl⟩
        · rw [if_neg c4, if_neg c4]
          have := rt_J (π := π) hk h3 (a := v) (b := (numF (P_text π) n 0 3 (j + 1)).1) hs (numF (P_text π) n 0 3 (j + 1)).2
          rw [if_neg c1] at this
          exact this
      · rw [if_neg c3, if_neg c3, if_pos rfl]
        exact ⟨rfl, rfl, Kp.at' _, fun e => absurd (show false = true from e) (by decide), fun _ => rfl⟩
theorem rt1 (hn : n ≤ 60) (hi : i ≤ 90) (h1 : P_at π = nI i) (h2 : P_length π = nI n) (hk : k < 20) (h3 : P_things π = nI k) (hs : ∀ m, m < n → charOK (P_text π m)) : Rt π k (P_text π i) (cmdF (P_text π) n i) (mX1_readThing π) := by
  unfold mX1_readThing cmdF
  rw [show (P_at π).toNatClampNeg = i by rw [h1]; exact nI_clamp (by omega)]
  have hlt : P_at π < P_length π ↔ i < n := by rw [h1, h2, lt_nI (by omega) (by omega)]
  by_cases c0 : n ≤ i
  · rw [if_pos c0, if_neg (fun q => by have := hlt.mp q; omega)]
    exact ⟨rfl, h1, ⟨rfl, rfl, fun _ _ => ⟨rfl, rfl, rfl⟩⟩, fun e => absurd (show false = true from e) (by decide), fun _ => rfl⟩
  · rw [if_neg c0, if_pos (hlt.mpr (by omega))]
    have hsg := hs i (by omega)
    by_cases s1 : P_text π i = 43
    · rw [if_pos s1, if_pos s1]; exact rt_one hn hi h1 h2 hk h3 hsg
    · rw [if_neg s1, if_neg s1]
      by_cases s2 : P_text π i = 45
      · rw [if_pos s2, if_pos s2]; exact rt_one hn hi h1 h2 hk h3 hsg
      · rw [if_neg s2, if_neg s2]
        by_cases s3 : P_text π i = 46
        · rw [if_pos s3, if_pos s3]; exact rt_one hn hi h1 h2 hk h3 hsg
        · rw [if_neg s3, if_neg s3]
          by_cases s4 : P_text π i = 100
          · rw [if_pos s4, if_pos s4]; exact rt_one hn hi h1 h2 hk h3 hsg
          · rw [if_neg s4, if_neg s4]
            by_cases s5 : P_text π i = 109
            · rw [if_pos s5, if_pos s5]; exact rt_two hn hi h1 h2 hk h3 hsg
            · rw [if_neg s5, if_neg s5]
              by_cases s6 : P_text π i = 117
              · rw [if_pos s6, if_pos s6]; exact rt_two hn hi h1 h2 hk h3 hsg
              · rw [if_neg s6, if_neg s6]
                exact ⟨rfl, h1, ⟨rfl, rfl, fun _ _ => ⟨rfl, rfl, rfl⟩⟩, fun e => absurd (show false = true from e) (by decide), fun _ => rfl⟩
end CMD
