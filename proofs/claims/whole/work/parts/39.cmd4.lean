/-! one command of a plan, read by the reference -/
def M_cmd (τ : MS) (s f g : Int32) : MS := M_set_second (M_set_first (M_set_sign τ s) f) g
section CMD4
variable {τ : MS} {n i : Nat}
/-- the outcome of the reference's reading -/
def Rc (τ : MS) (sg : Int32) (c : Bool × Nat × Int32 × Int32) (r : Int32 × MS) : Prop := ∃ f g, r.2 = M_cmd τ sg f g ∧ r.1 = (if c.1 = true then nI c.2.1 else -1 - nI c.2.1) ∧ (c.1 = true → (c.2.2.2 = -5 ∧ f = c.2.2.1) ∨ (¬ c.2.2.2 = -5 ∧ g = c.2.2.1 ∧ f = c.2.2.2))
theorem cmd_self {s : Int32} : M_set_sign τ s = M_cmd τ s (M_first τ) (M_second τ) := rfl
theorem num_cmd {s f g v : Int32} : M_num (M_cmd τ s f g) v = M_cmd τ s v f := rfl
theorem neg1 {j : Nat} (hj : j < 1000) : (-1 - nI j).toInt < 0 := by
  rw [ti_sub (x := -1) (by rw [nI_ti (by omega)]; show _ ≤ (-1 : Int) - _; omega) (by rw [nI_ti (by omega)]; show (-1 : Int) - _ < _; omega), nI_ti (by omega)]
  show (-1 : Int) - _ < 0
  omega
theorem rc_one (hn : n ≤ 60) (hi : i ≤ 90) (h2 : M_length τ = nI n) (hc : chOK (M_text τ) n) {sg lo hi' f g : Int32} (hlo : 0 ≤ lo.toInt ∧ lo.toInt ≤ 1) (hhi : 3 ≤ hi'.toInt ∧ hi'.toInt ≤ 99) : Rc τ sg (one1 (numF (M_text τ) n lo hi' (i + 1))) (mX4_readNumber (M_cmd τ sg f g) (nI (i + 1)) lo hi') := by
  rw [rn4 (τ := M_cmd τ sg f g) hn (by omega) h2 hc hlo hhi, show M_text (M_cmd τ sg f g) = M_text τ from rfl]
  unfold one1
  by_cases c : (numF (M_text τ) n lo hi' (i + 1)).1 = -5
  · rw [if_pos c, if_pos c]
    refine ⟨f, g, rfl, ?_, fun e => absurd (show false = true from e) (by decide)⟩
    refine congrArg (fun j => -1 - nI j) (?_ : i + 1 = (numF (M_text τ) n lo hi' (i + 1)).2)
    unfold numF at c ⊢
    by_cases c1 : dgF (M_text τ) n (i + 1) < lo
    · rw [if_pos c1]
    · rw [if_neg c1] at c ⊢
      have dge : ¬ dgF (M_text τ) n (i + 1) = -5 := fun q => by rw [q, lt_ti] at c1; have c1 : ¬ (-5 : Int) < _ := c1; omega
      by_cases c2 : dgF (M_text τ) n (i + 1) ≤ hi'
      · rw [if_pos c2] at c ⊢
        by_cases c3 : dgF (M_text τ) n (i + 1) ≤ 0
        · rw [if_pos c3] at c; exact absurd c dge
        · rw [if_neg c3] at c ⊢
          by_cases c4 : dgF (M_text τ) n (i + 1 + 1) = -5
          · rw [if_pos c4] at c; exact absurd c dge
          · rw [if_neg c4] at c ⊢
            by_cases c5 : hi' < dgF (M_text τ) n (i + 1) * 10 + dgF (M_text τ) n (i + 1 + 1)
            · rw [if_pos c5] at c; exact absurd c dge
            · rw [if_neg c5] at c ⊢
              exfalso
              rcases dg_cases (M_text τ) n (i + 1) hc with ⟨q, -⟩ | ⟨-, q2, q3, q4⟩
              · exact dge q
              · rcases dg_cases (M_text τ) n (i + 1 + 1) hc with ⟨w, -⟩ | ⟨-, w2, w3, w4⟩
                · exact c4 w
                · have e1 : (dgF (M_text τ) n (i + 1) * 10).toInt = (dgF (M_text τ) n (i + 1)).toInt * 10 := ti_mul (y := 10) (by show _ ≤ _ * (10 : Int); omega) (by show _ * (10 : Int) < _; omega)
                  have e2 : (dgF (M_text τ) n (i + 1) * 10 + dgF (M_text τ) n (i + 1 + 1)).toInt = (dgF (M_text τ) n (i + 1)).toInt * 10 + (dgF (M_text τ) n (i + 1 + 1)).toInt := by rw [ti_add (by rw [e1]; omega) (by rw [e1]; omega), e1]
                  have c : dgF (M_text τ) n (i + 1) * 10 + dgF (M_text τ) n (i + 1 + 1) = -5 := c
                  rw [c] at e2
                  have e2 : (-5 : Int) = _ := e2
                  omega
      · rw [if_neg c2]
  · rw [if_neg c, if_neg c, num_cmd]
    exact ⟨_, _, rfl, by rw [if_pos rfl], fun _ => Or.inl ⟨rfl, rfl⟩⟩
theorem num_fail (hc : chOK (M_text τ) n) {lo hi' : Int32} (hlo : 0 ≤ lo.toInt ∧ lo.toInt ≤ 1) (hhi : 3 ≤ hi'.toInt ∧ hi'.toInt ≤ 99) (hn : n ≤ 60) (hi : i ≤ 90) (h2 : M_length τ = nI n) (c : (numF (M_text τ) n lo hi' (i + 1)).1 = -5) : (numF (M_text τ) n lo hi' (i + 1)).2 = i + 1 := by
  obtain ⟨f, g, -, h, -⟩ := rc_one (τ := τ) (i := i) (sg := 0) (f := 0) (g := 0) hn hi h2 hc hlo hhi
  rw [rn4 (τ := M_cmd τ 0 0 0) hn (by omega) h2 hc hlo hhi, show M_text (M_cmd τ 0 0 0) = M_text τ from rfl, if_pos c] at h
  unfold one1 at h
  rw [if_pos c] at h
  have l := num_le (M_text τ) n lo hi' (i + 1)
  have h : -1 - nI (i + 1) = -1 - nI (numF (M_text τ) n lo hi' (i + 1)).2 := h
  have := congrArg Int32.toInt h
  rw [ti_sub (x := -1) (by rw [nI_ti (by omega)]; show _ ≤ (-1 : Int) - _; omega) (by rw [nI_ti (by omega)]; show (-1 : Int) - _ < _; omega), nI_ti (by omega), ti_sub (x := -1) (by rw [nI_ti (by omega)]; show _ ≤ (-1 : Int) - _; omega) (by rw [nI_ti (by omega)]; show (-1 : Int) - _ < _; omega), nI_ti (by omega)] at this
  omega
theorem rc_two (hn : n ≤ 60) (hi : i ≤ 90) (h2 : M_length τ = nI n) (hc : chOK (M_text τ) n) {sg f g : Int32} (hsg : sg = 109 ∨ sg = 117) : Rc τ sg (two2 (M_text τ) n (numF (M_text τ) n 0 19 (i + 1))) (mX4_readCommand_J78 (M_cmd τ sg f g) (nI i) (nI i)) := by
  have hlo : 0 ≤ (0 : Int32).toInt ∧ (0 : Int32).toInt ≤ 1 := by decide
  have hl := num_le (M_text τ) n 0 19 (i + 1)
  have hf := num_fail (τ := τ) (n := n) (i := i) (lo := 0) (hi' := 19) hc hlo (by decide) hn hi h2
  unfold mX4_readCommand_J78
  rw [nI1, rn4 (τ := M_cmd τ sg f g) hn (by omega) h2 hc hlo (by decide), show M_text (M_cmd τ sg f g) = M_text τ from rfl]
  generalize numF (M_text τ) n 0 19 (i + 1) = p at hl hf
  obtain ⟨v, j⟩ := p
  have hl : j ≤ i + 1 + 2 := hl
  have hf : v = -5 → j = i + 1 := hf
  unfold two2
  dsimp only
  by_cases c1 : v = -5
  · rw [if_pos c1, if_pos c1, if_pos (show ((-1 - nI (i + 1), M_cmd τ sg f g) : Int32 × MS).1 < 0 by rw [lt_ti]; exact neg1 (by omega))]
    exact ⟨f, g, rfl, by rw [hf c1]; rfl, fun e => absurd (show false = true from e) (by decide)⟩
  · rw [if_neg c1, if_neg c1, num_cmd, if_neg (show ¬ ((nI j, M_cmd τ sg v f) : Int32 × MS).1 < 0 from nI_pos (by omega))]
    dsimp only
    rw [show M_sign (M_cmd τ sg v f) = sg from rfl]
    have hj : mX4_readCommand_J113 (M_cmd τ sg v f) (nI i) (nI i) (nI j) = (if (if n ≤ j then 0 else M_text τ j) = 58 then mX4_readNumber (M_cmd τ sg v f) (nI (j + 1)) 0 3 else (-1 - nI j, M_cmd τ sg v f)) := by
      unfold mX4_readCommand_J113
      rw [at4 (τ := M_cmd τ sg v f) hn (by omega) h2, nI1]
      rfl
    have goal : Rc τ sg (if n ≤ j then (false, j, 0, 0) else if M_text τ j = 58 then (if (numF (M_text τ) n 0 3 (j + 1)).1 = -5 then (false, (numF (M_text τ) n 0 3 (j + 1)).2, 0, 0) else (true, (numF (M_text τ) n 0 3 (j + 1)).2, v, (numF (M_text τ) n 0 3 (j + 1)).1)) else (false, j, 0, 0)) (mX4_readCommand_J113 (M_cmd τ sg v f) (nI i) (nI i) (nI j)) := by
      rw [hj]
      by_cases c2 : n ≤ j
      · rw [if_pos c2, if_pos c2, if_neg (by decide)]
        exact ⟨v, f, rfl, rfl, fun e => absurd (show false = true from e) (by decide)⟩
      · rw [if_neg c2, if_neg c2]
        by_cases c3 : M_text τ j = 58
        · rw [if_pos c3, if_pos c3, rn4 (τ := M_cmd τ sg v f) hn (by omega) h2 hc hlo (by decide), show M_text (M_cmd τ sg v f) = M_text τ from rfl]
          have hf3 := num_fail (τ := τ) (n := n) (i := j) (lo := 0) (hi' := 3) hc hlo (by decide) hn (by omega) h2
          by_cases c4 : (numF (M_text τ) n 0 3 (j + 1)).1 = -5
          · rw [if_pos c4, if_pos c4]
            exact ⟨v, f, rfl, by rw [hf3 c4]; rfl, fun e => absurd (show false = true from e) (by decide)⟩
          · rw [if_neg c4, if_neg c4, num_cmd]
            exact ⟨_, _, rfl, by rw [if_pos rfl], fun _ => Or.inr ⟨c4, rfl, rfl⟩⟩
        · rw [if_neg c3, if_neg c3]
          exact ⟨v, f, rfl, rfl, fun e => absurd (show false = true from e) (by decide)⟩
    rcases hsg with q | q
    · rw [q] at goal ⊢
      rw [if_neg (show ¬ (109 : Int32) = 117 by decide), if_pos (show (109 : Int32) = 109 from rfl)]
      exact goal
    · rw [q] at goal ⊢
      rw [if_pos (show (117 : Int32) = 117 from rfl)]
      exact goal
theorem rc_oneJ (hn : n ≤ 60) (hi : i ≤ 90) (h2 : M_length τ = nI n) (hc : chOK (M_text τ) n) {sg f g : Int32} (hsg : ¬ sg = 109 ∧ ¬ sg = 117) : Rc τ sg (one1 (numF (M_text τ) n 0 19 (i + 1))) (mX4_readCommand_J78 (M_cmd τ sg f g) (nI i) (nI i)) := by
  have h1 := rc_one (τ := τ) (sg := sg) (f := f) (g := g) hn hi h2 hc (lo := 0) (hi' := 19) (by decide) (by decide)
  unfold mX4_readCommand_J78
  rw [nI1]
  have hs : M_sign (mX4_readNumber (M_cmd τ sg f g) (nI (i + 1)) 0 19).2 = sg := by
    obtain ⟨a, b, e, -⟩ := h1
    rw [e]; rfl
  rw [hs, if_neg hsg.2, if_neg hsg.1]
  split <;> exact h1
/-! the chains of cases, one at a time -/
theorem r4_46 {p : Int32} (e : mX4_at τ p = 46) : mX4_readCommand τ p = mX4_readNumber (M_set_sign τ (mX4_at τ p)) (p + 1) 1 99 := by
  unfold mX4_readCommand
  rw [show ∀ v, M_sign (M_set_sign τ v) = v from fun _ => rfl]
  exact if_pos e
theorem r4_J {p : Int32} (e : mX4_at τ p = 117 ∨ mX4_at τ p = 100 ∨ mX4_at τ p = 109 ∨ mX4_at τ p = 45 ∨ mX4_at τ p = 43) : mX4_readCommand τ p = mX4_readCommand_J78 (M_set_sign τ (mX4_at τ p)) p p := by
  unfold mX4_readCommand
  rw [show ∀ v, M_sign (M_set_sign τ v) = v from fun _ => rfl]
  generalize mX4_at τ p = s at e
  have n46 : ¬ s = 46 := fun q => by rw [q] at e; exact absurd e (by decide)
  refine (if_neg n46).trans ?_
  by_cases s1 : s = 117
  · exact if_pos s1
  · refine (if_neg s1).trans ?_
    by_cases s2 : s = 100
    · exact if_pos s2
    · refine (if_neg s2).trans ?_
      by_cases s3 : s = 109
      · exact if_pos s3
      · refine (if_neg s3).trans ?_
        by_cases s4 : s = 45
        · exact if_pos s4
        · refine (if_neg s4).trans ?_
          refine if_pos ?_
          rcases e with e | e | e | e | e
          · exact absurd e s1
          · exact absurd e s2
          · exact absurd e s3
          · exact absurd e s4
          · exact e
theorem r4_no {p : Int32} (n1 : ¬ mX4_at τ p = 46) (n2 : ¬ mX4_at τ p = 117) (n3 : ¬ mX4_at τ p = 100) (n4 : ¬ mX4_at τ p = 109) (n5 : ¬ mX4_at τ p = 45) (n6 : ¬ mX4_at τ p = 43) : mX4_readCommand τ p = (-1 - p, M_set_sign τ (mX4_at τ p)) := by
  unfold mX4_readCommand
  rw [show ∀ v, M_sign (M_set_sign τ v) = v from fun _ => rfl]
  exact (if_neg n1).trans ((if_neg n2).trans ((if_neg n3).trans ((if_neg n4).trans ((if_neg n5).trans (if_neg n6)))))
section CHAIN
variable {t : Nat → Int32}
theorem c_off (h : n ≤ i) : cmdF t n i = (false, i, 0, 0) := if_pos h
theorem c_46 (h : ¬ n ≤ i) (e : t i = 46) : cmdF t n i = one1 (numF t n 1 99 (i + 1)) := by
  have s1 : ¬ t i = 43 := fun q => absurd (e.symm.trans q) (by decide)
  have s2 : ¬ t i = 45 := fun q => absurd (e.symm.trans q) (by decide)
  exact (if_neg h).trans ((if_neg s1).trans ((if_neg s2).trans (if_pos e)))
theorem c_one (h : ¬ n ≤ i) (e : t i = 43 ∨ t i = 45 ∨ t i = 100) : cmdF t n i = one1 (numF t n 0 19 (i + 1)) := by
  refine (if_neg h).trans ?_
  have s3 : ¬ t i = 46 := fun q => by rw [q] at e; exact absurd e (by decide)
  by_cases s1 : t i = 43
  · exact if_pos s1
  · refine (if_neg s1).trans ?_
    by_cases s2 : t i = 45
    · exact if_pos s2
    · refine (if_neg s2).trans ((if_neg s3).trans (if_pos ?_))
      rcases e with e | e | e
      · exact absurd e s1
      · exact absurd e s2
      · exact e
theorem c_two (h : ¬ n ≤ i) (e : t i = 109 ∨ t i = 117) : cmdF t n i = two2 t n (numF t n 0 19 (i + 1)) := by
  have s1 : ¬ t i = 43 := fun q => by rw [q] at e; exact absurd e (by decide)
  have s2 : ¬ t i = 45 := fun q => by rw [q] at e; exact absurd e (by decide)
  have s3 : ¬ t i = 46 := fun q => by rw [q] at e; exact absurd e (by decide)
  have s4 : ¬ t i = 100 := fun q => by rw [q] at e; exact absurd e (by decide)
  refine (if_neg h).trans ((if_neg s1).trans ((if_neg s2).trans ((if_neg s3).trans ((if_neg s4).trans ?_))))
  by_cases s5 : t i = 109
  · exact if_pos s5
  · refine (if_neg s5).trans (if_pos ?_)
    rcases e with e | e
    · exact absurd e s5
    · exact e
theorem c_no (h : ¬ n ≤ i) (s1 : ¬ t i = 43) (s2 : ¬ t i = 45) (s3 : ¬ t i = 46) (s4 : ¬ t i = 100) (s5 : ¬ t i = 109) (s6 : ¬ t i = 117) : cmdF t n i = (false, i, 0, 0) :=
  (if_neg h).trans ((if_neg s1).trans ((if_neg s2).trans ((if_neg s3).trans ((if_neg s4).trans ((if_neg s5).trans (if_neg s6))))))
end CHAIN
theorem rc1 (hn : n ≤ 60) (hi : i ≤ 90) (h2 : M_length τ = nI n) (hc : chOK (M_text τ) n) : Rc τ (if n ≤ i then 0 else M_text τ i) (cmdF (M_text τ) n i) (mX4_readCommand τ (nI i)) := by
  have ea := at4 (τ := τ) hn (show i ≤ 200 by omega) h2
  by_cases c0 : n ≤ i
  · rw [if_pos c0] at ea ⊢
    rw [c_off c0, r4_no (by rw [ea]; decide) (by rw [ea]; decide) (by rw [ea]; decide) (by rw [ea]; decide) (by rw [ea]; decide) (by rw [ea]; decide), ea, cmd_self]
    exact ⟨_, _, rfl, rfl, fun e => absurd (show false = true from e) (by decide)⟩
  · rw [if_neg c0] at ea ⊢
    by_cases s3 : M_text τ i = 46
    · rw [c_46 c0 s3, r4_46 (ea.trans s3), ea, cmd_self, nI1]
      exact rc_one (τ := τ) hn hi h2 hc (by decide) (by decide)
    · by_cases s1 : M_text τ i = 43 ∨ M_text τ i = 45 ∨ M_text τ i = 100
      · rw [c_one c0 s1, r4_J (by
          rw [ea]
          rcases s1 with e | e | e
          · exact Or.inr (Or.inr (Or.inr (Or.inr e)))
          · exact Or.inr (Or.inr (Or.inr (Or.inl e)))
          · exact Or.inr (Or.inl e)), ea, cmd_self]
        exact rc_oneJ (τ := τ) hn hi h2 hc ⟨fun q => by rw [q] at s1; exact absurd s1 (by decide), fun q => by rw [q] at s1; exact absurd s1 (by decide)⟩
      · by_cases s2 : M_text τ i = 109 ∨ M_text τ i = 117
        · rw [c_two c0 s2, r4_J (by
            rw [ea]
            rcases s2 with e | e
            · exact Or.inr (Or.inr (Or.inl e))
            · exact Or.inl e), ea, cmd_self]
          exact rc_two (τ := τ) hn hi h2 hc s2
        · have n43 : ¬ M_text τ i = 43 := fun q => s1 (Or.inl q)
          have n45 : ¬ M_text τ i = 45 := fun q => s1 (Or.inr (Or.inl q))
          have n100 : ¬ M_text τ i = 100 := fun q => s1 (Or.inr (Or.inr q))
          have n109 : ¬ M_text τ i = 109 := fun q => s2 (Or.inl q)
          have n117 : ¬ M_text τ i = 117 := fun q => s2 (Or.inr q)
          rw [c_no c0 n43 n45 s3 n100 n109 n117, r4_no (by rw [ea]; exact s3) (by rw [ea]; exact n117) (by rw [ea]; exact n100) (by rw [ea]; exact n109) (by rw [ea]; exact n45) (by rw [ea]; exact n43), ea, cmd_self]
          exact ⟨_, _, rfl, rfl, fun e => absurd (show false = true from e) (by decide)⟩
end CMD4
