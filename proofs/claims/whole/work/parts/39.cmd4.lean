/-! one command of a plan, read by the reference -/
def M_cmd (τ : MS) (s f g : Int32) : MS := M_set_second (M_set_first (M_set_sign τ s) f) g
section CMD4
variable {τ : MS} {n i : Nat}
/-- the outcome of the reference's reading -/
def Rc (τ : MS) (sg : Int32) (c : Bool × Nat × Int32 × Int32) (r : Int32 × MS) : Prop := ∃ f g, r.2 = M_cmd τ sg f g ∧ r.1 = (if c.1 = true then nI c.2.1 else -1 - nI c.2.1) ∧ (c.1 = true → (c.2.2.2 = -5 ∧ f = c.2.2.1) ∨ (¬ c.2.2.2 = -5 ∧ g = c.2.2.1 ∧ f = c.2.2.2))
theorem cmd_self {s : Int32} : M_set_sign τ s = M_cmd τ s (M_first τ) (M_second τ) := rfl
theorem num_cmd {s f g v : Int32} : M_num (M_cmd τ s f g) v = M_cmd τ s v f := rfl
theorem neg1 {j : Nat} (hj : j < 1000) : (-1 - nI j).toInt < 0 := by
  rw [ti_sub (x := -1) (by rw [nI_ti (by omega)]; show _ ≤ (-1 : Int) - _; omega) (by rw [nI_ti (by omega)]; show (-1 : Int) - _ < _; omega), nI_ti (by omega)]
  show (-1 : Int) - _ < 0
  omega
theorem rc_one (hn : n ≤ 60) (hi : i ≤ 90) (h2 : M_length τ = nI n) (hc : chOK (M_text τ) n) {sg lo hi' f g : Int32} (hlo : 0 ≤ lo.toInt ∧ lo.toInt ≤ 1) (hhi : 3 ≤ hi'.toInt ∧ hi'.toInt ≤ 99) : Rc τ sg (one1 (numF (M_text τ) n lo hi' (i + 1))) (mX4_readNumber (M_cmd τ sg f g) (nI (i + 1)) lo hi') := by
  rw [rn4 (τ := M_cmd τ sg f g) hn (by omega) h2 hc hlo hhi, show M_text (M_cmd τ sg f g) = M_text τ from rfl]
  unfold one1
  by_cases c : (numF (M_text τ) n lo hi' (i + 1)).1 = -5
  · rw [if_pos c, if_pos c]
    refine ⟨f, g, rfl, ?_, fun e => absurd (show false = true from e) (by decide)⟩
    refine congrArg (fun j => -1 - nI j) (?_ : i + 1 = (numF (M_text τ) n lo hi' (i + 1)).2)
    unfold numF at c ⊢
    by_cases c1 : dgF (M_text τ) n (i + 1) < lo
    · rw [if_pos c1]
    · rw [if_neg c1] at c ⊢
      have dge : ¬ dgF (M_text τ) n (i + 1) = -5 := fun q => by rw [q, lt_ti] at c1; have c1 : ¬ (-5 : Int) < _ := c1; omega
      by_cases c2 : dgF (M_text τ) n (i + 1) ≤ hi'
      · rw [if_pos c2] at c ⊢
        by_cases c3 : dgF (M_text τ) n (i + 1) ≤ 0
        · rw [if_pos c3] at c; exact absurd c dge
        · rw [if_neg c3] at c ⊢
          by_cases c4 : dgF (M_text τ) n (i + 1 + 1) = -5
          · rw [if_pos c4] at c; exact absurd c dge
          · rw [if_neg c4] at c ⊢
            by_cases c5 : hi' < dgF (M_text τ) n (i + 1) * 10 + dgF (M_text τ) n (i + 1 + 1)
            · rw [if_pos c5] at c; exact absurd c dge
            · rw [if_neg c5] at c ⊢
              exfalso
              rcases dg_cases (M_text τ) n (i + 1) hc with ⟨q, -⟩ | ⟨-, q2, q3, q4⟩
              · exact dge q
              · rcases dg_cases (M_text τ) n (i + 1 + 1) hc with ⟨w, -⟩ | ⟨-, w2, w3, w4⟩
                · exact c4 w
                · have e1 : (dgF (M_text τ) n (i + 1) * 10).toInt = (dgF (M_text τ) n (i + 1)).toInt * 10 := ti_mul (y := 10) (by show _ ≤ _ * (10 : Int); omega) (by show _ * (10 : Int) < _; omega)
                  have e2 : (dgF (M_text τ) n (i + 1) * 10 + dgF (M_text τ) n (i + 1 + 1)).toInt = (dgF (M_text τ) n (i + 1)).toInt * 10 + (dgF (M_text τ) n (i + 1 + 1)).toInt := by rw [ti_add (by rw [e1]; omega) (by rw [e1]; omega), e1]
                  have c : dgF (M_text τ) n (i + 1) * 10 + dgF (M_text τ) n (i + 1 + 1) = -5 := c
                  rw [c] at e2
                  have e2 : (-5 : Int) = _ := e2
                  omega
      · rw [if_neg c2]
  · rw [if_neg c, if_neg c, num_cmd]
    exact ⟨_, _, rfl, by rw [if_pos rfl], fun _ => Or.inl ⟨rfl, rfl⟩⟩
theorem num_fail (hc : chOK (M_text τ) n) {lo hi' : Int32} (hlo : 0 ≤ lo.toInt ∧ lo.toInt ≤ 1) (hhi : 3 ≤ hi'.toInt ∧ hi'.toInt ≤ 99) (hn : n ≤ 60) (hi : i ≤ 90) (h2 : M_length τ = nI n) (c : (numF (M_text τ) n lo hi' (i + 1)).1 = -5) : (numF (M_text τ) n lo hi' (i + 1)).2 = i + 1 := by
  obtain ⟨f, g, -, h, -⟩ := rc_one (τ := τ) (i := i) (sg := 0) (f := 0) (g := 0) hn hi h2 hc hlo hhi
  rw [rn4 (τ := M_cmd τ 0 0 0) hn (by omega) h2 hc hlo hhi, show M_text (M_cmd τ 0 0 0) = M_text τ from rfl, if_pos c] at h
  unfold one1 at h
  rw [if_pos c] at h
  have l := num_le (M_text τ) n lo hi' (i + 1)
  have h : -1 - nI (i + 1) = -1 - nI (numF (M_text τ) n lo hi' (i + 1)).2 := h
  have := congrArg Int32.toInt h
  rw [ti_sub (x := -1) (by rw [nI_ti (by omega)]; show _ ≤ (-1 : Int) - _; omega) (by rw [nI_ti (by omega)]; show (-1 : Int) - _ < _; omega), nI_ti (by omega), ti_sub (x := -1) (by rw [nI_ti (by omega)]; show _ ≤ (-1 : Int) - _; omega) (by rw [nI_ti (by omega)]; show (-1 : Int) - _ < _; omega), nI_ti (by omega)] at this
  omega
theorem rc_two (hn : n ≤ 60) (hi : i ≤ 90) (h2 : M_length τ = nI n) (hc : chOK (M_text τ) n) {sg f g : Int32} (hsg : sg = 109 ∨ sg = 117) : Rc τ sg (two2 (M_text τ) n (numF (M_text τ) n 0 19 (i + 1))) (mX4_readCommand_J78 (M_cmd τ sg f g) (nI i) (nI i)) := by
  have hlo : 0 ≤ (0 : Int32).toInt ∧ (0 : Int32).toInt ≤ 1 := by decide
  have hl := num_le (M_text τ) n 0 19 (i + 1)
  have hf := num_fail (τ := τ) (n := n) (i := i) (lo := 0) (hi' := 19) hc hlo (by decide) hn hi h2
  unfold mX4_readCommand_J78
  rw [nI1, rn4 (τ := M_cmd τ sg f g) hn (by omega) h2 hc hlo (by decide), show M_text (M_cmd τ sg f g) = M_text τ from rfl]
  generalize numF (M_text τ) n 0 19 (i + 1) = p at hl hf
  obtain ⟨v, j⟩ := p
  have hl : j ≤ i + 1 + 2 := hl
  have hf : v = -5 → j = i + 1 := hf
  unfold two2
  dsimp only
  by_cases c1 : v = -5
  · rw [if_pos c1, if_pos c1, if_pos (show ((-1 - nI (i + 1), M_cmd τ sg f g) : Int32 × MS).1 < 0 by rw [lt_ti]; exact neg1 (by omega))]
    exact ⟨f, g, rfl, by rw [hf c1]; rfl, fun e => absurd (show false = true from e) (by decide)⟩
  · rw [if_neg c1, if_neg c1, num_cmd, if_neg (show ¬ ((nI j, M_cmd τ sg v f) : Int32 × MS).1 < 0 from nI_pos (by omega))]
    dsimp only
    rw [show M_sign (M_cmd τ sg v f) = sg from rfl]
    have hj : mX4_readCommand_J113 (M_cmd τ sg v f) (nI i) (nI i) (nI j) = (if (if n ≤ j then 0 else M_text τ j) = 58 then mX4_readNumber (M_cmd τ sg v f) (nI (j + 1)) 0 3 else (-1 - nI j, M_cmd τ sg v f)) := by
      unfold mX4_readCommand_J113
      rw [at4 (τ := M_cmd τ sg v f) hn (by omega) h2, nI1]
      rfl
    have goal : Rc τ sg (if n ≤ j then (false, j, 0, 0) else if M_text τ j = 58 then (if (numF (M_text τ) n 0 3 (j + 1)).1 = -5 then (false, (numF (M_text τ) n 0 3 (j + 1)).2, 0, 0) else (true, (numF (M_text τ) n 0 3 (j + 1)).2, v, (numF (M_text τ) n 0 3 (j + 1)).1)) else (false, j, 0, 0)) (mX4_readCommand_J113 (M_cmd τ sg v f) (nI i) (nI i) (nI j)) := by
      rw [hj]
      by_cases c2 : n ≤ j
      · rw [if_pos c2, if_pos c2, if_neg (by decide)]
        exact ⟨v, f, rfl, rfl, fun e => absurd (show false = true from e) (by decide)⟩
      · rw [if_neg c2, if_neg c2]
        by_cases c3 : M_text τ j = 58
        · rw [if_pos c3, if_pos c3, rn4 (τ := M_cmd τ sg v f) hn (by omega) h2 hc hlo (by decide), show M_text (M_cmd τ sg v f) = M_text τ from rfl]
          have hf3 := num_fail (τ := τ) (n := n) (i := j) (lo := 0) (hi' := 3) hc hlo (by decide) hn (by omega) h2
          by_cases c4 : (numF (M_text τ) n 0 3 (j + 1)).1 = -5
          · rw [if_pos c4, if_pos c4]
            exact ⟨v, f, rfl, by rw [hf3 c4]; rfl, fun e => absurd (show false = true from e) (by decide)⟩
          · rw [if_neg c4, if_neg c4, num_cmd]
            exact ⟨_, _, rfl, by rw [if_pos rfl], fun _ => Or.inr ⟨c4, rfl, rfl⟩⟩
        · rw [if_neg c3, if_neg c3]
          exact ⟨v, f, rfl, rfl, fun e => absurd (show false = true from e) (by decide)⟩
    rcases hsg with q | q
    · rw [q] at goal ⊢
      rw [if_neg (show ¬ (109 : Int32) = 117 by decide), if_pos (show (109 : Int32) = 109 from rfl)]
      exact goal
    · rw [q] at goal ⊢
      rw [if_pos (show (117 : Int32) = 117 from rfl)]
      exact goal
theorem rc_oneJ (hn : n ≤ 60) (hi : i ≤ 90) (h2 : M_length τ = nI n) (hc : chOK (M_text τ) n) {sg f g : Int32} (hsg : ¬ sg = 109 ∧ ¬ sg = 117) : Rc τ sg (one1 (numF (M_text τ) n 0 19 (i + 1))) (mX4_readCommand_J78 (M_cmd τ sg f g) (nI i) (nI i)) := by
  have h1 := rc_one (τ := τ) (sg := sg) (f := f) (g := g) hn hi h2 hc (lo := 0) (hi' := 19) (by decide) (by decide)
  unfold mX4_readCommand_J78
  rw [nI1]
  have hs : M_sign (mX4_readNumber (M_cmd τ sg f g) (nI (i + 1)) 0 19).2 = sg := by
    obtain ⟨a, b, e, -⟩ := h1
    rw [e]; rfl
  rw [hs, if_neg hsg.2, if_neg hsg.1]
  split <;> exact h1
theorem rc1 (hn : n ≤ 60) (hi : i ≤ 90) (h2 : M_length τ = nI n) (hc : chOK (M_text τ) n) : Rc τ (if n ≤ i then 0 else M_text τ i) (cmdF (M_text τ) n i) (mX4_readCommand τ (nI i)) := by
  unfold mX4_readCommand cmdF
  rw [at4 hn (by omega) h2, nI1, show ∀ v, M_sign (M_set_sign τ v) = v from fun _ => rfl, cmd_self]
  by_cases c0 : n ≤ i
  · rw [if_pos c0, if_pos c0, if_neg (show ¬ (0 : Int32) = 46 by decide), if_neg (show ¬ (0 : Int32) = 117 by decide), if_neg (show ¬ (0 : Int32) = 100 by decide), if_neg (show ¬ (0 : Int32) = 109 by decide), if_neg (show ¬ (0 : Int32) = 45 by decide), if_neg (show ¬ (0 : Int32) = 43 by decide)]
    exact ⟨_, _, rfl, rfl, fun e => absurd (show false = true from e) (by decide)⟩
  · rw [if_neg c0, if_neg c0]
    generalize hs : M_text τ i = s
    by_cases s3 : s = 46
    · have s1 : ¬ s = 43 := fun e => absurd (s3.symm.trans e) (by decide)
      have s2 : ¬ s = 45 := fun e => absurd (s3.symm.trans e) (by decide)
      rw [if_pos s3, if_neg s1, if_neg s2, if_pos s3]
      exact rc_one (τ := τ) hn hi h2 hc (by decide) (by decide)
    · rw [if_neg s3]
      by_cases s6 : s = 117
      · have s1 : ¬ s = 43 := fun e => absurd (s6.symm.trans e) (by decide)
        have s2 : ¬ s = 45 := fun e => absurd (s6.symm.trans e) (by decide)
        have s4 : ¬ s = 100 := fun e => absurd (s6.symm.trans e) (by decide)
        have s5 : ¬ s = 109 := fun e => absurd (s6.symm.trans e) (by decide)
        rw [if_pos s6, if_neg s1, if_neg s2, if_neg s3, if_neg s4, if_neg s5, if_pos s6]
        exact rc_two (τ := τ) hn hi h2 hc (Or.inr s6)
      · rw [if_neg s6]
        by_cases s4 : s = 100
        · have s1 : ¬ s = 43 := fun e => absurd (s4.symm.trans e) (by decide)
          have s2 : ¬ s = 45 := fun e => absurd (s4.symm.trans e) (by decide)
          rw [if_pos s4, if_neg s1, if_neg s2, if_neg s3, if_pos s4]
          have n109 : ¬ s = 109 := fun e => absurd (s4.symm.trans e) (by decide)
          have n117 : ¬ s = 117 := fun e => absurd (s4.symm.trans e) (by decide)
          have gg := rc_oneJ (τ := τ) (n := n) (i := i) (sg := s) (f := M_first τ) (g := M_second τ) hn hi h2 hc ⟨n109, n117⟩
          exact gg
        · rw [if_neg s4]
          by_cases s5 : s = 109
          · have s1 : ¬ s = 43 := fun e => absurd (s5.symm.trans e) (by decide)
            have s2 : ¬ s = 45 := fun e => absurd (s5.symm.trans e) (by decide)
            rw [if_pos s5, if_neg s1, if_neg s2, if_neg s3, if_neg s4, if_pos s5]
            exact rc_two (τ := τ) hn hi h2 hc (Or.inl s5)
          · rw [if_neg s5]
            by_cases s2 : s = 45
            · have s1 : ¬ s = 43 := fun e => absurd (s2.symm.trans e) (by decide)
              rw [if_pos s2, if_neg s1, if_pos s2]
              have n109 : ¬ s = 109 := fun e => absurd (s2.symm.trans e) (by decide)
              have n117 : ¬ s = 117 := fun e => absurd (s2.symm.trans e) (by decide)
              have gg := rc_oneJ (τ := τ) (n := n) (i := i) (sg := s) (f := M_first τ) (g := M_second τ) hn hi h2 hc ⟨n109, n117⟩
              exact gg
            · rw [if_neg s2]
              by_cases s1 : s = 43
              · rw [if_pos s1, if_pos s1]
                have n109 : ¬ s = 109 := fun e => absurd (s1.symm.trans e) (by decide)
                have n117 : ¬ s = 117 := fun e => absurd (s1.symm.trans e) (by decide)
                have gg := rc_oneJ (τ := τ) (n := n) (i := i) (sg := s) (f := M_first τ) (g := M_second τ) hn hi h2 hc ⟨n109, n117⟩
                exact gg
              · rw [if_neg s1]
                rw [if_neg s1, if_neg s2, if_neg s3, if_neg s4, if_neg s5, if_neg s6]
                exact ⟨_, _, rfl, rfl, fun e => absurd (show false = true from e) (by decide)⟩
end CMD4
