/-! the whole of a plan, read by both -/
theorem nar_nI (x : Int32) : vp_nar .char x = nI x.toUInt32.toUInt16.toNat := by
  rw [vp_nar_char]
  apply Int32.toBitVec_inj.mp
  apply BitVec.eq_of_toNat_eq
  show x.toUInt32.toUInt16.toUInt32.toNat = x.toUInt32.toUInt16.toNat % 2 ^ 32
  rw [UInt16.toNat_toUInt32]
  have := UInt16.toNat_lt x.toUInt32.toUInt16
  omega
theorem ch_nar (x : Int32) : charOK (vp_nar .char x) := by
  have h := UInt16.toNat_lt x.toUInt32.toUInt16
  rw [nar_nI]
  exact Value.int.inj (pk_charN (by omega)).1
theorem ch_rng {x : Int32} (h : charOK x) : 0 ≤ x.toInt ∧ x.toInt ≤ 65535 := by
  have h1 := UInt16.toNat_lt x.toUInt32.toUInt16
  have e : x = nI x.toUInt32.toUInt16.toNat := (show vp_nar .char x = x from h).symm.trans (nar_nI x)
  have e2 := congrArg Int32.toInt e
  rw [nI_ti (by omega)] at e2
  omega
theorem ch_ok {t : Nat → Int32} {n : Nat} (h : ∀ m, m < n → charOK (t m)) : chOK t n := fun k hk => ch_rng (h k hk)
section READ
variable {t : Nat → Int32} {n i : Nat}
theorem dgl (c : ¬ dgF t n i = -5) : i < n := by
  unfold dgF at c
  by_cases a : n ≤ i
  · rw [if_pos a] at c; exact absurd rfl c
  · omega
theorem num_ok {lo hi : Int32} (h0 : 0 ≤ lo.toInt) (c : ¬ (numF t n lo hi i).1 = -5) : i < (numF t n lo hi i).2 ∧ (numF t n lo hi i).2 ≤ n := by
  unfold numF at c ⊢
  by_cases c1 : dgF t n i < lo
  · rw [if_pos c1] at c; exact absurd rfl c
  · have d1 : i < n := dgl (fun q => by rw [q, lt_ti] at c1; have c1 : ¬ (-5 : Int) < _ := c1; omega)
    rw [if_neg c1] at c ⊢
    by_cases c2 : dgF t n i ≤ hi
    · rw [if_pos c2] at c ⊢
      by_cases c3 : dgF t n i ≤ 0
      · rw [if_pos c3]; exact ⟨Nat.lt_succ_self i, d1⟩
      · rw [if_neg c3]
        by_cases c4 : dgF t n (i + 1) = -5
        · rw [if_pos c4]; exact ⟨Nat.lt_succ_self i, d1⟩
        · have d2 : i + 1 < n := dgl c4
          rw [if_neg c4]
          by_cases c5 : hi < dgF t n i * 10 + dgF t n (i + 1)
          · rw [if_pos c5]; exact ⟨Nat.lt_succ_self i, d1⟩
          · rw [if_neg c5]
            exact ⟨show i < i + 2 by omega, show i + 2 ≤ n by omega⟩
    · rw [if_neg c2] at c; exact absurd rfl c
theorem cmd_ok (c : (cmdF t n i).1 = true) : i < n ∧ i + 2 ≤ (cmdF t n i).2.1 ∧ (cmdF t n i).2.1 ≤ n := by
  have one : ∀ {lo hi : Int32}, 0 ≤ lo.toInt → (one1 (numF t n lo hi (i + 1))).1 = true → i + 2 ≤ (one1 (numF t n lo hi (i + 1))).2.1 ∧ (one1 (numF t n lo hi (i + 1))).2.1 ≤ n := by
    intro lo hi h0 c
    unfold one1 at c ⊢
    by_cases c1 : (numF t n lo hi (i + 1)).1 = -5
    · rw [if_pos c1] at c; exact absurd (show false = true from c) (by decide)
    · rw [if_neg c1]
      have := num_ok h0 c1
      exact ⟨show _ ≤ (numF t n lo hi (i + 1)).2 by omega, this.2⟩
  have two : (two2 t n (numF t n 0 19 (i + 1))).1 = true → i + 2 ≤ (two2 t n (numF t n 0 19 (i + 1))).2.1 ∧ (two2 t n (numF t n 0 19 (i + 1))).2.1 ≤ n := by
    intro c
    unfold two2 at c ⊢
    by_cases c1 : (numF t n 0 19 (i + 1)).1 = -5
    · rw [if_pos c1] at c; exact absurd (show false = true from c) (by decide)
    · rw [if_neg c1] at c ⊢
      have h1 := num_ok (lo := 0) (by decide) c1
      by_cases c2 : n ≤ (numF t n 0 19 (i + 1)).2
      · rw [if_pos c2] at c; exact absurd (show false = true from c) (by decide)
      · rw [if_neg c2] at c ⊢
        by_cases c3 : t (numF t n 0 19 (i + 1)).2 = 58
        · rw [if_pos c3] at c ⊢
          by_cases c4 : (numF t n 0 3 ((numF t n 0 19 (i + 1)).2 + 1)).1 = -5
          · rw [if_pos c4] at c; exact absurd (show false = true from c) (by decide)
          · rw [if_neg c4]
            have h2 := num_ok (lo := 0) (by decide) c4
            exact ⟨show _ ≤ (numF t n 0 3 ((numF t n 0 19 (i + 1)).2 + 1)).2 by omega, h2.2⟩
        · rw [if_neg c3] at c; exact absurd (show false = true from c) (by decide)
  unfold cmdF at c ⊢
  by_cases c0 : n ≤ i
  · rw [if_pos c0] at c; exact absurd (show false = true from c) (by decide)
  · rw [if_neg c0] at c ⊢
    refine ⟨by omega, ?_⟩
    by_cases s1 : t i = 43
    · rw [if_pos s1] at c ⊢; exact one (by decide) c
    · rw [if_neg s1] at c ⊢
      by_cases s2 : t i = 45
      · rw [if_pos s2] at c ⊢; exact one (by decide) c
      · rw [if_neg s2] at c ⊢
        by_cases s3 : t i = 46
        · rw [if_pos s3] at c ⊢; exact one (by decide) c
        · rw [if_neg s3] at c ⊢
          by_cases s4 : t i = 100
          · rw [if_pos s4] at c ⊢; exact one (by decide) c
          · rw [if_neg s4] at c ⊢
            by_cases s5 : t i = 109
            · rw [if_pos s5] at c ⊢; exact two c
            · rw [if_neg s5] at c ⊢
              by_cases s6 : t i = 117
              · rw [if_pos s6] at c ⊢; exact two c
              · rw [if_neg s6] at c; exact absurd (show false = true from c) (by decide)
theorem cmd_le (t : Nat → Int32) (n i : Nat) : (cmdF t n i).2.1 ≤ i + 6 := by
  have one : ∀ {lo hi : Int32}, (one1 (numF t n lo hi (i + 1))).2.1 ≤ i + 6 := by
    intro lo hi
    have := num_le t n lo hi (i + 1)
    unfold one1
    split
    · show (numF t n lo hi (i + 1)).2 ≤ i + 6; omega
    · show (numF t n lo hi (i + 1)).2 ≤ i + 6; omega
  have two : (two2 t n (numF t n 0 19 (i + 1))).2.1 ≤ i + 6 := by
    have h1 := num_le t n 0 19 (i + 1)
    have h2 := num_le t n 0 3 ((numF t n 0 19 (i + 1)).2 + 1)
    unfold two2
    split
    · show (numF t n 0 19 (i + 1)).2 ≤ i + 6; omega
    · split
      · show (numF t n 0 19 (i + 1)).2 ≤ i + 6; omega
      · split
        · split
          · show (numF t n 0 3 ((numF t n 0 19 (i + 1)).2 + 1)).2 ≤ i + 6; omega
          · show (numF t n 0 3 ((numF t n 0 19 (i + 1)).2 + 1)).2 ≤ i + 6; omega
        · show (numF t n 0 19 (i + 1)).2 ≤ i + 6; omega
  unfold cmdF
  split
  · show i ≤ i + 6; omega
  · split
    · exact one
    · split
      · exact one
      · split
        · exact one
        · split
          · exact one
          · split
            · exact two
            · split
              · exact two
              · show i ≤ i + 6; omega
/-- the fault of a text, from a place on; -5: none -/
def ffF (t : Nat → Int32) (n : Nat) : Nat → Nat → Int32
  | 0, _ => 0
  | g + 1, i => if (cmdF t n i).1 = true then (if (cmdF t n i).2.1 = n then -5 else if t (cmdF t n i).2.1 = 59 then ffF t n g ((cmdF t n i).2.1 + 1) else nI (cmdF t n i).2.1) else nI (cmdF t n i).2.1
theorem ffF_cases : ∀ (g i : Nat), i ≤ n → ffF t n g i = -5 ∨ ∃ j, j ≤ n + 6 ∧ ffF t n g i = nI j := by
  intro g
  induction g with
  | zero => intro i _; exact Or.inr ⟨0, Nat.zero_le _, rfl⟩
  | succ g ih =>
    intro i hi
    have hl := cmd_le t n i
    rw [ffF]
    by_cases c1 : (cmdF t n i).1 = true
    · have hk := cmd_ok c1
      rw [if_pos c1]
      by_cases c2 : (cmdF t n i).2.1 = n
      · rw [if_pos c2]; exact Or.inl rfl
      · rw [if_neg c2]
        by_cases c3 : t (cmdF t n i).2.1 = 59
        · rw [if_pos c3]; exact ih _ (by omega)
        · rw [if_neg c3]; exact Or.inr ⟨_, by omega, rfl⟩
    · rw [if_neg c1]; exact Or.inr ⟨_, by omega, rfl⟩
/-- the commands of a text: c of them, from a place on, the last at the text's end -/
def PG (t : Nat → Int32) (n : Nat) : Nat → Nat → Prop
  | 0, i => i = n + 1
  | c + 1, i => (cmdF t n i).1 = true ∧ PG t n c ((cmdF t n i).2.1 + 1)
/-- what is stored of them, from a number on -/
def St (π : PS) (t : Nat → Int32) (n : Nat) : Nat → Nat → Nat → Prop
  | 0, _, _ => True
  | c + 1, k, i => (P_signs π k = t i ∧ P_firsts π k = (cmdF t n i).2.2.1 ∧ P_seconds π k = (cmdF t n i).2.2.2) ∧ St π t n c (k + 1) ((cmdF t n i).2.1 + 1)
theorem ff4 (hn : n ≤ 60) (hc : chOK t n) : ∀ (g i : Nat) (τ : MS), i ≤ n → M_length τ = nI n → M_text τ = t → (mX4_findFault_L2 g τ (nI i)).1 = ffF t n g i ∧ ∃ s a b, (mX4_findFault_L2 g τ (nI i)).2 = M_cmd τ s a b := by
  intro g
  induction g with
  | zero => intro i τ _ _ _; exact ⟨rfl, M_sign τ, M_first τ, M_second τ, rfl⟩
  | succ g ih =>
    intro i τ hi h2 ht
    have hr := rc1 (τ := τ) (n := n) (i := i) hn (by omega) h2 (by rw [ht]; exact hc)
    rw [ht] at hr
    generalize (if n ≤ i then (0 : Int32) else t i) = sg at hr
    rw [mX4_findFault_L2, ffF]
    generalize mX4_readCommand τ (nI i) = r at hr
    obtain ⟨r1, r2⟩ := r
    obtain ⟨f, b, e2, e1, -⟩ := hr
    change r2 = M_cmd τ sg f b at e2
    change r1 = _ at e1
    subst e2
    have hl := cmd_le t n i
    by_cases c1 : (cmdF t n i).1 = true
    · have hk := cmd_ok c1
      rw [if_pos c1] at e1
      subst e1
      rw [if_pos c1, if_pos (show (0 : Int32) ≤ ((nI (cmdF t n i).2.1, M_cmd τ sg f b) : Int32 × MS).1 from nI_pos' (by omega))]
      by_cases c2 : (cmdF t n i).2.1 = n
      · rw [if_pos c2, if_pos (show ((nI (cmdF t n i).2.1, M_cmd τ sg f b) : Int32 × MS).1 = M_length ((nI (cmdF t n i).2.1, M_cmd τ sg f b) : Int32 × MS).2 by
          show nI (cmdF t n i).2.1 = M_length τ
          rw [h2, c2])]
        exact ⟨rfl, _, _, _, rfl⟩
      · rw [if_neg c2, if_neg (show ¬ ((nI (cmdF t n i).2.1, M_cmd τ sg f b) : Int32 × MS).1 = M_length ((nI (cmdF t n i).2.1, M_cmd τ sg f b) : Int32 × MS).2 by
          show ¬ nI (cmdF t n i).2.1 = M_length τ
          rw [h2, eq_nI (by omega) (by omega)]
          exact c2)]
        have e3 : M_text ((nI (cmdF t n i).2.1, M_cmd τ sg f b) : Int32 × MS).2 ((nI (cmdF t n i).2.1, M_cmd τ sg f b) : Int32 × MS).1.toNatClampNeg = t (cmdF t n i).2.1 := by
          show M_text τ (nI (cmdF t n i).2.1).toNatClampNeg = _
          rw [nI_clamp (show (cmdF t n i).2.1 < 2 ^ 31 by omega), ht]
        rw [e3]
        by_cases c3 : t (cmdF t n i).2.1 = 59
        · rw [if_pos c3, if_pos c3, show ((nI (cmdF t n i).2.1, M_cmd τ sg f b) : Int32 × MS).1 + 1 = nI ((cmdF t n i).2.1 + 1) from nI1 _]
          obtain ⟨a1, s', a', b', a2⟩ := ih ((cmdF t n i).2.1 + 1) (M_cmd τ sg f b) (by omega) h2 ht
          exact ⟨a1, s', a', b', a2⟩
        · rw [if_neg c3, if_neg c3]
          exact ⟨rfl, _, _, _, rfl⟩
    · rw [if_neg c1] at e1
      subst e1
      rw [if_neg c1, if_neg (show ¬ (0 : Int32) ≤ ((-1 - nI (cmdF t n i).2.1, M_cmd τ sg f b) : Int32 × MS).1 by
        show ¬ (0 : Int32) ≤ -1 - nI (cmdF t n i).2.1
        have := neg1 (j := (cmdF t n i).2.1) (by omega)
        rw [le_ti]
        show ¬ (0 : Int) ≤ _
        omega)]
      refine ⟨?_, _, _, _, rfl⟩
      show -1 - (-1 - nI (cmdF t n i).2.1) = nI (cmdF t n i).2.1
      grind
/-- the outcome of the class's reading -/
def RDo (t : Nat → Int32) (n : Nat) (π : PS) (k i : Nat) (v : Int32) (r : Int32 × PS) : Prop := r.1 = v ∧ P_text r.2 = P_text π ∧ P_length r.2 = P_length π ∧ (P_things r.2).toInt ≤ 20 ∧ (∀ m, m < k → P_signs r.2 m = P_signs π m ∧ P_firsts r.2 m = P_firsts π m ∧ P_seconds r.2 m = P_seconds π m) ∧ (v = -5 → ∃ c, k + c ≤ 20 ∧ P_things r.2 = nI (k + c) ∧ PG t n c i ∧ St r.2 t n c k i)
theorem nI_n5 {j : Nat} (hj : j < 1000) : ¬ nI j = -5 := fun e => by
  have := congrArg Int32.toInt e
  rw [nI_ti (by omega)] at this
  have : (j : Int) = -5 := this
  omega
theorem rd1 (hn : n ≤ 60) (hs : ∀ m, m < n → charOK (t m)) : ∀ (f k i : Nat) (π : PS) (g : Nat), f + k = 22 → k ≤ 20 → 3 * k ≤ i → i ≤ n → P_at π = nI i → P_length π = nI n → P_things π = nI k → P_text π = t → 63 ≤ g + i → RDo t n π k i (ffF t n g i) (mX1_read_L12 f π (nI k)) := by
  intro f
  induction f with
  | zero => intro k i π g hf hk; omega
  | succ f ih =>
    intro k i π g hf hk h3 hi p1 p2 p3 p4 hg
    obtain ⟨g, rfl⟩ : ∃ g', g = g' + 1 := ⟨g - 1, by omega⟩
    rw [mX1_read_L12, ffF]
    have hl := cmd_le t n i
    by_cases k20 : k = 20
    · subst k20
      have hin : n ≤ i := by omega
      rw [if_pos e20]
      have ec : cmdF t n i = (false, i, 0, 0) := by unfold cmdF; rw [if_pos hin]
      rw [ec, if_neg (show ¬ false = true by decide)]
      exact ⟨p1, rfl, rfl, by show (P_things π).toInt ≤ 20; rw [p3, nI_ti (by decide)]; decide, fun _ _ => ⟨rfl, rfl, rfl⟩, fun e => absurd e (nI_n5 (show i < 1000 by omega))⟩
    · have hr := rt1 (π := π) (n := n) (i := i) (k := k) hn (by omega) p1 p2 (by omega) p3 (by rw [p4]; exact hs)
      rw [p4] at hr
      rw [if_neg (i20 (show k < 20 by omega))]
      generalize mX1_readThing π = r at hr
      obtain ⟨r1, ρ⟩ := r
      obtain ⟨e1, e2, ⟨q1, q2, q4⟩, e3, e4⟩ := hr
      change r1 = _ at e1
      change P_at ρ = nI (cmdF t n i).2.1 at e2
      change P_text ρ = P_text π at q1
      change P_length ρ = P_length π at q2
      change ∀ m, m ≠ k → P_signs ρ m = P_signs π m ∧ P_firsts ρ m = P_firsts π m ∧ P_seconds ρ m = P_seconds π m at q4
      change (cmdF t n i).1 = true → P_things ρ = nI (k + 1) ∧ P_signs ρ k = t i ∧ P_firsts ρ k = (cmdF t n i).2.2.1 ∧ P_seconds ρ k = (cmdF t n i).2.2.2 at e3
      change ¬ (cmdF t n i).1 = true → P_things ρ = P_things π at e4
      by_cases c1 : (cmdF t n i).1 = true
      · have hok := cmd_ok c1
        obtain ⟨t1, e9⟩ := e3 c1
        rw [if_pos c1] at e1
        subst e1
        rw [if_pos c1, if_neg (show ¬ ((1, ρ) : Int32 × PS).1 = 0 from one_ne)]
        show RDo t n π k i _ (if P_at ρ = P_length ρ then ((-5), ρ) else if (mX1_readCharacter ρ 59).1 = 0 then (P_at (mX1_readCharacter ρ 59).2, (mX1_readCharacter ρ 59).2) else mX1_read_L12 f (mX1_readCharacter ρ 59).2 (nI k + 1))
        rw [nI1]
        by_cases c2 : (cmdF t n i).2.1 = n
        · rw [if_pos c2, if_pos (show P_at ρ = P_length ρ by rw [e2, q2, p2, c2])]
          refine ⟨rfl, q1, q2, ?_, fun m hm => q4 m (by omega), fun _ => ⟨1, by omega, t1, ⟨c1, by rw [c2]; rfl⟩, e9, trivial⟩⟩
          show (P_things ρ).toInt ≤ 20
          rw [t1, nI_ti (by omega)]; omega
        · rw [if_neg c2, if_neg (show ¬ P_at ρ = P_length ρ by rw [e2, q2, p2, eq_nI (by omega) (by omega)]; exact c2)]
          have er : mX1_readCharacter ρ 59 = if n ≤ (cmdF t n i).2.1 then (0, ρ) else if t (cmdF t n i).2.1 = 59 then (1, P_set_at ρ (nI ((cmdF t n i).2.1 + 1))) else (0, ρ) := by
            have e := rch (π := ρ) hn (j := (cmdF t n i).2.1) (by omega) (q2.trans p2) 59
            rw [P_eta (π := ρ) e2] at e
            rw [e, show P_text ρ = t from q1.trans p4]
          rw [er, if_neg (show ¬ n ≤ (cmdF t n i).2.1 by omega)]
          by_cases c3 : t (cmdF t n i).2.1 = 59
          · rw [if_pos c3, if_pos c3, if_neg (show ¬ ((1, P_set_at ρ (nI ((cmdF t n i).2.1 + 1))) : Int32 × PS).1 = 0 from one_ne)]
            have hI := ih (k + 1) ((cmdF t n i).2.1 + 1) (P_set_at ρ (nI ((cmdF t n i).2.1 + 1))) g (by omega) (by omega) (by omega) (by omega) rfl (q2.trans p2) t1 (q1.trans p4) (by omega)
            obtain ⟨a1, a2, a3, a4, a5, a6⟩ := hI
            refine ⟨a1, a2.trans q1, a3.trans q2, a4, fun m hm => ?_, fun e => ?_⟩
            · obtain ⟨b1, b2, b3⟩ := a5 m (by omega)
              obtain ⟨d1, d2, d3⟩ := q4 m (by omega)
              exact ⟨b1.trans d1, b2.trans d2, b3.trans d3⟩
            · obtain ⟨c, b1, b2, b3, b4⟩ := a6 e
              obtain ⟨d1, d2, d3⟩ := a5 k (by omega)
              exact ⟨c + 1, by omega, by rw [b2, show k + 1 + c = k + (c + 1) by omega], ⟨c1, b3⟩, ⟨d1.trans e9.1, d2.trans e9.2.1, d3.trans e9.2.2⟩, b4⟩
          · rw [if_neg c3, if_neg c3, if_pos (show ((0, ρ) : Int32 × PS).1 = 0 from rfl)]
            refine ⟨e2, q1, q2, ?_, fun m hm => q4 m (by omega), fun e => absurd e (nI_n5 (by omega))⟩
            show (P_things ρ).toInt ≤ 20
            rw [t1, nI_ti (by omega)]; omega
      · rw [if_neg c1] at e1
        subst e1
        rw [if_neg c1, if_pos (show ((0, ρ) : Int32 × PS).1 = 0 from rfl)]
        refine ⟨e2, q1, q2, ?_, fun m hm => q4 m (by omega), fun e => absurd e (nI_n5 (by omega))⟩
        show (P_things ρ).toInt ≤ 20
        rw [e4 c1, p3, nI_ti (by omega)]; omega
theorem read_out {π : PS} (hn : n ≤ 60) (p2 : P_length π = nI n) (hs : ∀ m, m < n → charOK (P_text π m)) : RDo (P_text π) n π 0 0 (ffF (P_text π) n 63 0) (mX1_read π) := by
  unfold mX1_read
  exact rd1 hn hs 22 0 0 (P_set_things (P_set_at π 0) 0) 63 (by omega) (by omega) (by omega) (by omega) rfl p2 rfl rfl (by omega)
/-- the signs stay characters -/
def chS (π : PS) : Prop := ∀ j, charOK (P_signs π j)
theorem sg_rn {σ : PS} {a b : Int32} : P_signs (mX1_readNumber σ a b).2 = P_signs σ := by
  unfold mX1_readNumber
  repeat' split
  all_goals rfl
theorem sg_rc {σ : PS} {a : Int32} : P_signs (mX1_readCharacter σ a).2 = P_signs σ := by
  unfold mX1_readCharacter
  repeat' split
  all_goals rfl
theorem chS.of {σ σ' : PS} (h : chS σ) (e : P_signs σ' = P_signs σ) : chS σ' := fun j => by rw [e]; exact h j
theorem ch_ad {σ : PS} {a b c : Int32} (h : chS σ) : chS (mX1_add σ a b c).2 := by
  have key : ∀ j, charOK (upd (P_signs σ) (P_things σ).toNatClampNeg (vp_nar .char a) j) := by
    intro j
    rw [ud]
    split
    · exact ch_nar a
    · exact h j
  unfold mX1_add
  split
  · exact key
  · exact h
theorem ch_j {σ : PS} {a b c : Int32} (h : chS σ) : chS (mX1_readThing_J178 σ a b c).2 := by
  unfold mX1_readThing_J178
  split
  · exact h
  · split <;> exact ch_ad h
set_option maxHeartbeats 4000000 in
theorem ch_rt {σ : PS} (h : chS σ) : chS (mX1_readThing σ).2 := by
  unfold mX1_readThing
  have h2 : chS (mX1_readNumber (P_set_at σ (P_at σ + 1)) 0 19).2 := h.of (sg_rn (σ := P_set_at σ (P_at σ + 1)))
  have h3 : chS (mX1_readNumber (P_set_at σ (P_at σ + 1)) 1 99).2 := h.of (sg_rn (σ := P_set_at σ (P_at σ + 1)))
  have h4 : chS (mX1_readCharacter (mX1_readNumber (P_set_at σ (P_at σ + 1)) 0 19).2 58).2 := h2.of sg_rc
  have h5 : chS (mX1_readNumber (mX1_readCharacter (mX1_readNumber (P_set_at σ (P_at σ + 1)) 0 19).2 58).2 0 3).2 := h4.of sg_rn
  repeat' split
  all_goals first | with_reducible exact ch_j h2 | with_reducible exact ch_j h3 | with_reducible exact ch_j h5 | with_reducible exact h2 | with_reducible exact h4 | with_reducible exact h5 | with_reducible exact h
theorem ch_rd : ∀ (f : Nat) {σ : PS} {u : Int32}, chS σ → chS (mX1_read_L12 f σ u).2 := by
  intro f
  induction f with
  | zero => intro σ u h; exact h
  | succ f ih =>
    intro σ u h
    have h2 := ch_rt h
    have h4 : chS (mX1_readCharacter (mX1_readThing σ).2 59).2 := h2.of sg_rc
    rw [mX1_read_L12]
    repeat' split
    all_goals first | with_reducible exact ih h4 | with_reducible exact h4 | with_reducible exact h2 | with_reducible exact h
theorem ch_read {σ : PS} (h : chS σ) : chS (mX1_read σ).2 := by
  unfold mX1_read
  exact ch_rd 22 h
end READ
