/-! a command done, by both -/
theorem keelM {σ : YS} {τ : MS} {T : Nat} (h : RelY σ (M_z τ) T) : KeelM τ := fun b hb => by
  obtain ⟨k, hk, rfl, h0⟩ := kn_get hb
  have hg := (h.p hk h0).2.1.2.2.2.1
  rw [zo4 hk]
  exact in_iff.mpr ⟨hg.1, by omega⟩
theorem keelY {σ : YS} {τ : MS} {T : Nat} (h : RelY σ (M_z τ) T) : KeelOK σ := fun b hb => by
  rw [kn_eq h] at hb
  obtain ⟨k, hk, rfl, h0⟩ := kn_get hb
  have hp := h.p hk h0
  have hg := hp.2.1.2.2.2.1
  rw [fa3 hk, show FY σ k 3 = ZB (M_z τ) k 4 from hp.1.2.2.2.1]
  exact in_iff.mpr ⟨hg.1, by omega⟩
theorem workY {σ : YS} {τ : MS} {T : Nat} (h : RelY σ (M_z τ) T) : WorkOK σ := fun b hb => by
  rw [kn_eq h] at hb
  obtain ⟨k, hk, rfl, h0⟩ := kn_get hb
  have hp := h.p hk h0
  have hg := hp.2.1.2.2.2.2.2.1
  rw [fa8 hk, show FY σ k 8 = ZB (M_z τ) k 8 from hp.1.2.2.2.2.2.2.2.1]
  exact hg.1
section ACT
variable {t t' : Nat → Int32} {n i : Nat}
/-! the text counts below its length alone -/
theorem dgF_congr (h : ∀ k, k < n → t k = t' k) (i : Nat) : dgF t n i = dgF t' n i := by
  unfold dgF
  by_cases c : n ≤ i
  · rw [if_pos c, if_pos c]
  · rw [if_neg c, if_neg c, h i (by omega)]
theorem numF_congr (h : ∀ k, k < n → t k = t' k) (lo hi : Int32) (i : Nat) : numF t n lo hi i = numF t' n lo hi i := by
  unfold numF
  rw [dgF_congr h i, dgF_congr h (i + 1)]
theorem two2_congr (h : ∀ k, k < n → t k = t' k) (p : Int32 × Nat) : two2 t n p = two2 t' n p := by
  unfold two2
  rw [numF_congr h]
  by_cases c : n ≤ p.2
  · rw [if_pos c, if_pos c]
  · rw [h p.2 (by omega)]
theorem cmdF_congr (h : ∀ k, k < n → t k = t' k) (i : Nat) : cmdF t n i = cmdF t' n i := by
  unfold cmdF
  by_cases c : n ≤ i
  · rw [if_pos c, if_pos c]
  · rw [h i (by omega), numF_congr h, numF_congr h, two2_congr h]
theorem ffF_congr (h : ∀ k, k < n → t k = t' k) : ∀ g i, ffF t n g i = ffF t' n g i := by
  intro g
  induction g with
  | zero => intro i; rfl
  | succ g ih =>
    intro i
    rw [ffF, ffF, cmdF_congr h i, ih]
    by_cases c1 : (cmdF t' n i).1 = true
    · have hk := cmd_ok c1
      by_cases c2 : (cmdF t' n i).2.1 = n
      · rw [if_pos c2, if_pos c2]
      · rw [h _ (show (cmdF t' n i).2.1 < n by omega)]
    · rw [if_neg c1, if_neg c1]
theorem PG_congr (h : ∀ k, k < n → t k = t' k) : ∀ c i, PG t n c i → PG t' n c i := by
  intro c
  induction c with
  | zero => intro i hp; exact hp
  | succ c ih =>
    intro i hp
    have hp : (cmdF t n i).1 = true ∧ PG t n c ((cmdF t n i).2.1 + 1) := hp
    rw [cmdF_congr h i] at hp
    exact ⟨hp.1, ih _ hp.2⟩
theorem St_congr (h : ∀ k, k < n → t k = t' k) {π : PS} : ∀ c k i, PG t n c i → St π t n c k i → St π t' n c k i := by
  intro c
  induction c with
  | zero => intro k i _ _; exact trivial
  | succ c ih =>
    intro k i hp hs
    have hp : (cmdF t n i).1 = true ∧ PG t n c ((cmdF t n i).2.1 + 1) := hp
    have hs : (P_signs π k = t i ∧ P_firsts π k = (cmdF t n i).2.2.1 ∧ P_seconds π k = (cmdF t n i).2.2.2) ∧ St π t n c (k + 1) ((cmdF t n i).2.1 + 1) := hs
    have hI := ih _ _ hp.2 hs.2
    rw [h i (cmd_ok hp.1).1] at hs
    rw [cmdF_congr h i] at hs hI
    exact ⟨hs.1, hI⟩
/-- the form of a command that is read -/
theorem cmd_two (c : (cmdF t n i).1 = true) : ((t i = 43 ∨ t i = 45 ∨ t i = 46 ∨ t i = 100) ∧ (cmdF t n i).2.2.2 = -5) ∨ ((t i = 109 ∨ t i = 117) ∧ ¬ (cmdF t n i).2.2.2 = -5) := by
  have one : ∀ {lo hi : Int32}, (one1 (numF t n lo hi (i + 1))).1 = true → (one1 (numF t n lo hi (i + 1))).2.2.2 = -5 := by
    intro lo hi c
    unfold one1 at c ⊢
    by_cases c1 : (numF t n lo hi (i + 1)).1 = -5
    · rw [if_pos c1] at c; exact absurd (show false = true from c) (by decide)
    · rw [if_neg c1]
  have two : (two2 t n (numF t n 0 19 (i + 1))).1 = true → ¬ (two2 t n (numF t n 0 19 (i + 1))).2.2.2 = -5 := by
    intro c
    unfold two2 at c ⊢
    by_cases c1 : (numF t n 0 19 (i + 1)).1 = -5
    · rw [if_pos c1] at c; exact absurd (show false = true from c) (by decide)
    · rw [if_neg c1] at c ⊢
      by_cases c2 : n ≤ (numF t n 0 19 (i + 1)).2
      · rw [if_pos c2] at c; exact absurd (show false = true from c) (by decide)
      · rw [if_neg c2] at c ⊢
        by_cases c3 : t (numF t n 0 19 (i + 1)).2 = 58
        · rw [if_pos c3] at c ⊢
          by_cases c4 : (numF t n 0 3 ((numF t n 0 19 (i + 1)).2 + 1)).1 = -5
          · rw [if_pos c4] at c; exact absurd (show false = true from c) (by decide)
          · rw [if_neg c4]; exact c4
        · rw [if_neg c3] at c; exact absurd (show false = true from c) (by decide)
  unfold cmdF at c ⊢
  by_cases c0 : n ≤ i
  · rw [if_pos c0] at c; exact absurd (show false = true from c) (by decide)
  · rw [if_neg c0] at c ⊢
    by_cases s1 : t i = 43
    · rw [if_pos s1] at c ⊢; exact Or.inl ⟨Or.inl s1, one c⟩
    · rw [if_neg s1] at c ⊢
      by_cases s2 : t i = 45
      · rw [if_pos s2] at c ⊢; exact Or.inl ⟨Or.inr (Or.inl s2), one c⟩
      · rw [if_neg s2] at c ⊢
        by_cases s3 : t i = 46
        · rw [if_pos s3] at c ⊢; exact Or.inl ⟨Or.inr (Or.inr (Or.inl s3)), one c⟩
        · rw [if_neg s3] at c ⊢
          by_cases s4 : t i = 100
          · rw [if_pos s4] at c ⊢; exact Or.inl ⟨Or.inr (Or.inr (Or.inr s4)), one c⟩
          · rw [if_neg s4] at c ⊢
            by_cases s5 : t i = 109
            · rw [if_pos s5] at c ⊢; exact Or.inr ⟨Or.inl s5, two c⟩
            · rw [if_neg s5] at c ⊢
              by_cases s6 : t i = 117
              · rw [if_pos s6] at c ⊢; exact Or.inr ⟨Or.inr s6, two c⟩
              · rw [if_neg s6] at c; exact absurd (show false = true from c) (by decide)
variable {σ : YS} {τ : MS} {T : Nat}
theorem th43 (x y : Int32) : mX3_thing σ 43 x y = mX2_putMastUp σ x := by
  unfold mX3_thing; rw [if_pos (show (43 : Int32) = 43 from rfl)]
theorem th45 (x y : Int32) : mX3_thing σ 45 x y = mX2_takeMastOff σ x := by
  unfold mX3_thing; rw [if_neg (show ¬ (45 : Int32) = 43 by decide), if_pos (show (45 : Int32) = 45 from rfl)]
theorem th100 (x y : Int32) : mX3_thing σ 100 x y = mX2_putAfloat σ x := by
  unfold mX3_thing; rw [if_neg (show ¬ (100 : Int32) = 43 by decide), if_neg (show ¬ (100 : Int32) = 45 by decide), if_pos (show (100 : Int32) = 100 from rfl)]
theorem th109 (x y : Int32) : mX3_thing σ 109 x y = mX2_moveTo σ x y := by
  unfold mX3_thing; rw [if_neg (show ¬ (109 : Int32) = 43 by decide), if_neg (show ¬ (109 : Int32) = 45 by decide), if_neg (show ¬ (109 : Int32) = 100 by decide), if_pos (show (109 : Int32) = 109 from rfl)]
theorem th117 (x y : Int32) : mX3_thing σ 117 x y = mX2_liftInto σ x y := by
  unfold mX3_thing; rw [if_neg (show ¬ (117 : Int32) = 43 by decide), if_neg (show ¬ (117 : Int32) = 45 by decide), if_neg (show ¬ (117 : Int32) = 100 by decide), if_neg (show ¬ (117 : Int32) = 109 by decide), if_pos (show (117 : Int32) = 117 from rfl)]
theorem th46 (x y : Int32) : mX3_thing σ 46 x y = mX2_letPass σ x := by
  unfold mX3_thing; rw [if_neg (show ¬ (46 : Int32) = 43 by decide), if_neg (show ¬ (46 : Int32) = 45 by decide), if_neg (show ¬ (46 : Int32) = 100 by decide), if_neg (show ¬ (46 : Int32) = 109 by decide), if_neg (show ¬ (46 : Int32) = 117 by decide)]
theorem nc43 (e : M_sign τ = 43) : mX4_noCommand τ = mX4_noMast τ (M_first τ) 1 ∧ mX4_doCommand τ = mX4_doMast τ (M_first τ) 1 := by
  unfold mX4_noCommand mX4_doCommand
  rw [if_pos e, if_pos e, if_pos e, if_pos e]
  exact ⟨rfl, rfl⟩
theorem nc45 (e : M_sign τ = 45) : mX4_noCommand τ = mX4_noMast τ (M_first τ) 0 ∧ mX4_doCommand τ = mX4_doMast τ (M_first τ) 0 := by
  have n1 : ¬ M_sign τ = 43 := fun q => absurd (e.symm.trans q) (by decide)
  unfold mX4_noCommand mX4_doCommand
  rw [if_neg n1, if_pos e, if_neg n1, if_neg n1, if_pos e, if_neg n1]
  exact ⟨rfl, rfl⟩
theorem nc100 (e : M_sign τ = 100) : mX4_noCommand τ = mX4_noLaunch τ (M_first τ) ∧ mX4_doCommand τ = mX4_doLaunch τ (M_first τ) := by
  have n1 : ¬ M_sign τ = 43 := fun q => absurd (e.symm.trans q) (by decide)
  have n2 : ¬ M_sign τ = 45 := fun q => absurd (e.symm.trans q) (by decide)
  unfold mX4_noCommand mX4_doCommand
  rw [if_neg n1, if_neg n2, if_pos e, if_neg n1, if_neg n2, if_pos e]
  exact ⟨rfl, rfl⟩
theorem nc109 (e : M_sign τ = 109) : mX4_noCommand τ = mX4_noMove τ (M_second τ) (M_first τ) ∧ mX4_doCommand τ = mX4_doMove τ (M_second τ) (M_first τ) := by
  have n1 : ¬ M_sign τ = 43 := fun q => absurd (e.symm.trans q) (by decide)
  have n2 : ¬ M_sign τ = 45 := fun q => absurd (e.symm.trans q) (by decide)
  have n3 : ¬ M_sign τ = 100 := fun q => absurd (e.symm.trans q) (by decide)
  unfold mX4_noCommand mX4_doCommand
  rw [if_neg n1, if_neg n2, if_neg n3, if_pos e, if_neg n1, if_neg n2, if_neg n3, if_pos e]
  exact ⟨rfl, rfl⟩
theorem nc117 (e : M_sign τ = 117) : mX4_noCommand τ = mX4_noLift τ (M_second τ) (M_first τ) ∧ mX4_doCommand τ = mX4_doLift τ (M_second τ) (M_first τ) := by
  have n1 : ¬ M_sign τ = 43 := fun q => absurd (e.symm.trans q) (by decide)
  have n2 : ¬ M_sign τ = 45 := fun q => absurd (e.symm.trans q) (by decide)
  have n3 : ¬ M_sign τ = 100 := fun q => absurd (e.symm.trans q) (by decide)
  have n4 : ¬ M_sign τ = 109 := fun q => absurd (e.symm.trans q) (by decide)
  unfold mX4_noCommand mX4_doCommand
  rw [if_neg n1, if_neg n2, if_neg n3, if_neg n4, if_pos e, if_neg n1, if_neg n2, if_neg n3, if_neg n4, if_pos e]
  exact ⟨rfl, rfl⟩
theorem nc46 (e : M_sign τ = 46) : mX4_noCommand τ = mX4_noPass τ (M_first τ) ∧ mX4_doCommand τ = mX4_doPass τ (M_first τ) := by
  have n1 : ¬ M_sign τ = 43 := fun q => absurd (e.symm.trans q) (by decide)
  have n2 : ¬ M_sign τ = 45 := fun q => absurd (e.symm.trans q) (by decide)
  have n3 : ¬ M_sign τ = 100 := fun q => absurd (e.symm.trans q) (by decide)
  have n4 : ¬ M_sign τ = 109 := fun q => absurd (e.symm.trans q) (by decide)
  have n5 : ¬ M_sign τ = 117 := fun q => absurd (e.symm.trans q) (by decide)
  unfold mX4_noCommand mX4_doCommand
  rw [if_neg n1, if_neg n2, if_neg n3, if_neg n4, if_neg n5, if_neg n1, if_neg n2, if_neg n3, if_neg n4, if_neg n5]
  exact ⟨rfl, rfl⟩
/-- a command that was read, done by both -/
theorem cmd_act (hT : T < 2 ^ 30) (h : RelY σ (M_z τ) T) (c : (cmdF t n i).1 = true) {f g : Int32} (e : (cmdF t n i).2.2.2 = -5 ∧ f = (cmdF t n i).2.2.1 ∨ ¬ (cmdF t n i).2.2.2 = -5 ∧ g = (cmdF t n i).2.2.1 ∧ f = (cmdF t n i).2.2.2) : Act (M_cmd τ (t i) f g) T (mX3_thing σ (t i) (cmdF t n i).2.2.1 (cmdF t n i).2.2.2) (mX4_noCommand (M_cmd τ (t i) f g)) (mX4_doCommand (M_cmd τ (t i) f g)) := by
  have h : RelY σ (M_z (M_cmd τ (t i) f g)) T := h
  rcases cmd_two c with ⟨hs, h5⟩ | ⟨hs, h5⟩
  · have ef : f = (cmdF t n i).2.2.1 := by
      rcases e with q | q
      · exact q.2
      · exact absurd h5 q.1
    generalize (cmdF t n i).2.2.1 = x at ef
    generalize (cmdF t n i).2.2.2 = y
    generalize t i = s at hs h
    subst ef
    rcases hs with hs | hs | hs | hs
    · subst hs
      rw [th43, (nc43 (τ := M_cmd τ 43 f g) rfl).1, (nc43 (τ := M_cmd τ 43 f g) rfl).2]
      exact up_act h f
    · subst hs
      rw [th45, (nc45 (τ := M_cmd τ 45 f g) rfl).1, (nc45 (τ := M_cmd τ 45 f g) rfl).2]
      exact off_act h f
    · subst hs
      rw [th46, (nc46 (τ := M_cmd τ 46 f g) rfl).1, (nc46 (τ := M_cmd τ 46 f g) rfl).2]
      exact pass_act h f
    · subst hs
      rw [th100, (nc100 (τ := M_cmd τ 100 f g) rfl).1, (nc100 (τ := M_cmd τ 100 f g) rfl).2]
      exact launch_act h f
  · have ef : g = (cmdF t n i).2.2.1 ∧ f = (cmdF t n i).2.2.2 := by
      rcases e with q | q
      · exact absurd q.1 h5
      · exact q.2
    obtain ⟨e1, e2⟩ := ef
    generalize (cmdF t n i).2.2.1 = x at e1
    generalize (cmdF t n i).2.2.2 = y at e2
    generalize t i = s at hs h
    subst e1
    subst e2
    rcases hs with hs | hs
    · subst hs
      rw [th109, (nc109 (τ := M_cmd τ 109 f g) rfl).1, (nc109 (τ := M_cmd τ 109 f g) rfl).2]
      exact move_act hT h g f
    · subst hs
      rw [th117, (nc117 (τ := M_cmd τ 117 f g) rfl).1, (nc117 (τ := M_cmd τ 117 f g) rfl).2]
      exact lift_act hT h g f
theorem act_rel {p : Int32 × YS} {e : Int32} {q : Int32 × MS} (h : Act τ T p e q) : ∃ τ', RelY p.2 (M_z τ') (T + 1) := by
  rcases h with ⟨-, -, -, -, h⟩ | ⟨-, -, h⟩
  · exact ⟨_, h⟩
  · exact ⟨_, h.up (Nat.le_succ T)⟩
theorem thing_rel (hT : T < 2 ^ 30) (h : RelY σ (M_z τ) T) (s x y : Int32) : ∃ τ', RelY (mX3_thing σ s x y).2 (M_z τ') (T + 1) := by
  unfold mX3_thing
  split
  · exact act_rel (up_act h x)
  · split
    · exact act_rel (off_act h x)
    · split
      · exact act_rel (launch_act h x)
      · split
        · exact act_rel (move_act hT h x y)
        · split
          · exact act_rel (lift_act hT h x y)
          · exact act_rel (pass_act h x)
theorem pk1 {π : PS} {w : Int32} : ∀ (g : Nat) (u : Int32) (Y : YS) (τ : MS) (T : Nat), RelY Y (M_z τ) T → T + g < 2 ^ 30 → PK π w g Y u := by
  intro g
  induction g with
  | zero => intro u Y τ T _ _; exact trivial
  | succ g ih =>
    intro u Y τ T h hT
    obtain ⟨τ', h'⟩ := thing_rel (by omega) h (mX1_sign π u) (mX1_first π u) (mX1_second π u)
    exact ⟨keelY h, Or.inr (ih _ _ τ' (T + 1) h' (by omega))⟩
/-- the reading of a command, once more -/
theorem rcx (hn : n ≤ 60) (hc : chOK t n) (hi : i ≤ n) (h2 : M_length τ = nI n) (ht : M_text τ = t) (c : (cmdF t n i).1 = true) : ∃ f g, mX4_readCommand τ (nI i) = (nI (cmdF t n i).2.1, M_cmd τ (t i) f g) ∧ ((cmdF t n i).2.2.2 = -5 ∧ f = (cmdF t n i).2.2.1 ∨ ¬ (cmdF t n i).2.2.2 = -5 ∧ g = (cmdF t n i).2.2.1 ∧ f = (cmdF t n i).2.2.2) := by
  have hr := rc1 (τ := τ) (n := n) (i := i) hn (by omega) h2 (by rw [ht]; exact hc)
  have hk := cmd_ok c
  rw [ht, if_neg (show ¬ n ≤ i by omega)] at hr
  obtain ⟨f, g, e2, e1, e3⟩ := hr
  rw [if_pos c] at e1
  exact ⟨f, g, Prod.ext e1 e2, e3 c⟩
/-- along the plan the reference stays within its rows -/
theorem pm1 (hn : n ≤ 60) (hc : chOK t n) : ∀ (g c i : Nat) (Y : YS) (τ : MS) (er : Int32) (T : Nat), i ≤ n + 1 → PG t n c i → RelY Y (M_z τ) T → T + c < 2 ^ 30 → 0 ≤ (M_states τ).toInt ∧ (M_states τ).toInt ≤ 4 → M_length τ = nI n → M_text τ = t → PM g τ (nI i) er := by
  intro g
  induction g with
  | zero => intro c i Y τ er T _ _ _ _ _ _ _; exact trivial
  | succ g ih =>
    intro c i Y τ er T hi hp hY hT hst h2 ht
    refine ⟨hst, ?_⟩
    cases c with
    | zero =>
      have hp : i = n + 1 := hp
      left
      rw [h2, le_nI (by omega) (by omega)]
      omega
    | succ c =>
      have hp : (cmdF t n i).1 = true ∧ PG t n c ((cmdF t n i).2.1 + 1) := hp
      have hk := cmd_ok hp.1
      right; right
      obtain ⟨f, b, er1, er2⟩ := rcx (τ := τ) hn hc (by omega) h2 ht hp.1
      have hA := cmd_act (τ := τ) (f := f) (g := b) (by omega) hY hp.1 er2
      rw [er1]
      generalize mX3_thing Y (t i) (cmdF t n i).2.2.1 (cmdF t n i).2.2.2 = p at hA
      have eJ : ((nI (cmdF t n i).2.1, M_cmd τ (t i) f b) : Int32 × MS).1 + 1 = nI ((cmdF t n i).2.1 + 1) := nI1 _
      rw [eJ]
      show (0 ≤ (nI i).toInt ∧ (nI i).toInt ≤ 60 ∧ (M_length τ).toInt ≤ 60) ∧ ((nI i).toInt < (nI (cmdF t n i).2.1).toInt ∧ (nI (cmdF t n i).2.1).toInt ≤ 60) ∧ KeelM (M_cmd τ (t i) f b) ∧ (mX4_noCommand (M_cmd τ (t i) f b) = 0 → PM g (mX4_doCommand (M_cmd τ (t i) f b)).2 (nI ((cmdF t n i).2.1 + 1)) (mX4_noCommand (M_cmd τ (t i) f b))) ∧ (¬ mX4_noCommand (M_cmd τ (t i) f b) = 0 → PM g (M_cmd τ (t i) f b) (nI ((cmdF t n i).2.1 + 1)) (mX4_noCommand (M_cmd τ (t i) f b)))
      refine ⟨?_, ?_, keelM (τ := M_cmd τ (t i) f b) hY, fun e => ?_, fun e => ?_⟩
      · rw [h2, nI_ti (by omega), nI_ti (by omega)]; omega
      · rw [nI_ti (by omega), nI_ti (by omega)]; omega
      · rcases hA with ⟨-, -, -, a4, a5⟩ | ⟨a1, -, -⟩
        · have e2 : (mX4_doCommand (M_cmd τ (t i) f b)).2 = M_set_z (M_cmd τ (t i) f b) (M_z (mX4_doCommand (M_cmd τ (t i) f b)).2) := Prod.ext rfl a4
          rw [e2]
          exact ih c _ p.2 _ _ (T + 1) (by omega) hp.2 a5 (by omega) hst h2 ht
        · rw [e] at a1; exact absurd a1 (by decide)
      · rcases hA with ⟨a1, -, -, -, -⟩ | ⟨-, -, a3⟩
        · exact absurd a1 e
        · exact ih c _ p.2 (M_cmd τ (t i) f b) _ T (by omega) hp.2 a3 (by omega) hst h2 ht
end ACT
