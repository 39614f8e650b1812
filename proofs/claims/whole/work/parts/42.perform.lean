/-! a plan performed, by both -/
theorem gq_z_z (σ : MS) (v) : M_z (M_set_z σ v) = v := rfl
theorem gq_z_aside (σ : MS) (v) : M_z (M_set_aside σ v) = M_z σ := rfl
theorem gq_z_old (σ : MS) (v) : M_z (M_set_old σ v) = M_z σ := rfl
theorem gq_z_states (σ : MS) (v) : M_z (M_set_states σ v) = M_z σ := rfl
theorem gq_z_sign (σ : MS) (v) : M_z (M_set_sign σ v) = M_z σ := rfl
theorem gq_z_first (σ : MS) (v) : M_z (M_set_first σ v) = M_z σ := rfl
theorem gq_z_second (σ : MS) (v) : M_z (M_set_second σ v) = M_z σ := rfl
theorem gq_z_stopNumber (σ : MS) (v) : M_z (M_set_stopNumber σ v) = M_z σ := rfl
theorem gq_z_stopError (σ : MS) (v) : M_z (M_set_stopError σ v) = M_z σ := rfl
theorem gq_aside_z (σ : MS) (v) : M_aside (M_set_z σ v) = M_aside σ := rfl
theorem gq_aside_aside (σ : MS) (v) : M_aside (M_set_aside σ v) = v := rfl
theorem gq_aside_old (σ : MS) (v) : M_aside (M_set_old σ v) = M_aside σ := rfl
theorem gq_aside_states (σ : MS) (v) : M_aside (M_set_states σ v) = M_aside σ := rfl
theorem gq_aside_sign (σ : MS) (v) : M_aside (M_set_sign σ v) = M_aside σ := rfl
theorem gq_aside_first (σ : MS) (v) : M_aside (M_set_first σ v) = M_aside σ := rfl
theorem gq_aside_second (σ : MS) (v) : M_aside (M_set_second σ v) = M_aside σ := rfl
theorem gq_aside_stopNumber (σ : MS) (v) : M_aside (M_set_stopNumber σ v) = M_aside σ := rfl
theorem gq_aside_stopError (σ : MS) (v) : M_aside (M_set_stopError σ v) = M_aside σ := rfl
theorem gq_old_z (σ : MS) (v) : M_old (M_set_z σ v) = M_old σ := rfl
theorem gq_old_aside (σ : MS) (v) : M_old (M_set_aside σ v) = M_old σ := rfl
theorem gq_old_old (σ : MS) (v) : M_old (M_set_old σ v) = v := rfl
theorem gq_old_states (σ : MS) (v) : M_old (M_set_states σ v) = M_old σ := rfl
theorem gq_old_sign (σ : MS) (v) : M_old (M_set_sign σ v) = M_old σ := rfl
theorem gq_old_first (σ : MS) (v) : M_old (M_set_first σ v) = M_old σ := rfl
theorem gq_old_second (σ : MS) (v) : M_old (M_set_second σ v) = M_old σ := rfl
theorem gq_old_stopNumber (σ : MS) (v) : M_old (M_set_stopNumber σ v) = M_old σ := rfl
theorem gq_old_stopError (σ : MS) (v) : M_old (M_set_stopError σ v) = M_old σ := rfl
theorem gq_kept_z (σ : MS) (v) : M_kept (M_set_z σ v) = M_kept σ := rfl
theorem gq_kept_aside (σ : MS) (v) : M_kept (M_set_aside σ v) = M_kept σ := rfl
theorem gq_kept_old (σ : MS) (v) : M_kept (M_set_old σ v) = M_kept σ := rfl
theorem gq_kept_states (σ : MS) (v) : M_kept (M_set_states σ v) = M_kept σ := rfl
theorem gq_kept_sign (σ : MS) (v) : M_kept (M_set_sign σ v) = M_kept σ := rfl
theorem gq_kept_first (σ : MS) (v) : M_kept (M_set_first σ v) = M_kept σ := rfl
theorem gq_kept_second (σ : MS) (v) : M_kept (M_set_second σ v) = M_kept σ := rfl
theorem gq_kept_stopNumber (σ : MS) (v) : M_kept (M_set_stopNumber σ v) = M_kept σ := rfl
theorem gq_kept_stopError (σ : MS) (v) : M_kept (M_set_stopError σ v) = M_kept σ := rfl
theorem gq_text_z (σ : MS) (v) : M_text (M_set_z σ v) = M_text σ := rfl
theorem gq_text_aside (σ : MS) (v) : M_text (M_set_aside σ v) = M_text σ := rfl
theorem gq_text_old (σ : MS) (v) : M_text (M_set_old σ v) = M_text σ := rfl
theorem gq_text_states (σ : MS) (v) : M_text (M_set_states σ v) = M_text σ := rfl
theorem gq_text_sign (σ : MS) (v) : M_text (M_set_sign σ v) = M_text σ := rfl
theorem gq_text_first (σ : MS) (v) : M_text (M_set_first σ v) = M_text σ := rfl
theorem gq_text_second (σ : MS) (v) : M_text (M_set_second σ v) = M_text σ := rfl
theorem gq_text_stopNumber (σ : MS) (v) : M_text (M_set_stopNumber σ v) = M_text σ := rfl
theorem gq_text_stopError (σ : MS) (v) : M_text (M_set_stopError σ v) = M_text σ := rfl
theorem gq_states_z (σ : MS) (v) : M_states (M_set_z σ v) = M_states σ := rfl
theorem gq_states_aside (σ : MS) (v) : M_states (M_set_aside σ v) = M_states σ := rfl
theorem gq_states_old (σ : MS) (v) : M_states (M_set_old σ v) = M_states σ := rfl
theorem gq_states_states (σ : MS) (v) : M_states (M_set_states σ v) = v := rfl
theorem gq_states_sign (σ : MS) (v) : M_states (M_set_sign σ v) = M_states σ := rfl
theorem gq_states_first (σ : MS) (v) : M_states (M_set_first σ v) = M_states σ := rfl
theorem gq_states_second (σ : MS) (v) : M_states (M_set_second σ v) = M_states σ := rfl
theorem gq_states_stopNumber (σ : MS) (v) : M_states (M_set_stopNumber σ v) = M_states σ := rfl
theorem gq_states_stopError (σ : MS) (v) : M_states (M_set_stopError σ v) = M_states σ := rfl
theorem gq_isKept_z (σ : MS) (v) : M_isKept (M_set_z σ v) = M_isKept σ := rfl
theorem gq_isKept_aside (σ : MS) (v) : M_isKept (M_set_aside σ v) = M_isKept σ := rfl
theorem gq_isKept_old (σ : MS) (v) : M_isKept (M_set_old σ v) = M_isKept σ := rfl
theorem gq_isKept_states (σ : MS) (v) : M_isKept (M_set_states σ v) = M_isKept σ := rfl
theorem gq_isKept_sign (σ : MS) (v) : M_isKept (M_set_sign σ v) = M_isKept σ := rfl
theorem gq_isKept_first (σ : MS) (v) : M_isKept (M_set_first σ v) = M_isKept σ := rfl
theorem gq_isKept_second (σ : MS) (v) : M_isKept (M_set_second σ v) = M_isKept σ := rfl
theorem gq_isKept_stopNumber (σ : MS) (v) : M_isKept (M_set_stopNumber σ v) = M_isKept σ := rfl
theorem gq_isKept_stopError (σ : MS) (v) : M_isKept (M_set_stopError σ v) = M_isKept σ := rfl
theorem gq_length_z (σ : MS) (v) : M_length (M_set_z σ v) = M_length σ := rfl
theorem gq_length_aside (σ : MS) (v) : M_length (M_set_aside σ v) = M_length σ := rfl
theorem gq_length_old (σ : MS) (v) : M_length (M_set_old σ v) = M_length σ := rfl
theorem gq_length_states (σ : MS) (v) : M_length (M_set_states σ v) = M_length σ := rfl
theorem gq_length_sign (σ : MS) (v) : M_length (M_set_sign σ v) = M_length σ := rfl
theorem gq_length_first (σ : MS) (v) : M_length (M_set_first σ v) = M_length σ := rfl
theorem gq_length_second (σ : MS) (v) : M_length (M_set_second σ v) = M_length σ := rfl
theorem gq_length_stopNumber (σ : MS) (v) : M_length (M_set_stopNumber σ v) = M_length σ := rfl
theorem gq_length_stopError (σ : MS) (v) : M_length (M_set_stopError σ v) = M_length σ := rfl
theorem gq_stopNumber_z (σ : MS) (v) : M_stopNumber (M_set_z σ v) = M_stopNumber σ := rfl
theorem gq_stopNumber_aside (σ : MS) (v) : M_stopNumber (M_set_aside σ v) = M_stopNumber σ := rfl
theorem gq_stopNumber_old (σ : MS) (v) : M_stopNumber (M_set_old σ v) = M_stopNumber σ := rfl
theorem gq_stopNumber_states (σ : MS) (v) : M_stopNumber (M_set_states σ v) = M_stopNumber σ := rfl
theorem gq_stopNumber_sign (σ : MS) (v) : M_stopNumber (M_set_sign σ v) = M_stopNumber σ := rfl
theorem gq_stopNumber_first (σ : MS) (v) : M_stopNumber (M_set_first σ v) = M_stopNumber σ := rfl
theorem gq_stopNumber_second (σ : MS) (v) : M_stopNumber (M_set_second σ v) = M_stopNumber σ := rfl
theorem gq_stopNumber_stopNumber (σ : MS) (v) : M_stopNumber (M_set_stopNumber σ v) = v := rfl
theorem gq_stopNumber_stopError (σ : MS) (v) : M_stopNumber (M_set_stopError σ v) = M_stopNumber σ := rfl
theorem gq_stopError_z (σ : MS) (v) : M_stopError (M_set_z σ v) = M_stopError σ := rfl
theorem gq_stopError_aside (σ : MS) (v) : M_stopError (M_set_aside σ v) = M_stopError σ := rfl
theorem gq_stopError_old (σ : MS) (v) : M_stopError (M_set_old σ v) = M_stopError σ := rfl
theorem gq_stopError_states (σ : MS) (v) : M_stopError (M_set_states σ v) = M_stopError σ := rfl
theorem gq_stopError_sign (σ : MS) (v) : M_stopError (M_set_sign σ v) = M_stopError σ := rfl
theorem gq_stopError_first (σ : MS) (v) : M_stopError (M_set_first σ v) = M_stopError σ := rfl
theorem gq_stopError_second (σ : MS) (v) : M_stopError (M_set_second σ v) = M_stopError σ := rfl
theorem gq_stopError_stopNumber (σ : MS) (v) : M_stopError (M_set_stopNumber σ v) = M_stopError σ := rfl
theorem gq_stopError_stopError (σ : MS) (v) : M_stopError (M_set_stopError σ v) = v := rfl
/-- a state of the reference, but for the row in use and the command read last -/
def Sam (τ τ' : MS) : Prop := ∃ z s a b, τ' = M_cmd (M_set_z τ z) s a b
theorem Sam.rf (τ : MS) : Sam τ τ := ⟨M_z τ, M_sign τ, M_first τ, M_second τ, rfl⟩
theorem Sam.cmd {τ : MS} (s a b : Int32) : Sam τ (M_cmd τ s a b) := ⟨M_z τ, s, a, b, rfl⟩
theorem Sam.setz {τ : MS} (s a b : Int32) (z : Nat → Int32) : Sam τ (M_set_z (M_cmd τ s a b) z) := ⟨z, s, a, b, rfl⟩
theorem Sam.tr {τ τ' τ'' : MS} (h : Sam τ τ') (h' : Sam τ' τ'') : Sam τ τ'' := by
  obtain ⟨z, s, a, b, rfl⟩ := h
  obtain ⟨z', s', a', b', rfl⟩ := h'
  exact ⟨z', s', a', b', rfl⟩
def PFo (w2 : Int32) (T : Nat) (S : YS) (η : HS) (π : PS) (a b e : Int32) (τ : MS) (p : Int32 × WS) (q : Int32 × MS) : Prop :=
  (∃ Y' τ', p = ((mX0_settle η w2).1, (Y', S, (mX0_settle η w2).2, π, a, b, e)) ∧ q = (w2, mX4_push_aside τ') ∧ Sam τ τ' ∧ RelY Y' (M_z τ') T) ∨
  (∃ m r τ', p = (-4, (mX0_takeBack η, S, η, π, a, m, r)) ∧ q = (-4, M_set_stopError (M_set_stopNumber (M_set_z τ' (row255 (M_aside τ') (M_z τ'))) m) r) ∧ Sam τ τ')
theorem PFo.back {w2 : Int32} {T T' : Nat} {S : YS} {η : HS} {π : PS} {a b e : Int32} {τ τ' : MS} {p : Int32 × WS} {q : Int32 × MS} (h : PFo w2 T S η π a b e τ' p q) (hs : Sam τ τ') (hT : T ≤ T') : PFo w2 T' S η π a b e τ p q := by
  rcases h with ⟨Y', τ'', h1, h2, h3, h4⟩ | ⟨m, r, τ'', h1, h2, h3⟩
  · exact Or.inl ⟨Y', τ'', h1, h2, hs.tr h3, h4.up hT⟩
  · exact Or.inr ⟨m, r, τ'', h1, h2, hs.tr h3⟩
theorem st3 {w2 w1 : Int32} {f : Nat} {Y S : YS} {η : HS} {π : PS} {a b e k s x y : Int32} (hs : mX1_sign π k = s) (hx : mX1_first π k = x) (hy : mX1_second π k = y) (hlt : ¬ w2 ≤ k) : mX3_perform_L40 w2 w1 (f + 1) (Y, S, η, π, a, b, e) k = if 0 ≤ (mX3_thing Y s x y).1 then mX3_perform_L40 w2 w1 f ((mX3_thing Y s x y).2, S, η, π, a, b, e) (k + 1) else if (mX3_thing Y s x y).1 = -5 then mX3_perform_L40 w2 w1 f ((mX3_thing Y s x y).2, S, η, π, a, b, e) (k + 1) else (-4, (mX0_takeBack η, S, η, π, a, k, (mX3_thing Y s x y).1)) := by
  subst hs
  subst hx
  subst hy
  rw [mX3_perform_L40, if_neg hlt]
theorem st4 {w1 : Int32} {g : Nat} {τ τ' : MS} {p err m j : Int32} (hlt : ¬ M_length τ ≤ p) (he : err = 0 ∨ err = -5) (hr : mX4_readCommand τ p = (j, τ')) : mX4_perform_L48 w1 (g + 1) τ p err m = if mX4_noCommand τ' = 0 then mX4_perform_L48 w1 g (mX4_doCommand τ').2 (j + 1) (mX4_noCommand τ') (m + 1) else mX4_perform_L48 w1 g τ' (j + 1) (mX4_noCommand τ') (m + 1) := by
  rw [mX4_perform_L48, if_neg hlt, hr]
  rcases he with e | e
  · rw [if_pos e]
  · rw [if_neg (show ¬ err = 0 by rw [e]; decide), if_pos e]
theorem st4s {w1 : Int32} {g : Nat} {τ : MS} {p err m : Int32} (he : err.toInt < 0) (h5 : ¬ err = -5) : mX4_perform_L48 w1 (g + 1) τ p err m = mX4_perform_L111 err m w1 257 τ 0 := by
  have h0 : ¬ err = 0 := fun q => by rw [q] at he; exact absurd he (by decide)
  have h1 : ¬ (0 : Int32) ≤ err := by rw [le_ti]; show ¬ (0 : Int) ≤ _; omega
  rw [mX4_perform_L48]
  by_cases c : M_length τ ≤ p
  · rw [if_pos c, if_neg h1, if_neg h5]
  · rw [if_neg c, if_neg h0, if_neg h5, if_neg h1]
    exact if_neg h5
theorem st4e {w1 : Int32} {g : Nat} {τ : MS} {p err m : Int32} (c : M_length τ ≤ p) (he : err = 0 ∨ err = -5) : mX4_perform_L48 w1 (g + 1) τ p err m = (m, mX4_push_aside τ) := by
  rw [mX4_perform_L48, if_pos c]
  rcases he with e | e
  · rw [if_pos (show (0 : Int32) ≤ err by rw [e]; decide)]
  · rw [if_neg (show ¬ (0 : Int32) ≤ err by rw [e]; decide), if_pos e]
section PERF
variable {t t' : Nat → Int32} {n : Nat}
theorem pf1 (hn : n ≤ 60) (hc : chOK t n) (w1 w1' : Int32) {S : YS} {η : HS} {π : PS} {a b e : Int32} : ∀ (c k i f g : Nat) (Y : YS) (err : Int32) (τ : MS) (T : Nat), c < f → c < g → k + c ≤ 20 → i ≤ n + 1 → PG t n c i → St π t n c k i → RelY Y (M_z τ) T → T + c < 2 ^ 30 → M_length τ = nI n → M_text τ = t → err = 0 ∨ err = -5 → PFo (nI (k + c)) (T + c) S η π a b e τ (mX3_perform_L40 (nI (k + c)) w1 f (Y, S, η, π, a, b, e) (nI k)) (mX4_perform_L48 w1' g τ (nI i) err (nI k)) := by
  intro c
  induction c with
  | zero =>
    intro k i f g Y err τ T hf hg hk hi hp hS hY hT h2 ht he
    obtain ⟨f, rfl⟩ : ∃ f', f = f' + 1 := ⟨f - 1, by omega⟩
    obtain ⟨g, rfl⟩ : ∃ g', g = g' + 1 := ⟨g - 1, by omega⟩
    have hp : i = n + 1 := hp
    left
    refine ⟨Y, τ, ?_, ?_, Sam.rf τ, hY⟩
    · rw [mX3_perform_L40, if_pos (show nI (k + 0) ≤ nI k by rw [le_nI (by omega) (by omega)]; omega)]
    · rw [st4e (by rw [h2, le_nI (by omega) (by omega)]; omega) he]
      rfl
  | succ c ih =>
    intro k i f g Y err τ T hf hg hk hi hp hS hY hT h2 ht he
    obtain ⟨f, rfl⟩ : ∃ f', f = f' + 1 := ⟨f - 1, by omega⟩
    obtain ⟨g, rfl⟩ : ∃ g', g = g' + 2 := ⟨g - 2, by omega⟩
    have hp : (cmdF t n i).1 = true ∧ PG t n c ((cmdF t n i).2.1 + 1) := hp
    have hS : (P_signs π k = t i ∧ P_firsts π k = (cmdF t n i).2.2.1 ∧ P_seconds π k = (cmdF t n i).2.2.2) ∧ St π t n c (k + 1) ((cmdF t n i).2.1 + 1) := hS
    have hk1 := cmd_ok hp.1
    have ck : (nI k).toNatClampNeg = k := nI_clamp (by omega)
    have a1 : mX1_sign π (nI k) = t i := by unfold mX1_sign; rw [ck]; exact hS.1.1
    have a2 : mX1_first π (nI k) = (cmdF t n i).2.2.1 := by unfold mX1_first; rw [ck]; exact hS.1.2.1
    have a3 : mX1_second π (nI k) = (cmdF t n i).2.2.2 := by unfold mX1_second; rw [ck]; exact hS.1.2.2
    obtain ⟨f', b', er1, er2⟩ := rcx (τ := τ) hn hc (by omega) h2 ht hp.1
    have hA := cmd_act (τ := τ) (f := f') (g := b') (by omega) hY hp.1 er2
    rw [st3 a1 a2 a3 (by rw [le_nI (by omega) (by omega)]; omega), st4 (by rw [h2, le_nI (by omega) (by omega)]; omega) he er1, nI1, nI1]
    generalize mX3_thing Y (t i) (cmdF t n i).2.2.1 (cmdF t n i).2.2.2 = p at hA
    rw [show k + (c + 1) = k + 1 + c by omega, show T + (c + 1) = T + 1 + c by omega]
    rcases hA with ⟨b1, b2, b3, b4, b5⟩ | ⟨b1, b2, b3⟩
    · have e2 : (mX4_doCommand (M_cmd τ (t i) f' b')).2 = M_set_z (M_cmd τ (t i) f' b') (M_z (mX4_doCommand (M_cmd τ (t i) f' b')).2) := Prod.ext rfl b4
      rw [if_pos (show (0 : Int32) ≤ p.1 by rw [le_ti]; show (0 : Int) ≤ _; exact b3), if_pos b1]
      have hI := ih (k + 1) ((cmdF t n i).2.1 + 1) f (g + 1) p.2 (mX4_noCommand (M_cmd τ (t i) f' b')) (M_set_z (M_cmd τ (t i) f' b') (M_z (mX4_doCommand (M_cmd τ (t i) f' b')).2)) (T + 1) (by omega) (by omega) (by omega) (by omega) hp.2 hS.2 b5 (by omega) h2 ht (Or.inl b1)
      rw [← e2] at hI
      refine hI.back ?_ (Nat.le_refl _)
      rw [e2]
      exact Sam.setz _ _ _ _
    · have h0 : ¬ mX4_noCommand (M_cmd τ (t i) f' b') = 0 := fun q => by rw [q] at b1; exact absurd b1 (by decide)
      rw [if_neg (show ¬ (0 : Int32) ≤ p.1 by rw [le_ti, b2]; show ¬ (0 : Int) ≤ _; omega), if_neg h0]
      by_cases c5 : mX4_noCommand (M_cmd τ (t i) f' b') = -5
      · rw [if_pos (b2.trans c5)]
        have hI := ih (k + 1) ((cmdF t n i).2.1 + 1) f (g + 1) p.2 (mX4_noCommand (M_cmd τ (t i) f' b')) (M_cmd τ (t i) f' b') T (by omega) (by omega) (by omega) (by omega) hp.2 hS.2 b3 (by omega) h2 ht (Or.inr c5)
        exact hI.back (Sam.cmd _ _ _) (by omega)
      · rw [if_neg (fun q => c5 (b2.symm.trans q)), st4s b1 c5, back_eq, b2]
        right
        refine ⟨nI k, mX4_noCommand (M_cmd τ (t i) f' b'), M_cmd τ (t i) f' b', rfl, ?_, Sam.cmd _ _ _⟩
        rw [show nI (k + 1) - 1 = nI k by rw [← nI1]; grind]
variable {ω : WS} {τ : MS} {T : Nat}
theorem plan_perform : W_plan (mX3_perform ω).2 = (mX1_read (W_plan ω)).2 := by
  have key : ∀ (w2 w1 : Int32) (f : Nat) (ω' : WS) (u : Int32), W_plan (mX3_perform_L40 w2 w1 f ω' u).2 = W_plan ω' := by
    intro w2 w1 f
    induction f with
    | zero => intro ω' u; rfl
    | succ f ih =>
      intro ω' u
      rw [mX3_perform_L40]
      split
      · rfl
      · split
        · rw [ih]
        · split
          · rw [ih]
          · rfl
  unfold mX3_perform
  split
  · rw [key]
  · rfl
/-- what a plan leaves of the reference -/
def FA (τ τ' : MS) (R : Nat → Int32) : Prop := M_aside τ' = R ∧ M_old τ' = M_old τ ∧ M_kept τ' = M_kept τ ∧ M_text τ' = M_text τ ∧ M_states τ' = M_states τ ∧ M_isKept τ' = M_isKept τ ∧ M_length τ' = M_length τ ∧ M_stopNumber τ' = M_stopNumber τ ∧ M_stopError τ' = M_stopError τ
theorem fa_mk42 {τ τ' : MS} {R : Nat → Int32} {sg fi se : Int32} (h : Sam (M_set_aside (M_cmd τ sg fi se) R) τ') : FA τ τ' R := by
  obtain ⟨z, s, a, b, e⟩ := h
  subst e
  unfold M_cmd
  refine ⟨?_, ?_, ?_, ?_, ?_, ?_, ?_, ?_, ?_⟩
  · simp only [gq_aside_z, gq_aside_aside, gq_aside_old, gq_aside_states, gq_aside_sign, gq_aside_first, gq_aside_second, gq_aside_stopNumber, gq_aside_stopError]
  · simp only [gq_old_z, gq_old_aside, gq_old_old, gq_old_states, gq_old_sign, gq_old_first, gq_old_second, gq_old_stopNumber, gq_old_stopError]
  · simp only [gq_kept_z, gq_kept_aside, gq_kept_old, gq_kept_states, gq_kept_sign, gq_kept_first, gq_kept_second, gq_kept_stopNumber, gq_kept_stopError]
  · simp only [gq_text_z, gq_text_aside, gq_text_old, gq_text_states, gq_text_sign, gq_text_first, gq_text_second, gq_text_stopNumber, gq_text_stopError]
  · simp only [gq_states_z, gq_states_aside, gq_states_old, gq_states_states, gq_states_sign, gq_states_first, gq_states_second, gq_states_stopNumber, gq_states_stopError]
  · simp only [gq_isKept_z, gq_isKept_aside, gq_isKept_old, gq_isKept_states, gq_isKept_sign, gq_isKept_first, gq_isKept_second, gq_isKept_stopNumber, gq_isKept_stopError]
  · simp only [gq_length_z, gq_length_aside, gq_length_old, gq_length_states, gq_length_sign, gq_length_first, gq_length_second, gq_length_stopNumber, gq_length_stopError]
  · simp only [gq_stopNumber_z, gq_stopNumber_aside, gq_stopNumber_old, gq_stopNumber_states, gq_stopNumber_sign, gq_stopNumber_first, gq_stopNumber_second, gq_stopNumber_stopNumber, gq_stopNumber_stopError]
  · simp only [gq_stopError_z, gq_stopError_aside, gq_stopError_old, gq_stopError_states, gq_stopError_sign, gq_stopError_first, gq_stopError_second, gq_stopError_stopNumber, gq_stopError_stopError]
theorem fin1 {τ' : MS} {R : Nat → Int32} {S Y' : YS} {η : HS} {π : PS} {a b e : Int32} {s T' : Nat} (s1 : s ≤ 4) (s2 : M_states τ = nI s) (h2 : a = M_isKept τ ∧ (a = 0 ∨ a = 1) ∧ (¬ a = 0 → RelY S (M_kept τ) T')) (hP : RelP π (M_length τ) (M_text τ)) (h5 : b = M_stopNumber τ ∧ e = M_stopError τ) (f : FA τ τ' R) (hY : RelY Y' (M_z τ') T') (hH : RelH η (nI (if s = 4 then 4 else s + 1)) (pushed s R (M_old τ)) T') : RelW (Y', S, η, π, a, b, e) (mX4_push_aside τ') T' := by
  obtain ⟨f1, f2, f3, f4, f5, f6, f7, f8, f9⟩ := f
  have q := pusha_eq (τ := τ') s1 (f5.trans s2)
  refine ⟨?_, ?_, ?_, ?_, ?_⟩
  · show RelY Y' (M_z (mX4_push_aside τ')) T'
    rw [q, gq_z_states, gq_z_old]
    exact hY
  · show a = M_isKept (mX4_push_aside τ') ∧ (a = 0 ∨ a = 1) ∧ (¬ a = 0 → RelY S (M_kept (mX4_push_aside τ')) T')
    rw [q, gq_isKept_states, gq_isKept_old, gq_kept_states, gq_kept_old, f6, f3]
    exact h2
  · show RelH η (M_states (mX4_push_aside τ')) (M_old (mX4_push_aside τ')) T'
    rw [q, gq_states_states, gq_old_states, gq_old_old, f1, f2]
    exact hH
  · show RelP π (M_length (mX4_push_aside τ')) (M_text (mX4_push_aside τ'))
    rw [q, gq_length_states, gq_length_old, gq_text_states, gq_text_old, f7, f4]
    exact hP
  · show b = M_stopNumber (mX4_push_aside τ') ∧ e = M_stopError (mX4_push_aside τ')
    rw [q, gq_stopNumber_states, gq_stopNumber_old, gq_stopError_states, gq_stopError_old, f8, f9]
    exact h5
theorem fin2 {τ' : MS} {R z : Nat → Int32} {S Y' : YS} {η : HS} {π : PS} {a m r : Int32} {T' : Nat} (h2 : a = M_isKept τ ∧ (a = 0 ∨ a = 1) ∧ (¬ a = 0 → RelY S (M_kept τ) T')) (hP : RelP π (M_length τ) (M_text τ)) (f : FA τ τ' R) (hY : RelY Y' z T') (hH : RelH η (M_states τ) (M_old τ) T') : RelW (Y', S, η, π, a, m, r) (M_set_stopError (M_set_stopNumber (M_set_z τ' z) m) r) T' := by
  obtain ⟨f1, f2, f3, f4, f5, f6, f7, f8, f9⟩ := f
  refine ⟨?_, ?_, ?_, ?_, ?_⟩
  · show RelY Y' (M_z (M_set_stopError (M_set_stopNumber (M_set_z τ' z) m) r)) T'
    rw [gq_z_stopError, gq_z_stopNumber, gq_z_z]
    exact hY
  · show a = M_isKept (M_set_stopError (M_set_stopNumber (M_set_z τ' z) m) r) ∧ (a = 0 ∨ a = 1) ∧ (¬ a = 0 → RelY S (M_kept (M_set_stopError (M_set_stopNumber (M_set_z τ' z) m) r)) T')
    rw [gq_isKept_stopError, gq_isKept_stopNumber, gq_isKept_z, gq_kept_stopError, gq_kept_stopNumber, gq_kept_z, f6, f3]
    exact h2
  · show RelH η (M_states (M_set_stopError (M_set_stopNumber (M_set_z τ' z) m) r)) (M_old (M_set_stopError (M_set_stopNumber (M_set_z τ' z) m) r)) T'
    rw [gq_states_stopError, gq_states_stopNumber, gq_states_z, gq_old_stopError, gq_old_stopNumber, gq_old_z, f5, f2]
    exact hH
  · show RelP π (M_length (M_set_stopError (M_set_stopNumber (M_set_z τ' z) m) r)) (M_text (M_set_stopError (M_set_stopNumber (M_set_z τ' z) m) r))
    rw [gq_length_stopError, gq_length_stopNumber, gq_length_z, gq_text_stopError, gq_text_stopNumber, gq_text_z, f7, f4]
    exact hP
  · exact ⟨rfl, rfl⟩
theorem perf_go (hT : T < 2 ^ 29) (h : RelW ω τ T) {n m s : Nat} {π : PS} (s1 : s ≤ 4) (s2 : M_states τ = nI s) (n1 : n ≤ 60) (n3 : M_length τ = nI n) (hco : chOK (M_text τ) n) (hP : RelP π (M_length τ) (M_text τ)) (m1 : m ≤ 20) (m3 : PG (M_text τ) n m 0) (m4 : St π (M_text τ) n m 0 0) {p : Int32 × WS} {q : Int32 × MS} {w1 sg fi se : Int32} (ep : p = mX3_perform_L40 (nI m) w1 22 (W_yard ω, W_snap ω, mX0_prepare (W_hist ω) (W_yard ω), π, W_has ω, W_num ω, W_err ω) (nI 0)) (eq : q = mX4_perform_L48 w1 64 (M_set_aside (M_cmd τ sg fi se) (row255 (M_z τ) (M_aside τ))) (nI 0) 0 (nI 0)) : p.1 = q.1 ∧ RelW p.2 q.2 (T + 20) := by
  obtain ⟨h1, h2, h3, h4, h5⟩ := h
  have hX := pf1 n1 hco w1 w1 (S := W_snap ω) (η := mX0_prepare (W_hist ω) (W_yard ω)) (π := π) (a := W_has ω) (b := W_num ω) (e := W_err ω) m 0 0 22 64 (W_yard ω) 0 (M_set_aside (M_cmd τ sg fi se) (row255 (M_z τ) (M_aside τ))) T (by omega) (by omega) (by omega) (by omega) m3 m4 h1 (by omega) n3 rfl (Or.inl rfl)
  rw [Nat.zero_add, ← ep, ← eq] at hX
  have h2' : W_has ω = M_isKept τ ∧ (W_has ω = 0 ∨ W_has ω = 1) ∧ (¬ W_has ω = 0 → RelY (W_snap ω) (M_kept τ) (T + 20)) := ⟨h2.1, h2.2.1, fun q => (h2.2.2 q).up (by omega)⟩
  clear ep eq
  rcases hX with ⟨Y', τ', rfl, rfl, hS, hY⟩ | ⟨mm, r, τ', rfl, rfl, hS⟩
  · have hp := (hist_push (a := nI m) (z := row255 (M_z τ) (M_aside τ)) h3 s2 s1 (h1.zcongr (fun i hi => row255_lt hi)) (ge0 (by omega))).up (show T ≤ T + 20 by omega)
    exact ⟨set_1, fin1 s1 s2 h2' hP h5 (fa_mk42 hS) (hY.up (by omega)) hp⟩
  · have e : mX0_takeBack (mX0_prepare (W_hist ω) (W_yard ω)) = W_yard ω := by
      unfold mX0_takeBack
      rw [hS_prep]
      exact if_pos rfl
    have f := fa_mk42 hS
    refine ⟨rfl, ?_⟩
    show RelW (mX0_takeBack (mX0_prepare (W_hist ω) (W_yard ω)), W_snap ω, mX0_prepare (W_hist ω) (W_yard ω), π, W_has ω, mm, r) (M_set_stopError (M_set_stopNumber (M_set_z τ' (row255 (M_aside τ') (M_z τ'))) mm) r) (T + 20)
    refine fin2 h2' hP f ?_ ((hist_prep h3).up (by omega))
    rw [e, f.1]
    exact (h1.zcongr (fun i hi => by rw [row255_lt hi, row255_lt hi])).up (by omega)
/-- perform keeps the relation, and is answered alike -/
theorem c_perform (hT : T < 2 ^ 29) (h : RelW ω τ T) : (mX3_perform ω).1 = (mX4_perform τ).1 ∧ RelW (mX3_perform ω).2 (mX4_perform τ).2 (T + 20) := by
  obtain ⟨s, s1, s2⟩ := h.st
  obtain ⟨n, n1, n2, n3, n4⟩ := h.2.2.2.1
  have hcg : ∀ k, k < n → P_text (W_plan ω) k = M_text τ k := fun k hk => (n4 k hk).1
  have hco : chOK (M_text τ) n := ch_ok (fun m hm => (n4 m hm).2)
  have hR := read_out (π := W_plan ω) n1 n2 (fun m hm => by rw [hcg m hm]; exact (n4 m hm).2)
  have hF := ff4 n1 hco 63 0 τ (Nat.zero_le _) n3 rfl
  rw [show mX4_findFault_L2 63 τ (nI 0) = mX4_findFault τ from rfl] at hF
  rw [ffF_congr hcg] at hR
  unfold mX3_perform mX4_perform
  have hcs := ffF_cases (t := M_text τ) (n := n) 63 0 (Nat.zero_le _)
  generalize ffF (M_text τ) n 63 0 = v at hR hF hcs
  generalize mX1_read (W_plan ω) = r at hR
  generalize mX4_findFault τ = q at hF
  obtain ⟨r1, π⟩ := r
  obtain ⟨q1, q2⟩ := q
  obtain ⟨e1, e2, e3, e4, -, e5⟩ := hR
  obtain ⟨f1, sg, fi, se, f2⟩ := hF
  change r1 = v at e1
  change P_text π = P_text (W_plan ω) at e2
  change P_length π = P_length (W_plan ω) at e3
  change q1 = v at f1
  change q2 = M_cmd τ sg fi se at f2
  subst e1
  subst f1
  subst f2
  dsimp only
  have hP : RelP π (M_length τ) (M_text τ) := ⟨n, n1, e3.trans n2, n3, fun k hk => by rw [e2]; exact n4 k hk⟩
  by_cases c : q1 = -5
  · obtain ⟨m, m1, m2, m3, m4⟩ := e5 c
    have m2 : mX1_things π = nI (0 + m) := m2
    have m4 := St_congr hcg m 0 0 m3 m4
    have m3 := PG_congr hcg m 0 m3
    rw [Nat.zero_add] at m2
    rw [if_pos c, if_pos (show q1 < 0 by rw [c]; decide), aside_eq, m2]
    exact perf_go hT h s1 s2 n1 n3 hco hP (by omega) m3 m4 rfl rfl
  · have hq : ¬ q1 < 0 := by
      rcases hcs with q | ⟨j, j1, j2⟩
      · exact absurd q c
      · rw [j2]; exact nI_pos (by omega)
    rw [if_neg c, if_neg hq]
    obtain ⟨h1, h2, h3, h4, h5⟩ := h
    exact ⟨rfl, h1.up (by omega), ⟨h2.1, h2.2.1, fun q => (h2.2.2 q).up (by omega)⟩, h3.up (by omega), hP, h5⟩
end PERF
