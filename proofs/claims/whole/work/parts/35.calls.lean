/-! the relation of the class and the reference; each call but perform keeps it and is answered alike -/
def RelH (η : HS) (st : Int32) (old : Nat → Int32) (T : Nat) : Prop := ∃ r o : Nat, r ≤ 4 ∧ o < 5 ∧ H_recorded η = nI r ∧ st = nI r ∧ H_oldest η = nI o ∧ ∀ j, j < r → RelY (H_S η ((o + j) % 5)) (fun k => old (255 * j + k)) T
def charOK (x : Int32) : Prop := vp_nar .char x = x
def RelP (π : PS) (len : Int32) (text : Nat → Int32) : Prop := ∃ n : Nat, n ≤ 60 ∧ P_length π = nI n ∧ len = nI n ∧ ∀ k, k < n → P_text π k = text k ∧ charOK (text k)
def RelW (ω : WS) (τ : MS) (T : Nat) : Prop := RelY (W_yard ω) (M_z τ) T ∧ (W_has ω = M_isKept τ ∧ (W_has ω = 0 ∨ W_has ω = 1) ∧ (¬ W_has ω = 0 → RelY (W_snap ω) (M_kept τ) T)) ∧ RelH (W_hist ω) (M_states τ) (M_old τ) T ∧ RelP (W_plan ω) (M_length τ) (M_text τ) ∧ (W_num ω = M_stopNumber τ ∧ W_err ω = M_stopError τ)
theorem RelH.up {η : HS} {st : Int32} {old : Nat → Int32} {T T' : Nat} (h : RelH η st old T) (hT : T ≤ T') : RelH η st old T' := by
  obtain ⟨r, o, h1, h2, h3, h4, h5, h6⟩ := h
  exact ⟨r, o, h1, h2, h3, h4, h5, fun j hj => (h6 j hj).up hT⟩
theorem hix {η : HS} {r o : Nat} (hr : r ≤ 4) (ho : o < 5) (h1 : H_recorded η = nI r) (h2 : H_oldest η = nI o) : H_ix η = (o + r) % 5 := by
  unfold H_ix H_ixI
  rw [h1, h2, nI_add, show (5 : Int32) = nI 5 from rfl, pk_rem (by omega) (by decide) (by decide)]
  exact nI_clamp (by omega)
theorem hS_prep {η : HS} {σ : YS} {k : Nat} : H_S (mX0_prepare η σ) k = if k = H_ix η then σ else H_S η k := rfl
theorem hist_prep {η : HS} {σ : YS} {st : Int32} {old : Nat → Int32} {T : Nat} (h : RelH η st old T) : RelH (mX0_prepare η σ) st old T := by
  obtain ⟨r, o, h1, h2, h3, h4, h5, h6⟩ := h
  refine ⟨r, o, h1, h2, h3, h4, h5, fun j hj => ?_⟩
  rw [hS_prep, hix h1 h2 h3 h5, if_neg (by omega)]
  exact h6 j hj
theorem set_1 {η : HS} {a : Int32} : (mX0_settle η a).1 = a := by
  unfold mX0_settle
  split
  · rfl
  · split <;> rfl
theorem set_neg {η : HS} {a : Int32} (h : a.toInt < 0) : (mX0_settle η a).2 = η := by
  unfold mX0_settle
  rw [if_pos (by rw [lt_ti]; exact h)]
theorem hist_push {η : HS} {σ : YS} {st : Int32} {old z : Nat → Int32} {T s : Nat} {a : Int32} (h : RelH η st old T) (hs : st = nI s) (hs4 : s ≤ 4) (hY : RelY σ z T) (ha : 0 ≤ a.toInt) : RelH (mX0_settle (mX0_prepare η σ) a).2 (nI (if s = 4 then 4 else s + 1)) (pushed s z old) T := by
  obtain ⟨r, o, h1, h2, h3, h4, h5, h6⟩ := h
  have e : r = s := by
    rw [h4] at hs
    have := congrArg Int32.toInt hs
    rw [nI_ti (by omega), nI_ti (by omega)] at this
    omega
  subst e
  have hx := hix h1 h2 h3 h5
  unfold mX0_settle
  rw [if_neg (by rw [lt_ti]; show ¬ _ < (0 : Int); omega), show H_recorded (mX0_prepare η σ) = nI r from h3, show H_oldest (mX0_prepare η σ) = nI o from h5]
  by_cases c : r = 4
  · subst c
    rw [if_pos (show (4 : Int32) ≤ nI 4 from nI_le (a := 4) (Nat.le_refl 4) (by decide)), if_pos rfl]
    refine ⟨4, (o + 1) % 5, by decide, by omega, h3, rfl, ?_, fun j hj => ?_⟩
    · show (nI o + 1) - ((nI o + 1) / 5 * 5) = _
      rw [nI1, show (5 : Int32) = nI 5 from rfl, pk_rem (by omega) (by decide) (by decide)]
    · show RelY (H_S (mX0_prepare η σ) (((o + 1) % 5 + j) % 5)) _ T
      rw [hS_prep, hx]
      by_cases c3 : j = 3
      · subst c3
        rw [if_pos (by omega)]
        refine hY.zcongr (fun i hi => ?_)
        unfold pushed
        rw [if_pos rfl, if_pos (by omega)]
        exact congrArg z (by omega)
      · rw [if_neg (by omega), show ((o + 1) % 5 + j) % 5 = (o + (j + 1)) % 5 by omega]
        refine (h6 (j + 1) (by omega)).zcongr (fun i hi => ?_)
        unfold pushed
        rw [if_pos rfl, if_neg (by omega), if_pos (by omega)]
        exact congrArg old (by omega)
  · rw [if_neg (show ¬ (4 : Int32) ≤ nI r from nI_ge (b := 4) (by omega) (by decide)), if_neg c]
    refine ⟨r + 1, o, by omega, h2, nI1 r, rfl, h5, fun j hj => ?_⟩
    show RelY (H_S (mX0_prepare η σ) ((o + j) % 5)) _ T
    rw [hS_prep, hx]
    by_cases c3 : j = r
    · subst c3
      rw [if_pos rfl]
      refine hY.zcongr (fun i hi => ?_)
      unfold pushed
      rw [if_neg c, if_pos (by omega)]
      exact congrArg z (by omega)
    · rw [if_neg (by omega)]
      refine (h6 j (by omega)).zcongr (fun i hi => ?_)
      unfold pushed
      rw [if_neg c, if_neg (by omega)]
section CALLS
variable {ω : WS} {τ : MS} {T : Nat}
theorem RelW.st (h : RelW ω τ T) : ∃ s, s ≤ 4 ∧ M_states τ = nI s := by
  obtain ⟨r, o, h1, h2, h3, h4, h5, h6⟩ := h.2.2.1
  exact ⟨r, h1, h4⟩
theorem RelW.pz (h : RelW ω τ T) : M_z (mX4_push_z τ) = M_z τ := by
  obtain ⟨s, h1, h2⟩ := h.st
  rw [push_eq h1 h2]
  rfl
theorem RelW.up {T' : Nat} (h : RelW ω τ T) (hT : T ≤ T') : RelW ω τ T' := by
  obtain ⟨h1, ⟨h2, h3, h4⟩, h5, h6, h7⟩ := h
  exact ⟨h1.up hT, ⟨h2, h3, fun c => (h4 c).up hT⟩, h5.up hT, h6, h7⟩
/-- an act of the yard, as a public call -/
theorem step_dir (h : RelW ω τ T) {p : Int32 × YS} {q : Int32 × MS} (hD : Dir τ T p q) : (mX0_settle (mX0_prepare (W_hist ω) (W_yard ω)) p.1).1 = q.1 ∧ RelW (p.2, W_snap ω, (mX0_settle (mX0_prepare (W_hist ω) (W_yard ω)) p.1).2, W_plan ω, W_has ω, W_num ω, W_err ω) q.2 (T + 1) := by
  obtain ⟨d1, d2⟩ := hD
  refine ⟨set_1.trans d1, ?_⟩
  rcases d2 with ⟨n, e, hR⟩ | ⟨n, e, hR⟩
  · rw [set_neg n, e]
    obtain ⟨h1, h2, h3, h4, h5⟩ := h.up (Nat.le_succ T)
    exact ⟨hR.up (Nat.le_succ T), h2, hist_prep h3, h4, h5⟩
  · obtain ⟨s, s1, s2⟩ := h.st
    obtain ⟨h1, h2, h3, h4, h5⟩ := h
    have hp := (hist_push h3 s2 s1 h1 n).up (Nat.le_succ T)
    rw [push_eq s1 s2] at e
    obtain ⟨a, z', b⟩ := q
    have e : b = (M_set_states (M_set_old τ (pushed s (M_z τ) (M_old τ))) (nI (if s = 4 then 4 else s + 1))).2 := e
    subst e
    exact ⟨hR, ⟨h2.1, h2.2.1, fun c => (h2.2.2 c).up (Nat.le_succ T)⟩, hp, h4, h5⟩
theorem c_come (h : RelW ω τ T) (x1 x2 x3 x4 : Int32) : (mX3_come ω x1 x2 x3 x4).1 = (mX4_come τ x1 x2 x3 x4).1 ∧ RelW (mX3_come ω x1 x2 x3 x4).2 (mX4_come τ x1 x2 x3 x4).2 (T + 1) := step_dir h (dir_come h.pz h.1 x1 x2 x3 x4)
theorem c_goAway (h : RelW ω τ T) (x1 : Int32) : (mX3_goAway ω x1).1 = (mX4_goAway τ x1).1 ∧ RelW (mX3_goAway ω x1).2 (mX4_goAway τ x1).2 (T + 1) := step_dir h (dir_go h.pz h.1 x1)
theorem c_setCradles (h : RelW ω τ T) (x1 x2 : Int32) : (mX3_setCradles ω x1 x2).1 = (mX4_setCradles τ x1 x2).1 ∧ RelW (mX3_setCradles ω x1 x2).2 (mX4_setCradles τ x1 x2).2 (T + 1) := step_dir h (dir_cradles h.pz h.1 x1 x2)
theorem c_setRow (h : RelW ω τ T) (x1 x2 : Int32) : (mX3_setRow ω x1 x2).1 = (mX4_setRow τ x1 x2).1 ∧ RelW (mX3_setRow ω x1 x2).2 (mX4_setRow τ x1 x2).2 (T + 1) := step_dir h (dir_row h.pz h.1 x1 x2)
theorem c_set (h : RelW ω τ T) (x1 x2 : Int32) : (mX3_set ω x1 x2).1 = (mX4_set τ x1 x2).1 ∧ RelW (mX3_set ω x1 x2).2 (mX4_set τ x1 x2).2 (T + 1) := step_dir h (dir_set h.pz h.1 x1 x2)
theorem c_lift (hT : T < 2 ^ 30) (h : RelW ω τ T) (x1 x2 : Int32) : (mX3_lift ω x1 x2).1 = (mX4_lift τ x1 x2).1 ∧ RelW (mX3_lift ω x1 x2).2 (mX4_lift τ x1 x2).2 (T + 1) := step_dir h (dir_lift hT h.pz h.1 x1 x2)
theorem c_launch (h : RelW ω τ T) (x1 : Int32) : (mX3_launch ω x1).1 = (mX4_launch τ x1).1 ∧ RelW (mX3_launch ω x1).2 (mX4_launch τ x1).2 (T + 1) := step_dir h (dir_launch h.pz h.1 x1)
theorem c_move (hT : T < 2 ^ 30) (h : RelW ω τ T) (x1 x2 : Int32) : (mX3_move ω x1 x2).1 = (mX4_move τ x1 x2).1 ∧ RelW (mX3_move ω x1 x2).2 (mX4_move τ x1 x2).2 (T + 1) := step_dir h (dir_move hT h.pz h.1 x1 x2)
theorem c_mast (h : RelW ω τ T) (x1 x2 : Int32) (hx : x2 = 0 ∨ x2 = 1) : (mX3_mast ω x1 x2).1 = (mX4_mast τ x1 x2).1 ∧ RelW (mX3_mast ω x1 x2).2 (mX4_mast τ x1 x2).2 (T + 1) := by
  unfold mX3_mast
  rcases hx with e | e
  · rw [e, if_pos rfl]
    exact step_dir h (dir_off h.pz h.1 x1)
  · rw [e, if_neg one_ne]
    exact step_dir h (dir_up h.pz h.1 x1)
theorem c_work (h : RelW ω τ T) (x1 x2 : Int32) : (mX3_work ω x1 x2).1 = (mX4_work τ x1 x2).1 ∧ RelW (mX3_work ω x1 x2).2 (mX4_work τ x1 x2).2 (T + 1) := step_dir h (dir_work h.pz h.1 x1 x2)
theorem c_pass (h : RelW ω τ T) (x1 : Int32) : (mX3_pass ω x1).1 = (mX4_pass τ x1).1 ∧ RelW (mX3_pass ω x1).2 (mX4_pass τ x1).2 (T + 1) := step_dir h (dir_pass h.pz h.1 x1)
theorem c_type (h : RelW ω τ T) (x1 : Int32) (hx : charOK x1) : (mX3_type ω x1).1 = (mX4_type τ x1).1 ∧ RelW (mX3_type ω x1).2 (mX4_type τ x1).2 (T + 1) := by
  obtain ⟨h1, h2, h3, ⟨n, n1, n2, n3, n4⟩, h5⟩ := h.up (Nat.le_succ T)
  unfold mX3_type mX4_type mX1_append
  rw [n2, n3, hx]
  by_cases c : n = 60
  · subst c
    rw [if_neg (show ¬ nI 60 < (60 : Int32) by decide), if_pos (show nI 60 = (60 : Int32) from rfl)]
    exact ⟨rfl, h1, h2, h3, ⟨60, Nat.le_refl _, n2, n3, n4⟩, h5⟩
  · rw [if_pos (show nI n < (60 : Int32) from nI_lt (b := 60) (by omega) (by decide)), if_neg (show ¬ nI n = (60 : Int32) from fun e => by
      have := congrArg Int32.toInt e
      rw [nI_ti (by omega)] at this
      have : (n : Int) = 60 := this
      omega), nI_clamp (show n < 2 ^ 31 by omega)]
    have l1 : P_length (P_set_text (W_plan ω) (upd (P_text (W_plan ω)) n x1)) + 1 = nI (n + 1) := by
      rw [show P_length (P_set_text (W_plan ω) (upd (P_text (W_plan ω)) n x1)) = nI n from n2, nI1]
    have l2 : M_length (M_set_text τ (upd (M_text τ) n x1)) + 1 = nI (n + 1) := by
      rw [show M_length (M_set_text τ (upd (M_text τ) n x1)) = nI n from n3, nI1]
    rw [l1, l2]
    refine ⟨rfl, h1, h2, h3, ⟨n + 1, by omega, rfl, rfl, fun k hk => ?_⟩, h5⟩
    show upd (P_text (W_plan ω)) n x1 k = upd (M_text τ) n x1 k ∧ charOK (upd (M_text τ) n x1 k)
    rw [ud, ud]
    by_cases e : k = n
    · rw [if_pos e, if_pos e]; exact ⟨rfl, hx⟩
    · rw [if_neg e, if_neg e]; exact n4 k (by omega)
theorem c_clearText (h : RelW ω τ T) : (mX3_clearText ω).1 = (mX4_clearText τ).1 ∧ RelW (mX3_clearText ω).2 (mX4_clearText τ).2 (T + 1) := by
  obtain ⟨h1, h2, h3, ⟨n, n1, n2, n3, n4⟩, h5⟩ := h.up (Nat.le_succ T)
  exact ⟨n2.trans n3.symm, h1, h2, h3, ⟨0, by decide, rfl, rfl, fun k hk => absurd hk (Nat.not_lt_zero k)⟩, h5⟩
theorem c_stopped (h : RelW ω τ T) (x1 : Int32) : mX3_stopped ω x1 = mX4_stopped τ x1 := by
  unfold mX3_stopped mX4_stopped
  rw [h.2.2.2.2.1, h.2.2.2.2.2]
theorem c_keep (h : RelW ω τ T) : (mX3_keep ω).1 = (mX4_keep τ).1 ∧ RelW (mX3_keep ω).2 (mX4_keep τ).2 (T + 1) := by
  obtain ⟨h1, h2, h3, h4, h5⟩ := h.up (Nat.le_succ T)
  rw [keep_eq]
  refine ⟨?_, h1, ⟨rfl, Or.inr rfl, fun _ => ?_⟩, h3, h4, h5⟩
  · show mX2_boats (W_yard ω) = mX4_boats (M_set_isKept (M_set_kept τ (row255 (M_z τ) (M_kept τ))) 1)
    exact bo_eq (τ := M_set_isKept (M_set_kept τ (row255 (M_z τ) (M_kept τ))) 1) h1
  · show RelY (W_yard ω) (row255 (M_z τ) (M_kept τ)) (T + 1)
    exact h1.zcongr (fun i hi => row255_lt hi)
theorem c_restore (h : RelW ω τ T) : (mX3_restore ω).1 = (mX4_restore τ).1 ∧ RelW (mX3_restore ω).2 (mX4_restore τ).2 (T + 1) := by
  unfold mX3_restore mX4_restore
  have hh := h.2.1.1
  by_cases c : W_has ω = 0
  · rw [if_pos c, if_pos (hh.symm.trans c)]
    exact ⟨rfl, h.up (Nat.le_succ T)⟩
  · rw [if_neg c, if_neg (fun q => c (hh.trans q))]
    obtain ⟨s, s1, s2⟩ := h.st
    obtain ⟨h1, h2, h3, h4, h5⟩ := h
    have hK : RelY (W_snap ω) (M_kept τ) T := h2.2.2 c
    rw [push_eq s1 s2, restore_eq]
    have hK2 : RelY (W_snap ω) (row255 (M_kept τ) (M_z τ)) (T + 1) := (hK.zcongr (fun i hi => row255_lt hi)).up (Nat.le_succ T)
    have hb := bo_eq (τ := M_set_z (M_set_states (M_set_old τ (pushed s (M_z τ) (M_old τ))) (nI (if s = 4 then 4 else s + 1))) (row255 (M_kept τ) (M_z τ))) hK2
    have hg := bo_ge (τ := M_set_z (M_set_states (M_set_old τ (pushed s (M_z τ) (M_old τ))) (nI (if s = 4 then 4 else s + 1))) (row255 (M_kept τ) (M_z τ))) hK2
    rw [← hb] at hg
    have hp := (hist_push (a := mX2_boats (W_snap ω)) h3 s2 s1 h1 hg).up (Nat.le_succ T)
    exact ⟨set_1.trans hb, hK2, ⟨h2.1, h2.2.1, fun q => (h2.2.2 q).up (Nat.le_succ T)⟩, hp, h4, h5⟩
theorem c_undo (h : RelW ω τ T) : (mX3_undo ω).1 = (mX4_undo τ).1 ∧ RelW (mX3_undo ω).2 (mX4_undo τ).2 (T + 1) := by
  obtain ⟨h1, h2, ⟨r, o, r1, r2, r3, r4, r5, r6⟩, h4, h5⟩ := h.up (Nat.le_succ T)
  unfold mX3_undo mX4_undo mX0_stepBack
  rw [r3, r4]
  by_cases c : r = 0
  · subst c
    rw [if_pos (show nI 0 = 0 from rfl), if_pos (show nI 0 = 0 from rfl)]
    exact ⟨rfl, h1, h2, ⟨0, o, r1, r2, r3, r4, r5, r6⟩, h4, h5⟩
  · have hn : ¬ nI r = 0 := nI_ne0 (by omega) (by omega)
    have e1 : nI r - 1 = nI (r - 1) := by
      have : nI r = nI (r - 1) + 1 := by rw [nI1, Nat.sub_add_cancel (by omega)]
      rw [this]
      grind
    rw [if_neg hn, if_neg hn, e1, undo_eq (τ := M_set_states τ (nI (r - 1))) (s := r - 1) (by omega) rfl]
    have hx : H_ix (H_set_recorded (W_hist ω) (nI (r - 1))) = (o + (r - 1)) % 5 := hix (η := H_set_recorded (W_hist ω) (nI (r - 1))) (by omega) r2 rfl r5
    refine ⟨rfl, ?_, h2, ⟨r - 1, o, by omega, r2, rfl, rfl, r5, fun j hj => r6 j (by omega)⟩, h4, h5⟩
    show RelY (mX0_takeBack (H_set_recorded (W_hist ω) (nI (r - 1)))) (row255 (fun k => M_old τ (255 * (r - 1) + k)) (M_z τ)) (T + 1)
    unfold mX0_takeBack
    rw [hx]
    exact (r6 (r - 1) (by omega)).zcongr (fun i hi => row255_lt hi)
end CALLS
