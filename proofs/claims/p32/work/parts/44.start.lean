/-! the start; what the law asks at its ends -/
def gL0 : Nat → Int32 := (upd (upd (upd (upd (upd (upd (upd (upd (upd (upd (fun _ => 0) (2 : Int32).toNatClampNeg 3) (3 : Int32).toNatClampNeg 4) (4 : Int32).toNatClampNeg 20) (7 : Int32).toNatClampNeg 4) (8 : Int32).toNatClampNeg 4) (9 : Int32).toNatClampNeg 4) (10 : Int32).toNatClampNeg 40) (11 : Int32).toNatClampNeg 40) (12 : Int32).toNatClampNeg 40) (13 : Int32).toNatClampNeg 40)
def γL0 : LAS := (gL0, (fun _ => 0), (fun _ => 0), (fun _ => 0))
theorem in_f : ∀ n, n ≤ 20 → (∀ j u, j < n → u < 11 → FY (mX2_initL n) j u = -5) ∧ (mX2_initL n).2 = mX2_init0.2 := by
  intro n
  induction n with
  | zero => intro _; exact ⟨fun j u hj => absurd hj (Nat.not_lt_zero j), rfl⟩
  | succ n ih =>
    intro hn
    obtain ⟨h1, h2⟩ := ih (by omega)
    refine ⟨fun j u hj hu => ?_, ?_⟩
    · show FY (mX2_forget (mX2_initL n) (nI n)) j u = -5
      rw [fg_f (show n < 20 by omega) hu]
      by_cases c : j = n
      · rw [if_pos c]
      · rw [if_neg c]; exact h1 j u (by omega) hu
    · show (mX2_forget (mX2_initL n) (nI n)).2 = _
      rw [fg_o (show n < 20 by omega)]
      exact h2
theorem qg_init : QG mX2_init0 γL0 0 := by
  refine ⟨⟨rfl, by decide, by decide⟩, ⟨rfl, by decide, by decide⟩, ⟨rfl, rfl⟩, ⟨fun j hj => ?_, by decide, by decide, by decide⟩, fun j hj => ?_, fun j hj => ?_⟩
  · rcases (show j = 0 ∨ j = 1 ∨ j = 2 by omega) with rfl | rfl | rfl <;> rfl
  · rcases (show j = 0 ∨ j = 1 ∨ j = 2 by omega) with rfl | rfl | rfl <;> exact ⟨rfl, by decide, by decide⟩
  · rcases (show j = 0 ∨ j = 1 ∨ j = 2 ∨ j = 3 by omega) with rfl | rfl | rfl | rfl <;> exact ⟨rfl, by decide, by decide⟩
theorem rq_init : RelQ mX2_init γL0 0 (fun _ => 0) (fun _ _ => 0) := by
  obtain ⟨h1, h2⟩ := in_f 20 (Nat.le_refl _)
  refine ⟨qg_init.y h2 rfl, fun i hi => ⟨Nat.zero_le _, rfl, fun j hj => ⟨Nat.succ_pos _, rfl⟩⟩, ⟨fun k hk => ⟨⟨0, by decide, rfl⟩, Or.inl ⟨rfl, fun w hw => h1 k w (by omega) hw⟩⟩, fun k _ hk w hw => h1 k w hk hw, fun i hi j hj => absurd hj (Nat.not_lt_zero j), fun k hk e => absurd e (by show ¬ (0 : Int32) = 1; decide)⟩, by decide⟩
theorem hok0 : HOK (W_hist mX3_init) := ⟨vp_in_nI (n := 0) (by decide) (by decide), vp_in_nI (n := 0) (by decide) (by decide)⟩
theorem rv_init : RV (mX3_init, γL0) 0 := ⟨⟨_, _, rq_init⟩, hok0⟩
theorem undo0 : mX3_undo mX3_init = (-5, mX3_init) := by
  have e : mX0_stepBack (W_hist mX3_init) (W_yard mX3_init) = (-5, W_yard mX3_init, W_hist mX3_init) := if_pos rfl
  unfold mX3_undo
  rw [e]
theorem restore0 : mX3_restore mX3_init = (-5, mX3_init) := if_pos rfl
theorem k_undo0 (l : Launch) (g : WG) (ad : AW) : Wr l yX3_undo cX3_undo 1 (some .int) 4 g (cW g ad mX3_init) (cW g ad mX3_init) [.ref ad.1] (-5) := by
  have h := k_X3_undo l g ad mX3_init hok0
  rw [undo0] at h
  exact h
theorem k_restore0 (l : Launch) (g : WG) (ad : AW) : Wr l yX3_restore cX3_restore 1 (some .int) 3 g (cW g ad mX3_init) (cW g ad mX3_init) [.ref ad.1] (-5) := by
  have h := k_X3_restore l g ad mX3_init hok0
  rw [restore0] at h
  exact h
theorem stop0 : mX3_stopped mX3_init 0 = -5 := if_pos rfl
theorem stop1 : mX3_stopped mX3_init 1 = -5 := (if_neg (by decide)).trans (if_pos rfl)
theorem stop2 : mX3_stopped mX3_init 2 = -2 := (if_neg (by decide)).trans (if_neg (by decide))
section ENDS
variable {ω : WS}
theorem z_pass0 : (mX3_pass ω 0).1 = -2 := (e_pass (ω := ω) (x1 := 0) (e := -2) (Y := W_yard ω) (by unfold mX2_letPass; rw [if_pos (by decide)])).1
theorem z_pass1 : (mX3_pass ω 100).1 = -2 := (e_pass (ω := ω) (x1 := 100) (e := -2) (Y := W_yard ω) (by unfold mX2_letPass; rw [if_pos (by decide)])).1
theorem z_tide0 : mX3_tide ω (-1) = -2 := if_pos (by decide)
theorem z_tide1 : mX3_tide ω 10000 = -2 := if_pos (by decide)
theorem z_boat : mX3_boat ω 20 11 = -1 := if_pos (if_pos (by decide))
theorem z_row0 : mX3_row ω 4 4 = -1 := if_pos (by decide)
theorem z_row1 : mX3_row ω 0 4 = -2 := by
  unfold mX3_row
  rw [if_neg (by decide), if_neg (by decide), if_neg (by decide), if_neg (by decide), if_neg (by decide)]
theorem z_stands0 : mX3_stands ω 0 (-1) = -2 := (if_neg (by decide)).trans (if_neg (by decide))
theorem z_stands1 : mX3_stands ω (-1) (-1) = -1 := if_pos (by decide)
theorem z_cradle : mX3_cradle ω 0 3 = -2 := by
  unfold mX3_cradle
  rw [if_neg (by decide), if_neg (by decide), if_neg (by decide), if_neg (by decide)]
theorem z_count : mX3_count ω 15 = -2 := by
  unfold mX3_count
  rw [if_neg (by decide), if_neg (by decide), if_neg (by decide), if_neg (by decide), if_neg (by decide), if_neg (by decide), if_neg (by decide), if_neg (by decide), if_neg (by decide), if_neg (by decide), if_neg (by decide), if_neg (by decide), if_neg (by decide), if_neg (by decide), if_neg (by decide)]
end ENDS
/-- a turn of the law: a step of the yard or of a boat -/
theorem rv_so {σ : VS} {T : Nat} (h : RV σ T) : VOK σ ∧ mL_isSo σ = 1 := by
  obtain ⟨⟨n, q, h⟩, _⟩ := h
  exact ⟨vok_of h, so_12 h⟩
theorem rv_yard {σ : VS} {T : Nat} (h : RV σ T) (hT : T < 100) (x y : Int32) : VOK σ ∧ HOK (W_hist σ.1) ∧ Good (mL_yard σ x y) (T + 1) := by
  obtain ⟨⟨n, q, h⟩, hh⟩ := h
  exact ⟨vok_of h, hh, g_yard h hh hT x y⟩
theorem rv_boats {σ : VS} {T : Nat} (h : RV σ T) (hT : T < 100) (x y : Int32) : VOK σ ∧ HOK (W_hist σ.1) ∧ FRE σ.2 ∧ (¬ (mL_liftReason σ.2 (mL_low y 6) (mL_low (y >>> ((3 : Int32) &&& 31)) 4)) ≤ 0 → KeelOK (W_yard (mX3_lift σ.1 (mL_low y 6) (mL_low (y >>> ((3 : Int32) &&& 31)) 4)).2)) ∧ Good (mL_boats σ x y) (T + 1) := by
  obtain ⟨⟨n, q, h⟩, hh⟩ := h
  refine ⟨vok_of h, hh, fre_of h, fun c => ?_, g_boats h hh hT x y⟩
  obtain ⟨k, hk, ek⟩ := low_nI (x := y) (k := 6) (m := 6) rfl (by decide) (by decide)
  obtain ⟨i, hi, ei⟩ := low_nI (x := y >>> ((3 : Int32) &&& 31)) (k := 4) (m := 4) rfl (by decide) (by decide)
  rw [ek, ei] at c ⊢
  by_cases h0 : BB (L_b σ.2) k 0 = 0
  · rw [(e_lift (ω := σ.1) (x1 := nI k) (x2 := nI i) (e := -1) (Y := W_yard σ.1) (by unfold mX2_liftInto; rw [if_pos (so_kn0 h hk h0)])).2]
    exact keel_ok h
  · exact kl2_of h hk h0 hi c
