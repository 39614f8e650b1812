/-! the yard's public acts, beside the reference's, which pushes its row first -/
def Dir (τ : MS) (T : Nat) (p : Int32 × YS) (q : Int32 × MS) : Prop := p.1 = q.1 ∧ ((p.1.toInt < 0 ∧ q.2 = τ ∧ RelY p.2 (M_z τ) T) ∨ (0 ≤ p.1.toInt ∧ q.2.2 = (mX4_push_z τ).2 ∧ RelY p.2 (M_z q.2) (T + 1)))
theorem act_dir {τ : MS} {T : Nat} {p : Int32 × YS} {e e' : Int32} {q0 q : Int32 × MS} (hA : Act τ T p e q0) (hA' : Act (mX4_push_z τ) T p e' q) : Dir τ T p (if 0 ≤ e then q else (e, τ)) := by
  rcases hA with ⟨a1, a2, a3, -, -⟩ | ⟨a1, a2, a3⟩
  · rw [a1, if_pos (by decide)]
    rcases hA' with ⟨b1, b2, b3, b4, b5⟩ | ⟨b1, b2, -⟩
    · exact ⟨b2, Or.inr ⟨b3, b4, b5⟩⟩
    · rw [b2] at a3; omega
  · rw [if_neg (by rw [le_ti]; show ¬ (0 : Int) ≤ _; omega)]
    exact ⟨a2, Or.inl ⟨by rw [a2]; exact a1, rfl, a3⟩⟩
section DIR
variable {σ : YS} {τ : MS} {T : Nat}
theorem dir_lift (hT : T < 2 ^ 30) (hz : M_z (mX4_push_z τ) = M_z τ) (h : RelY σ (M_z τ) T) (x1 x2 : Int32) : Dir τ T (mX2_liftInto σ x1 x2) (mX4_lift τ x1 x2) := act_dir (lift_act hT h x1 x2) (lift_act hT (by rw [hz]; exact h) x1 x2)
theorem dir_launch (hz : M_z (mX4_push_z τ) = M_z τ) (h : RelY σ (M_z τ) T) (x1 : Int32) : Dir τ T (mX2_putAfloat σ x1) (mX4_launch τ x1) := act_dir (launch_act h x1) (launch_act (by rw [hz]; exact h) x1)
theorem dir_move (hT : T < 2 ^ 30) (hz : M_z (mX4_push_z τ) = M_z τ) (h : RelY σ (M_z τ) T) (x1 x2 : Int32) : Dir τ T (mX2_moveTo σ x1 x2) (mX4_move τ x1 x2) := act_dir (move_act hT h x1 x2) (move_act hT (by rw [hz]; exact h) x1 x2)
theorem dir_off (hz : M_z (mX4_push_z τ) = M_z τ) (h : RelY σ (M_z τ) T) (x1 : Int32) : Dir τ T (mX2_takeMastOff σ x1) (mX4_mast τ x1 0) := act_dir (off_act h x1) (off_act (by rw [hz]; exact h) x1)
theorem dir_up (hz : M_z (mX4_push_z τ) = M_z τ) (h : RelY σ (M_z τ) T) (x1 : Int32) : Dir τ T (mX2_putMastUp σ x1) (mX4_mast τ x1 1) := act_dir (up_act h x1) (up_act (by rw [hz]; exact h) x1)
theorem dir_pass (hz : M_z (mX4_push_z τ) = M_z τ) (h : RelY σ (M_z τ) T) (x1 : Int32) : Dir τ T (mX2_letPass σ x1) (mX4_pass τ x1) := act_dir (pass_act h x1) (pass_act (by rw [hz]; exact h) x1)
theorem dneg (h : RelY σ (M_z τ) T) {e : Int32} (he : e.toInt < 0) : Dir τ T (e, σ) (e, τ) := ⟨rfl, Or.inl ⟨he, rfl, h⟩⟩
theorem dir_work (hz : M_z (mX4_push_z τ) = M_z τ) (h : RelY σ (M_z τ) T) (x1 x2 : Int32) : Dir τ T (mX2_orderWork σ x1 x2) (mX4_work τ x1 x2) := by
  unfold mX2_orderWork mX4_work
  rw [kn_eq h, show mX3_within x2 1 99 = mX4_in x2 1 99 from rfl]
  by_cases c1 : mX4_isBoat τ x1 = 0
  · rw [if_pos c1, if_pos c1]; exact dneg h (by decide)
  · rw [if_neg c1, if_neg c1]
    by_cases c2 : mX4_in x2 1 99 = 0
    · rw [if_pos c2, if_pos c2]; exact dneg h (by decide)
    · rw [if_neg c2, if_neg c2]
      obtain ⟨k, hk, rfl, hb⟩ := kn_get c1
      have e8 := (h.p hk hb).1.2.2.2.2.2.2.2.1
      have g8 := (h.p hk hb).2.1.2.2.2.2.2.1
      have hx : 1 ≤ x2.toInt ∧ x2.toInt ≤ 99 := rng_get c2
      have q1 : mX4_of (mX4_push_z τ) (nI k) 8 = ZB (M_z τ) k 8 := by rw [zo8 hk, hz]
      have q2 : ∀ v, mX4_of (mX4_put (mX4_push_z τ) (nI k) 8 v) (nI k) 8 = v := fun v => by rw [zo8 hk, zp8 hk (by decide), if_pos ⟨rfl, rfl⟩]
      rw [fa8 hk, q1, q2, zo8 hk, e8]
      have es := ti_add (x := ZB (M_z τ) k 8) (y := x2) (by omega) (by omega)
      by_cases c3 : ZB (M_z τ) k 8 + x2 ≤ 99
      · rw [if_pos c3, if_pos c3]
        have c4 : (ZB (M_z τ) k 8).toInt + x2.toInt ≤ 99 := by rw [le_ti, es] at c3; exact c3
        have hR := work_core (τ := mX4_push_z τ) (by rw [hz]; exact h) hk (by rw [hz]; exact hb) (v := ZB (M_z τ) k 8 + x2) ⟨by rw [es]; omega, by rw [es]; omega⟩
        exact ⟨rfl, Or.inr ⟨by show 0 ≤ (ZB (M_z τ) k 8 + x2).toInt; rw [es]; omega, put_mo, hR.up (Nat.le_succ T)⟩⟩
      · rw [if_neg c3, if_neg c3]; exact dneg h (by decide)
/-- a number of the head changes -/
theorem head_core (h : RelY σ (M_z τ) T) {σ' : YS} {n : Nat} {v : Int32} (hn : n < 15) (h7 : n ≠ 7) (h0 : n ≠ 0) (hf : Y_facts σ' = Y_facts σ) (hH : RH σ' (upd (M_z τ) n v)) : RelY σ' (upd (M_z τ) n v) T := by
  obtain ⟨t, ⟨t1, t2⟩, tP⟩ := h.2.1
  have f : ∀ j u, FY σ' j u = FY σ j u := fun j u => by show Y_facts σ' _ = _; rw [hf]
  refine ⟨hH, ⟨t, ⟨?_, t2⟩, tP.same (fun j _ => f j 5) (fun j _ => ZB_hd hn v) (fun j _ => ZB_hd hn v) (fun j _ => ZB_hd hn v)⟩, fun k hk => ?_⟩
  · show (if 7 = n then v else M_z τ 7) = _
    rw [if_neg (fun e => h7 e.symm)]; exact t1
  · rw [show upd (M_z τ) n v 0 = M_z τ 0 from if_neg (fun e => h0 e.symm)]
    exact (h.2.2 k hk).congr (fun u _ => f k u) (fun u _ => ZB_hd hn v)
theorem ud {f : Nat → Int32} {n j : Nat} {v : Int32} : upd f n v j = if j = n then v else f j := rfl
theorem dir_cradles (hz : M_z (mX4_push_z τ) = M_z τ) (h : RelY σ (M_z τ) T) (x1 x2 : Int32) : Dir τ T (mX2_changeCradles σ x1 x2) (mX4_setCradles τ x1 x2) := by
  unfold mX2_changeCradles mX4_setCradles mX4_change mX2_cradlesTaken
  rw [show mX2_isKind x1 = mX4_isKind x1 from rfl, show mX3_within x2 0 9 = mX4_in x2 0 9 from rfl]
  by_cases c1 : mX4_isKind x1 = 0
  · rw [if_pos c1, if_pos c1]; exact dneg h (by decide)
  · rw [if_neg c1, if_neg c1]
    by_cases c2 : mX4_in x2 0 9 = 0
    · rw [if_pos c2, if_pos c2]; exact dneg h (by decide)
    · rw [if_neg c2, if_neg c2]
      obtain ⟨k, hk, rfl⟩ := kind_get c1
      have hx : 0 ≤ x2.toInt ∧ x2.toInt ≤ 9 := rng_get c2
      rw [tk_eq h (ge0 (by omega)), cr_eq h hk, hz]
      by_cases c3 : mX4_taken τ (nI k) ≤ x2
      · rw [if_pos c3, if_pos c3]
        have e8 : (8 + nI k).toNatClampNeg = 8 + k := by rw [show (8 : Int32) = nI 8 from rfl, nI_add]; exact nI_clamp (by omega)
        rw [e8]
        by_cases c4 : M_z τ (8 + k) = x2
        · rw [if_pos c4, if_pos c4]; exact dneg h (by decide)
        · rw [if_neg c4, if_neg c4]
          refine ⟨rfl, Or.inr ⟨(h.1.2.2.2.2.2.1 k hk).2.1, sz_mo, ?_⟩⟩
          show RelY (Y_set_cradles σ (upd (Y_cradles σ) (nI k).toNatClampNeg x2)) (upd (M_z τ) (8 + k) x2) (T + 1)
          rw [nI_clamp (show k < 2 ^ 31 by omega)]
          refine (head_core (n := 8 + k) (σ' := Y_set_cradles σ (upd (Y_cradles σ) k x2)) (v := x2) h (by omega) (by omega) (by omega) rfl ?_).up (Nat.le_succ T)
          obtain ⟨h1, h2, h3, h4, h5, h6, h7⟩ := h.1
          unfold RH
          rw [ud (j := 0), if_neg (by omega), ud (j := 1), if_neg (by omega), ud (j := 5), if_neg (by omega), ud (j := 6), if_neg (by omega), ud (j := 2), if_neg (by omega), ud (j := 3), if_neg (by omega), ud (j := 4), if_neg (by omega)]
          refine ⟨h1, h2, h3, h4, h5, fun i hi => ?_, fun i hi => ?_⟩
          · show upd (Y_cradles σ) k x2 i = _ ∧ _
            rw [ud, ud]
            by_cases e : i = k
            · rw [if_pos e, if_pos (by omega)]; exact ⟨rfl, hx⟩
            · rw [if_neg e, if_neg (by omega)]; exact h6 i hi
          · rw [ud, if_neg (by omega)]; exact h7 i hi
      · rw [if_neg c3, if_neg c3]; exact dneg h (by decide)
theorem dir_row (hz : M_z (mX4_push_z τ) = M_z τ) (h : RelY σ (M_z τ) T) (x1 x2 : Int32) : Dir τ T (mX2_changeRow σ x1 x2) (mX4_setRow τ x1 x2) := by
  unfold mX2_changeRow mX4_setRow mX4_change
  rw [show mX2_isRow x1 = mX4_isRow x1 from rfl, show mX3_within x2 10 60 = mX4_in x2 10 60 from rfl]
  by_cases c1 : mX4_isRow x1 = 0
  · rw [if_pos c1, if_pos c1]; exact dneg h (by decide)
  · rw [if_neg c1, if_neg c1]
    by_cases c2 : mX4_in x2 10 60 = 0
    · rw [if_pos c2, if_pos c2]; exact dneg h (by decide)
    · rw [if_neg c2, if_neg c2]
      obtain ⟨k, hk, rfl⟩ := row_get c1
      have hx : 10 ≤ x2.toInt ∧ x2.toInt ≤ 60 := rng_get c2
      rw [mt_eq h (ge0 (by omega)), me_eq h hk, hz]
      by_cases c3 : mX4_metresTaken τ (nI k) ≤ x2
      · rw [if_pos c3, if_pos c3]
        have e8 : (11 + nI k).toNatClampNeg = 11 + k := by rw [show (11 : Int32) = nI 11 from rfl, nI_add]; exact nI_clamp (by omega)
        rw [e8]
        by_cases c4 : M_z τ (11 + k) = x2
        · rw [if_pos c4, if_pos c4]; exact dneg h (by decide)
        · rw [if_neg c4, if_neg c4]
          have hg := (h.1.2.2.2.2.2.2 k hk).2.1
          refine ⟨rfl, Or.inr ⟨by show 0 ≤ (M_z τ (11 + k)).toInt; omega, sz_mo, ?_⟩⟩
          show RelY (Y_set_metres σ (upd (Y_metres σ) (nI k).toNatClampNeg x2)) (upd (M_z τ) (11 + k) x2) (T + 1)
          rw [nI_clamp (show k < 2 ^ 31 by omega)]
          refine (head_core (n := 11 + k) (σ' := Y_set_metres σ (upd (Y_metres σ) k x2)) (v := x2) h (by omega) (by omega) (by omega) rfl ?_).up (Nat.le_succ T)
          obtain ⟨h1, h2, h3, h4, h5, h6, h7⟩ := h.1
          unfold RH
          rw [ud (j := 0), if_neg (by omega), ud (j := 1), if_neg (by omega), ud (j := 5), if_neg (by omega), ud (j := 6), if_neg (by omega), ud (j := 2), if_neg (by omega), ud (j := 3), if_neg (by omega), ud (j := 4), if_neg (by omega)]
          refine ⟨h1, h2, h3, h4, h5, fun i hi => ?_, fun i hi => ?_⟩
          · rw [ud, if_neg (by omega)]; exact h6 i hi
          · show upd (Y_metres σ) k x2 i = _ ∧ _
            rw [ud, ud]
            by_cases e : i = k
            · rw [if_pos e, if_pos (by omega)]; exact ⟨rfl, hx⟩
            · rw [if_neg e, if_neg (by omega)]; exact h7 i hi
      · rw [if_neg c3, if_neg c3]; exact dneg h (by decide)
theorem set_core (hz : M_z (mX4_push_z τ) = M_z τ) (h : RelY σ (M_z τ) T) {k : Nat} (hk : k < 3) {x2 : Int32} (hx : (k = 0 → 0 ≤ x2.toInt ∧ x2.toInt ≤ 9) ∧ (k = 1 → 1 ≤ x2.toInt ∧ x2.toInt ≤ 9) ∧ (k = 2 → 1 ≤ x2.toInt ∧ x2.toInt ≤ 30)) : Dir τ T (if ((Y_settings σ) (nI k).toNatClampNeg) = x2 then ((-5), σ) else (((Y_settings σ) (nI k).toNatClampNeg), (Y_set_settings σ (upd (Y_settings σ) (nI k).toNatClampNeg x2)))) (mX4_change τ (2 + nI k) x2) := by
  unfold mX4_change
  have e8 : (2 + nI k).toNatClampNeg = 2 + k := by rw [show (2 : Int32) = nI 2 from rfl, nI_add]; exact nI_clamp (by omega)
  rw [hz, e8, nI_clamp (show k < 2 ^ 31 by omega)]
  obtain ⟨h1, h2, h3, h4, h5, h6, h7⟩ := h.1
  have es : Y_settings σ k = M_z τ (2 + k) := by
    rcases (show k = 0 ∨ k = 1 ∨ k = 2 by omega) with rfl | rfl | rfl
    · exact h4.1
    · exact h4.2.1
    · exact h4.2.2
  have eg : 0 ≤ (M_z τ (2 + k)).toInt := by
    rcases (show k = 0 ∨ k = 1 ∨ k = 2 by omega) with rfl | rfl | rfl
    · exact h5.1.1
    · have := h5.2.1.1; show 0 ≤ (M_z τ 3).toInt; omega
    · have := h5.2.2.1; show 0 ≤ (M_z τ 4).toInt; omega
  rw [es]
  by_cases c4 : M_z τ (2 + k) = x2
  · rw [if_pos c4, if_pos c4]; exact dneg h (by decide)
  · rw [if_neg c4, if_neg c4]
    refine ⟨rfl, Or.inr ⟨eg, sz_mo, ?_⟩⟩
    show RelY (Y_set_settings σ (upd (Y_settings σ) k x2)) (upd (M_z τ) (2 + k) x2) (T + 1)
    refine (head_core (n := 2 + k) (σ' := Y_set_settings σ (upd (Y_settings σ) k x2)) (v := x2) h (by omega) (by omega) (by omega) rfl ?_).up (Nat.le_succ T)
    unfold RH
    rw [ud (j := 0), if_neg (by omega), ud (j := 1), if_neg (by omega), ud (j := 5), if_neg (by omega), ud (j := 6), if_neg (by omega)]
    refine ⟨h1, h2, h3, ?_, ?_, fun i hi => by rw [ud, if_neg (by omega)]; exact h6 i hi, fun i hi => by rw [ud, if_neg (by omega)]; exact h7 i hi⟩
    · show upd (Y_settings σ) k x2 0 = _ ∧ upd (Y_settings σ) k x2 1 = _ ∧ upd (Y_settings σ) k x2 2 = _
      rcases (show k = 0 ∨ k = 1 ∨ k = 2 by omega) with rfl | rfl | rfl
      · exact ⟨rfl, h4.2.1, h4.2.2⟩
      · exact ⟨h4.1, rfl, h4.2.2⟩
      · exact ⟨h4.1, h4.2.1, rfl⟩
    · rcases (show k = 0 ∨ k = 1 ∨ k = 2 by omega) with rfl | rfl | rfl
      · exact ⟨hx.1 rfl, h5.2.1, h5.2.2⟩
      · exact ⟨h5.1, hx.2.1 rfl, h5.2.2⟩
      · exact ⟨h5.1, h5.2.1, hx.2.2 rfl⟩
theorem dir_set (hz : M_z (mX4_push_z τ) = M_z τ) (h : RelY σ (M_z τ) T) (x1 x2 : Int32) : Dir τ T (mX2_changeSetting σ x1 x2) (mX4_set τ x1 x2) := by
  unfold mX2_changeSetting mX4_set
  rw [show mX2_isSetting x1 = mX4_in x1 0 2 from rfl]
  by_cases c1 : mX4_in x1 0 2 = 0
  · rw [if_pos c1, if_pos c1]; exact dneg h (by decide)
  · rw [if_neg c1, if_neg c1]
    obtain ⟨k, hk, rfl⟩ := kind_get c1
    rcases (show k = 0 ∨ k = 1 ∨ k = 2 by omega) with rfl | rfl | rfl
    · rw [show nI 0 = 0 from rfl, if_pos rfl, show mX3_within x2 (tvL (0 : Int32).toNatClampNeg) (tvG (0 : Int32).toNatClampNeg) = mX4_in x2 0 9 from rfl]
      by_cases c2 : mX4_in x2 0 9 = 0
      · rw [if_pos c2, if_pos c2]; exact dneg h (by decide)
      · rw [if_neg c2, if_neg c2]
        exact set_core hz h (k := 0) (by decide) ⟨fun _ => rng_get c2, fun e => absurd e (by decide), fun e => absurd e (by decide)⟩
    · rw [show nI 1 = 1 from rfl, if_neg one_ne, if_pos rfl, show mX3_within x2 (tvL (1 : Int32).toNatClampNeg) (tvG (1 : Int32).toNatClampNeg) = mX4_in x2 1 9 from rfl]
      by_cases c2 : mX4_in x2 1 9 = 0
      · rw [if_pos c2, if_pos c2]; exact dneg h (by decide)
      · rw [if_neg c2, if_neg c2]
        exact set_core hz h (k := 1) (by decide) ⟨fun e => absurd e (by decide), fun _ => rng_get c2, fun e => absurd e (by decide)⟩
    · rw [show nI 2 = 2 from rfl, if_neg (show ¬ (2 : Int32) = 0 by decide), if_neg (show ¬ (2 : Int32) = 1 by decide), show mX3_within x2 (tvL (2 : Int32).toNatClampNeg) (tvG (2 : Int32).toNatClampNeg) = mX4_in x2 1 30 from rfl]
      by_cases c2 : mX4_in x2 1 30 = 0
      · rw [if_pos c2, if_pos c2]; exact dneg h (by decide)
      · rw [if_neg c2, if_neg c2]
        exact set_core hz h (k := 2) (by decide) ⟨fun e => absurd e (by decide), fun e => absurd e (by decide), fun _ => rng_get c2⟩
end DIR
