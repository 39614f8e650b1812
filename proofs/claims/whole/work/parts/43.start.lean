/-! the start: both constructors' states are related; what the contracts ask, out of the relation -/
theorem in_f : ∀ n, n ≤ 20 → (∀ j u, j < n → u < 11 → FY (mX2_initL n) j u = -5) ∧ (mX2_initL n).2 = mX2_init0.2 := by
  intro n
  induction n with
  | zero => intro _; exact ⟨fun j u hj => absurd hj (Nat.not_lt_zero j), rfl⟩
  | succ n ih =>
    intro hn
    obtain ⟨h1, h2⟩ := ih (by omega)
    refine ⟨fun j u hj hu => ?_, ?_⟩
    · show FY (mX2_forget (mX2_initL n) (nI n)) j u = -5
      rw [fg_f (show n < 20 by omega) hu]
      by_cases c : j = n
      · rw [if_pos c]
      · rw [if_neg c]; exact h1 j u (by omega) hu
    · show (mX2_forget (mX2_initL n) (nI n)).2 = _
      rw [fg_o (show n < 20 by omega)]
      exact h2
theorem z_init {i : Nat} (hi : 15 ≤ i) : M_z mX4_init i = 0 := by
  unfold mX4_init M_z
  dsimp only
  simp only [ud]
  repeat' split
  all_goals first | rfl | (rename_i h; exact absurd hi (by rw [h]; decide))
theorem rh_init : RH mX2_init0 (M_z mX4_init) := by
  refine ⟨⟨rfl, by decide, by decide⟩, ⟨rfl, by decide, by decide⟩, ⟨rfl, rfl⟩, ⟨rfl, rfl, rfl⟩, ⟨by decide, by decide, by decide⟩, fun k hk => ?_, fun k hk => ?_⟩
  · rcases (show k = 0 ∨ k = 1 ∨ k = 2 by omega) with rfl | rfl | rfl
    · exact ⟨rfl, by decide, by decide⟩
    · exact ⟨rfl, by decide, by decide⟩
    · exact ⟨rfl, by decide, by decide⟩
  · rcases (show k = 0 ∨ k = 1 ∨ k = 2 ∨ k = 3 by omega) with rfl | rfl | rfl | rfl
    · exact ⟨rfl, by decide, by decide⟩
    · exact ⟨rfl, by decide, by decide⟩
    · exact ⟨rfl, by decide, by decide⟩
    · exact ⟨rfl, by decide, by decide⟩
theorem ry_init : RelY mX2_init (M_z mX4_init) 0 := by
  obtain ⟨h1, h2⟩ := in_f 20 (Nat.le_refl _)
  refine ⟨rh_init.facts h2, ⟨0, ⟨rfl, Nat.le_refl 0⟩, fun k hk h0 => ?_⟩, fun k hk => Or.inl ⟨?_, h1 k 0 hk (by decide), h1 k 4 hk (by decide), h1 k 6 hk (by decide), h1 k 7 hk (by decide), h1 k 8 hk (by decide)⟩⟩
  · have e : ZB (M_z mX4_init) k 0 = 0 := z_init (by omega)
    rw [e] at h0
    exact absurd h0 (by decide)
  · exact z_init (by omega)
/-- the relation, with what the reading of a plan keeps of the signs -/
def RelV (ω : WS) (τ : MS) (T : Nat) : Prop := RelW ω τ T ∧ chS (W_plan ω)
theorem rv_init : RelV mX3_init mX4_init 0 := by
  refine ⟨⟨ry_init, ⟨rfl, Or.inl rfl, fun h => absurd rfl h⟩, ⟨0, 0, by decide, by decide, rfl, rfl, rfl, fun j hj => absurd hj (Nat.not_lt_zero j)⟩, ⟨0, by decide, rfl, rfl, fun j hj => absurd hj (Nat.not_lt_zero j)⟩, rfl, rfl⟩, fun j => ?_⟩
  show vp_nar .char 0 = 0
  rw [nar_nI]
  decide
section PREM
variable {ω : WS} {τ : MS} {T : Nat}
theorem p_hok (h : RelV ω τ T) : HOK (W_hist ω) := by
  obtain ⟨r, o, h1, h2, h3, h4, h5, -⟩ := h.1.2.2.1
  unfold HOK
  rw [h3, h5]
  exact ⟨vp_in_nI h2 (by decide), vp_in_nI (by omega) (by decide)⟩
theorem p_st (h : RelV ω τ T) : 0 ≤ (M_states τ).toInt ∧ (M_states τ).toInt ≤ 4 := by
  obtain ⟨s, s1, s2⟩ := h.1.st
  rw [s2, nI_ti (by omega)]
  omega
theorem p_l3 (h : RelV ω τ T) : 0 ≤ (P_length (W_plan ω)).toInt ∧ (P_length (W_plan ω)).toInt ≤ 60 := by
  obtain ⟨n, n1, n2, -, -⟩ := h.1.2.2.2.1
  rw [n2, nI_ti (by omega)]
  omega
theorem p_l4 (h : RelV ω τ T) : 0 ≤ (M_length τ).toInt ∧ (M_length τ).toInt ≤ 60 := by
  obtain ⟨n, n1, -, n3, -⟩ := h.1.2.2.2.1
  rw [n3, nI_ti (by omega)]
  omega
theorem p_k3 (h : RelV ω τ T) : KeelOK (W_yard ω) := keelY h.1.1
theorem p_k4 (h : RelV ω τ T) : KeelM τ := keelM h.1.1
theorem p_w3 (h : RelV ω τ T) : WorkOK (W_yard ω) := workY h.1.1
theorem p_ch (h : RelV ω τ T) : ∀ j, narrow .char (.int ((P_signs (mX1_read (W_plan ω)).2) j)) = .int ((P_signs (mX1_read (W_plan ω)).2) j) := fun j => congrArg Value.int (show vp_nar .char ((P_signs (mX1_read (W_plan ω)).2) j) = (P_signs (mX1_read (W_plan ω)).2) j from ch_read h.2 j)
theorem p_th (h : RelV ω τ T) : (mX1_things (mX1_read (W_plan ω)).2).toInt ≤ 20 := by
  obtain ⟨n, n1, n2, n3, n4⟩ := h.1.2.2.2.1
  have hR := read_out (π := W_plan ω) n1 n2 (fun m hm => by rw [(n4 m hm).1]; exact (n4 m hm).2)
  exact hR.2.2.2.1
theorem p_pk (hT : T < 2 ^ 29) (h : RelV ω τ T) : PK (mX1_read (W_plan ω)).2 (mX1_things (mX1_read (W_plan ω)).2) 22 (W_yard ω) 0 := pk1 22 0 (W_yard ω) τ T h.1.1 (by omega)
theorem p_ff (h : RelV ω τ T) : ∃ s a b, (mX4_findFault τ).2 = M_cmd τ s a b := by
  obtain ⟨n, n1, n2, n3, n4⟩ := h.1.2.2.2.1
  exact (ff4 n1 (ch_ok (fun m hm => (n4 m hm).2)) 63 0 τ (Nat.zero_le _) n3 rfl).2
theorem p_fst (h : RelV ω τ T) : 0 ≤ (M_states (mX4_findFault τ).2).toInt ∧ (M_states (mX4_findFault τ).2).toInt ≤ 4 := by
  obtain ⟨s, a, b, e⟩ := p_ff h
  rw [e]
  exact p_st h
theorem p_pm (hT : T < 2 ^ 29) (h : RelV ω τ T) (hf : (mX4_findFault τ).1 < 0) : ∀ a, PM 64 (M_set_aside (mX4_findFault τ).2 a) 0 0 := by
  intro a
  obtain ⟨n, n1, n2, n3, n4⟩ := h.1.2.2.2.1
  have hcg : ∀ k, k < n → P_text (W_plan ω) k = M_text τ k := fun k hk => (n4 k hk).1
  have hco : chOK (M_text τ) n := ch_ok (fun m hm => (n4 m hm).2)
  have hR := read_out (π := W_plan ω) n1 n2 (fun m hm => by rw [hcg m hm]; exact (n4 m hm).2)
  have hF := ff4 n1 hco 63 0 τ (Nat.zero_le _) n3 rfl
  rw [show mX4_findFault_L2 63 τ (nI 0) = mX4_findFault τ from rfl] at hF
  rw [ffF_congr hcg] at hR
  have hcs := ffF_cases (t := M_text τ) (n := n) 63 0 (Nat.zero_le _)
  obtain ⟨f1, s, fi, se, f2⟩ := hF
  rw [f1] at hf
  have c : ffF (M_text τ) n 63 0 = -5 := by
    rcases hcs with q | ⟨j, j1, j2⟩
    · exact q
    · rw [j2] at hf; exact absurd hf (nI_pos (by omega))
  obtain ⟨m, m1, -, m3, -⟩ := hR.2.2.2.2.2 c
  have m3 := PG_congr hcg m 0 m3
  rw [f2]
  exact pm1 n1 hco 64 m 0 (W_yard ω) (M_set_aside (M_cmd τ s fi se) a) 0 T (Nat.zero_le _) m3 h.1.1 (by omega) (p_st h) n3 rfl
end PREM
set_option maxHeartbeats 4000000 in
set_option maxRecDepth 100000 in
/-- the reference's perform, where the way along the plan is asked of a text without fault alone -/
theorem k_X4_performF (l : Launch) (g : WG) (ad : AM) (σ : MS) (h_len : 0 ≤ (M_length σ).toInt ∧ (M_length σ).toInt ≤ 60) (h_pm : (mX4_findFault σ).1 < 0 → ∀ a, PM 64 (M_set_aside (mX4_findFault σ).2 a) 0 0) : Wr l yX4_perform cX4_perform 5 (some .int) 8 g (cM g ad σ) (cM g ad (mX4_perform σ).2) [.ref ad.1] (mX4_perform σ).1 := by
  refine wr_of (by decide) (Nat.le_of_ble_eq_true rfl) ?_
  intro p e s m args below meth c ls A hC hAe hP hD hK hE hA hS hl
  obtain ⟨hx, hb, hml, hr, hown, hts, hlk, hnm⟩ := id hC
  have hl : lv_has ls 5 [(0, .ref ad.1)] := hl
  refine lv_aload_n hx hb dX4_perform_0 rfl (lv_at hl 0 rfl) ?_
  refine callWr hC (k_X4_findFault l g ad σ h_len) ci_X4_findFault lk_X4_191 ⟨Nat.le_of_ble_eq_true rfl, Nat.le_of_ble_eq_true rfl⟩ hP hD hK hE hS hA (q0 := 0) rfl rfl rfl rfl hl.1 rfl (Nat.le_of_ble_eq_true rfl) dX4_perform_1 ⟨Nat.zero_le _, Nat.zero_le _⟩ (fun H locs hP _ hD hS _ _ => ?_)
  refine lv_istore_n (lv' := [(1, .int (mX4_findFault σ).1), (0, .ref ad.1)]) hx hb dX4_perform_4 rfl hl (by decide) rfl (fun ls hl => ?_)
  refine lv_iload_n hx hb dX4_perform_5 rfl (lv_at hl 0 rfl) ?_
  refine lv_if_lt (tgt := 14) hx hb dX4_perform_6 (by decide) (fun c_1 => ?_) (fun c_1 => ?_)
  · refine lv_iconst (v := 0) hx hb dX4_perform_14 (by decide) ?_
    refine lv_istore_n (lv' := [(2, .int 0), (1, .int (mX4_findFault σ).1), (0, .ref ad.1)]) hx hb dX4_perform_15 rfl hl (by decide) rfl (fun ls hl => ?_)
    refine q_X4_perform_16 l g ad (mX4_findFault σ).1 hC hK hE hA hAe 257 (mX4_findFault σ).2 _ _ hP hD hS 0 (by decide) (by decide) (h_pm c_1) (by decide) ?_ _ (lv_sub hl [0, 1, 2] rfl)
    exact by unfold mX4_perform; rw [if_pos c_1]
  · refine lv_bipush (v := (-100)) hx hb dX4_perform_9 (by decide) ?_
    refine lv_iload_n hx hb dX4_perform_11 rfl (lv_at hl 0 rfl) ?_
    refine lv_isub hx hb dX4_perform_12 ?_
    have hm : mX4_perform σ = (((-100) - (mX4_findFault σ).1), (mX4_findFault σ).2) := by unfold mX4_perform; rw [if_neg c_1]
    exact wr_ret hC hP (hAe ▸ hD) (hAe ▸ hS) dX4_perform_13 (by rw [hm]) (by rw [hm])
/-! the signs, call by call -/
section CHARS
variable {ω : WS}
theorem v_mast (x1 x2 : Int32) : W_plan (mX3_mast ω x1 x2).2 = W_plan ω := by
  unfold mX3_mast
  split <;> rfl
theorem v_restore : W_plan (mX3_restore ω).2 = W_plan ω := by
  unfold mX3_restore
  split <;> rfl
theorem v_type (x1 : Int32) : P_signs (W_plan (mX3_type ω x1).2) = P_signs (W_plan ω) := by
  show P_signs (mX1_append (W_plan ω) x1).2 = P_signs (W_plan ω)
  unfold mX1_append
  split <;> rfl
theorem v_perform (h : chS (W_plan ω)) : chS (W_plan (mX3_perform ω).2) := by
  rw [plan_perform]
  exact ch_read h
end CHARS
