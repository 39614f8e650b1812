theorem ok_noMast {σ : MS} {b r : Int32} (c : 0 ≤ mX4_noMast σ b r) : ¬ mX4_isBoat σ b = 0 := by
  unfold mX4_noMast at c
  split at c
  · exact absurd c (by decide)
  · assumption
def mX4_mast (σ : MS) (x1 : Int32) (x2 : Int32) : Int32 × MS := (if 0 ≤ (mX4_noMast σ x1 x2) then (mX4_doMast (mX4_push_z σ) x1 x2) else ((mX4_noMast σ x1 x2), σ))
set_option maxHeartbeats 4000000 in
set_option maxRecDepth 100000 in
theorem k_X4_mast (l : Launch) (g : WG) (ad : AM) (σ : MS) (x1 : Int32) (x2 : Int32) (h_st : 0 ≤ (M_states σ).toInt ∧ (M_states σ).toInt ≤ 4) : Wr l yX4_mast cX4_mast 4 (some .int) 4 g (cM g ad σ) (cM g ad (mX4_mast σ x1 x2).2) [.ref ad.1, .int x1, .int x2] (mX4_mast σ x1 x2).1 := by
  refine wr_of (by decide) (Nat.le_of_ble_eq_true rfl) ?_
  intro p e s m args below meth c ls A hC hAe hP hD hK hE hA hS hl
  obtain ⟨hx, hb, hml, hr, hown, hts, hlk, hnm⟩ := id hC
  have hl : lv_has ls 4 [(0, .ref ad.1), (1, .int x1), (2, .int x2)] := hl
  refine lv_aload_n hx hb dX4_mast_0 rfl (lv_at hl 0 rfl) ?_
  refine lv_iload_n hx hb dX4_mast_1 rfl (lv_at hl 1 rfl) ?_
  refine lv_iload_n hx hb dX4_mast_2 rfl (lv_at hl 2 rfl) ?_
  refine callRd hC (k_X4_noMast l g ad σ x1 x2) ci_X4_noMast lk_X4_153 ⟨Nat.le_of_ble_eq_true rfl, Nat.le_of_ble_eq_true rfl⟩ hP hK (hE.S hS).none (q0 := 0) rfl rfl rfl rfl hl.1 rfl (Nat.le_of_ble_eq_true rfl) dX4_mast_3 ⟨Nat.zero_le _, Nat.zero_le _⟩ ?_
  refine lv_istore_n (lv' := [(3, .int (mX4_noMast σ x1 x2)), (0, .ref ad.1), (1, .int x1), (2, .int x2)]) hx hb dX4_mast_6 rfl hl (by decide) rfl (fun ls hl => ?_)
  refine lv_iload_n hx hb dX4_mast_7 rfl (lv_at hl 0 rfl) ?_
  refine lv_if_ge (tgt := 13) hx hb dX4_mast_8 (by decide) (fun c_1 => ?_) (fun c_1 => ?_)
  · refine lv_aload_n hx hb dX4_mast_13 rfl (lv_at hl 1 rfl) ?_
    refine lv_aload_n hx hb dX4_mast_14 rfl (lv_at hl 1 rfl) ?_
    refine gM_z hC rfl hK hP dX4_mast_15 ?_
    refine callWv hC (k_X4_push_z l g ad σ h_st) ci_X4_push lk_X4_85 ⟨Nat.le_of_ble_eq_true rfl, Nat.le_of_ble_eq_true rfl⟩ hP hD hK hE hS hA (q0 := 0) rfl rfl rfl rfl hl.1 rfl (Nat.le_of_ble_eq_true rfl) dX4_mast_18 ⟨Nat.zero_le _, Nat.zero_le _⟩ (fun H locs hP _ hD hS _ _ => ?_)
    refine lv_aload_n hx hb dX4_mast_21 rfl (lv_at hl 1 rfl) ?_
    refine lv_iload_n hx hb dX4_mast_22 rfl (lv_at hl 2 rfl) ?_
    refine lv_iload_n hx hb dX4_mast_23 rfl (lv_at hl 3 rfl) ?_
    refine callWr hC (k_X4_doMast l g ad (mX4_push_z σ) x1 x2 (in_X4_isBoat (ok_noMast c_1))) ci_X4_doMast lk_X4_157 ⟨Nat.le_of_ble_eq_true rfl, Nat.le_of_ble_eq_true rfl⟩ hP hD hK hE hS hA (q0 := 0) rfl rfl rfl rfl hl.1 rfl (Nat.le_of_ble_eq_true rfl) dX4_mast_24 ⟨Nat.zero_le _, Nat.zero_le _⟩ (fun H locs hP _ hD hS _ _ => ?_)
    have hm : mX4_mast σ x1 x2 = (mX4_doMast (mX4_push_z σ) x1 x2) := by unfold mX4_mast; rw [if_pos c_1]
    exact wr_ret hC hP (hAe ▸ hD) (hAe ▸ hS) dX4_mast_27 (by rw [hm]) (by rw [hm])
  · refine lv_iload_n hx hb dX4_mast_11 rfl (lv_at hl 0 rfl) ?_
    have hm : mX4_mast σ x1 x2 = ((mX4_noMast σ x1 x2), σ) := by unfold mX4_mast; rw [if_neg c_1]
    exact wr_ret hC hP (hAe ▸ hD) (hAe ▸ hS) dX4_mast_12 (by rw [hm]) (by rw [hm])
def mX4_work (σ : MS) (x1 : Int32) (x2 : Int32) : Int32 × MS := (if (mX4_isBoat σ x1) = 0 then ((-1), σ) else (if (mX4_in x2 1 99) = 0 then ((-2), σ) else (if ((mX4_of σ x1 8) + x2) ≤ 99 then ((mX4_of (mX4_put (mX4_push_z σ) x1 8 ((mX4_of (mX4_push_z σ) x1 8) + x2)) x1 8), (mX4_put (mX4_push_z σ) x1 8 ((mX4_of (mX4_push_z σ) x1 8) + x2))) else ((-3), σ))))
set_option maxHeartbeats 4000000 in
set_option maxRecDepth 100000 in
theorem k_X4_work (l : Launch) (g : WG) (ad : AM) (σ : MS) (x1 : Int32) (x2 : Int32) (h_st : 0 ≤ (M_states σ).toInt ∧ (M_states σ).toInt ≤ 4) : Wr l yX4_work cX4_work 3 (some .int) 2 g (cM g ad σ) (cM g ad (mX4_work σ x1 x2).2) [.ref ad.1, .int x1, .int x2] (mX4_work σ x1 x2).1 := by
  refine wr_of (by decide) (Nat.le_of_ble_eq_true rfl) ?_
  intro p e s m args below meth c ls A hC hAe hP hD hK hE hA hS hl
  obtain ⟨hx, hb, hml, hr, hown, hts, hlk, hnm⟩ := id hC
  have hl : lv_has ls 3 [(0, .ref ad.1), (1, .int x1), (2, .int x2)] := hl
  refine lv_aload_n hx hb dX4_work_0 rfl (lv_at hl 0 rfl) ?_
  refine lv_iload_n hx hb dX4_work_1 rfl (lv_at hl 1 rfl) ?_
  refine callRd hC (k_X4_isBoat l g ad σ x1) ci_X4_isBoat lk_X4_92 ⟨Nat.le_of_ble_eq_true rfl, Nat.le_of_ble_eq_true rfl⟩ hP hK (hE.S hS).none (q0 := 0) rfl rfl rfl rfl hl.1 rfl (Nat.le_of_ble_eq_true rfl) dX4_work_2 ⟨Nat.zero_le _, Nat.zero_le _⟩ ?_
  refine lv_if_ne (tgt := 10) hx hb dX4_work_5 (by decide) (fun c_1 => ?_) (fun c_1 => ?_)
  · refine lv_iload_n hx hb dX4_work_10 rfl (lv_at hl 2 rfl) ?_
    refine lv_iconst (v := 1) hx hb dX4_work_11 (by decide) ?_
    refine lv_bipush (v := 99) hx hb dX4_work_12 (by decide) ?_
    refine callRs hC (k_X4_in l g x2 1 99) ci_X4_in lk_X4_32 ⟨Nat.le_of_ble_eq_true rfl, Nat.le_of_ble_eq_true rfl⟩ hK (hE.S hS).none rfl hl.1 rfl (Nat.le_of_ble_eq_true rfl) dX4_work_14 ⟨Nat.zero_le _, Nat.zero_le _⟩ ?_
    refine lv_if_ne (tgt := 23) hx hb dX4_work_17 (by decide) (fun c_2 => ?_) (fun c_2 => ?_)
    · refine lv_aload_n hx hb dX4_work_23 rfl (lv_at hl 0 rfl) ?_
      refine lv_iload_n hx hb dX4_work_24 rfl (lv_at hl 1 rfl) ?_
      refine lv_bipush (v := 8) hx hb dX4_work_25 (by decide) ?_
      refine callRd hC (k_X4_of l g ad σ x1 8 (in_X4_isBoat c_1) (in_iff.mpr (by decide))) ci_X4_of lk_X4_36 ⟨Nat.le_of_ble_eq_true rfl, Nat.le_of_ble_eq_true rfl⟩ hP hK (hE.S hS).none (q0 := 0) rfl rfl rfl rfl hl.1 rfl (Nat.le_of_ble_eq_true rfl) dX4_work_27 ⟨Nat.zero_le _, Nat.zero_le _⟩ ?_
      refine lv_iload_n hx hb dX4_work_30 rfl (lv_at hl 2 rfl) ?_
      refine lv_iadd hx hb dX4_work_31 ?_
      refine lv_bipush (v := 99) hx hb dX4_work_32 (by decide) ?_
      refine lv_icmp_le (tgt := 40) hx hb dX4_work_34 (by decide) (fun c_3 => ?_) (fun c_3 => ?_)
      · refine lv_aload_n hx hb dX4_work_40 rfl (lv_at hl 0 rfl) ?_
        refine lv_aload_n hx hb dX4_work_41 rfl (lv_at hl 0 rfl) ?_
        refine gM_z hC rfl hK hP dX4_work_42 ?_
        refine callWv hC (k_X4_push_z l g ad σ h_st) ci_X4_push lk_X4_85 ⟨Nat.le_of_ble_eq_true rfl, Nat.le_of_ble_eq_true rfl⟩ hP hD hK hE hS hA (q0 := 0) rfl rfl rfl rfl hl.1 rfl (Nat.le_of_ble_eq_true rfl) dX4_work_45 ⟨Nat.zero_le _, Nat.zero_le _⟩ (fun H locs hP _ hD hS _ _ => ?_)
        refine lv_aload_n hx hb dX4_work_48 rfl (lv_at hl 0 rfl) ?_
        refine lv_iload_n hx hb dX4_work_49 rfl (lv_at hl 1 rfl) ?_
        refine lv_bipush (v := 8) hx hb dX4_work_50 (by decide) ?_
        refine lv_aload_n hx hb dX4_work_52 rfl (lv_at hl 0 rfl) ?_
        refine lv_iload_n hx hb dX4_work_53 rfl (lv_at hl 1 rfl) ?_
        refine lv_bipush (v := 8) hx hb dX4_work_54 (by decide) ?_
        refine callRd hC (k_X4_of l g ad (mX4_push_z σ) x1 8 (in_X4_isBoat c_1) (in_iff.mpr (by decide))) ci_X4_of lk_X4_36 ⟨Nat.le_of_ble_eq_true rfl, Nat.le_of_ble_eq_true rfl⟩ hP hK (hE.S hS).none (q0 := 0) rfl rfl rfl rfl hl.1 rfl (Nat.le_of_ble_eq_true rfl) dX4_work_56 ⟨Nat.zero_le _, Nat.zero_le _⟩ ?_
        refine lv_iload_n hx hb dX4_work_59 rfl (lv_at hl 2 rfl) ?_
        refine lv_iadd hx hb dX4_work_60 ?_
        refine callWv hC (k_X4_put l g ad (mX4_push_z σ) x1 8 ((mX4_of (mX4_push_z σ) x1 8) + x2) (in_X4_isBoat c_1) (in_iff.mpr (by decide))) ci_X4_put lk_X4_70 ⟨Nat.le_of_ble_eq_true rfl, Nat.le_of_ble_eq_true rfl⟩ hP hD hK hE hS hA (q0 := 0) rfl rfl rfl rfl hl.1 rfl (Nat.le_of_ble_eq_true rfl) dX4_work_61 ⟨Nat.zero_le _, Nat.zero_le _⟩ (fun H locs hP _ hD hS _ _ => ?_)
        refine lv_aload_n hx hb dX4_work_64 rfl (lv_at hl 0 rfl) ?_
        refine lv_iload_n hx hb dX4_work_65 rfl (lv_at hl 1 rfl) ?_
        refine lv_bipush (v := 8) hx hb dX4_work_66 (by decide) ?_
        refine callRd hC (k_X4_of l g ad (mX4_put (mX4_push_z σ) x1 8 ((mX4_of (mX4_push_z σ) x1 8) + x2)) x1 8 (in_X4_isBoat c_1) (in_iff.mpr (by decide))) ci_X4_of lk_X4_36 ⟨Nat.le_of_ble_eq_true rfl, Nat.le_of_ble_eq_true rfl⟩ hP hK (hE.S hS).none (q0 := 0) rfl rfl rfl rfl hl.1 rfl (Nat.le_of_ble_eq_true rfl) dX4_work_68 ⟨Nat.zero_le _, Nat.zero_le _⟩ ?_
        have hm : mX4_work σ x1 x2 = ((mX4_of (mX4_put (mX4_push_z σ) x1 8 ((mX4_of (mX4_push_z σ) x1 8) + x2)) x1 8), (mX4_put (mX4_push_z σ) x1 8 ((mX4_of (mX4_push_z σ) x1 8) + x2))) := by unfold mX4_work; rw [if_neg c_1, if_neg c_2, if_pos c_3]
        exact wr_ret hC hP (hAe ▸ hD) (hAe ▸ hS) dX4_work_71 (by rw [hm]) (by rw [hm])
      · refine lv_bipush (v := (-3)) hx hb dX4_work_37 (by decide) ?_
        have hm : mX4_work σ x1 x2 = ((-3), σ) := by unfold mX4_work; rw [if_neg c_1, if_neg c_2, if_neg c_3]
        exact wr_ret hC hP (hAe ▸ hD) (hAe ▸ hS) dX4_work_39 (by rw [hm]) (by rw [hm])
    · refine lv_bipush (v := (-2)) hx hb dX4_work_20 (by decide) ?_
      have hm : mX4_work σ x1 x2 = ((-2), σ) := by unfold mX4_work; rw [if_neg c_1, if_pos c_2]
      exact wr_ret hC hP (hAe ▸ hD) (hAe ▸ hS) dX4_work_22 (by rw [hm]) (by rw [hm])
  · refine lv_iconst (v := (-1)) hx hb dX4_work_8 (by decide) ?_
    have hm : mX4_work σ x1 x2 = ((-1), σ) := by unfold mX4_work; rw [if_pos c_1]
    exact wr_ret hC hP (hAe ▸ hD) (hAe ▸ hS) dX4_work_9 (by rw [hm]) (by rw [hm])
def mX4_noPass (σ : MS) (x1 : Int32) : Int32 := (if (mX4_in x1 1 99) = 0 then (-2) else (if (((M_z σ) (0 : Int32).toNatClampNeg) + x1) ≤ 9999 then 0 else (-3)))
set_option maxHeartbeats 4000000 in
set_option maxRecDepth 100000 in
theorem k_X4_noPass (l : Launch) (g : WG) (ad : AM) (σ : MS) (x1 : Int32) : Rd l yX4_noPass cX4_noPass 2 (some .int) 1 (Wl g (cM g ad σ) (fun _ => False)) [.ref ad.1, .int x1] (mX4_noPass σ x1) := by
  refine rd_of (by decide) (Nat.le_of_ble_eq_true rfl) ?_
  intro p e s m args below meth c ls hC hW hl
  obtain ⟨hP, hK, hE⟩ := hW
  obtain ⟨hx, hb, hml, hr, hown, hts, hlk, hnm⟩ := id hC
  have hl : lv_has ls 2 [(0, .ref ad.1), (1, .int x1)] := hl
  refine lv_iload_n hx hb dX4_noPass_0 rfl (lv_at hl 1 rfl) ?_
  refine lv_iconst (v := 1) hx hb dX4_noPass_1 (by decide) ?_
  refine lv_bipush (v := 99) hx hb dX4_noPass_2 (by decide) ?_
  refine callRs hC (k_X4_in l g x1 1 99) ci_X4_in lk_X4_32 ⟨Nat.le_of_ble_eq_true rfl, Nat.le_of_ble_eq_true rfl⟩ hK hE rfl hl.1 rfl (Nat.le_of_ble_eq_true rfl) dX4_noPass_4 ⟨Nat.zero_le _, Nat.zero_le _⟩ ?_
  refine lv_if_ne (tgt := 15) hx hb dX4_noPass_7 (by decide) (fun c_1 => ?_) (fun c_1 => ?_)
  · refine lv_aload_n hx hb dX4_noPass_15 rfl (lv_at hl 0 rfl) ?_
    refine gM_z hC rfl hK hP dX4_noPass_16 ?_
    refine lv_iconst (v := 0) hx hb dX4_noPass_19 (by decide) ?_
    refine lM_z hC hK hP (in_iff.mpr (by decide)) dX4_noPass_20 ?_
    refine lv_iload_n hx hb dX4_noPass_21 rfl (lv_at hl 1 rfl) ?_
    refine lv_iadd hx hb dX4_noPass_22 ?_
    refine lv_sipush (v := 9999) hx hb dX4_noPass_23 (by decide) ?_
    refine lv_icmp_le (tgt := 34) hx hb dX4_noPass_26 (by decide) (fun c_2 => ?_) (fun c_2 => ?_)
    · refine lv_iconst (v := 0) hx hb dX4_noPass_34 (by decide) ?_
      exact rd_ret hC dX4_noPass_35 (Eq.symm (by unfold mX4_noPass; rw [if_neg c_1, if_pos c_2]))
    · refine lv_bipush (v := (-3)) hx hb dX4_noPass_29 (by decide) ?_
      refine lv_goto (tgt := 35) hx hb dX4_noPass_31 (by decide) ?_
      exact rd_ret hC dX4_noPass_35 (Eq.symm (by unfold mX4_noPass; rw [if_neg c_1, if_neg c_2]))
  · refine lv_bipush (v := (-2)) hx hb dX4_noPass_10 (by decide) ?_
    refine lv_goto (tgt := 35) hx hb dX4_noPass_12 (by decide) ?_
    exact rd_ret hC dX4_noPass_35 (Eq.symm (by unfold mX4_noPass; rw [if_pos c_1]))
def mX4_doPass_L19 (x1 : Int32) : Nat → MS → Int32 → Int32 × MS
  | 0, σ, _ => (0, σ)
  | n + 1, σ, u2 => (if 20 ≤ u2 then ((mX4_tideAt σ ((M_z σ) (0 : Int32).toNatClampNeg)), σ) else (if (mX4_of σ u2 0) = 1 then (if (mX4_isAshore σ u2) = 0 then (mX4_doPass_L19 x1 n σ (u2 + 1)) else (if (mX4_of (mX4_put σ u2 9 ((mX4_of σ u2 9) + x1)) u2 8) ≤ x1 then (mX4_doPass_L19 x1 n (mX4_put (mX4_put σ u2 9 ((mX4_of σ u2 9) + x1)) u2 8 0) (u2 + 1)) else (mX4_doPass_L19 x1 n (mX4_put (mX4_put σ u2 9 ((mX4_of σ u2 9) + x1)) u2 8 ((mX4_of (mX4_put σ u2 9 ((mX4_of σ u2 9) + x1)) u2 8) - x1)) (u2 + 1)))) else (mX4_doPass_L19 x1 n σ (u2 + 1))))
set_option maxHeartbeats 4000000 in
set_option maxRecDepth 100000 in
theorem q_X4_doPass_19 {p : Program} {e : Env} {s : State} {m : MethodId} {args : Array Value} {below : List Frame} {meth : Method} {c : Code} (l : Launch) (g : WG) (ad : AM) (x1 : Int32) (hC : Cx p s m args meth c yX4_doPass cX4_doPass 3 (some .int)) (hK : va_K g.1 vwCl (tysW g) s) {A : Nat → Prop} {ws0 : va_W} (hE : Ex A s s.heap) (hA : ∀ q : Nat, s.heap.size ≤ q → A q) (hAe : A = va_A ws0 s.heap.size) {r : Int32 × MS} : ∀ (n : Nat) (σ : MS) (H : Heap) (locs : List Loc) (hP : va_P g.1 vwCl (cM g ad σ) H) (hD : va_D A (cM g ad σ)) (hS : va_S A s.heap H locs) (u2 : Int32) (hi0 : 0 ≤ u2.toInt) (hi1 : u2.toInt ≤ 20) (hm : ((21 : Int) - u2.toInt).toNat < n) (hR : r = mX4_doPass_L19 x1 n σ u2) (ls : Array Slot) (hl : lv_has ls 3 [(2, .int u2), (0, .ref ad.1), (1, .int x1)]), W p l e (rk 2) s m args below meth c H locs 0 0 (MQ below (va_Qi (fun x _ => x = r.1) (Bw g ws0 (cM g ad r.2) s.heap.size) (va_A ws0 s.heap.size)) args s 0 0 (va_A ws0 s.heap.size)) (F0 m 19 ls []) := by
  obtain ⟨hx, hb, hml, hr, hown, hts, hlk, hnm⟩ := id hC
  intro n
  induction n with
  | zero => intro σ H locs hP hD hS u2 hi0 hi1 hm hR ls hl; exact absurd hm (Nat.not_lt_zero _)
  | succ n ih =>
    intro σ H locs hP hD hS u2 hi0 hi1 hm hR ls hl
    refine lv_iload_n hx hb dX4_doPass_19 rfl (lv_at hl 0 rfl) ?_
    refine lv_bipush (v := 20) hx hb dX4_doPass_20 (by decide) ?_
    refine lv_icmp_ge (tgt := 96) hx hb dX4_doPass_22 (by decide) (fun c_1 => ?_) (fun c_1 => ?_)
    · refine lv_aload_n hx hb dX4_doPass_96 rfl (lv_at hl 1 rfl) ?_
      refine lv_aload_n hx hb dX4_doPass_97 rfl (lv_at hl 1 rfl) ?_
      refine gM_z hC rfl hK hP dX4_doPass_98 ?_
      refine lv_iconst (v := 0) hx hb dX4_doPass_101 (by decide) ?_
      refine lM_z hC hK hP (in_iff.mpr (by decide)) dX4_doPass_102 ?_
      refine callRd hC (k_X4_tideAt l g ad σ ((M_z σ) (0 : Int32).toNatClampNeg)) ci_X4_tideAt lk_X4_101 ⟨Nat.le_of_ble_eq_true rfl, Nat.le_of_ble_eq_true rfl⟩ hP hK (hE.S hS).none (q0 := 0) rfl rfl rfl rfl hl.1 rfl (Nat.le_of_ble_eq_true rfl) dX4_doPass_103 ⟨Nat.zero_le _, Nat.zero_le _⟩ ?_
      have hm : r = ((mX4_tideAt σ ((M_z σ) (0 : Int32).toNatClampNeg)), σ) := by rw [hR, mX4_doPass_L19, if_pos c_1]
      exact wr_ret hC hP (hAe ▸ hD) (hAe ▸ hS) dX4_doPass_106 (by rw [hm]) (by rw [hm])
    · refine lv_aload_n hx hb dX4_doPass_25 rfl (lv_at hl 1 rfl) ?_
      refine lv_iload_n hx hb dX4_doPass_26 rfl (lv_at hl 0 rfl) ?_
      refine lv_iconst (v := 0) hx hb dX4_doPass_27 (by decide) ?_
      refine callRd hC (k_X4_of l g ad σ u2 0 (in_up (n := 20) rfl hi0 c_1) (in_iff.mpr (by decide))) ci_X4_of lk_X4_36 ⟨Nat.le_of_ble_eq_true rfl, Nat.le_of_ble_eq_true rfl⟩ hP hK (hE.S hS).none (q0 := 0) rfl rfl rfl rfl hl.1 rfl (Nat.le_of_ble_eq_true rfl) dX4_doPass_28 ⟨Nat.zero_le _, Nat.zero_le _⟩ ?_
      refine lv_iconst (v := 1) hx hb dX4_doPass_31 (by decide) ?_
      refine lv_icmp_ne (tgt := 90) hx hb dX4_doPass_32 (by decide) (fun c_2 => ?_) (fun c_2 => ?_)
      · refine lv_iinc (v := (u2 + 1)) (lv' := [(2, .int (u2 + 1)), (0, .ref ad.1), (1, .int x1)]) hx hb dX4_doPass_90 hl (k := 0) rfl rfl (by decide) rfl (fun ls hl => ?_)
        refine lv_goto (tgt := 19) hx hb dX4_doPass_93 (by decide) ?_
        have e9 := up_add (d := 1) (k := 1) (M := 20) rfl hi0 hi1 (by decide) (by decide)
        have e8 := nle_ti (k := 20) rfl c_1
        exact ih σ _ _ hP hD hS (u2 + 1) (by rw [e9]; omega) (by rw [e9]; omega) (by rw [e9]; omega) (by rw [hR, mX4_doPass_L19, if_neg c_1, if_neg c_2]) _ (lv_sub hl [0, 1, 2] rfl)
      · refine lv_aload_n hx hb dX4_doPass_35 rfl (lv_at hl 1 rfl) ?_
        refine lv_iload_n hx hb dX4_doPass_36 rfl (lv_at hl 0 rfl) ?_
        refine callRd hC (k_X4_isAshore l g ad σ u2 (in_up (n := 20) rfl hi0 c_1)) ci_X4_isAshore lk_X4_40 ⟨Nat.le_of_ble_eq_true rfl, Nat.le_of_ble_eq_true rfl⟩ hP hK (hE.S hS).none (q0 := 0) rfl rfl rfl rfl hl.1 rfl (Nat.le_of_ble_eq_true rfl) dX4_doPass_37 ⟨Nat.zero_le _, Nat.zero_le _⟩ ?_
        refine lv_if_eq (tgt := 90) hx hb dX4_doPass_40 (by decide) (fun c_3 => ?_) (fun c_3 => ?_)
        · refine lv_iinc (v := (u2 + 1)) (lv' := [(2, .int (u2 + 1)), (0, .ref ad.1), (1, .int x1)]) hx hb dX4_doPass_90 hl (k := 0) rfl rfl (by decide) rfl (fun ls hl => ?_)
          refine lv_goto (tgt := 19) hx hb dX4_doPass_93 (by decide) ?_
          have e9 := up_add (d := 1) (k := 1) (M := 20) rfl hi0 hi1 (by decide) (by decide)
          have e8 := nle_ti (k := 20) rfl c_1
          exact ih σ _ _ hP hD hS (u2 + 1) (by rw [e9]; omega) (by rw [e9]; omega) (by rw [e9]; omega) (by rw [hR, mX4_doPass_L19, if_neg c_1, if_pos c_2, if_pos c_3]) _ (lv_sub hl [0, 1, 2] rfl)
        · refine lv_aload_n hx hb dX4_doPass_43 rfl (lv_at hl 1 rfl) ?_
          refine lv_iload_n hx hb dX4_doPass_44 rfl (lv_at hl 0 rfl) ?_
          refine lv_bipush (v := 9) hx hb dX4_doPass_45 (by decide) ?_
          refine lv_aload_n hx hb dX4_doPass_47 rfl (lv_at hl 1 rfl) ?_
          refine lv_iload_n hx hb dX4_doPass_48 rfl (lv_at hl 0 rfl) ?_
          refine lv_bipush (v := 9) hx hb dX4_doPass_49 (by decide) ?_
          refine callRd hC (k_X4_of l g ad σ u2 9 (in_up (n := 20) rfl hi0 c_1) (in_iff.mpr (by decide))) ci_X4_of lk_X4_36 ⟨Nat.le_of_ble_eq_true rfl, Nat.le_of_ble_eq_true rfl⟩ hP hK (hE.S hS).none (q0 := 0) rfl rfl rfl rfl hl.1 rfl (Nat.le_of_ble_eq_true rfl) dX4_doPass_51 ⟨Nat.zero_le _, Nat.zero_le _⟩ ?_
          refine lv_iload_n hx hb dX4_doPass_54 rfl (lv_at hl 2 rfl) ?_
          refine lv_iadd hx hb dX4_doPass_55 ?_
          refine callWv hC (k_X4_put l g ad σ u2 9 ((mX4_of σ u2 9) + x1) (in_up (n := 20) rfl hi0 c_1) (in_iff.mpr (by decide))) ci_X4_put lk_X4_70 ⟨Nat.le_of_ble_eq_true rfl, Nat.le_of_ble_eq_true rfl⟩ hP hD hK hE hS hA (q0 := 0) rfl rfl rfl rfl hl.1 rfl (Nat.le_of_ble_eq_true rfl) dX4_doPass_56 ⟨Nat.zero_le _, Nat.zero_le _⟩ (fun H locs hP _ hD hS _ _ => ?_)
          refine lv_aload_n hx hb dX4_doPass_59 rfl (lv_at hl 1 rfl) ?_
          refine lv_iload_n hx hb dX4_doPass_60 rfl (lv_at hl 0 rfl) ?_
          refine lv_bipush (v := 8) hx hb dX4_doPass_61 (by decide) ?_
          refine lv_aload_n hx hb dX4_doPass_63 rfl (lv_at hl 1 rfl) ?_
          refine lv_iload_n hx hb dX4_doPass_64 rfl (lv_at hl 0 rfl) ?_
          refine lv_bipush (v := 8) hx hb dX4_doPass_65 (by decide) ?_
          refine callRd hC (k_X4_of l g ad (mX4_put σ u2 9 ((mX4_of σ u2 9) + x1)) u2 8 (in_up (n := 20) rfl hi0 c_1) (in_iff.mpr (by decide))) ci_X4_of lk_X4_36 ⟨Nat.le_of_ble_eq_true rfl, Nat.le_of_ble_eq_true rfl⟩ hP hK (hE.S hS).none (q0 := 0) rfl rfl rfl rfl hl.1 rfl (Nat.le_of_ble_eq_true rfl) dX4_doPass_67 ⟨Nat.zero_le _, Nat.zero_le _⟩ ?_
          refine lv_iload_n hx hb dX4_doPass_70 rfl (lv_at hl 2 rfl) ?_
          refine lv_icmp_le (tgt := 86) hx hb dX4_doPass_71 (by decide) (fun c_4 => ?_) (fun c_4 => ?_)
          · refine lv_iconst (v := 0) hx hb dX4_doPass_86 (by decide) ?_
            refine callWv hC (k_X4_put l g ad (mX4_put σ u2 9 ((mX4_of σ u2 9) + x1)) u2 8 0 (in_up (n := 20) rfl hi0 c_1) (in_iff.mpr (by decide))) ci_X4_put lk_X4_70 ⟨Nat.le_of_ble_eq_true rfl, Nat.le_of_ble_eq_true rfl⟩ hP hD hK hE hS hA (q0 := 0) rfl rfl rfl rfl hl.1 rfl (Nat.le_of_ble_eq_true rfl) dX4_doPass_87 ⟨Nat.zero_le _, Nat.zero_le _⟩ (fun H locs hP _ hD hS _ _ => ?_)
            refine lv_iinc (v := (u2 + 1)) (lv' := [(2, .int (u2 + 1)), (0, .ref ad.1), (1, .int x1)]) hx hb dX4_doPass_90 hl (k := 0) rfl rfl (by decide) rfl (fun ls hl => ?_)
            refine lv_goto (tgt := 19) hx hb dX4_doPass_93 (by decide) ?_
            have e9 := up_add (d := 1) (k := 1) (M := 20) rfl hi0 hi1 (by decide) (by decide)
            have e8 := nle_ti (k := 20) rfl c_1
            exact ih (mX4_put (mX4_put σ u2 9 ((mX4_of σ u2 9) + x1)) u2 8 0) _ _ hP hD hS (u2 + 1) (by rw [e9]; omega) (by rw [e9]; omega) (by rw [e9]; omega) (by rw [hR, mX4_doPass_L19, if_neg c_1, if_pos c_2, if_neg c_3, if_pos c_4]) _ (lv_sub hl [0, 1, 2] rfl)
          · refine lv_aload_n hx hb dX4_doPass_74 rfl (lv_at hl 1 rfl) ?_
            refine lv_iload_n hx hb dX4_doPass_75 rfl (lv_at hl 0 rfl) ?_
            refine lv_bipush (v := 8) hx hb dX4_doPass_76 (by decide) ?_
            refine callRd hC (k_X4_of l g ad (mX4_put σ u2 9 ((mX4_of σ u2 9) + x1)) u2 8 (in_up (n := 20) rfl hi0 c_1) (in_iff.mpr (by decide))) ci_X4_of lk_X4_36 ⟨Nat.le_of_ble_eq_true rfl, Nat.le_of_ble_eq_true rfl⟩ hP hK (hE.S hS).none (q0 := 0) rfl rfl rfl rfl hl.1 rfl (Nat.le_of_ble_eq_true rfl) dX4_doPass_78 ⟨Nat.zero_le _, Nat.zero_le _⟩ ?_
            refine lv_iload_n hx hb dX4_doPass_81 rfl (lv_at hl 2 rfl) ?_
            refine lv_isub hx hb dX4_doPass_82 ?_
            refine lv_goto (tgt := 87) hx hb dX4_doPass_83 (by decide) ?_
            refine callWv hC (k_X4_put l g ad (mX4_put σ u2 9 ((mX4_of σ u2 9) + x1)) u2 8 ((mX4_of (mX4_put σ u2 9 ((mX4_of σ u2 9) + x1)) u2 8) - x1) (in_up (n := 20) rfl hi0 c_1) (in_iff.mpr (by decide))) ci_X4_put lk_X4_70 ⟨Nat.le_of_ble_eq_true rfl, Nat.le_of_ble_eq_true rfl⟩ hP hD hK hE hS hA (q0 := 0) rfl rfl rfl rfl hl.1 rfl (Nat.le_of_ble_eq_true rfl) dX4_doPass_87 ⟨Nat.zero_le _, Nat.zero_le _⟩ (fun H locs hP _ hD hS _ _ => ?_)
            refine lv_iinc (v := (u2 + 1)) (lv' := [(2, .int (u2 + 1)), (0, .ref ad.1), (1, .int x1)]) hx hb dX4_doPass_90 hl (k := 0) rfl rfl (by decide) rfl (fun ls hl => ?_)
            refine lv_goto (tgt := 19) hx hb dX4_doPass_93 (by decide) ?_
            have e9 := up_add (d := 1) (k := 1) (M := 20) rfl hi0 hi1 (by decide) (by decide)
            have e8 := nle_ti (k := 20) rfl c_1
            exact ih (mX4_put (mX4_put σ u2 9 ((mX4_of σ u2 9) + x1)) u2 8 ((mX4_of (mX4_put σ u2 9 ((mX4_of σ u2 9) + x1)) u2 8) - x1)) _ _ hP hD hS (u2 + 1) (by rw [e9]; omega) (by rw [e9]; omega) (by rw [e9]; omega) (by rw [hR, mX4_doPass_L19, if_neg c_1, if_pos c_2, if_neg c_3, if_neg c_4]) _ (lv_sub hl [0, 1, 2] rfl)
def mX4_doPass (σ : MS) (x1 : Int32) : Int32 × MS := (mX4_doPass_L19 x1 22 (M_set_z (M_set_z σ (upd (M_z σ) (0 : Int32).toNatClampNeg (((M_z σ) (0 : Int32).toNatClampNeg) + x1))) (upd (M_z (M_set_z σ (upd (M_z σ) (0 : Int32).toNatClampNeg (((M_z σ) (0 : Int32).toNatClampNeg) + x1)))) (1 : Int32).toNatClampNeg 0)) 0)
set_option maxHeartbeats 4000000 in
set_option maxRecDepth 100000 in
theorem k_X4_doPass (l : Launch) (g : WG) (ad : AM) (σ : MS) (x1 : Int32) : Wr l yX4_doPass cX4_doPass 3 (some .int) 2 g (cM g ad σ) (cM g ad (mX4_doPass σ x1).2) [.ref ad.1, .int x1] (mX4_doPass σ x1).1 := by
  refine wr_of (by decide) (Nat.le_of_ble_eq_true rfl) ?_
  intro p e s m args below meth c ls A hC hAe hP hD hK hE hA hS hl
  obtain ⟨hx, hb, hml, hr, hown, hts, hlk, hnm⟩ := id hC
  have hl : lv_has ls 3 [(0, .ref ad.1), (1, .int x1)] := hl
  refine lv_aload_n hx hb dX4_doPass_0 rfl (lv_at hl 0 rfl) ?_
  refine gM_z hC rfl hK hP dX4_doPass_1 ?_
  refine lv_iconst (v := 0) hx hb dX4_doPass_4 (by decide) ?_
  refine lv_dup2_11 hx hb dX4_doPass_5 rfl rfl ?_
  refine lM_z hC hK hP (in_iff.mpr (by decide)) dX4_doPass_6 ?_
  refine lv_iload_n hx hb dX4_doPass_7 rfl (lv_at hl 1 rfl) ?_
  refine lv_iadd hx hb dX4_doPass_8 ?_
  refine sM_z hC hK hP hD hS (in_iff.mpr (by decide)) dX4_doPass_9 (fun H locs hP hD hS => ?_)
  refine lv_aload_n hx hb dX4_doPass_10 rfl (lv_at hl 0 rfl) ?_
  refine gM_z hC rfl hK hP dX4_doPass_11 ?_
  refine lv_iconst (v := 1) hx hb dX4_doPass_14 (by decide) ?_
  refine lv_iconst (v := 0) hx hb dX4_doPass_15 (by decide) ?_
  refine sM_z hC hK hP hD hS (in_iff.mpr (by decide)) dX4_doPass_16 (fun H locs hP hD hS => ?_)
  refine lv_iconst (v := 0) hx hb dX4_doPass_17 (by decide) ?_
  refine lv_istore_n (lv' := [(2, .int 0), (0, .ref ad.1), (1, .int x1)]) hx hb dX4_doPass_18 rfl hl (by decide) rfl (fun ls hl => ?_)
  refine q_X4_doPass_19 l g ad x1 hC hK hE hA hAe 22 (M_set_z (M_set_z σ (upd (M_z σ) (0 : Int32).toNatClampNeg (((M_z σ) (0 : Int32).toNatClampNeg) + x1))) (upd (M_z (M_set_z σ (upd (M_z σ) (0 : Int32).toNatClampNeg (((M_z σ) (0 : Int32).toNatClampNeg) + x1)))) (1 : Int32).toNatClampNeg 0)) _ _ hP hD hS 0 (by decide) (by decide) (by decide) ?_ _ (lv_sub hl [0, 1, 2] rfl)
  exact by unfold mX4_doPass; rfl
def mX4_pass (σ : MS) (x1 : Int32) : Int32 × MS := (if 0 ≤ (mX4_noPass σ x1) then (mX4_doPass (mX4_push_z σ) x1) else ((mX4_noPass σ x1), σ))
set_option maxHeartbeats 4000000 in
set_option maxRecDepth 100000 in
theorem k_X4_pass (l : Launch) (g : WG) (ad : AM) (σ : MS) (x1 : Int32) (h_st : 0 ≤ (M_states σ).toInt ∧ (M_states σ).toInt ≤ 4) : Wr l yX4_pass cX4_pass 3 (some .int) 3 g (cM g ad σ) (cM g ad (mX4_pass σ x1).2) [.ref ad.1, .int x1] (mX4_pass σ x1).1 := by
  refine wr_of (by decide) (Nat.le_of_ble_eq_true rfl) ?_
  intro p e s m args below meth c ls A hC hAe hP hD hK hE hA hS hl
  obtain ⟨hx, hb, hml, hr, hown, hts, hlk, hnm⟩ := id hC
  have hl : lv_has ls 3 [(0, .ref ad.1), (1, .int x1)] := hl
  refine lv_aload_n hx hb dX4_pass_0 rfl (lv_at hl 0 rfl) ?_
  refine lv_iload_n hx hb dX4_pass_1 rfl (lv_at hl 1 rfl) ?_
  refine callRd hC (k_X4_noPass l g ad σ x1) ci_X4_noPass lk_X4_160 ⟨Nat.le_of_ble_eq_true rfl, Nat.le_of_ble_eq_true rfl⟩ hP hK (hE.S hS).none (q0 := 0) rfl rfl rfl rfl hl.1 rfl (Nat.le_of_ble_eq_true rfl) dX4_pass_2 ⟨Nat.zero_le _, Nat.zero_le _⟩ ?_
  refine lv_istore_n (lv' := [(2, .int (mX4_noPass σ x1)), (0, .ref ad.1), (1, .int x1)]) hx hb dX4_pass_5 rfl hl (by decide) rfl (fun ls hl => ?_)
  refine lv_iload_n hx hb dX4_pass_6 rfl (lv_at hl 0 rfl) ?_
  refine lv_if_ge (tgt := 12) hx hb dX4_pass_7 (by decide) (fun c_1 => ?_) (fun c_1 => ?_)
  · refine lv_aload_n hx hb dX4_pass_12 rfl (lv_at hl 1 rfl) ?_
    refine lv_aload_n hx hb dX4_pass_13 rfl (lv_at hl 1 rfl) ?_
    refine gM_z hC rfl hK hP dX4_pass_14 ?_
    refine callWv hC (k_X4_push_z l g ad σ h_st) ci_X4_push lk_X4_85 ⟨Nat.le_of_ble_eq_true rfl, Nat.le_of_ble_eq_true rfl⟩ hP hD hK hE hS hA (q0 := 0) rfl rfl rfl rfl hl.1 rfl (Nat.le_of_ble_eq_true rfl) dX4_pass_17 ⟨Nat.zero_le _, Nat.zero_le _⟩ (fun H locs hP _ hD hS _ _ => ?_)
    refine lv_aload_n hx hb dX4_pass_20 rfl (lv_at hl 1 rfl) ?_
    refine lv_iload_n hx hb dX4_pass_21 rfl (lv_at hl 2 rfl) ?_
    refine callWr hC (k_X4_doPass l g ad (mX4_push_z σ) x1) ci_X4_doPass lk_X4_163 ⟨Nat.le_of_ble_eq_true rfl, Nat.le_of_ble_eq_true rfl⟩ hP hD hK hE hS hA (q0 := 0) rfl rfl rfl rfl hl.1 rfl (Nat.le_of_ble_eq_true rfl) dX4_pass_22 ⟨Nat.zero_le _, Nat.zero_le _⟩ (fun H locs hP _ hD hS _ _ => ?_)
    have hm : mX4_pass σ x1 = (mX4_doPass (mX4_push_z σ) x1) := by unfold mX4_pass; rw [if_pos c_1]
    exact wr_ret hC hP (hAe ▸ hD) (hAe ▸ hS) dX4_pass_25 (by rw [hm]) (by rw [hm])
  · refine lv_iload_n hx hb dX4_pass_10 rfl (lv_at hl 0 rfl) ?_
    have hm : mX4_pass σ x1 = ((mX4_noPass σ x1), σ) := by unfold mX4_pass; rw [if_neg c_1]
    exact wr_ret hC hP (hAe ▸ hD) (hAe ▸ hS) dX4_pass_11 (by rw [hm]) (by rw [hm])
theorem in_ne60 {σ : MS} (h : 0 ≤ (M_length σ).toInt ∧ (M_length σ).toInt ≤ 60) (c : ¬ (M_length σ) = 60) : vp_in (M_length σ) 60 := by
  rw [eq_ti] at c
  have e : (60 : Int32).toInt = 60 := rfl
  exact in_iff.mpr ⟨h.1, by omega⟩
def mX4_type (σ : MS) (x1 : Int32) : Int32 × MS := (if (M_length σ) = 60 then ((-3), σ) else ((M_length (M_set_length (M_set_text σ (upd (M_text σ) (M_length σ).toNatClampNeg x1)) ((M_length (M_set_text σ (upd (M_text σ) (M_length σ).toNatClampNeg x1))) + 1))), (M_set_length (M_set_text σ (upd (M_text σ) (M_length σ).toNatClampNeg x1)) ((M_length (M_set_text σ (upd (M_text σ) (M_length σ).toNatClampNeg x1))) + 1))))
set_option maxHeartbeats 4000000 in
set_option maxRecDepth 100000 in
theorem k_X4_type (l : Launch) (g : WG) (ad : AM) (σ : MS) (x1 : Int32) (h_len : 0 ≤ (M_length σ).toInt ∧ (M_length σ).toInt ≤ 60) : Wr l yX4_type cX4_type 2 (some .int) 0 g (cM g ad σ) (cM g ad (mX4_type σ x1).2) [.ref ad.1, .int x1] (mX4_type σ x1).1 := by
  refine wr_of (by decide) (Nat.le_of_ble_eq_true rfl) ?_
  intro p e s m args below meth c ls A hC hAe hP hD hK hE hA hS hl
  obtain ⟨hx, hb, hml, hr, hown, hts, hlk, hnm⟩ := id hC
  have hl : lv_has ls 2 [(0, .ref ad.1), (1, .int x1)] := hl
  refine lv_aload_n hx hb dX4_type_0 rfl (lv_at hl 0 rfl) ?_
  refine gM_length hC rfl hK hP dX4_type_1 ?_
  refine lv_bipush (v := 60) hx hb dX4_type_4 (by decide) ?_
  refine lv_icmp_ne (tgt := 12) hx hb dX4_type_6 (by decide) (fun c_1 => ?_) (fun c_1 => ?_)
  · refine lv_aload_n hx hb dX4_type_12 rfl (lv_at hl 0 rfl) ?_
    refine gM_text hC rfl hK hP dX4_type_13 ?_
    refine lv_aload_n hx hb dX4_type_16 rfl (lv_at hl 0 rfl) ?_
    refine gM_length hC rfl hK hP dX4_type_17 ?_
    refine lv_iload_n hx hb dX4_type_20 rfl (lv_at hl 1 rfl) ?_
    refine sM_text hC hK hP hD hS (in_ne60 h_len c_1) dX4_type_21 (fun H locs hP hD hS => ?_)
    refine lv_aload_n hx hb dX4_type_22 rfl (lv_at hl 0 rfl) ?_
    refine lv_dup hx hb dX4_type_23 rfl ?_
    refine gM_length hC rfl hK hP dX4_type_24 ?_
    refine lv_iconst (v := 1) hx hb dX4_type_27 (by decide) ?_
    refine lv_iadd hx hb dX4_type_28 ?_
    refine pM_length hC rfl hK hP hD hS dX4_type_29 (fun H locs hP hD hS => ?_)
    refine lv_aload_n hx hb dX4_type_32 rfl (lv_at hl 0 rfl) ?_
    refine gM_length hC rfl hK hP dX4_type_33 ?_
    have hm : mX4_type σ x1 = ((M_length (M_set_length (M_set_text σ (upd (M_text σ) (M_length σ).toNatClampNeg x1)) ((M_length (M_set_text σ (upd (M_text σ) (M_length σ).toNatClampNeg x1))) + 1))), (M_set_length (M_set_text σ (upd (M_text σ) (M_length σ).toNatClampNeg x1)) ((M_length (M_set_text σ (upd (M_text σ) (M_length σ).toNatClampNeg x1))) + 1))) := by unfold mX4_type; rw [if_neg c_1]
    exact wr_ret hC hP (hAe ▸ hD) (hAe ▸ hS) dX4_type_36 (by rw [hm]) (by rw [hm])
  · refine lv_bipush (v := (-3)) hx hb dX4_type_9 (by decide) ?_
    have hm : mX4_type σ x1 = ((-3), σ) := by unfold mX4_type; rw [if_pos c_1]
    exact wr_ret hC hP (hAe ▸ hD) (hAe ▸ hS) dX4_type_11 (by rw [hm]) (by rw [hm])
def mX4_clearText (σ : MS) : Int32 × MS := ((M_length σ), (M_set_length σ 0))
set_option maxHeartbeats 4000000 in
set_option maxRecDepth 100000 in
theorem k_X4_clearText (l : Launch) (g : WG) (ad : AM) (σ : MS) : Wr l yX4_clearText cX4_clearText 2 (some .int) 0 g (cM g ad σ) (cM g ad (mX4_clearText σ).2) [.ref ad.1] (mX4_clearText σ).1 := by
  refine wr_of (by decide) (Nat.le_of_ble_eq_true rfl) ?_
  intro p e s m args below meth c ls A hC hAe hP hD hK hE hA hS hl
  obtain ⟨hx, hb, hml, hr, hown, hts, hlk, hnm⟩ := id hC
  have hl : lv_has ls 2 [(0, .ref ad.1)] := hl
  refine lv_aload_n hx hb dX4_clearText_0 rfl (lv_at hl 0 rfl) ?_
  refine gM_length hC rfl hK hP dX4_clearText_1 ?_
  refine lv_istore_n (lv' := [(1, .int (M_length σ)), (0, .ref ad.1)]) hx hb dX4_clearText_4 rfl hl (by decide) rfl (fun ls hl => ?_)
  refine lv_aload_n hx hb dX4_clearText_5 rfl (lv_at hl 1 rfl) ?_
  refine lv_iconst (v := 0) hx hb dX4_clearText_6 (by decide) ?_
  refine pM_length hC rfl hK hP hD hS dX4_clearText_7 (fun H locs hP hD hS => ?_)
  refine lv_iload_n hx hb dX4_clearText_10 rfl (lv_at hl 0 rfl) ?_
  have hm : mX4_clearText σ = ((M_length σ), (M_set_length σ 0)) := by unfold mX4_clearText; rfl
  exact wr_ret hC hP (hAe ▸ hD) (hAe ▸ hS) dX4_clearText_11 (by rw [hm]) (by rw [hm])
theorem pl_in {σ : MS} {x : Int32} (h : 0 ≤ x.toInt ∧ (M_length σ).toInt ≤ 60) (c : ¬ (M_length σ) ≤ x) : vp_in x 60 := by
  rw [le_ti] at c
  exact in_iff.mpr ⟨h.1, by omega⟩
def mX4_at (σ : MS) (x1 : Int32) : Int32 := (if (M_length σ) ≤ x1 then 0 else ((M_text σ) x1.toNatClampNeg))
set_option maxHeartbeats 4000000 in
set_option maxRecDepth 100000 in
theorem k_X4_at (l : Launch) (g : WG) (ad : AM) (σ : MS) (x1 : Int32) (h_pl : 0 ≤ x1.toInt ∧ (M_length σ).toInt ≤ 60) : Rd l yX4_at cX4_at 2 (some .int) 0 (Wl g (cM g ad σ) (fun _ => False)) [.ref ad.1, .int x1] (mX4_at σ x1) := by
  refine rd_of (by decide) (Nat.le_of_ble_eq_true rfl) ?_
  intro p e s m args below meth c ls hC hW hl
  obtain ⟨hP, hK, hE⟩ := hW
  obtain ⟨hx, hb, hml, hr, hown, hts, hlk, hnm⟩ := id hC
  have hl : lv_has ls 2 [(0, .ref ad.1), (1, .int x1)] := hl
  refine lv_iload_n hx hb dX4_at_0 rfl (lv_at hl 1 rfl) ?_
  refine lv_aload_n hx hb dX4_at_1 rfl (lv_at hl 0 rfl) ?_
  refine gM_length hC rfl hK hP dX4_at_2 ?_
  refine lv_icmp_ge (tgt := 17) hx hb dX4_at_5 (by decide) (fun c_1 => ?_) (fun c_1 => ?_)
  · refine lv_iconst (v := 0) hx hb dX4_at_17 (by decide) ?_
    exact rd_ret hC dX4_at_18 (Eq.symm (by unfold mX4_at; rw [if_pos c_1]))
  · refine lv_aload_n hx hb dX4_at_8 rfl (lv_at hl 0 rfl) ?_
    refine gM_text hC rfl hK hP dX4_at_9 ?_
    refine lv_iload_n hx hb dX4_at_12 rfl (lv_at hl 1 rfl) ?_
    refine lM_text hC hK hP (pl_in h_pl c_1) dX4_at_13 ?_
    refine lv_goto (tgt := 18) hx hb dX4_at_14 (by decide) ?_
    exact rd_ret hC dX4_at_18 (Eq.symm (by unfold mX4_at; rw [if_neg c_1]))
def mX4_isDigit (x1 : Int32) : Int32 := (mX4_in x1 48 57)
set_option maxHeartbeats 4000000 in
set_option maxRecDepth 100000 in
theorem k_X4_isDigit (l : Launch) (g : WG) (x1 : Int32) : Rd l yX4_isDigit cX4_isDigit 1 (some .boolean) 1 (Wl g [] (fun _ => False)) [.int x1] (mX4_isDigit x1) := by
  refine rd_of (by decide) (Nat.le_of_ble_eq_true rfl) ?_
  intro p e s m args below meth c ls hC hW hl
  obtain ⟨hP, hK, hE⟩ := hW
  obtain ⟨hx, hb, hml, hr, hown, hts, hlk, hnm⟩ := id hC
  have hl : lv_has ls 1 [(0, .int x1)] := hl
  refine lv_iload_n hx hb dX4_isDigit_0 rfl (lv_at hl 0 rfl) ?_
  refine lv_bipush (v := 48) hx hb dX4_isDigit_1 (by decide) ?_
  refine lv_bipush (v := 57) hx hb dX4_isDigit_3 (by decide) ?_
  refine callRs hC (k_X4_in l g x1 48 57) ci_X4_in lk_X4_32 ⟨Nat.le_of_ble_eq_true rfl, Nat.le_of_ble_eq_true rfl⟩ hK hE rfl hl.1 rfl (Nat.le_of_ble_eq_true rfl) dX4_isDigit_5 ⟨Nat.zero_le _, Nat.zero_le _⟩ ?_
  exact rd_zret hC dX4_isDigit_8 (bz_X4_in ..) (Eq.symm (by unfold mX4_isDigit; rfl))
theorem at_dig {σ : MS} {x : Int32} (h : (M_length σ).toInt ≤ 60) (c : ¬ mX4_isDigit (mX4_at σ x) = 0) : x.toInt < (M_length σ).toInt := by
  unfold mX4_at at c
  split at c
  · exact absurd (by decide) c
  · rename_i q
    rw [le_ti] at q
    omega
def mX4_readNumber_L36 (x1 : Int32) (x2 : Int32) (x3 : Int32) : Nat → MS → Int32 → Int32 → Int32 × MS
  | 0, σ, _, _ => (0, σ)
  | n + 1, σ, u5, u4 => (if u4 ≤ 0 then (u5, (M_set_first (M_set_second σ (M_first σ)) u4)) else (if (mX4_isDigit (mX4_at σ u5)) = 0 then (u5, (M_set_first (M_set_second σ (M_first σ)) u4)) else (if x3 < (((10 * u4) + (mX4_at σ u5)) - 48) then (u5, (M_set_first (M_set_second σ (M_first σ)) u4)) else (mX4_readNumber_L36 x1 x2 x3 n σ (u5 + 1) (((10 * u4) + (mX4_at σ u5)) - 48)))))
set_option maxHeartbeats 4000000 in
set_option maxRecDepth 100000 in
theorem q_X4_readNumber_36 {p : Program} {e : Env} {s : State} {m : MethodId} {args : Array Value} {below : List Frame} {meth : Method} {c : Code} (l : Launch) (g : WG) (ad : AM) (x1 : Int32) (x2 : Int32) (x3 : Int32) (hC : Cx p s m args meth c yX4_readNumber cX4_readNumber 6 (some .int)) (hK : va_K g.1 vwCl (tysW g) s) {A : Nat → Prop} {ws0 : va_W} (hE : Ex A s s.heap) (hA : ∀ q : Nat, s.heap.size ≤ q → A q) (hAe : A = va_A ws0 s.heap.size) {r : Int32 × MS} : ∀ (n : Nat) (σ : MS) (H : Heap) (locs : List Loc) (hP : va_P g.1 vwCl (cM g ad σ) H) (hD : va_D A (cM g ad σ)) (hS : va_S A s.heap H locs) (u5 : Int32) (u4 : Int32) (hi0 : 0 ≤ u5.toInt) (hlen : (M_length σ).toInt ≤ 60) (hm : ((61 : Int) - u5.toInt).toNat < n) (hR : r = mX4_readNumber_L36 x1 x2 x3 n σ u5 u4) (ls : Array Slot) (hl : lv_has ls 6 [(5, .int u5), (4, .int u4), (0, .ref ad.1), (1, .int x1), (2, .int x2), (3, .int x3)]), W p l e (rk 2) s m args below meth c H locs 0 0 (MQ below (va_Qi (fun x _ => x = r.1) (Bw g ws0 (cM g ad r.2) s.heap.size) (va_A ws0 s.heap.size)) args s 0 0 (va_A ws0 s.heap.size)) (F0 m 36 ls []) := by
  obtain ⟨hx, hb, hml, hr, hown, hts, hlk, hnm⟩ := id hC
  intro n
  induction n with
  | zero => intro σ H locs hP hD hS u5 u4 hi0 hlen hm hR ls hl; exact absurd hm (Nat.not_lt_zero _)
  | succ n ih =>
    intro σ H locs hP hD hS u5 u4 hi0 hlen hm hR ls hl
    refine lv_iload hx hb dX4_readNumber_36 (lv_at hl 1 rfl) ?_
    refine lv_if_le (tgt := 95) hx hb dX4_readNumber_38 (by decide) (fun c_3 => ?_) (fun c_3 => ?_)
    · refine lv_aload_n hx hb dX4_readNumber_95 rfl (lv_at hl 2 rfl) ?_
      refine lv_aload_n hx hb dX4_readNumber_96 rfl (lv_at hl 2 rfl) ?_
      refine gM_first hC rfl hK hP dX4_readNumber_97 ?_
      refine pM_second hC rfl hK hP hD hS dX4_readNumber_100 (fun H locs hP hD hS => ?_)
      refine lv_aload_n hx hb dX4_readNumber_103 rfl (lv_at hl 2 rfl) ?_
      refine lv_iload hx hb dX4_readNumber_104 (lv_at hl 1 rfl) ?_
      refine pM_first hC rfl hK hP hD hS dX4_readNumber_106 (fun H locs hP hD hS => ?_)
      refine lv_iload hx hb dX4_readNumber_109 (lv_at hl 0 rfl) ?_
      have hm : r = (u5, (M_set_first (M_set_second σ (M_first σ)) u4)) := by rw [hR, mX4_readNumber_L36, if_pos c_3]
      exact wr_ret hC hP (hAe ▸ hD) (hAe ▸ hS) dX4_readNumber_111 (by rw [hm]) (by rw [hm])
    · refine lv_aload_n hx hb dX4_readNumber_41 rfl (lv_at hl 2 rfl) ?_
      refine lv_iload hx hb dX4_readNumber_42 (lv_at hl 0 rfl) ?_
      refine callRd hC (k_X4_at l g ad σ u5 ⟨hi0, hlen⟩) ci_X4_at lk_X4_169 ⟨Nat.le_of_ble_eq_true rfl, Nat.le_of_ble_eq_true rfl⟩ hP hK (hE.S hS).none (q0 := 0) rfl rfl rfl rfl hl.1 rfl (Nat.le_of_ble_eq_true rfl) dX4_readNumber_44 ⟨Nat.zero_le _, Nat.zero_le _⟩ ?_
      refine callRs hC (k_X4_isDigit l g (mX4_at σ u5)) ci_X4_isDigit lk_X4_172 ⟨Nat.le_of_ble_eq_true rfl, Nat.le_of_ble_eq_true rfl⟩ hK (hE.S hS).none rfl hl.1 rfl (Nat.le_of_ble_eq_true rfl) dX4_readNumber_47 ⟨Nat.zero_le _, Nat.zero_le _⟩ ?_
      refine lv_if_eq (tgt := 95) hx hb dX4_readNumber_50 (by decide) (fun c_4 => ?_) (fun c_4 => ?_)
      · refine lv_aload_n hx hb dX4_readNumber_95 rfl (lv_at hl 2 rfl) ?_
        refine lv_aload_n hx hb dX4_readNumber_96 rfl (lv_at hl 2 rfl) ?_
        refine gM_first hC rfl hK hP dX4_readNumber_97 ?_
        refine pM_second hC rfl hK hP hD hS dX4_readNumber_100 (fun H locs hP hD hS => ?_)
        refine lv_aload_n hx hb dX4_readNumber_103 rfl (lv_at hl 2 rfl) ?_
        refine lv_iload hx hb dX4_readNumber_104 (lv_at hl 1 rfl) ?_
        refine pM_first hC rfl hK hP hD hS dX4_readNumber_106 (fun H locs hP hD hS => ?_)
        refine lv_iload hx hb dX4_readNumber_109 (lv_at hl 0 rfl) ?_
        have hm : r = (u5, (M_set_first (M_set_second σ (M_first σ)) u4)) := by rw [hR, mX4_readNumber_L36, if_neg c_3, if_pos c_4]
        exact wr_ret hC hP (hAe ▸ hD) (hAe ▸ hS) dX4_readNumber_111 (by rw [hm]) (by rw [hm])
      · refine lv_bipush (v := 10) hx hb dX4_readNumber_53 (by decide) ?_
        refine lv_iload hx hb dX4_readNumber_55 (lv_at hl 1 rfl) ?_
        refine lv_imul hx hb dX4_readNumber_57 ?_
        refine lv_aload_n hx hb dX4_readNumber_58 rfl (lv_at hl 2 rfl) ?_
        refine lv_iload hx hb dX4_readNumber_59 (lv_at hl 0 rfl) ?_
        refine callRd hC (k_X4_at l g ad σ u5 ⟨hi0, hlen⟩) ci_X4_at lk_X4_169 ⟨Nat.le_of_ble_eq_true rfl, Nat.le_of_ble_eq_true rfl⟩ hP hK (hE.S hS).none (q0 := 0) rfl rfl rfl rfl hl.1 rfl (Nat.le_of_ble_eq_true rfl) dX4_readNumber_61 ⟨Nat.zero_le _, Nat.zero_le _⟩ ?_
        refine lv_iadd hx hb dX4_readNumber_64 ?_
        refine lv_bipush (v := 48) hx hb dX4_readNumber_65 (by decide) ?_
        refine lv_isub hx hb dX4_readNumber_67 ?_
        refine lv_iload_n hx hb dX4_readNumber_68 rfl (lv_at hl 5 rfl) ?_
        refine lv_icmp_gt (tgt := 95) hx hb dX4_readNumber_69 (by decide) (fun c_5 => ?_) (fun c_5 => ?_)
        · refine lv_aload_n hx hb dX4_readNumber_95 rfl (lv_at hl 2 rfl) ?_
          refine lv_aload_n hx hb dX4_readNumber_96 rfl (lv_at hl 2 rfl) ?_
          refine gM_first hC rfl hK hP dX4_readNumber_97 ?_
          refine pM_second hC rfl hK hP hD hS dX4_readNumber_100 (fun H locs hP hD hS => ?_)
          refine lv_aload_n hx hb dX4_readNumber_103 rfl (lv_at hl 2 rfl) ?_
          refine lv_iload hx hb dX4_readNumber_104 (lv_at hl 1 rfl) ?_
          refine pM_first hC rfl hK hP hD hS dX4_readNumber_106 (fun H locs hP hD hS => ?_)
          refine lv_iload hx hb dX4_readNumber_109 (lv_at hl 0 rfl) ?_
          have hm : r = (u5, (M_set_first (M_set_second σ (M_first σ)) u4)) := by rw [hR, mX4_readNumber_L36, if_neg c_3, if_neg c_4, if_pos c_5]
          exact wr_ret hC hP (hAe ▸ hD) (hAe ▸ hS) dX4_readNumber_111 (by rw [hm]) (by rw [hm])
        · refine lv_bipush (v := 10) hx hb dX4_readNumber_72 (by decide) ?_
          refine lv_iload hx hb dX4_readNumber_74 (lv_at hl 1 rfl) ?_
          refine lv_imul hx hb dX4_readNumber_76 ?_
          refine lv_aload_n hx hb dX4_readNumber_77 rfl (lv_at hl 2 rfl) ?_
          refine lv_iload hx hb dX4_readNumber_78 (lv_at hl 0 rfl) ?_
          refine callRd hC (k_X4_at l g ad σ u5 ⟨hi0, hlen⟩) ci_X4_at lk_X4_169 ⟨Nat.le_of_ble_eq_true rfl, Nat.le_of_ble_eq_true rfl⟩ hP hK (hE.S hS).none (q0 := 0) rfl rfl rfl rfl hl.1 rfl (Nat.le_of_ble_eq_true rfl) dX4_readNumber_80 ⟨Nat.zero_le _, Nat.zero_le _⟩ ?_
          refine lv_iadd hx hb dX4_readNumber_83 ?_
          refine lv_bipush (v := 48) hx hb dX4_readNumber_84 (by decide) ?_
          refine lv_isub hx hb dX4_readNumber_86 ?_
          refine lv_istore (lv' := [(4, .int (((10 * u4) + (mX4_at σ u5)) - 48)), (5, .int u5), (0, .ref ad.1), (1, .int x1), (2, .int x2), (3, .int x3)]) hx hb dX4_readNumber_87 hl (by decide) rfl (fun ls hl => ?_)
          refine lv_iinc (v := (u5 + 1)) (lv' := [(5, .int (u5 + 1)), (4, .int (((10 * u4) + (mX4_at σ u5)) - 48)), (0, .ref ad.1), (1, .int x1), (2, .int x2), (3, .int x3)]) hx hb dX4_readNumber_89 hl (k := 1) rfl rfl (by decide) rfl (fun ls hl => ?_)
          refine lv_goto (tgt := 36) hx hb dX4_readNumber_92 (by decide) ?_
          have e8 := at_dig hlen c_4
          have e9 := up_add (d := 1) (k := 1) (M := 60) rfl hi0 (by omega) (by decide) (by decide)
          exact ih σ _ _ hP hD hS (u5 + 1) (((10 * u4) + (mX4_at σ u5)) - 48) (by rw [e9]; omega) hlen (by rw [e9]; omega) (by rw [hR, mX4_readNumber_L36, if_neg c_3, if_neg c_4, if_neg c_5]) _ (lv_sub hl [0, 1, 2, 3, 4, 5] rfl)
def mX4_readNumber (σ : MS) (x1 : Int32) (x2 : Int32) (x3 : Int32) : Int32 × MS := (if (mX4_in ((mX4_at σ x1) - 48) x2 9) = 0 then (((-1) - x1), σ) else (if ((mX4_at σ x1) - 48) ≤ x3 then (mX4_readNumber_L36 x1 x2 x3 63 σ (x1 + 1) ((mX4_at σ x1) - 48)) else (((-1) - x1), σ)))
set_option maxHeartbeats 4000000 in
set_option maxRecDepth 100000 in
theorem k_X4_readNumber (l : Launch) (g : WG) (ad : AM) (σ : MS) (x1 : Int32) (x2 : Int32) (x3 : Int32) (h_pl : 0 ≤ x1.toInt ∧ x1.toInt ≤ 100 ∧ (M_length σ).toInt ≤ 60) : Wr l yX4_readNumber cX4_readNumber 6 (some .int) 2 g (cM g ad σ) (cM g ad (mX4_readNumber σ x1 x2 x3).2) [.ref ad.1, .int x1, .int x2, .int x3] (mX4_readNumber σ x1 x2 x3).1 := by
  refine wr_of (by decide) (Nat.le_of_ble_eq_true rfl) ?_
  intro p e s m args below meth c ls A hC hAe hP hD hK hE hA hS hl
  obtain ⟨hx, hb, hml, hr, hown, hts, hlk, hnm⟩ := id hC
  have hl : lv_has ls 6 [(0, .ref ad.1), (1, .int x1), (2, .int x2), (3, .int x3)] := hl
  refine lv_aload_n hx hb dX4_readNumber_0 rfl (lv_at hl 0 rfl) ?_
  refine lv_iload_n hx hb dX4_readNumber_1 rfl (lv_at hl 1 rfl) ?_
  refine callRd hC (k_X4_at l g ad σ x1 ⟨h_pl.1, h_pl.2.2⟩) ci_X4_at lk_X4_169 ⟨Nat.le_of_ble_eq_true rfl, Nat.le_of_ble_eq_true rfl⟩ hP hK (hE.S hS).none (q0 := 0) rfl rfl rfl rfl hl.1 rfl (Nat.le_of_ble_eq_true rfl) dX4_readNumber_2 ⟨Nat.zero_le _, Nat.zero_le _⟩ ?_
  refine lv_bipush (v := 48) hx hb dX4_readNumber_5 (by decide) ?_
  refine lv_isub hx hb dX4_readNumber_7 ?_
  refine lv_istore (lv' := [(4, .int ((mX4_at σ x1) - 48)), (0, .ref ad.1), (1, .int x1), (2, .int x2), (3, .int x3)]) hx hb dX4_readNumber_8 hl (by decide) rfl (fun ls hl => ?_)
  refine lv_iload hx hb dX4_readNumber_10 (lv_at hl 0 rfl) ?_
  refine lv_iload_n hx hb dX4_readNumber_12 rfl (lv_at hl 3 rfl) ?_
  refine lv_bipush (v := 9) hx hb dX4_readNumber_13 (by decide) ?_
  refine callRs hC (k_X4_in l g ((mX4_at σ x1) - 48) x2 9) ci_X4_in lk_X4_32 ⟨Nat.le_of_ble_eq_true rfl, Nat.le_of_ble_eq_true rfl⟩ hK (hE.S hS).none rfl hl.1 rfl (Nat.le_of_ble_eq_true rfl) dX4_readNumber_15 ⟨Nat.zero_le _, Nat.zero_le _⟩ ?_
  refine lv_if_eq (tgt := 27) hx hb dX4_readNumber_18 (by decide) (fun c_1 => ?_) (fun c_1 => ?_)
  · refine lv_iconst (v := (-1)) hx hb dX4_readNumber_27 (by decide) ?_
    refine lv_iload_n hx hb dX4_readNumber_28 rfl (lv_at hl 2 rfl) ?_
    refine lv_isub hx hb dX4_readNumber_29 ?_
    have hm : mX4_readNumber σ x1 x2 x3 = (((-1) - x1), σ) := by unfold mX4_readNumber; rw [if_pos c_1]
    exact wr_ret hC hP (hAe ▸ hD) (hAe ▸ hS) dX4_readNumber_30 (by rw [hm]) (by rw [hm])
  · refine lv_iload hx hb dX4_readNumber_21 (lv_at hl 0 rfl) ?_
    refine lv_iload_n hx hb dX4_readNumber_23 rfl (lv_at hl 4 rfl) ?_
    refine lv_icmp_le (tgt := 31) hx hb dX4_readNumber_24 (by decide) (fun c_2 => ?_) (fun c_2 => ?_)
    · refine lv_iload_n hx hb dX4_readNumber_31 rfl (lv_at hl 2 rfl) ?_
      refine lv_iconst (v := 1) hx hb dX4_readNumber_32 (by decide) ?_
      refine lv_iadd hx hb dX4_readNumber_33 ?_
      refine lv_istore (lv' := [(5, .int (x1 + 1)), (4, .int ((mX4_at σ x1) - 48)), (0, .ref ad.1), (1, .int x1), (2, .int x2), (3, .int x3)]) hx hb dX4_readNumber_34 hl (by decide) rfl (fun ls hl => ?_)
      refine q_X4_readNumber_36 l g ad x1 x2 x3 hC hK hE hA hAe 63 σ _ _ hP hD hS (x1 + 1) ((mX4_at σ x1) - 48) (by rw [up_add (d := 1) (k := 1) (M := 100) rfl h_pl.1 h_pl.2.1 (by decide) (by decide)]; omega) h_pl.2.2 (by rw [up_add (d := 1) (k := 1) (M := 100) rfl h_pl.1 h_pl.2.1 (by decide) (by decide)]; omega) ?_ _ (lv_sub hl [0, 1, 2, 3, 4, 5] rfl)
      exact by unfold mX4_readNumber; rw [if_neg c_1, if_pos c_2]
    · refine lv_iconst (v := (-1)) hx hb dX4_readNumber_27 (by decide) ?_
      refine lv_iload_n hx hb dX4_readNumber_28 rfl (lv_at hl 2 rfl) ?_
      refine lv_isub hx hb dX4_readNumber_29 ?_
      have hm : mX4_readNumber σ x1 x2 x3 = (((-1) - x1), σ) := by unfold mX4_readNumber; rw [if_neg c_1, if_neg c_2]
      exact wr_ret hC hP (hAe ▸ hD) (hAe ▸ hS) dX4_readNumber_30 (by rw [hm]) (by rw [hm])
theorem rnL_len (x1 x2 x3 : Int32) : ∀ (n : Nat) (σ : MS) (u5 u4 : Int32), M_length (mX4_readNumber_L36 x1 x2 x3 n σ u5 u4).2 = M_length σ := by
  intro n
  induction n with
  | zero => intro σ u5 u4; rfl
  | succ n ih =>
    intro σ u5 u4
    rw [mX4_readNumber_L36]
    split
    · rfl
    · split
      · rfl
      · split
        · rfl
        · exact ih _ _ _
theorem rn_len {σ : MS} {a b d : Int32} : M_length (mX4_readNumber σ a b d).2 = M_length σ := by
  unfold mX4_readNumber
  split
  · rfl
  · split
    · exact rnL_len ..
    · rfl
theorem rnL_rng (x1 x2 x3 : Int32) : ∀ (n : Nat) (σ : MS) (u5 u4 : Int32), 0 ≤ u5.toInt → u5.toInt ≤ (M_length σ).toInt → (M_length σ).toInt ≤ 60 → ((61 : Int) - u5.toInt).toNat < n → u5.toInt ≤ (mX4_readNumber_L36 x1 x2 x3 n σ u5 u4).1.toInt ∧ (mX4_readNumber_L36 x1 x2 x3 n σ u5 u4).1.toInt ≤ (M_length σ).toInt := by
  intro n
  induction n with
  | zero => intro σ u5 u4 _ _ _ h; exact absurd h (Nat.not_lt_zero _)
  | succ n ih =>
    intro σ u5 u4 h0 h1 h2 hm
    rw [mX4_readNumber_L36]
    split
    · exact ⟨Int.le_refl _, h1⟩
    · split
      · exact ⟨Int.le_refl _, h1⟩
      · rename_i c
        split
        · exact ⟨Int.le_refl _, h1⟩
        · have e8 := at_dig h2 c
          have e9 := up_add (d := 1) (k := 1) (M := 60) rfl h0 (by omega) (by decide) (by decide)
          have q := ih σ (u5 + 1) (((10 * u4) + (mX4_at σ u5)) - 48) (by rw [e9]; omega) (by rw [e9]; omega) h2 (by rw [e9]; omega)
          rw [e9] at q
          omega
theorem rn_rng {σ : MS} {a b d : Int32} (h : 0 ≤ a.toInt ∧ a.toInt ≤ 100 ∧ (M_length σ).toInt ≤ 60) (hb : 0 ≤ b.toInt) : (mX4_readNumber σ a b d).1.toInt < 0 ∨ (a.toInt < (mX4_readNumber σ a b d).1.toInt ∧ (mX4_readNumber σ a b d).1.toInt ≤ (M_length σ).toInt) := by
  have hneg : ((-1 : Int32) - a).toInt < 0 := by
    have e : (-1 : Int32).toInt = -1 := rfl
    rw [ti_sub (by omega) (by omega), e]
    omega
  unfold mX4_readNumber
  split
  · exact Or.inl hneg
  · rename_i c1
    split
    · refine Or.inr ?_
      have hlt : a.toInt < (M_length σ).toInt := by
        apply Classical.byContradiction
        intro q
        refine c1 ?_
        have e0 : mX4_at σ a = 0 := by
          unfold mX4_at
          rw [if_pos (by rw [le_ti]; omega)]
        rw [e0]
        unfold mX4_in
        rw [if_pos (by rw [lt_ti]; show (-48 : Int) < b.toInt; omega)]
      have e9 := up_add (d := 1) (k := 1) (M := 100) rfl h.1 h.2.1 (by decide) (by decide)
      have q := rnL_rng a b d 63 σ (a + 1) ((mX4_at σ a) - 48) (by rw [e9]; omega) (by rw [e9]; omega) h.2.2 (by rw [e9]; omega)
      rw [e9] at q
      omega
    · exact Or.inl hneg
theorem rc_n {x L : Int32} (h : 0 ≤ x.toInt ∧ x.toInt ≤ 60 ∧ L.toInt ≤ 60) : 0 ≤ (x + 1).toInt ∧ (x + 1).toInt ≤ 100 ∧ L.toInt ≤ 60 := by
  have e := up_add (x := x) (d := 1) (k := 1) (M := 60) rfl h.1 h.2.1 (by decide) (by decide)
  rw [e]
  omega
theorem rc_k {σ : MS} {x : Int32} (h : 0 ≤ x.toInt ∧ x.toInt ≤ 60 ∧ (M_length σ).toInt ≤ 60) (c : ¬ (mX4_readNumber σ (x + 1) 0 19).1 < 0) : 0 ≤ (mX4_readNumber σ (x + 1) 0 19).1.toInt ∧ (mX4_readNumber σ (x + 1) 0 19).1.toInt ≤ 60 ∧ (M_length (mX4_readNumber σ (x + 1) 0 19).2).toInt ≤ 60 := by
  rw [rn_len]
  rw [lt_ti] at c
  have e : (0 : Int32).toInt = 0 := rfl
  rcases rn_rng (σ := σ) (a := x + 1) (b := 0) (d := 19) (rc_n h) (by decide) with q | q
  · omega
  · omega
def mX4_readCommand_J113 (σ : MS) (x1 : Int32) (u1 : Int32) (u2 : Int32) : Int32 × MS := (if (mX4_at σ u2) = 58 then (mX4_readNumber σ (u2 + 1) 0 3) else (((-1) - u2), σ))
set_option maxHeartbeats 4000000 in
set_option maxRecDepth 100000 in
theorem j_X4_readCommand_113 {p : Program} {e : Env} {s : State} {m : MethodId} {args : Array Value} {below : List Frame} {meth : Method} {c : Code} (l : Launch) (g : WG) (ad : AM) (σ : MS) (x1 : Int32) (u1 : Int32) (u2 : Int32) (h_pk : 0 ≤ u2.toInt ∧ u2.toInt ≤ 60 ∧ (M_length σ).toInt ≤ 60) (hC : Cx p s m args meth c yX4_readCommand cX4_readCommand 3 (some .int)) (hK : va_K g.1 vwCl (tysW g) s) {A : Nat → Prop} {ws0 : va_W} (hE : Ex A s s.heap) (hA : ∀ q : Nat, s.heap.size ≤ q → A q) (hAe : A = va_A ws0 s.heap.size) (H : Heap) (locs : List Loc) (hP : va_P g.1 vwCl (cM g ad σ) H) (hD : va_D A (cM g ad σ)) (hS : va_S A s.heap H locs) {r : Int32 × MS} (hR : r = mX4_readCommand_J113 σ x1 u1 u2) (ls : Array Slot) (hl : lv_has ls 3 [(0, .ref ad.1), (1, .int u1), (2, .int u2)]) : W p l e (rk 3) s m args below meth c H locs 0 0 (MQ below (va_Qi (fun x _ => x = r.1) (Bw g ws0 (cM g ad r.2) s.heap.size) (va_A ws0 s.heap.size)) args s 0 0 (va_A ws0 s.heap.size)) (F0 m 113 ls []) := by
  obtain ⟨hx, hb, hml, hr, hown, hts, hlk, hnm⟩ := id hC
  refine lv_aload_n hx hb dX4_readCommand_113 rfl (lv_at hl 0 rfl) ?_
  refine lv_iload_n hx hb dX4_readCommand_114 rfl (lv_at hl 2 rfl) ?_
  refine callRd hC (k_X4_at l g ad σ u2 ⟨h_pk.1, h_pk.2.2⟩) ci_X4_at lk_X4_169 ⟨Nat.le_of_ble_eq_true rfl, Nat.le_of_ble_eq_true rfl⟩ hP hK (hE.S hS).none (q0 := 0) rfl rfl rfl rfl hl.1 rfl (Nat.le_of_ble_eq_true rfl) dX4_readCommand_115 ⟨Nat.zero_le _, Nat.zero_le _⟩ ?_
  refine lv_bipush (v := 58) hx hb dX4_readCommand_118 (by decide) ?_
  refine lv_icmp_ne (tgt := 135) hx hb dX4_readCommand_120 (by decide) (fun c_5 => ?_) (fun c_5 => ?_)
  · refine lv_iconst (v := (-1)) hx hb dX4_readCommand_135 (by decide) ?_
    refine lv_iload_n hx hb dX4_readCommand_136 rfl (lv_at hl 2 rfl) ?_
    refine lv_isub hx hb dX4_readCommand_137 ?_
    have hm : r = (((-1) - u2), σ) := by rw [hR, mX4_readCommand_J113, if_neg c_5]
    exact wr_ret hC hP (hAe ▸ hD) (hAe ▸ hS) dX4_readCommand_138 (by rw [hm]) (by rw [hm])
  · refine lv_aload_n hx hb dX4_readCommand_123 rfl (lv_at hl 0 rfl) ?_
    refine lv_iload_n hx hb dX4_readCommand_124 rfl (lv_at hl 2 rfl) ?_
    refine lv_iconst (v := 1) hx hb dX4_readCommand_125 (by decide) ?_
    refine lv_iadd hx hb dX4_readCommand_126 ?_
    refine lv_iconst (v := 0) hx hb dX4_readCommand_127 (by decide) ?_
    refine lv_iconst (v := 3) hx hb dX4_readCommand_128 (by decide) ?_
    refine callWr hC (k_X4_readNumber l g ad σ (u2 + 1) 0 3 (rc_n h_pk)) ci_X4_readNumber lk_X4_184 ⟨Nat.le_of_ble_eq_true rfl, Nat.le_of_ble_eq_true rfl⟩ hP hD hK hE hS hA (q0 := 0) rfl rfl rfl rfl hl.1 rfl (Nat.le_of_ble_eq_true rfl) dX4_readCommand_129 ⟨Nat.zero_le _, Nat.zero_le _⟩ (fun H locs hP _ hD hS _ _ => ?_)
    refine lv_goto (tgt := 138) hx hb dX4_readCommand_132 (by decide) ?_
    have hm : r = (mX4_readNumber σ (u2 + 1) 0 3) := by rw [hR, mX4_readCommand_J113, if_pos c_5]
    exact wr_ret hC hP (hAe ▸ hD) (hAe ▸ hS) dX4_readCommand_138 (by rw [hm]) (by rw [hm])
def mX4_readCommand_J78 (σ : MS) (x1 : Int32) (u1 : Int32) : Int32 × MS := (if (mX4_readNumber σ (u1 + 1) 0 19).1 < 0 then (mX4_readNumber σ (u1 + 1) 0 19) else (if (M_sign (mX4_readNumber σ (u1 + 1) 0 19).2) = 117 then (mX4_readCommand_J113 (mX4_readNumber σ (u1 + 1) 0 19).2 x1 u1 (mX4_readNumber σ (u1 + 1) 0 19).1) else (if (M_sign (mX4_readNumber σ (u1 + 1) 0 19).2) = 109 then (mX4_readCommand_J113 (mX4_readNumber σ (u1 + 1) 0 19).2 x1 u1 (mX4_readNumber σ (u1 + 1) 0 19).1) else (mX4_readNumber σ (u1 + 1) 0 19))))
set_option maxHeartbeats 4000000 in
set_option maxRecDepth 100000 in
theorem j_X4_readCommand_78 {p : Program} {e : Env} {s : State} {m : MethodId} {args : Array Value} {below : List Frame} {meth : Method} {c : Code} (l : Launch) (g : WG) (ad : AM) (σ : MS) (x1 : Int32) (u1 : Int32) (h_pj : 0 ≤ u1.toInt ∧ u1.toInt ≤ 60 ∧ (M_length σ).toInt ≤ 60) (hC : Cx p s m args meth c yX4_readCommand cX4_readCommand 3 (some .int)) (hK : va_K g.1 vwCl (tysW g) s) {A : Nat → Prop} {ws0 : va_W} (hE : Ex A s s.heap) (hA : ∀ q : Nat, s.heap.size ≤ q → A q) (hAe : A = va_A ws0 s.heap.size) (H : Heap) (locs : List Loc) (hP : va_P g.1 vwCl (cM g ad σ) H) (hD : va_D A (cM g ad σ)) (hS : va_S A s.heap H locs) {r : Int32 × MS} (hR : r = mX4_readCommand_J78 σ x1 u1) (ls : Array Slot) (hl : lv_has ls 3 [(0, .ref ad.1), (1, .int u1)]) : W p l e (rk 3) s m args below meth c H locs 0 0 (MQ below (va_Qi (fun x _ => x = r.1) (Bw g ws0 (cM g ad r.2) s.heap.size) (va_A ws0 s.heap.size)) args s 0 0 (va_A ws0 s.heap.size)) (F0 m 78 ls []) := by
  obtain ⟨hx, hb, hml, hr, hown, hts, hlk, hnm⟩ := id hC
  refine lv_aload_n hx hb dX4_readCommand_78 rfl (lv_at hl 0 rfl) ?_
  refine lv_iload_n hx hb dX4_readCommand_79 rfl (lv_at hl 1 rfl) ?_
  refine lv_iconst (v := 1) hx hb dX4_readCommand_80 (by decide) ?_
  refine lv_iadd hx hb dX4_readCommand_81 ?_
  refine lv_iconst (v := 0) hx hb dX4_readCommand_82 (by decide) ?_
  refine lv_bipush (v := 19) hx hb dX4_readCommand_83 (by decide) ?_
  refine callWr hC (k_X4_readNumber l g ad σ (u1 + 1) 0 19 (rc_n h_pj)) ci_X4_readNumber lk_X4_184 ⟨Nat.le_of_ble_eq_true rfl, Nat.le_of_ble_eq_true rfl⟩ hP hD hK hE hS hA (q0 := 0) rfl rfl rfl rfl hl.1 rfl (Nat.le_of_ble_eq_true rfl) dX4_readCommand_85 ⟨Nat.zero_le _, Nat.zero_le _⟩ (fun H locs hP _ hD hS _ _ => ?_)
  refine lv_istore_n (lv' := [(2, .int (mX4_readNumber σ (u1 + 1) 0 19).1), (0, .ref ad.1), (1, .int u1)]) hx hb dX4_readCommand_88 rfl hl (by decide) rfl (fun ls hl => ?_)
  refine lv_iload_n hx hb dX4_readCommand_89 rfl (lv_at hl 0 rfl) ?_
  refine lv_if_lt (tgt := 111) hx hb dX4_readCommand_90 (by decide) (fun c_3 => ?_) (fun c_3 => ?_)
  · refine lv_iload_n hx hb dX4_readCommand_111 rfl (lv_at hl 0 rfl) ?_
    have hm : r = (mX4_readNumber σ (u1 + 1) 0 19) := by rw [hR, mX4_readCommand_J78, if_pos c_3]
    exact wr_ret hC hP (hAe ▸ hD) (hAe ▸ hS) dX4_readCommand_112 (by rw [hm]) (by rw [hm])
  · refine lv_aload_n hx hb dX4_readCommand_93 rfl (lv_at hl 1 rfl) ?_
    refine gM_sign hC rfl hK hP dX4_readCommand_94 ?_
    refine lv_bipush (v := 117) hx hb dX4_readCommand_97 (by decide) ?_
    refine lv_icmp_eq (tgt := 113) hx hb dX4_readCommand_99 (by decide) (fun c_4 => ?_) (fun c_4 => ?_)
    · refine j_X4_readCommand_113 l g ad (mX4_readNumber σ (u1 + 1) 0 19).2 x1 u1 (mX4_readNumber σ (u1 + 1) 0 19).1 (rc_k h_pj c_3) hC hK hE hA hAe _ _ hP hD hS ?_ _ (lv_sub hl [1, 2, 0] rfl)
      exact by rw [hR, mX4_readCommand_J78, if_neg c_3, if_pos c_4]
    · refine lv_aload_n hx hb dX4_readCommand_102 rfl (lv_at hl 1 rfl) ?_
      refine gM_sign hC rfl hK hP dX4_readCommand_103 ?_
      refine lv_bipush (v := 109) hx hb dX4_readCommand_106 (by decide) ?_
      refine lv_icmp_eq (tgt := 113) hx hb dX4_readCommand_108 (by decide) (fun c_6 => ?_) (fun c_6 => ?_)
      · refine j_X4_readCommand_113 l g ad (mX4_readNumber σ (u1 + 1) 0 19).2 x1 u1 (mX4_readNumber σ (u1 + 1) 0 19).1 (rc_k h_pj c_3) hC hK hE hA hAe _ _ hP hD hS ?_ _ (lv_sub hl [1, 2, 0] rfl)
        exact by rw [hR, mX4_readCommand_J78, if_neg c_3, if_neg c_4, if_pos c_6]
      · refine lv_iload_n hx hb dX4_readCommand_111 rfl (lv_at hl 0 rfl) ?_
        have hm : r = (mX4_readNumber σ (u1 + 1) 0 19) := by rw [hR, mX4_readCommand_J78, if_neg c_3, if_neg c_4, if_neg c_6]
        exact wr_ret hC hP (hAe ▸ hD) (hAe ▸ hS) dX4_readCommand_112 (by rw [hm]) (by rw [hm])
def mX4_readCommand (σ : MS) (x1 : Int32) : Int32 × MS := (if (M_sign (M_set_sign σ (mX4_at σ x1))) = 46 then (mX4_readNumber (M_set_sign σ (mX4_at σ x1)) (x1 + 1) 1 99) else (if (M_sign (M_set_sign σ (mX4_at σ x1))) = 117 then (mX4_readCommand_J78 (M_set_sign σ (mX4_at σ x1)) x1 x1) else (if (M_sign (M_set_sign σ (mX4_at σ x1))) = 100 then (mX4_readCommand_J78 (M_set_sign σ (mX4_at σ x1)) x1 x1) else (if (M_sign (M_set_sign σ (mX4_at σ x1))) = 109 then (mX4_readCommand_J78 (M_set_sign σ (mX4_at σ x1)) x1 x1) else (if (M_sign (M_set_sign σ (mX4_at σ x1))) = 45 then (mX4_readCommand_J78 (M_set_sign σ (mX4_at σ x1)) x1 x1) else (if (M_sign (M_set_sign σ (mX4_at σ x1))) = 43 then (mX4_readCommand_J78 (M_set_sign σ (mX4_at σ x1)) x1 x1) else (((-1) - x1), (M_set_sign σ (mX4_at σ x1)))))))))
set_option maxHeartbeats 4000000 in
set_option maxRecDepth 100000 in
theorem k_X4_readCommand (l : Launch) (g : WG) (ad : AM) (σ : MS) (x1 : Int32) (h_pl : 0 ≤ x1.toInt ∧ x1.toInt ≤ 60 ∧ (M_length σ).toInt ≤ 60) : Wr l yX4_readCommand cX4_readCommand 3 (some .int) 3 g (cM g ad σ) (cM g ad (mX4_readCommand σ x1).2) [.ref ad.1, .int x1] (mX4_readCommand σ x1).1 := by
  refine wr_of (by decide) (Nat.le_of_ble_eq_true rfl) ?_
  intro p e s m args below meth c ls A hC hAe hP hD hK hE hA hS hl
  obtain ⟨hx, hb, hml, hr, hown, hts, hlk, hnm⟩ := id hC
  have hl : lv_has ls 3 [(0, .ref ad.1), (1, .int x1)] := hl
  refine lv_aload_n hx hb dX4_readCommand_0 rfl (lv_at hl 0 rfl) ?_
  refine lv_aload_n hx hb dX4_readCommand_1 rfl (lv_at hl 0 rfl) ?_
  refine lv_iload_n hx hb dX4_readCommand_2 rfl (lv_at hl 1 rfl) ?_
  refine callRd hC (k_X4_at l g ad σ x1 ⟨h_pl.1, h_pl.2.2⟩) ci_X4_at lk_X4_169 ⟨Nat.le_of_ble_eq_true rfl, Nat.le_of_ble_eq_true rfl⟩ hP hK (hE.S hS).none (q0 := 0) rfl rfl rfl rfl hl.1 rfl (Nat.le_of_ble_eq_true rfl) dX4_readCommand_3 ⟨Nat.zero_le _, Nat.zero_le _⟩ ?_
  refine pM_sign hC rfl hK hP hD hS dX4_readCommand_6 (fun H locs hP hD hS => ?_)
  refine lv_aload_n hx hb dX4_readCommand_9 rfl (lv_at hl 0 rfl) ?_
  refine gM_sign hC rfl hK hP dX4_readCommand_10 ?_
  refine lv_bipush (v := 46) hx hb dX4_readCommand_13 (by decide) ?_
  refine lv_icmp_ne (tgt := 29) hx hb dX4_readCommand_15 (by decide) (fun c_1 => ?_) (fun c_1 => ?_)
  · refine lv_aload_n hx hb dX4_readCommand_29 rfl (lv_at hl 0 rfl) ?_
    refine gM_sign hC rfl hK hP dX4_readCommand_30 ?_
    refine lv_bipush (v := 117) hx hb dX4_readCommand_33 (by decide) ?_
    refine lv_icmp_eq (tgt := 78) hx hb dX4_readCommand_35 (by decide) (fun c_2 => ?_) (fun c_2 => ?_)
    · refine j_X4_readCommand_78 l g ad (M_set_sign σ (mX4_at σ x1)) x1 x1 h_pl hC hK hE hA hAe _ _ hP hD hS ?_ _ (lv_sub hl [0, 1] rfl)
      exact by unfold mX4_readCommand; rw [if_neg c_1, if_pos c_2]
    · refine lv_aload_n hx hb dX4_readCommand_38 rfl (lv_at hl 0 rfl) ?_
      refine gM_sign hC rfl hK hP dX4_readCommand_39 ?_
      refine lv_bipush (v := 100) hx hb dX4_readCommand_42 (by decide) ?_
      refine lv_icmp_eq (tgt := 78) hx hb dX4_readCommand_44 (by decide) (fun c_7 => ?_) (fun c_7 => ?_)
      · refine j_X4_readCommand_78 l g ad (M_set_sign σ (mX4_at σ x1)) x1 x1 h_pl hC hK hE hA hAe _ _ hP hD hS ?_ _ (lv_sub hl [0, 1] rfl)
        exact by unfold mX4_readCommand; rw [if_neg c_1, if_neg c_2, if_pos c_7]
      · refine lv_aload_n hx hb dX4_readCommand_47 rfl (lv_at hl 0 rfl) ?_
        refine gM_sign hC rfl hK hP dX4_readCommand_48 ?_
        refine lv_bipush (v := 109) hx hb dX4_readCommand_51 (by decide) ?_
        refine lv_icmp_eq (tgt := 78) hx hb dX4_readCommand_53 (by decide) (fun c_8 => ?_) (fun c_8 => ?_)
        · refine j_X4_readCommand_78 l g ad (M_set_sign σ (mX4_at σ x1)) x1 x1 h_pl hC hK hE hA hAe _ _ hP hD hS ?_ _ (lv_sub hl [0, 1] rfl)
          exact by unfold mX4_readCommand; rw [if_neg c_1, if_neg c_2, if_neg c_7, if_pos c_8]
        · refine lv_aload_n hx hb dX4_readCommand_56 rfl (lv_at hl 0 rfl) ?_
          refine gM_sign hC rfl hK hP dX4_readCommand_57 ?_
          refine lv_bipush (v := 45) hx hb dX4_readCommand_60 (by decide) ?_
          refine lv_icmp_eq (tgt := 78) hx hb dX4_readCommand_62 (by decide) (fun c_9 => ?_) (fun c_9 => ?_)
          · refine j_X4_readCommand_78 l g ad (M_set_sign σ (mX4_at σ x1)) x1 x1 h_pl hC hK hE hA hAe _ _ hP hD hS ?_ _ (lv_sub hl [0, 1] rfl)
            exact by unfold mX4_readCommand; rw [if_neg c_1, if_neg c_2, if_neg c_7, if_neg c_8, if_pos c_9]
          · refine lv_aload_n hx hb dX4_readCommand_65 rfl (lv_at hl 0 rfl) ?_
            refine gM_sign hC rfl hK hP dX4_readCommand_66 ?_
            refine lv_bipush (v := 43) hx hb dX4_readCommand_69 (by decide) ?_
            refine lv_icmp_eq (tgt := 78) hx hb dX4_readCommand_71 (by decide) (fun c_10 => ?_) (fun c_10 => ?_)
            · refine j_X4_readCommand_78 l g ad (M_set_sign σ (mX4_at σ x1)) x1 x1 h_pl hC hK hE hA hAe _ _ hP hD hS ?_ _ (lv_sub hl [0, 1] rfl)
              exact by unfold mX4_readCommand; rw [if_neg c_1, if_neg c_2, if_neg c_7, if_neg c_8, if_neg c_9, if_pos c_10]
            · refine lv_iconst (v := (-1)) hx hb dX4_readCommand_74 (by decide) ?_
              refine lv_iload_n hx hb dX4_readCommand_75 rfl (lv_at hl 1 rfl) ?_
              refine lv_isub hx hb dX4_readCommand_76 ?_
              have hm : mX4_readCommand σ x1 = (((-1) - x1), (M_set_sign σ (mX4_at σ x1))) := by unfold mX4_readCommand; rw [if_neg c_1, if_neg c_2, if_neg c_7, if_neg c_8, if_neg c_9, if_neg c_10]
              exact wr_ret hC hP (hAe ▸ hD) (hAe ▸ hS) dX4_readCommand_77 (by rw [hm]) (by rw [hm])
  · refine lv_aload_n hx hb dX4_readCommand_18 rfl (lv_at hl 0 rfl) ?_
    refine lv_iload_n hx hb dX4_readCommand_19 rfl (lv_at hl 1 rfl) ?_
    refine lv_iconst (v := 1) hx hb dX4_readCommand_20 (by decide) ?_
    refine lv_iadd hx hb dX4_readCommand_21 ?_
    refine lv_iconst (v := 1) hx hb dX4_readCommand_22 (by decide) ?_
    refine lv_bipush (v := 99) hx hb dX4_readCommand_23 (by decide) ?_
    refine callWr hC (k_X4_readNumber l g ad (M_set_sign σ (mX4_at σ x1)) (x1 + 1) 1 99 (rc_n h_pl)) ci_X4_readNumber lk_X4_184 ⟨Nat.le_of_ble_eq_true rfl, Nat.le_of_ble_eq_true rfl⟩ hP hD hK hE hS hA (q0 := 0) rfl rfl rfl rfl hl.1 rfl (Nat.le_of_ble_eq_true rfl) dX4_readCommand_25 ⟨Nat.zero_le _, Nat.zero_le _⟩ (fun H locs hP _ hD hS _ _ => ?_)
    have hm : mX4_readCommand σ x1 = (mX4_readNumber (M_set_sign σ (mX4_at σ x1)) (x1 + 1) 1 99) := by unfold mX4_readCommand; rw [if_pos c_1]
    exact wr_ret hC hP (hAe ▸ hD) (hAe ▸ hS) dX4_readCommand_28 (by rw [hm]) (by rw [hm])
theorem rcJ3_len {σ : MS} {a b d : Int32} : M_length (mX4_readCommand_J113 σ a b d).2 = M_length σ := by
  unfold mX4_readCommand_J113
  split
  · exact rn_len
  · rfl
theorem rcJ_len {σ : MS} {a b : Int32} : M_length (mX4_readCommand_J78 σ a b).2 = M_length σ := by
  unfold mX4_readCommand_J78
  split
  · exact rn_len
  · split
    · exact rcJ3_len.trans rn_len
    · split
      · exact rcJ3_len.trans rn_len
      · exact rn_len
theorem rc_len {σ : MS} {a : Int32} : M_length (mX4_readCommand σ a).2 = M_length σ := by
  have e : M_length (M_set_sign σ (mX4_at σ a)) = M_length σ := rfl
  unfold mX4_readCommand
  repeat' split
  all_goals first | with_reducible exact rn_len.trans e | with_reducible exact rcJ_len.trans e | with_reducible exact e
theorem rcJ3_rng {σ : MS} {a b d : Int32} (h : 0 ≤ d.toInt ∧ d.toInt ≤ 60 ∧ (M_length σ).toInt ≤ 60) : (mX4_readCommand_J113 σ a b d).1.toInt < 0 ∨ (d.toInt < (mX4_readCommand_J113 σ a b d).1.toInt ∧ (mX4_readCommand_J113 σ a b d).1.toInt ≤ (M_length σ).toInt) := by
  have hneg : ((-1 : Int32) - d).toInt < 0 := by
    have e : (-1 : Int32).toInt = -1 := rfl
    rw [ti_sub (by omega) (by omega), e]
    omega
  unfold mX4_readCommand_J113
  split
  · have q := rn_rng (σ := σ) (a := d + 1) (b := 0) (d := 3) (rc_n h) (by decide)
    have e := up_add (x := d) (d := 1) (k := 1) (M := 60) rfl h.1 h.2.1 (by decide) (by decide)
    rw [e] at q
    rcases q with q | q
    · exact Or.inl q
    · exact Or.inr ⟨by omega, q.2⟩
  · exact Or.inl hneg
theorem rcJ_rng {σ : MS} {a b : Int32} (h : 0 ≤ b.toInt ∧ b.toInt ≤ 60 ∧ (M_length σ).toInt ≤ 60) : (mX4_readCommand_J78 σ a b).1.toInt < 0 ∨ (b.toInt < (mX4_readCommand_J78 σ a b).1.toInt ∧ (mX4_readCommand_J78 σ a b).1.toInt ≤ (M_length σ).toInt) := by
  have q := rn_rng (σ := σ) (a := b + 1) (b := 0) (d := 19) (rc_n h) (by decide)
  have e := up_add (x := b) (d := 1) (k := 1) (M := 60) rfl h.1 h.2.1 (by decide) (by decide)
  have z : (0 : Int32).toInt = 0 := rfl
  have key : ∀ (c : ¬ (mX4_readNumber σ (b + 1) 0 19).1 < 0) (x : Int32), (mX4_readCommand_J113 (mX4_readNumber σ (b + 1) 0 19).2 a x (mX4_readNumber σ (b + 1) 0 19).1).1.toInt < 0 ∨ (b.toInt < (mX4_readCommand_J113 (mX4_readNumber σ (b + 1) 0 19).2 a x (mX4_readNumber σ (b + 1) 0 19).1).1.toInt ∧ (mX4_readCommand_J113 (mX4_readNumber σ (b + 1) 0 19).2 a x (mX4_readNumber σ (b + 1) 0 19).1).1.toInt ≤ (M_length σ).toInt) := by
    intro c x
    have q2 := rcJ3_rng (a := a) (b := x) (rc_k h c)
    rw [rn_len] at q2
    rw [lt_ti] at c
    omega
  have q1 : (mX4_readNumber σ (b + 1) 0 19).1.toInt < 0 ∨ (b.toInt < (mX4_readNumber σ (b + 1) 0 19).1.toInt ∧ (mX4_readNumber σ (b + 1) 0 19).1.toInt ≤ (M_length σ).toInt) := by omega
  unfold mX4_readCommand_J78
  split
  · exact q1
  · rename_i c
    split
    · exact key c _
    · split
      · exact key c _
      · exact q1
theorem rc_rng {σ : MS} {a : Int32} (h : 0 ≤ a.toInt ∧ a.toInt ≤ 60 ∧ (M_length σ).toInt ≤ 60) : (mX4_readCommand σ a).1.toInt < 0 ∨ (a.toInt < (mX4_readCommand σ a).1.toInt ∧ (mX4_readCommand σ a).1.toInt ≤ (M_length σ).toInt) := by
  have h1 : (mX4_readNumber (M_set_sign σ (mX4_at σ a)) (a + 1) 1 99).1.toInt < 0 ∨ (a.toInt < (mX4_readNumber (M_set_sign σ (mX4_at σ a)) (a + 1) 1 99).1.toInt ∧ (mX4_readNumber (M_set_sign σ (mX4_at σ a)) (a + 1) 1 99).1.toInt ≤ (M_length σ).toInt) := by
    have q := rn_rng (σ := M_set_sign σ (mX4_at σ a)) (a := a + 1) (b := 1) (d := 99) (rc_n h) (by decide)
    have e := up_add (x := a) (d := 1) (k := 1) (M := 60) rfl h.1 h.2.1 (by decide) (by decide)
    have z : M_length (M_set_sign σ (mX4_at σ a)) = M_length σ := rfl
    rw [z] at q
    omega
  have h2 : ∀ x : Int32, (mX4_readCommand_J78 (M_set_sign σ (mX4_at σ a)) x a).1.toInt < 0 ∨ (a.toInt < (mX4_readCommand_J78 (M_set_sign σ (mX4_at σ a)) x a).1.toInt ∧ (mX4_readCommand_J78 (M_set_sign σ (mX4_at σ a)) x a).1.toInt ≤ (M_length σ).toInt) := fun x => rcJ_rng (σ := M_set_sign σ (mX4_at σ a)) h
  have h3 : ((-1 : Int32) - a).toInt < 0 := by
    have e : (-1 : Int32).toInt = -1 := rfl
    rw [ti_sub (by omega) (by omega), e]
    omega
  unfold mX4_readCommand
  repeat' split
  all_goals first | with_reducible exact h1 | with_reducible exact h2 _ | with_reducible exact Or.inl h3
theorem ff_rng {σ : MS} {u : Int32} (h0 : 0 ≤ u.toInt) (h1 : u.toInt ≤ (M_length σ).toInt) (h2 : (M_length σ).toInt ≤ 60) (c : 0 ≤ (mX4_readCommand σ u).1) : u.toInt < (mX4_readCommand σ u).1.toInt ∧ (mX4_readCommand σ u).1.toInt ≤ (M_length σ).toInt := by
  rw [le_ti] at c
  have z : (0 : Int32).toInt = 0 := rfl
  rcases rc_rng (σ := σ) (a := u) ⟨h0, by omega, h2⟩ with q | q
  · omega
  · exact q
theorem ff_in {σ : MS} {u : Int32} (h0 : 0 ≤ u.toInt) (h1 : u.toInt ≤ (M_length σ).toInt) (h2 : (M_length σ).toInt ≤ 60) (c : 0 ≤ (mX4_readCommand σ u).1) (c2 : ¬ (mX4_readCommand σ u).1 = M_length (mX4_readCommand σ u).2) : vp_in (mX4_readCommand σ u).1 60 := by
  have q := ff_rng h0 h1 h2 c
  rw [rc_len, eq_ti] at c2
  exact in_iff.mpr ⟨by omega, by omega⟩
def mX4_findFault_L2  : Nat → MS → Int32 → Int32 × MS
  | 0, σ, _ => (0, σ)
  | n + 1, σ, u1 => (if 0 ≤ (mX4_readCommand σ u1).1 then (if (mX4_readCommand σ u1).1 = (M_length (mX4_readCommand σ u1).2) then ((-5), (mX4_readCommand σ u1).2) else (if ((M_text (mX4_readCommand σ u1).2) (mX4_readCommand σ u1).1.toNatClampNeg) = 59 then (mX4_findFault_L2 n (mX4_readCommand σ u1).2 ((mX4_readCommand σ u1).1 + 1)) else (mX4_readCommand σ u1))) else (((-1) - (mX4_readCommand σ u1).1), (mX4_readCommand σ u1).2))
set_option maxHeartbeats 4000000 in
set_option maxRecDepth 100000 in
theorem q_X4_findFault_2 {p : Program} {e : Env} {s : State} {m : MethodId} {args : Array Value} {below : List Frame} {meth : Method} {c : Code} (l : Launch) (g : WG) (ad : AM) (hC : Cx p s m args meth c yX4_findFault cX4_findFault 2 (some .int)) (hK : va_K g.1 vwCl (tysW g) s) {A : Nat → Prop} {ws0 : va_W} (hE : Ex A s s.heap) (hA : ∀ q : Nat, s.heap.size ≤ q → A q) (hAe : A = va_A ws0 s.heap.size) {r : Int32 × MS} : ∀ (n : Nat) (σ : MS) (H : Heap) (locs : List Loc) (hP : va_P g.1 vwCl (cM g ad σ) H) (hD : va_D A (cM g ad σ)) (hS : va_S A s.heap H locs) (u1 : Int32) (hi0 : 0 ≤ u1.toInt) (hi1 : u1.toInt ≤ (M_length σ).toInt) (hlen : (M_length σ).toInt ≤ 60) (hm : ((61 : Int) - u1.toInt).toNat < n) (hR : r = mX4_findFault_L2 n σ u1) (ls : Array Slot) (hl : lv_has ls 2 [(1, .int u1), (0, .ref ad.1)]), W p l e (rk 4) s m args below meth c H locs 0 0 (MQ below (va_Qi (fun x _ => x = r.1) (Bw g ws0 (cM g ad r.2) s.heap.size) (va_A ws0 s.heap.size)) args s 0 0 (va_A ws0 s.heap.size)) (F0 m 2 ls []) := by
  obtain ⟨hx, hb, hml, hr, hown, hts, hlk, hnm⟩ := id hC
  intro n
  induction n with
  | zero => intro σ H locs hP hD hS u1 hi0 hi1 hlen hm hR ls hl; exact absurd hm (Nat.not_lt_zero _)
  | succ n ih =>
    intro σ H locs hP hD hS u1 hi0 hi1 hlen hm hR ls hl
    refine lv_aload_n hx hb dX4_findFault_2 rfl (lv_at hl 1 rfl) ?_
    refine lv_iload_n hx hb dX4_findFault_3 rfl (lv_at hl 0 rfl) ?_
    refine callWr hC (k_X4_readCommand l g ad σ u1 ⟨hi0, by omega, hlen⟩) ci_X4_readCommand lk_X4_188 ⟨Nat.le_of_ble_eq_true rfl, Nat.le_of_ble_eq_true rfl⟩ hP hD hK hE hS hA (q0 := 0) rfl rfl rfl rfl hl.1 rfl (Nat.le_of_ble_eq_true rfl) dX4_findFault_4 ⟨Nat.zero_le _, Nat.zero_le _⟩ (fun H locs hP _ hD hS _ _ => ?_)
    refine lv_istore_n (lv' := [(1, .int (mX4_readCommand σ u1).1), (0, .ref ad.1)]) hx hb dX4_findFault_7 rfl hl (by decide) rfl (fun ls hl => ?_)
    refine lv_iload_n hx hb dX4_findFault_8 rfl (lv_at hl 0 rfl) ?_
    refine lv_if_ge (tgt := 16) hx hb dX4_findFault_9 (by decide) (fun c_1 => ?_) (fun c_1 => ?_)
    · refine lv_iload_n hx hb dX4_findFault_16 rfl (lv_at hl 0 rfl) ?_
      refine lv_aload_n hx hb dX4_findFault_17 rfl (lv_at hl 1 rfl) ?_
      refine gM_length hC rfl hK hP dX4_findFault_18 ?_
      refine lv_icmp_ne (tgt := 27) hx hb dX4_findFault_21 (by decide) (fun c_2 => ?_) (fun c_2 => ?_)
      · refine lv_aload_n hx hb dX4_findFault_27 rfl (lv_at hl 1 rfl) ?_
        refine gM_text hC rfl hK hP dX4_findFault_28 ?_
        refine lv_iload_n hx hb dX4_findFault_31 rfl (lv_at hl 0 rfl) ?_
        refine lM_text hC hK hP (ff_in hi0 hi1 hlen c_1 c_2) dX4_findFault_32 ?_
        refine lv_bipush (v := 59) hx hb dX4_findFault_33 (by decide) ?_
        refine lv_icmp_eq (tgt := 40) hx hb dX4_findFault_35 (by decide) (fun c_3 => ?_) (fun c_3 => ?_)
        · refine lv_iinc (v := ((mX4_readCommand σ u1).1 + 1)) (lv' := [(1, .int ((mX4_readCommand σ u1).1 + 1)), (0, .ref ad.1)]) hx hb dX4_findFault_40 hl (k := 0) rfl rfl (by decide) rfl (fun ls hl => ?_)
          refine lv_goto (tgt := 2) hx hb dX4_findFault_43 (by decide) ?_
          have e7 := ff_rng hi0 hi1 hlen c_1
          have e6 : (mX4_readCommand σ u1).1.toInt < (M_length σ).toInt := by have q := c_2; rw [rc_len, eq_ti] at q; omega
          have e9 := up_add (x := (mX4_readCommand σ u1).1) (d := 1) (k := 1) (M := 60) rfl (by omega) (by omega) (by decide) (by decide)
          exact ih (mX4_readCommand σ u1).2 _ _ hP hD hS ((mX4_readCommand σ u1).1 + 1) (by rw [e9]; omega) (by rw [e9, rc_len]; omega) (by rw [rc_len]; exact hlen) (by rw [e9]; omega) (by rw [hR, mX4_findFault_L2, if_pos c_1, if_neg c_2, if_pos c_3]) _ (lv_sub hl [0, 1] rfl)
        · refine lv_iload_n hx hb dX4_findFault_38 rfl (lv_at hl 0 rfl) ?_
          have hm : r = (mX4_readCommand σ u1) := by rw [hR, mX4_findFault_L2, if_pos c_1, if_neg c_2, if_neg c_3]
          exact wr_ret hC hP (hAe ▸ hD) (hAe ▸ hS) dX4_findFault_39 (by rw [hm]) (by rw [hm])
      · refine lv_bipush (v := (-5)) hx hb dX4_findFault_24 (by decide) ?_
        have hm : r = ((-5), (mX4_readCommand σ u1).2) := by rw [hR, mX4_findFault_L2, if_pos c_1, if_pos c_2]
        exact wr_ret hC hP (hAe ▸ hD) (hAe ▸ hS) dX4_findFault_26 (by rw [hm]) (by rw [hm])
    · refine lv_iconst (v := (-1)) hx hb dX4_findFault_12 (by decide) ?_
      refine lv_iload_n hx hb dX4_findFault_13 rfl (lv_at hl 0 rfl) ?_
      refine lv_isub hx hb dX4_findFault_14 ?_
      have hm : r = (((-1) - (mX4_readCommand σ u1).1), (mX4_readCommand σ u1).2) := by rw [hR, mX4_findFault_L2, if_neg c_1]
      exact wr_ret hC hP (hAe ▸ hD) (hAe ▸ hS) dX4_findFault_15 (by rw [hm]) (by rw [hm])
def mX4_findFault (σ : MS) : Int32 × MS := (mX4_findFault_L2 63 σ 0)
set_option maxHeartbeats 4000000 in
set_option maxRecDepth 100000 in
theorem k_X4_findFault (l : Launch) (g : WG) (ad : AM) (σ : MS) (h_len : 0 ≤ (M_length σ).toInt ∧ (M_length σ).toInt ≤ 60) : Wr l yX4_findFault cX4_findFault 2 (some .int) 4 g (cM g ad σ) (cM g ad (mX4_findFault σ).2) [.ref ad.1] (mX4_findFault σ).1 := by
  refine wr_of (by decide) (Nat.le_of_ble_eq_true rfl) ?_
  intro p e s m args below meth c ls A hC hAe hP hD hK hE hA hS hl
  obtain ⟨hx, hb, hml, hr, hown, hts, hlk, hnm⟩ := id hC
  have hl : lv_has ls 2 [(0, .ref ad.1)] := hl
  refine lv_iconst (v := 0) hx hb dX4_findFault_0 (by decide) ?_
  refine lv_istore_n (lv' := [(1, .int 0), (0, .ref ad.1)]) hx hb dX4_findFault_1 rfl hl (by decide) rfl (fun ls hl => ?_)
  refine q_X4_findFault_2 l g ad hC hK hE hA hAe 63 σ _ _ hP hD hS 0 (by decide) h_len.1 h_len.2 (by decide) ?_ _ (lv_sub hl [0, 1] rfl)
  exact by unfold mX4_findFault; rfl
def mX4_noCommand (σ : MS) : Int32 := (if (M_sign σ) = 43 then (if (M_sign σ) = 43 then (mX4_noMast σ (M_first σ) 1) else (mX4_noMast σ (M_first σ) 0)) else (if (M_sign σ) = 45 then (if (M_sign σ) = 43 then (mX4_noMast σ (M_first σ) 1) else (mX4_noMast σ (M_first σ) 0)) else (if (M_sign σ) = 100 then (mX4_noLaunch σ (M_first σ)) else (if (M_sign σ) = 109 then (mX4_noMove σ (M_second σ) (M_first σ)) else (if (M_sign σ) = 117 then (mX4_noLift σ (M_second σ) (M_first σ)) else (mX4_noPass σ (M_first σ)))))))
set_option maxHeartbeats 4000000 in
set_option maxRecDepth 100000 in
theorem k_X4_noCommand (l : Launch) (g : WG) (ad : AM) (σ : MS) (h_keels : KeelM σ) : Rd l yX4_noCommand cX4_noCommand 1 (some .int) 7 (Wl g (cM g ad σ) (fun _ => False)) [.ref ad.1] (mX4_noCommand σ) := by
  refine rd_of (by decide) (Nat.le_of_ble_eq_true rfl) ?_
  intro p e s m args below meth c ls hC hW hl
  obtain ⟨hP, hK, hE⟩ := hW
  obtain ⟨hx, hb, hml, hr, hown, hts, hlk, hnm⟩ := id hC
  have hl : lv_has ls 1 [(0, .ref ad.1)] := hl
  refine lv_aload_n hx hb dX4_noCommand_0 rfl (lv_at hl 0 rfl) ?_
  refine gM_sign hC rfl hK hP dX4_noCommand_1 ?_
  by_cases c_1 : (M_sign σ) = 43
  · refine lv_lookup (tgt := 91) (off := 87) hx hb dX4_noCommand_4 (by decide) (by rw [c_1]; rfl) (by decide) ?_
    refine lv_aload_n hx hb dX4_noCommand_91 rfl (lv_at hl 0 rfl) ?_
    refine lv_aload_n hx hb dX4_noCommand_92 rfl (lv_at hl 0 rfl) ?_
    refine gM_first hC rfl hK hP dX4_noCommand_93 ?_
    refine lv_aload_n hx hb dX4_noCommand_96 rfl (lv_at hl 0 rfl) ?_
    refine gM_sign hC rfl hK hP dX4_noCommand_97 ?_
    refine lv_bipush (v := 43) hx hb dX4_noCommand_100 (by decide) ?_
    refine lv_icmp_ne (tgt := 109) hx hb dX4_noCommand_102 (by decide) (fun c_2 => ?_) (fun c_2 => ?_)
    · refine lv_iconst (v := 0) hx hb dX4_noCommand_109 (by decide) ?_
      refine callRd hC (k_X4_noMast l g ad σ (M_first σ) 0) ci_X4_noMast lk_X4_153 ⟨Nat.le_of_ble_eq_true rfl, Nat.le_of_ble_eq_true rfl⟩ hP hK hE (q0 := 0) rfl rfl rfl rfl hl.1 rfl (Nat.le_of_ble_eq_true rfl) dX4_noCommand_110 ⟨Nat.zero_le _, Nat.zero_le _⟩ ?_
      exact rd_ret hC dX4_noCommand_113 (Eq.symm (by unfold mX4_noCommand; rw [if_pos c_1, if_neg c_2]))
    · refine lv_iconst (v := 1) hx hb dX4_noCommand_105 (by decide) ?_
      refine lv_goto (tgt := 110) hx hb dX4_noCommand_106 (by decide) ?_
      refine callRd hC (k_X4_noMast l g ad σ (M_first σ) 1) ci_X4_noMast lk_X4_153 ⟨Nat.le_of_ble_eq_true rfl, Nat.le_of_ble_eq_true rfl⟩ hP hK hE (q0 := 0) rfl rfl rfl rfl hl.1 rfl (Nat.le_of_ble_eq_true rfl) dX4_noCommand_110 ⟨Nat.zero_le _, Nat.zero_le _⟩ ?_
      exact rd_ret hC dX4_noCommand_113 (Eq.symm (by unfold mX4_noCommand; rw [if_pos c_1, if_pos c_2]))
  · by_cases c_3 : (M_sign σ) = 45
    · refine lv_lookup (tgt := 91) (off := 87) hx hb dX4_noCommand_4 (by decide) (by rw [c_3]; rfl) (by decide) ?_
      refine lv_aload_n hx hb dX4_noCommand_91 rfl (lv_at hl 0 rfl) ?_
      refine lv_aload_n hx hb dX4_noCommand_92 rfl (lv_at hl 0 rfl) ?_
      refine gM_first hC rfl hK hP dX4_noCommand_93 ?_
      refine lv_aload_n hx hb dX4_noCommand_96 rfl (lv_at hl 0 rfl) ?_
      refine gM_sign hC rfl hK hP dX4_noCommand_97 ?_
      refine lv_bipush (v := 43) hx hb dX4_noCommand_100 (by decide) ?_
      refine lv_icmp_ne (tgt := 109) hx hb dX4_noCommand_102 (by decide) (fun c_4 => ?_) (fun c_4 => ?_)
      · refine lv_iconst (v := 0) hx hb dX4_noCommand_109 (by decide) ?_
        refine callRd hC (k_X4_noMast l g ad σ (M_first σ) 0) ci_X4_noMast lk_X4_153 ⟨Nat.le_of_ble_eq_true rfl, Nat.le_of_ble_eq_true rfl⟩ hP hK hE (q0 := 0) rfl rfl rfl rfl hl.1 rfl (Nat.le_of_ble_eq_true rfl) dX4_noCommand_110 ⟨Nat.zero_le _, Nat.zero_le _⟩ ?_
        exact rd_ret hC dX4_noCommand_113 (Eq.symm (by unfold mX4_noCommand; rw [if_neg c_1, if_pos c_3, if_neg c_4]))
      · refine lv_iconst (v := 1) hx hb dX4_noCommand_105 (by decide) ?_
        refine lv_goto (tgt := 110) hx hb dX4_noCommand_106 (by decide) ?_
        refine callRd hC (k_X4_noMast l g ad σ (M_first σ) 1) ci_X4_noMast lk_X4_153 ⟨Nat.le_of_ble_eq_true rfl, Nat.le_of_ble_eq_true rfl⟩ hP hK hE (q0 := 0) rfl rfl rfl rfl hl.1 rfl (Nat.le_of_ble_eq_true rfl) dX4_noCommand_110 ⟨Nat.zero_le _, Nat.zero_le _⟩ ?_
        exact rd_ret hC dX4_noCommand_113 (Eq.symm (by unfold mX4_noCommand; rw [if_neg c_1, if_pos c_3, if_pos c_4]))
    · by_cases c_5 : (M_sign σ) = 100
      · refine lv_lookup (tgt := 69) (off := 65) hx hb dX4_noCommand_4 (by decide) (by rw [c_5]; rfl) (by decide) ?_
        refine lv_aload_n hx hb dX4_noCommand_69 rfl (lv_at hl 0 rfl) ?_
        refine lv_aload_n hx hb dX4_noCommand_70 rfl (lv_at hl 0 rfl) ?_
        refine gM_first hC rfl hK hP dX4_noCommand_71 ?_
        refine callRd hC (k_X4_noLaunch l g ad σ (M_first σ)) ci_X4_noLaunch lk_X4_135 ⟨Nat.le_of_ble_eq_true rfl, Nat.le_of_ble_eq_true rfl⟩ hP hK hE (q0 := 0) rfl rfl rfl rfl hl.1 rfl (Nat.le_of_ble_eq_true rfl) dX4_noCommand_74 ⟨Nat.zero_le _, Nat.zero_le _⟩ ?_
        exact rd_ret hC dX4_noCommand_77 (Eq.symm (by unfold mX4_noCommand; rw [if_neg c_1, if_neg c_3, if_pos c_5]))
      · by_cases c_6 : (M_sign σ) = 109
        · refine lv_lookup (tgt := 78) (off := 74) hx hb dX4_noCommand_4 (by decide) (by rw [c_6]; rfl) (by decide) ?_
          refine lv_aload_n hx hb dX4_noCommand_78 rfl (lv_at hl 0 rfl) ?_
          refine lv_aload_n hx hb dX4_noCommand_79 rfl (lv_at hl 0 rfl) ?_
          refine gM_second hC rfl hK hP dX4_noCommand_80 ?_
          refine lv_aload_n hx hb dX4_noCommand_83 rfl (lv_at hl 0 rfl) ?_
          refine gM_first hC rfl hK hP dX4_noCommand_84 ?_
          refine callRd hC (k_X4_noMove l g ad σ (M_second σ) (M_first σ)) ci_X4_noMove lk_X4_141 ⟨Nat.le_of_ble_eq_true rfl, Nat.le_of_ble_eq_true rfl⟩ hP hK hE (q0 := 0) rfl rfl rfl rfl hl.1 rfl (Nat.le_of_ble_eq_true rfl) dX4_noCommand_87 ⟨Nat.zero_le _, Nat.zero_le _⟩ ?_
          exact rd_ret hC dX4_noCommand_90 (Eq.symm (by unfold mX4_noCommand; rw [if_neg c_1, if_neg c_3, if_neg c_5, if_pos c_6]))
        · by_cases c_7 : (M_sign σ) = 117
          · refine lv_lookup (tgt := 56) (off := 52) hx hb dX4_noCommand_4 (by decide) (by rw [c_7]; rfl) (by decide) ?_
            refine lv_aload_n hx hb dX4_noCommand_56 rfl (lv_at hl 0 rfl) ?_
            refine lv_aload_n hx hb dX4_noCommand_57 rfl (lv_at hl 0 rfl) ?_
            refine gM_second hC rfl hK hP dX4_noCommand_58 ?_
            refine lv_aload_n hx hb dX4_noCommand_61 rfl (lv_at hl 0 rfl) ?_
            refine gM_first hC rfl hK hP dX4_noCommand_62 ?_
            refine callRd hC (k_X4_noLift l g ad σ (M_second σ) (M_first σ) h_keels) ci_X4_noLift lk_X4_123 ⟨Nat.le_of_ble_eq_true rfl, Nat.le_of_ble_eq_true rfl⟩ hP hK hE (q0 := 0) rfl rfl rfl rfl hl.1 rfl (Nat.le_of_ble_eq_true rfl) dX4_noCommand_65 ⟨Nat.zero_le _, Nat.zero_le _⟩ ?_
            exact rd_ret hC dX4_noCommand_68 (Eq.symm (by unfold mX4_noCommand; rw [if_neg c_1, if_neg c_3, if_neg c_5, if_neg c_6, if_pos c_7]))
          · refine lv_lookup (tgt := 114) (off := 110) hx hb dX4_noCommand_4 (by decide) (by show Op.lookupswitch.offset [(43, 87), (45, 87), (100, 65), (109, 74), (117, 52)] 110 _ = _; rw [lv_osw (a := 43) c_1 rfl, lv_osw (a := 45) c_3 rfl, lv_osw (a := 100) c_5 rfl, lv_osw (a := 109) c_6 rfl, lv_osw (a := 117) c_7 rfl]; rfl) (by decide) ?_
            refine lv_aload_n hx hb dX4_noCommand_114 rfl (lv_at hl 0 rfl) ?_
            refine lv_aload_n hx hb dX4_noCommand_115 rfl (lv_at hl 0 rfl) ?_
            refine gM_first hC rfl hK hP dX4_noCommand_116 ?_
            refine callRd hC (k_X4_noPass l g ad σ (M_first σ)) ci_X4_noPass lk_X4_160 ⟨Nat.le_of_ble_eq_true rfl, Nat.le_of_ble_eq_true rfl⟩ hP hK hE (q0 := 0) rfl rfl rfl rfl hl.1 rfl (Nat.le_of_ble_eq_true rfl) dX4_noCommand_119 ⟨Nat.zero_le _, Nat.zero_le _⟩ ?_
            exact rd_ret hC dX4_noCommand_122 (Eq.symm (by unfold mX4_noCommand; rw [if_neg c_1, if_neg c_3, if_neg c_5, if_neg c_6, if_neg c_7]))
def mX4_doCommand (σ : MS) : Int32 × MS := (if (M_sign σ) = 43 then (if (M_sign σ) = 43 then (mX4_doMast σ (M_first σ) 1) else (mX4_doMast σ (M_first σ) 0)) else (if (M_sign σ) = 45 then (if (M_sign σ) = 43 then (mX4_doMast σ (M_first σ) 1) else (mX4_doMast σ (M_first σ) 0)) else (if (M_sign σ) = 100 then (mX4_doLaunch σ (M_first σ)) else (if (M_sign σ) = 109 then (mX4_doMove σ (M_second σ) (M_first σ)) else (if (M_sign σ) = 117 then (mX4_doLift σ (M_second σ) (M_first σ)) else (mX4_doPass σ (M_first σ)))))))
set_option maxHeartbeats 4000000 in
set_option maxRecDepth 100000 in
theorem k_X4_doCommand (l : Launch) (g : WG) (ad : AM) (σ : MS) (h_keels : KeelM σ) (h_nc : 0 ≤ mX4_noCommand σ) : Wr l yX4_doCommand cX4_doCommand 1 (some .int) 6 g (cM g ad σ) (cM g ad (mX4_doCommand σ).2) [.ref ad.1] (mX4_doCommand σ).1 := by
  refine wr_of (by decide) (Nat.le_of_ble_eq_true rfl) ?_
  intro p e s m args below meth c ls A hC hAe hP hD hK hE hA hS hl
  obtain ⟨hx, hb, hml, hr, hown, hts, hlk, hnm⟩ := id hC
  have hl : lv_has ls 1 [(0, .ref ad.1)] := hl
  refine lv_aload_n hx hb dX4_doCommand_0 rfl (lv_at hl 0 rfl) ?_
  refine gM_sign hC rfl hK hP dX4_doCommand_1 ?_
  by_cases c_1 : (M_sign σ) = 43
  · refine lv_lookup (tgt := 91) (off := 87) hx hb dX4_doCommand_4 (by decide) (by rw [c_1]; rfl) (by decide) ?_
    refine lv_aload_n hx hb dX4_doCommand_91 rfl (lv_at hl 0 rfl) ?_
    refine lv_aload_n hx hb dX4_doCommand_92 rfl (lv_at hl 0 rfl) ?_
    refine gM_first hC rfl hK hP dX4_doCommand_93 ?_
    refine lv_aload_n hx hb dX4_doCommand_96 rfl (lv_at hl 0 rfl) ?_
    refine gM_sign hC rfl hK hP dX4_doCommand_97 ?_
    refine lv_bipush (v := 43) hx hb dX4_doCommand_100 (by decide) ?_
    refine lv_icmp_ne (tgt := 109) hx hb dX4_doCommand_102 (by decide) (fun c_2 => ?_) (fun c_2 => ?_)
    · refine lv_iconst (v := 0) hx hb dX4_doCommand_109 (by decide) ?_
      refine callWr hC (k_X4_doMast l g ad σ (M_first σ) 0 (in_X4_isBoat (ok_noMast (by have q := h_nc; unfold mX4_noCommand at q; rw [if_pos c_1, if_neg c_2] at q; exact q)))) ci_X4_doMast lk_X4_157 ⟨Nat.le_of_ble_eq_true rfl, Nat.le_of_ble_eq_true rfl⟩ hP hD hK hE hS hA (q0 := 0) rfl rfl rfl rfl hl.1 rfl (Nat.le_of_ble_eq_true rfl) dX4_doCommand_110 ⟨Nat.zero_le _, Nat.zero_le _⟩ (fun H locs hP _ hD hS _ _ => ?_)
      have hm : mX4_doCommand σ = (mX4_doMast σ (M_first σ) 0) := by unfold mX4_doCommand; rw [if_pos c_1, if_neg c_2]
      exact wr_ret hC hP (hAe ▸ hD) (hAe ▸ hS) dX4_doCommand_113 (by rw [hm]) (by rw [hm])
    · refine lv_iconst (v := 1) hx hb dX4_doCommand_105 (by decide) ?_
      refine lv_goto (tgt := 110) hx hb dX4_doCommand_106 (by decide) ?_
      refine callWr hC (k_X4_doMast l g ad σ (M_first σ) 1 (in_X4_isBoat (ok_noMast (by have q := h_nc; unfold mX4_noCommand at q; rw [if_pos c_1, if_pos c_2] at q; exact q)))) ci_X4_doMast lk_X4_157 ⟨Nat.le_of_ble_eq_true rfl, Nat.le_of_ble_eq_true rfl⟩ hP hD hK hE hS hA (q0 := 0) rfl rfl rfl rfl hl.1 rfl (Nat.le_of_ble_eq_true rfl) dX4_doCommand_110 ⟨Nat.zero_le _, Nat.zero_le _⟩ (fun H locs hP _ hD hS _ _ => ?_)
      have hm : mX4_doCommand σ = (mX4_doMast σ (M_first σ) 1) := by unfold mX4_doCommand; rw [if_pos c_1, if_pos c_2]
      exact wr_ret hC hP (hAe ▸ hD) (hAe ▸ hS) dX4_doCommand_113 (by rw [hm]) (by rw [hm])
  · by_cases c_3 : (M_sign σ) = 45
    · refine lv_lookup (tgt := 91) (off := 87) hx hb dX4_doCommand_4 (by decide) (by rw [c_3]; rfl) (by decide) ?_
      refine lv_aload_n hx hb dX4_doCommand_91 rfl (lv_at hl 0 rfl) ?_
      refine lv_aload_n hx hb dX4_doCommand_92 rfl (lv_at hl 0 rfl) ?_
      refine gM_first hC rfl hK hP dX4_doCommand_93 ?_
      refine lv_aload_n hx hb dX4_doCommand_96 rfl (lv_at hl 0 rfl) ?_
      refine gM_sign hC rfl hK hP dX4_doCommand_97 ?_
      refine lv_bipush (v := 43) hx hb dX4_doCommand_100 (by decide) ?_
      refine lv_icmp_ne (tgt := 109) hx hb dX4_doCommand_102 (by decide) (fun c_4 => ?_) (fun c_4 => ?_)
      · refine lv_iconst (v := 0) hx hb dX4_doCommand_109 (by decide) ?_
        refine callWr hC (k_X4_doMast l g ad σ (M_first σ) 0 (in_X4_isBoat (ok_noMast (by have q := h_nc; unfold mX4_noCommand at q; rw [if_neg c_1, if_pos c_3, if_neg c_4] at q; exact q)))) ci_X4_doMast lk_X4_157 ⟨Nat.le_of_ble_eq_true rfl, Nat.le_of_ble_eq_true rfl⟩ hP hD hK hE hS hA (q0 := 0) rfl rfl rfl rfl hl.1 rfl (Nat.le_of_ble_eq_true rfl) dX4_doCommand_110 ⟨Nat.zero_le _, Nat.zero_le _⟩ (fun H locs hP _ hD hS _ _ => ?_)
        have hm : mX4_doCommand σ = (mX4_doMast σ (M_first σ) 0) := by unfold mX4_doCommand; rw [if_neg c_1, if_pos c_3, if_neg c_4]
        exact wr_ret hC hP (hAe ▸ hD) (hAe ▸ hS) dX4_doCommand_113 (by rw [hm]) (by rw [hm])
      · refine lv_iconst (v := 1) hx hb dX4_doCommand_105 (by decide) ?_
        refine lv_goto (tgt := 110) hx hb dX4_doCommand_106 (by decide) ?_
        refine callWr hC (k_X4_doMast l g ad σ (M_first σ) 1 (in_X4_isBoat (ok_noMast (by have q := h_nc; unfold mX4_noCommand at q; rw [if_neg c_1, if_pos c_3, if_pos c_4] at q; exact q)))) ci_X4_doMast lk_X4_157 ⟨Nat.le_of_ble_eq_true rfl, Nat.le_of_ble_eq_true rfl⟩ hP hD hK hE hS hA (q0 := 0) rfl rfl rfl rfl hl.1 rfl (Nat.le_of_ble_eq_true rfl) dX4_doCommand_110 ⟨Nat.zero_le _, Nat.zero_le _⟩ (fun H locs hP _ hD hS _ _ => ?_)
        have hm : mX4_doCommand σ = (mX4_doMast σ (M_first σ) 1) := by unfold mX4_doCommand; rw [if_neg c_1, if_pos c_3, if_pos c_4]
        exact wr_ret hC hP (hAe ▸ hD) (hAe ▸ hS) dX4_doCommand_113 (by rw [hm]) (by rw [hm])
    · by_cases c_5 : (M_sign σ) = 100
      · refine lv_lookup (tgt := 69) (off := 65) hx hb dX4_doCommand_4 (by decide) (by rw [c_5]; rfl) (by decide) ?_
        refine lv_aload_n hx hb dX4_doCommand_69 rfl (lv_at hl 0 rfl) ?_
        refine lv_aload_n hx hb dX4_doCommand_70 rfl (lv_at hl 0 rfl) ?_
        refine gM_first hC rfl hK hP dX4_doCommand_71 ?_
        refine callWr hC (k_X4_doLaunch l g ad σ (M_first σ) (in_X4_isBoat (ok_noLaunch (by have q := h_nc; unfold mX4_noCommand at q; rw [if_neg c_1, if_neg c_3, if_pos c_5] at q; exact q)))) ci_X4_doLaunch lk_X4_138 ⟨Nat.le_of_ble_eq_true rfl, Nat.le_of_ble_eq_true rfl⟩ hP hD hK hE hS hA (q0 := 0) rfl rfl rfl rfl hl.1 rfl (Nat.le_of_ble_eq_true rfl) dX4_doCommand_74 ⟨Nat.zero_le _, Nat.zero_le _⟩ (fun H locs hP _ hD hS _ _ => ?_)
        have hm : mX4_doCommand σ = (mX4_doLaunch σ (M_first σ)) := by unfold mX4_doCommand; rw [if_neg c_1, if_neg c_3, if_pos c_5]
        exact wr_ret hC hP (hAe ▸ hD) (hAe ▸ hS) dX4_doCommand_77 (by rw [hm]) (by rw [hm])
      · by_cases c_6 : (M_sign σ) = 109
        · refine lv_lookup (tgt := 78) (off := 74) hx hb dX4_doCommand_4 (by decide) (by rw [c_6]; rfl) (by decide) ?_
          refine lv_aload_n hx hb dX4_doCommand_78 rfl (lv_at hl 0 rfl) ?_
          refine lv_aload_n hx hb dX4_doCommand_79 rfl (lv_at hl 0 rfl) ?_
          refine gM_second hC rfl hK hP dX4_doCommand_80 ?_
          refine lv_aload_n hx hb dX4_doCommand_83 rfl (lv_at hl 0 rfl) ?_
          refine gM_first hC rfl hK hP dX4_doCommand_84 ?_
          refine callWr hC (k_X4_doMove l g ad σ (M_second σ) (M_first σ) (in_X4_isBoat (ok_noMove (by have q := h_nc; unfold mX4_noCommand at q; rw [if_neg c_1, if_neg c_3, if_neg c_5, if_pos c_6] at q; exact q)).1)) ci_X4_doMove lk_X4_144 ⟨Nat.le_of_ble_eq_true rfl, Nat.le_of_ble_eq_true rfl⟩ hP hD hK hE hS hA (q0 := 0) rfl rfl rfl rfl hl.1 rfl (Nat.le_of_ble_eq_true rfl) dX4_doCommand_87 ⟨Nat.zero_le _, Nat.zero_le _⟩ (fun H locs hP _ hD hS _ _ => ?_)
          have hm : mX4_doCommand σ = (mX4_doMove σ (M_second σ) (M_first σ)) := by unfold mX4_doCommand; rw [if_neg c_1, if_neg c_3, if_neg c_5, if_pos c_6]
          exact wr_ret hC hP (hAe ▸ hD) (hAe ▸ hS) dX4_doCommand_90 (by rw [hm]) (by rw [hm])
        · by_cases c_7 : (M_sign σ) = 117
          · refine lv_lookup (tgt := 56) (off := 52) hx hb dX4_doCommand_4 (by decide) (by rw [c_7]; rfl) (by decide) ?_
            refine lv_aload_n hx hb dX4_doCommand_56 rfl (lv_at hl 0 rfl) ?_
            refine lv_aload_n hx hb dX4_doCommand_57 rfl (lv_at hl 0 rfl) ?_
            refine gM_second hC rfl hK hP dX4_doCommand_58 ?_
            refine lv_aload_n hx hb dX4_doCommand_61 rfl (lv_at hl 0 rfl) ?_
            refine gM_first hC rfl hK hP dX4_doCommand_62 ?_
            refine callWr hC (k_X4_doLift l g ad σ (M_second σ) (M_first σ) (in_X4_isBoat (ok_noLift (by have q := h_nc; unfold mX4_noCommand at q; rw [if_neg c_1, if_neg c_3, if_neg c_5, if_neg c_6, if_pos c_7] at q; exact q)).1) (h_keels _ (ok_noLift (by have q := h_nc; unfold mX4_noCommand at q; rw [if_neg c_1, if_neg c_3, if_neg c_5, if_neg c_6, if_pos c_7] at q; exact q)).1)) ci_X4_doLift lk_X4_126 ⟨Nat.le_of_ble_eq_true rfl, Nat.le_of_ble_eq_true rfl⟩ hP hD hK hE hS hA (q0 := 0) rfl rfl rfl rfl hl.1 rfl (Nat.le_of_ble_eq_true rfl) dX4_doCommand_65 ⟨Nat.zero_le _, Nat.zero_le _⟩ (fun H locs hP _ hD hS _ _ => ?_)
            have hm : mX4_doCommand σ = (mX4_doLift σ (M_second σ) (M_first σ)) := by unfold mX4_doCommand; rw [if_neg c_1, if_neg c_3, if_neg c_5, if_neg c_6, if_pos c_7]
            exact wr_ret hC hP (hAe ▸ hD) (hAe ▸ hS) dX4_doCommand_68 (by rw [hm]) (by rw [hm])
          · refine lv_lookup (tgt := 114) (off := 110) hx hb dX4_doCommand_4 (by decide) (by show Op.lookupswitch.offset [(43, 87), (45, 87), (100, 65), (109, 74), (117, 52)] 110 _ = _; rw [lv_osw (a := 43) c_1 rfl, lv_osw (a := 45) c_3 rfl, lv_osw (a := 100) c_5 rfl, lv_osw (a := 109) c_6 rfl, lv_osw (a := 117) c_7 rfl]; rfl) (by decide) ?_
            refine lv_aload_n hx hb dX4_doCommand_114 rfl (lv_at hl 0 rfl) ?_
            refine lv_aload_n hx hb dX4_doCommand_115 rfl (lv_at hl 0 rfl) ?_
            refine gM_first hC rfl hK hP dX4_doCommand_116 ?_
            refine callWr hC (k_X4_doPass l g ad σ (M_first σ)) ci_X4_doPass lk_X4_163 ⟨Nat.le_of_ble_eq_true rfl, Nat.le_of_ble_eq_true rfl⟩ hP hD hK hE hS hA (q0 := 0) rfl rfl rfl rfl hl.1 rfl (Nat.le_of_ble_eq_true rfl) dX4_doCommand_119 ⟨Nat.zero_le _, Nat.zero_le _⟩ (fun H locs hP _ hD hS _ _ => ?_)
            have hm : mX4_doCommand σ = (mX4_doPass σ (M_first σ)) := by unfold mX4_doCommand; rw [if_neg c_1, if_neg c_3, if_neg c_5, if_neg c_6, if_neg c_7]
            exact wr_ret hC hP (hAe ▸ hD) (hAe ▸ hS) dX4_doCommand_122 (by rw [hm]) (by rw [hm])
/-- along the plan the reference stays within its rows -/
def PM : Nat → MS → Int32 → Int32 → Prop
  | 0, _, _, _ => True
  | n + 1, σ, p, er => (0 ≤ (M_states σ).toInt ∧ (M_states σ).toInt ≤ 4) ∧ ((M_length σ) ≤ p ∨ (¬ er = 0 ∧ ¬ er = -5) ∨ ((0 ≤ p.toInt ∧ p.toInt ≤ 60 ∧ (M_length σ).toInt ≤ 60) ∧ (p.toInt < (mX4_readCommand σ p).1.toInt ∧ (mX4_readCommand σ p).1.toInt ≤ 60) ∧ KeelM (mX4_readCommand σ p).2 ∧ (mX4_noCommand (mX4_readCommand σ p).2 = 0 → PM n (mX4_doCommand (mX4_readCommand σ p).2).2 ((mX4_readCommand σ p).1 + 1) (mX4_noCommand (mX4_readCommand σ p).2)) ∧ (¬ mX4_noCommand (mX4_readCommand σ p).2 = 0 → PM n (mX4_readCommand σ p).2 ((mX4_readCommand σ p).1 + 1) (mX4_noCommand (mX4_readCommand σ p).2))))
theorem pm_st {n : Nat} {σ : MS} {p er : Int32} (h : PM (n + 1) σ p er) : 0 ≤ (M_states σ).toInt ∧ (M_states σ).toInt ≤ 4 := h.1
theorem pm_go {n : Nat} {σ : MS} {p er : Int32} (h : PM (n + 1) σ p er) (c1 : ¬ (M_length σ) ≤ p) (c2 : er = 0 ∨ er = -5) : ((0 ≤ p.toInt ∧ p.toInt ≤ 60 ∧ (M_length σ).toInt ≤ 60) ∧ (p.toInt < (mX4_readCommand σ p).1.toInt ∧ (mX4_readCommand σ p).1.toInt ≤ 60) ∧ KeelM (mX4_readCommand σ p).2 ∧ (mX4_noCommand (mX4_readCommand σ p).2 = 0 → PM n (mX4_doCommand (mX4_readCommand σ p).2).2 ((mX4_readCommand σ p).1 + 1) (mX4_noCommand (mX4_readCommand σ p).2)) ∧ (¬ mX4_noCommand (mX4_readCommand σ p).2 = 0 → PM n (mX4_readCommand σ p).2 ((mX4_readCommand σ p).1 + 1) (mX4_noCommand (mX4_readCommand σ p).2))) := by
  rcases h.2 with q | q | q
  · exact absurd q c1
  · rcases c2 with z | z
    · exact absurd z q.1
    · exact absurd z q.2
  · exact q
theorem pm_pl {n : Nat} {σ : MS} {p er : Int32} (h : PM (n + 1) σ p er) (c1 : ¬ (M_length σ) ≤ p) (c2 : er = 0 ∨ er = -5) : 0 ≤ p.toInt ∧ p.toInt ≤ 60 ∧ (M_length σ).toInt ≤ 60 := (pm_go h c1 c2).1
theorem pm_rng {n : Nat} {σ : MS} {p er : Int32} (h : PM (n + 1) σ p er) (c1 : ¬ (M_length σ) ≤ p) (c2 : er = 0 ∨ er = -5) : 0 ≤ p.toInt ∧ p.toInt < (mX4_readCommand σ p).1.toInt ∧ (mX4_readCommand σ p).1.toInt ≤ 60 := ⟨(pm_go h c1 c2).1.1, (pm_go h c1 c2).2.1⟩
theorem pm_keel {n : Nat} {σ : MS} {p er : Int32} (h : PM (n + 1) σ p er) (c1 : ¬ (M_length σ) ≤ p) (c2 : er = 0 ∨ er = -5) : KeelM (mX4_readCommand σ p).2 := (pm_go h c1 c2).2.2.1
theorem pm_yes {n : Nat} {σ : MS} {p er : Int32} (h : PM (n + 1) σ p er) (c1 : ¬ (M_length σ) ≤ p) (c2 : er = 0 ∨ er = -5) (c3 : mX4_noCommand (mX4_readCommand σ p).2 = 0) : PM n (mX4_doCommand (mX4_readCommand σ p).2).2 ((mX4_readCommand σ p).1 + 1) (mX4_noCommand (mX4_readCommand σ p).2) := (pm_go h c1 c2).2.2.2.1 c3
theorem pm_no {n : Nat} {σ : MS} {p er : Int32} (h : PM (n + 1) σ p er) (c1 : ¬ (M_length σ) ≤ p) (c2 : er = 0 ∨ er = -5) (c3 : ¬ mX4_noCommand (mX4_readCommand σ p).2 = 0) : PM n (mX4_readCommand σ p).2 ((mX4_readCommand σ p).1 + 1) (mX4_noCommand (mX4_readCommand σ p).2) := (pm_go h c1 c2).2.2.2.2 c3
def mX4_perform_L111 (w3 : Int32) (w2 : Int32) (w1 : Int32) : Nat → MS → Int32 → Int32 × MS
  | 0, σ, _ => (0, σ)
  | n + 1, σ, u4 => (if 255 ≤ u4 then ((-4), (M_set_stopError (M_set_stopNumber σ (w2 - 1)) w3)) else (mX4_perform_L111 w3 w2 w1 n (M_set_z σ (upd (M_z σ) u4.toNatClampNeg ((M_aside σ) u4.toNatClampNeg))) (u4 + 1)))
set_option maxHeartbeats 4000000 in
set_option maxRecDepth 100000 in
theorem q_X4_perform_111 {p : Program} {e : Env} {s : State} {m : MethodId} {args : Array Value} {below : List Frame} {meth : Method} {c : Code} (l : Launch) (g : WG) (ad : AM) (w3 : Int32) (w2 : Int32) (w1 : Int32) (hC : Cx p s m args meth c yX4_perform cX4_perform 5 (some .int)) (hK : va_K g.1 vwCl (tysW g) s) {A : Nat → Prop} {ws0 : va_W} (hE : Ex A s s.heap) (hA : ∀ q : Nat, s.heap.size ≤ q → A q) (hAe : A = va_A ws0 s.heap.size) {r : Int32 × MS} : ∀ (n : Nat) (σ : MS) (H : Heap) (locs : List Loc) (hP : va_P g.1 vwCl (cM g ad σ) H) (hD : va_D A (cM g ad σ)) (hS : va_S A s.heap H locs) (u4 : Int32) (hi0 : 0 ≤ u4.toInt) (hi1 : u4.toInt ≤ 255) (hm : ((256 : Int) - u4.toInt).toNat < n) (hR : r = mX4_perform_L111 w3 w2 w1 n σ u4) (ls : Array Slot) (hl : lv_has ls 5 [(4, .int u4), (3, .int w3), (2, .int w2), (1, .int w1), (0, .ref ad.1)]), W p l e (rk 8) s m args below meth c H locs 0 0 (MQ below (va_Qi (fun x _ => x = r.1) (Bw g ws0 (cM g ad r.2) s.heap.size) (va_A ws0 s.heap.size)) args s 0 0 (va_A ws0 s.heap.size)) (F0 m 111 ls []) := by
  obtain ⟨hx, hb, hml, hr, hown, hts, hlk, hnm⟩ := id hC
  intro n
  induction n with
  | zero => intro σ H locs hP hD hS u4 hi0 hi1 hm hR ls hl; exact absurd hm (Nat.not_lt_zero _)
  | succ n ih =>
    intro σ H locs hP hD hS u4 hi0 hi1 hm hR ls hl
    refine lv_iload hx hb dX4_perform_111 (lv_at hl 0 rfl) ?_
    refine lv_sipush (v := 255) hx hb dX4_perform_113 (by decide) ?_
    refine lv_icmp_ge (tgt := 139) hx hb dX4_perform_116 (by decide) (fun c_6 => ?_) (fun c_6 => ?_)
    · refine lv_aload_n hx hb dX4_perform_139 rfl (lv_at hl 4 rfl) ?_
      refine lv_iload_n hx hb dX4_perform_140 rfl (lv_at hl 2 rfl) ?_
      refine lv_iconst (v := 1) hx hb dX4_perform_141 (by decide) ?_
      refine lv_isub hx hb dX4_perform_142 ?_
      refine pM_stopNumber hC rfl hK hP hD hS dX4_perform_143 (fun H locs hP hD hS => ?_)
      refine lv_aload_n hx hb dX4_perform_146 rfl (lv_at hl 4 rfl) ?_
      refine lv_iload_n hx hb dX4_perform_147 rfl (lv_at hl 1 rfl) ?_
      refine pM_stopError hC rfl hK hP hD hS dX4_perform_148 (fun H locs hP hD hS => ?_)
      refine lv_bipush (v := (-4)) hx hb dX4_perform_151 (by decide) ?_
      have hm : r = ((-4), (M_set_stopError (M_set_stopNumber σ (w2 - 1)) w3)) := by rw [hR, mX4_perform_L111, if_pos c_6]
      exact wr_ret hC hP (hAe ▸ hD) (hAe ▸ hS) dX4_perform_153 (by rw [hm]) (by rw [hm])
    · refine lv_aload_n hx hb dX4_perform_119 rfl (lv_at hl 4 rfl) ?_
      refine gM_z hC rfl hK hP dX4_perform_120 ?_
      refine lv_iload hx hb dX4_perform_123 (lv_at hl 0 rfl) ?_
      refine lv_aload_n hx hb dX4_perform_125 rfl (lv_at hl 4 rfl) ?_
      refine gM_aside hC rfl hK hP dX4_perform_126 ?_
      refine lv_iload hx hb dX4_perform_129 (lv_at hl 0 rfl) ?_
      refine lM_aside hC hK hP (in_up (n := 255) rfl hi0 c_6) dX4_perform_131 ?_
      refine sM_z hC hK hP hD hS (in_up (n := 255) rfl hi0 c_6) dX4_perform_132 (fun H locs hP hD hS => ?_)
      refine lv_iinc (v := (u4 + 1)) (lv' := [(4, .int (u4 + 1)), (3, .int w3), (2, .int w2), (1, .int w1), (0, .ref ad.1)]) hx hb dX4_perform_133 hl (k := 0) rfl rfl (by decide) rfl (fun ls hl => ?_)
      refine lv_goto (tgt := 111) hx hb dX4_perform_136 (by decide) ?_
      have e9 := up_add (d := 1) (k := 1) (M := 255) rfl hi0 hi1 (by decide) (by decide)
      have e8 := nle_ti (k := 255) rfl c_6
      exact ih (M_set_z σ (upd (M_z σ) u4.toNatClampNeg ((M_aside σ) u4.toNatClampNeg))) _ _ hP hD hS (u4 + 1) (by rw [e9]; omega) (by rw [e9]; omega) (by rw [e9]; omega) (by rw [hR, mX4_perform_L111, if_neg c_6]) _ (lv_sub hl [0, 1, 2, 3, 4] rfl)
def mX4_perform_L48 (w1 : Int32) : Nat → MS → Int32 → Int32 → Int32 → Int32 × MS
  | 0, σ, _, _, _ => (0, σ)
  | n + 1, σ, u4, u3, u2 => (if (M_length σ) ≤ u4 then (if 0 ≤ u3 then (u2, (mX4_push_aside σ)) else (if u3 = (-5) then (u2, (mX4_push_aside σ)) else (mX4_perform_L111 u3 u2 w1 257 σ 0))) else (if u3 = 0 then (if (mX4_noCommand (mX4_readCommand σ u4).2) = 0 then (mX4_perform_L48 w1 n (mX4_doCommand (mX4_readCommand σ u4).2).2 ((mX4_readCommand σ u4).1 + 1) (mX4_noCommand (mX4_readCommand σ u4).2) (u2 + 1)) else (mX4_perform_L48 w1 n (mX4_readCommand σ u4).2 ((mX4_readCommand σ u4).1 + 1) (mX4_noCommand (mX4_readCommand σ u4).2) (u2 + 1))) else (if u3 = (-5) then (if (mX4_noCommand (mX4_readCommand σ u4).2) = 0 then (mX4_perform_L48 w1 n (mX4_doCommand (mX4_readCommand σ u4).2).2 ((mX4_readCommand σ u4).1 + 1) (mX4_noCommand (mX4_readCommand σ u4).2) (u2 + 1)) else (mX4_perform_L48 w1 n (mX4_readCommand σ u4).2 ((mX4_readCommand σ u4).1 + 1) (mX4_noCommand (mX4_readCommand σ u4).2) (u2 + 1))) else (if 0 ≤ u3 then (u2, (mX4_push_aside σ)) else (if u3 = (-5) then (u2, (mX4_push_aside σ)) else (mX4_perform_L111 u3 u2 w1 257 σ 0))))))
set_option maxHeartbeats 4000000 in
set_option maxRecDepth 100000 in
theorem q_X4_perform_48 {p : Program} {e : Env} {s : State} {m : MethodId} {args : Array Value} {below : List Frame} {meth : Method} {c : Code} (l : Launch) (g : WG) (ad : AM) (w1 : Int32) (hC : Cx p s m args meth c yX4_perform cX4_perform 5 (some .int)) (hK : va_K g.1 vwCl (tysW g) s) {A : Nat → Prop} {ws0 : va_W} (hE : Ex A s s.heap) (hA : ∀ q : Nat, s.heap.size ≤ q → A q) (hAe : A = va_A ws0 s.heap.size) {r : Int32 × MS} : ∀ (n : Nat) (σ : MS) (H : Heap) (locs : List Loc) (hP : va_P g.1 vwCl (cM g ad σ) H) (hD : va_D A (cM g ad σ)) (hS : va_S A s.heap H locs) (u4 : Int32) (u3 : Int32) (u2 : Int32) (hi0 : 0 ≤ u4.toInt) (hpm : PM n σ u4 u3) (hm : ((62 : Int) - u4.toInt).toNat < n) (hR : r = mX4_perform_L48 w1 n σ u4 u3 u2) (ls : Array Slot) (hl : lv_has ls 5 [(4, .int u4), (3, .int u3), (2, .int u2), (1, .int w1), (0, .ref ad.1)]), W p l e (rk 8) s m args below meth c H locs 0 0 (MQ below (va_Qi (fun x _ => x = r.1) (Bw g ws0 (cM g ad r.2) s.heap.size) (va_A ws0 s.heap.size)) args s 0 0 (va_A ws0 s.heap.size)) (F0 m 48 ls []) := by
  obtain ⟨hx, hb, hml, hr, hown, hts, hlk, hnm⟩ := id hC
  intro n
  induction n with
  | zero => intro σ H locs hP hD hS u4 u3 u2 hi0 hpm hm hR ls hl; exact absurd hm (Nat.not_lt_zero _)
  | succ n ih =>
    intro σ H locs hP hD hS u4 u3 u2 hi0 hpm hm hR ls hl
    refine lv_iload hx hb dX4_perform_48 (lv_at hl 0 rfl) ?_
    refine lv_aload_n hx hb dX4_perform_50 rfl (lv_at hl 4 rfl) ?_
    refine gM_length hC rfl hK hP dX4_perform_51 ?_
    refine lv_icmp_ge (tgt := 98) hx hb dX4_perform_54 (by decide) (fun c_3 => ?_) (fun c_3 => ?_)
    · refine lv_iload_n hx hb dX4_perform_98 rfl (lv_at hl 1 rfl) ?_
      refine lv_if_ge (tgt := 154) hx hb dX4_perform_99 (by decide) (fun c_4 => ?_) (fun c_4 => ?_)
      · refine lv_aload_n hx hb dX4_perform_154 rfl (lv_at hl 4 rfl) ?_
        refine lv_aload_n hx hb dX4_perform_155 rfl (lv_at hl 4 rfl) ?_
        refine gM_aside hC rfl hK hP dX4_perform_156 ?_
        refine callWv hC (k_X4_push_aside l g ad σ (pm_st hpm)) ci_X4_push lk_X4_85 ⟨Nat.le_of_ble_eq_true rfl, Nat.le_of_ble_eq_true rfl⟩ hP hD hK hE hS hA (q0 := 0) rfl rfl rfl rfl hl.1 rfl (Nat.le_of_ble_eq_true rfl) dX4_perform_159 ⟨Nat.zero_le _, Nat.zero_le _⟩ (fun H locs hP _ hD hS _ _ => ?_)
        refine lv_iload_n hx hb dX4_perform_162 rfl (lv_at hl 2 rfl) ?_
        have hm : r = (u2, (mX4_push_aside σ)) := by rw [hR, mX4_perform_L48, if_pos c_3, if_pos c_4]
        exact wr_ret hC hP (hAe ▸ hD) (hAe ▸ hS) dX4_perform_163 (by rw [hm]) (by rw [hm])
      · refine lv_iload_n hx hb dX4_perform_102 rfl (lv_at hl 1 rfl) ?_
        refine lv_bipush (v := (-5)) hx hb dX4_perform_103 (by decide) ?_
        refine lv_icmp_eq (tgt := 154) hx hb dX4_perform_105 (by decide) (fun c_5 => ?_) (fun c_5 => ?_)
        · refine lv_aload_n hx hb dX4_perform_154 rfl (lv_at hl 4 rfl) ?_
          refine lv_aload_n hx hb dX4_perform_155 rfl (lv_at hl 4 rfl) ?_
          refine gM_aside hC rfl hK hP dX4_perform_156 ?_
          refine callWv hC (k_X4_push_aside l g ad σ (pm_st hpm)) ci_X4_push lk_X4_85 ⟨Nat.le_of_ble_eq_true rfl, Nat.le_of_ble_eq_true rfl⟩ hP hD hK hE hS hA (q0 := 0) rfl rfl rfl rfl hl.1 rfl (Nat.le_of_ble_eq_true rfl) dX4_perform_159 ⟨Nat.zero_le _, Nat.zero_le _⟩ (fun H locs hP _ hD hS _ _ => ?_)
          refine lv_iload_n hx hb dX4_perform_162 rfl (lv_at hl 2 rfl) ?_
          have hm : r = (u2, (mX4_push_aside σ)) := by rw [hR, mX4_perform_L48, if_pos c_3, if_neg c_4, if_pos c_5]
          exact wr_ret hC hP (hAe ▸ hD) (hAe ▸ hS) dX4_perform_163 (by rw [hm]) (by rw [hm])
        · refine lv_iconst (v := 0) hx hb dX4_perform_108 (by decide) ?_
          refine lv_istore (lv' := [(4, .int 0), (3, .int u3), (2, .int u2), (1, .int w1), (0, .ref ad.1)]) hx hb dX4_perform_109 hl (by decide) rfl (fun ls hl => ?_)
          refine q_X4_perform_111 l g ad u3 u2 w1 hC hK hE hA hAe 257 σ _ _ hP hD hS 0 (by decide) (by decide) (by decide) ?_ _ (lv_sub hl [0, 1, 2, 3, 4] rfl)
          exact by rw [hR, mX4_perform_L48, if_pos c_3, if_neg c_4, if_neg c_5]
    · refine lv_iload_n hx hb dX4_perform_57 rfl (lv_at hl 1 rfl) ?_
      refine lv_if_eq (tgt := 67) hx hb dX4_perform_58 (by decide) (fun c_7 => ?_) (fun c_7 => ?_)
      · refine lv_aload_n hx hb dX4_perform_67 rfl (lv_at hl 4 rfl) ?_
        refine lv_iload hx hb dX4_perform_68 (lv_at hl 0 rfl) ?_
        refine callWr hC (k_X4_readCommand l g ad σ u4 (pm_pl hpm c_3 (Or.inl c_7))) ci_X4_readCommand lk_X4_188 ⟨Nat.le_of_ble_eq_true rfl, Nat.le_of_ble_eq_true rfl⟩ hP hD hK hE hS hA (q0 := 0) rfl rfl rfl rfl hl.1 rfl (Nat.le_of_ble_eq_true rfl) dX4_perform_70 ⟨Nat.zero_le _, Nat.zero_le _⟩ (fun H locs hP _ hD hS _ _ => ?_)
        refine lv_istore (lv' := [(4, .int (mX4_readCommand σ u4).1), (3, .int u3), (2, .int u2), (1, .int w1), (0, .ref ad.1)]) hx hb dX4_perform_73 hl (by decide) rfl (fun ls hl => ?_)
        refine lv_aload_n hx hb dX4_perform_75 rfl (lv_at hl 4 rfl) ?_
        refine callRd hC (k_X4_noCommand l g ad (mX4_readCommand σ u4).2 (pm_keel hpm c_3 (Or.inl c_7))) ci_X4_noCommand lk_X4_194 ⟨Nat.le_of_ble_eq_true rfl, Nat.le_of_ble_eq_true rfl⟩ hP hK (hE.S hS).none (q0 := 0) rfl rfl rfl rfl hl.1 rfl (Nat.le_of_ble_eq_true rfl) dX4_perform_76 ⟨Nat.zero_le _, Nat.zero_le _⟩ ?_
        refine lv_istore_n (lv' := [(3, .int (mX4_noCommand (mX4_readCommand σ u4).2)), (4, .int (mX4_readCommand σ u4).1), (2, .int u2), (1, .int w1), (0, .ref ad.1)]) hx hb dX4_perform_79 rfl hl (by decide) rfl (fun ls hl => ?_)
        refine lv_iload_n hx hb dX4_perform_80 rfl (lv_at hl 0 rfl) ?_
        refine lv_if_ne (tgt := 89) hx hb dX4_perform_81 (by decide) (fun c_8 => ?_) (fun c_8 => ?_)
        · refine lv_iinc (v := (u2 + 1)) (lv' := [(2, .int (u2 + 1)), (3, .int (mX4_noCommand (mX4_readCommand σ u4).2)), (4, .int (mX4_readCommand σ u4).1), (1, .int w1), (0, .ref ad.1)]) hx hb dX4_perform_89 hl (k := 2) rfl rfl (by decide) rfl (fun ls hl => ?_)
          refine lv_iinc (v := ((mX4_readCommand σ u4).1 + 1)) (lv' := [(4, .int ((mX4_readCommand σ u4).1 + 1)), (2, .int (u2 + 1)), (3, .int (mX4_noCommand (mX4_readCommand σ u4).2)), (1, .int w1), (0, .ref ad.1)]) hx hb dX4_perform_92 hl (k := 2) rfl rfl (by decide) rfl (fun ls hl => ?_)
          refine lv_goto (tgt := 48) hx hb dX4_perform_95 (by decide) ?_
          have e7 := pm_rng hpm c_3 (Or.inl c_7)
          have e9 := up_add (x := (mX4_readCommand σ u4).1) (d := 1) (k := 1) (M := 60) rfl (by have := e7; omega) (by have := e7; omega) (by decide) (by decide)
          exact ih (mX4_readCommand σ u4).2 _ _ hP hD hS ((mX4_readCommand σ u4).1 + 1) (mX4_noCommand (mX4_readCommand σ u4).2) (u2 + 1) (by rw [e9]; omega) (pm_no hpm c_3 (Or.inl c_7) c_8) (by rw [e9]; omega) (by rw [hR, mX4_perform_L48, if_neg c_3, if_pos c_7, if_neg c_8]) _ (lv_sub hl [0, 2, 1, 3, 4] rfl)
        · refine lv_aload_n hx hb dX4_perform_84 rfl (lv_at hl 4 rfl) ?_
          refine callWr hC (k_X4_doCommand l g ad (mX4_readCommand σ u4).2 (pm_keel hpm c_3 (Or.inl c_7)) (by rw [c_8]; decide)) ci_X4_doCommand lk_X4_197 ⟨Nat.le_of_ble_eq_true rfl, Nat.le_of_ble_eq_true rfl⟩ hP hD hK hE hS hA (q0 := 0) rfl rfl rfl rfl hl.1 rfl (Nat.le_of_ble_eq_true rfl) dX4_perform_85 ⟨Nat.zero_le _, Nat.zero_le _⟩ (fun H locs hP _ hD hS _ _ => ?_)
          refine lv_pop hx hb dX4_perform_88 rfl ?_
          refine lv_iinc (v := (u2 + 1)) (lv' := [(2, .int (u2 + 1)), (3, .int (mX4_noCommand (mX4_readCommand σ u4).2)), (4, .int (mX4_readCommand σ u4).1), (1, .int w1), (0, .ref ad.1)]) hx hb dX4_perform_89 hl (k := 2) rfl rfl (by decide) rfl (fun ls hl => ?_)
          refine lv_iinc (v := ((mX4_readCommand σ u4).1 + 1)) (lv' := [(4, .int ((mX4_readCommand σ u4).1 + 1)), (2, .int (u2 + 1)), (3, .int (mX4_noCommand (mX4_readCommand σ u4).2)), (1, .int w1), (0, .ref ad.1)]) hx hb dX4_perform_92 hl (k := 2) rfl rfl (by decide) rfl (fun ls hl => ?_)
          refine lv_goto (tgt := 48) hx hb dX4_perform_95 (by decide) ?_
          have e7 := pm_rng hpm c_3 (Or.inl c_7)
          have e9 := up_add (x := (mX4_readCommand σ u4).1) (d := 1) (k := 1) (M := 60) rfl (by have := e7; omega) (by have := e7; omega) (by decide) (by decide)
          exact ih (mX4_doCommand (mX4_readCommand σ u4).2).2 _ _ hP hD hS ((mX4_readCommand σ u4).1 + 1) (mX4_noCommand (mX4_readCommand σ u4).2) (u2 + 1) (by rw [e9]; omega) (pm_yes hpm c_3 (Or.inl c_7) c_8) (by rw [e9]; omega) (by rw [hR, mX4_perform_L48, if_neg c_3, if_pos c_7, if_pos c_8]) _ (lv_sub hl [0, 2, 1, 3, 4] rfl)
      · refine lv_iload_n hx hb dX4_perform_61 rfl (lv_at hl 1 rfl) ?_
        refine lv_bipush (v := (-5)) hx hb dX4_perform_62 (by decide) ?_
        refine lv_icmp_ne (tgt := 98) hx hb dX4_perform_64 (by decide) (fun c_9 => ?_) (fun c_9 => ?_)
        · refine lv_iload_n hx hb dX4_perform_98 rfl (lv_at hl 1 rfl) ?_
          refine lv_if_ge (tgt := 154) hx hb dX4_perform_99 (by decide) (fun c_10 => ?_) (fun c_10 => ?_)
          · refine lv_aload_n hx hb dX4_perform_154 rfl (lv_at hl 4 rfl) ?_
            refine lv_aload_n hx hb dX4_perform_155 rfl (lv_at hl 4 rfl) ?_
            refine gM_aside hC rfl hK hP dX4_perform_156 ?_
            refine callWv hC (k_X4_push_aside l g ad σ (pm_st hpm)) ci_X4_push lk_X4_85 ⟨Nat.le_of_ble_eq_true rfl, Nat.le_of_ble_eq_true rfl⟩ hP hD hK hE hS hA (q0 := 0) rfl rfl rfl rfl hl.1 rfl (Nat.le_of_ble_eq_true rfl) dX4_perform_159 ⟨Nat.zero_le _, Nat.zero_le _⟩ (fun H locs hP _ hD hS _ _ => ?_)
            refine lv_iload_n hx hb dX4_perform_162 rfl (lv_at hl 2 rfl) ?_
            have hm : r = (u2, (mX4_push_aside σ)) := by rw [hR, mX4_perform_L48, if_neg c_3, if_neg c_7, if_neg c_9, if_pos c_10]
            exact wr_ret hC hP (hAe ▸ hD) (hAe ▸ hS) dX4_perform_163 (by rw [hm]) (by rw [hm])
          · refine lv_iload_n hx hb dX4_perform_102 rfl (lv_at hl 1 rfl) ?_
            refine lv_bipush (v := (-5)) hx hb dX4_perform_103 (by decide) ?_
            refine lv_icmp_eq (tgt := 154) hx hb dX4_perform_105 (by decide) (fun c_11 => ?_) (fun c_11 => ?_)
            · refine lv_aload_n hx hb dX4_perform_154 rfl (lv_at hl 4 rfl) ?_
              refine lv_aload_n hx hb dX4_perform_155 rfl (lv_at hl 4 rfl) ?_
              refine gM_aside hC rfl hK hP dX4_perform_156 ?_
              refine callWv hC (k_X4_push_aside l g ad σ (pm_st hpm)) ci_X4_push lk_X4_85 ⟨Nat.le_of_ble_eq_true rfl, Nat.le_of_ble_eq_true rfl⟩ hP hD hK hE hS hA (q0 := 0) rfl rfl rfl rfl hl.1 rfl (Nat.le_of_ble_eq_true rfl) dX4_perform_159 ⟨Nat.zero_le _, Nat.zero_le _⟩ (fun H locs hP _ hD hS _ _ => ?_)
              refine lv_iload_n hx hb dX4_perform_162 rfl (lv_at hl 2 rfl) ?_
              have hm : r = (u2, (mX4_push_aside σ)) := by rw [hR, mX4_perform_L48, if_neg c_3, if_neg c_7, if_neg c_9, if_neg c_10, if_pos c_11]
              exact wr_ret hC hP (hAe ▸ hD) (hAe ▸ hS) dX4_perform_163 (by rw [hm]) (by rw [hm])
            · refine lv_iconst (v := 0) hx hb dX4_perform_108 (by decide) ?_
              refine lv_istore (lv' := [(4, .int 0), (3, .int u3), (2, .int u2), (1, .int w1), (0, .ref ad.1)]) hx hb dX4_perform_109 hl (by decide) rfl (fun ls hl => ?_)
              refine q_X4_perform_111 l g ad u3 u2 w1 hC hK hE hA hAe 257 σ _ _ hP hD hS 0 (by decide) (by decide) (by decide) ?_ _ (lv_sub hl [0, 1, 2, 3, 4] rfl)
              exact by rw [hR, mX4_perform_L48, if_neg c_3, if_neg c_7, if_neg c_9, if_neg c_10, if_neg c_11]
        · refine lv_aload_n hx hb dX4_perform_67 rfl (lv_at hl 4 rfl) ?_
          refine lv_iload hx hb dX4_perform_68 (lv_at hl 0 rfl) ?_
          refine callWr hC (k_X4_readCommand l g ad σ u4 (pm_pl hpm c_3 (Or.inr c_9))) ci_X4_readCommand lk_X4_188 ⟨Nat.le_of_ble_eq_true rfl, Nat.le_of_ble_eq_true rfl⟩ hP hD hK hE hS hA (q0 := 0) rfl rfl rfl rfl hl.1 rfl (Nat.le_of_ble_eq_true rfl) dX4_perform_70 ⟨Nat.zero_le _, Nat.zero_le _⟩ (fun H locs hP _ hD hS _ _ => ?_)
          refine lv_istore (lv' := [(4, .int (mX4_readCommand σ u4).1), (3, .int u3), (2, .int u2), (1, .int w1), (0, .ref ad.1)]) hx hb dX4_perform_73 hl (by decide) rfl (fun ls hl => ?_)
          refine lv_aload_n hx hb dX4_perform_75 rfl (lv_at hl 4 rfl) ?_
          refine callRd hC (k_X4_noCommand l g ad (mX4_readCommand σ u4).2 (pm_keel hpm c_3 (Or.inr c_9))) ci_X4_noCommand lk_X4_194 ⟨Nat.le_of_ble_eq_true rfl, Nat.le_of_ble_eq_true rfl⟩ hP hK (hE.S hS).none (q0 := 0) rfl rfl rfl rfl hl.1 rfl (Nat.le_of_ble_eq_true rfl) dX4_perform_76 ⟨Nat.zero_le _, Nat.zero_le _⟩ ?_
          refine lv_istore_n (lv' := [(3, .int (mX4_noCommand (mX4_readCommand σ u4).2)), (4, .int (mX4_readCommand σ u4).1), (2, .int u2), (1, .int w1), (0, .ref ad.1)]) hx hb dX4_perform_79 rfl hl (by decide) rfl (fun ls hl => ?_)
          refine lv_iload_n hx hb dX4_perform_80 rfl (lv_at hl 0 rfl) ?_
          refine lv_if_ne (tgt := 89) hx hb dX4_perform_81 (by decide) (fun c_12 => ?_) (fun c_12 => ?_)
          · refine lv_iinc (v := (u2 + 1)) (lv' := [(2, .int (u2 + 1)), (3, .int (mX4_noCommand (mX4_readCommand σ u4).2)), (4, .int (mX4_readCommand σ u4).1), (1, .int w1), (0, .ref ad.1)]) hx hb dX4_perform_89 hl (k := 2) rfl rfl (by decide) rfl (fun ls hl => ?_)
            refine lv_iinc (v := ((mX4_readCommand σ u4).1 + 1)) (lv' := [(4, .int ((mX4_readCommand σ u4).1 + 1)), (2, .int (u2 + 1)), (3, .int (mX4_noCommand (mX4_readCommand σ u4).2)), (1, .int w1), (0, .ref ad.1)]) hx hb dX4_perform_92 hl (k := 2) rfl rfl (by decide) rfl (fun ls hl => ?_)
            refine lv_goto (tgt := 48) hx hb dX4_perform_95 (by decide) ?_
            have e7 := pm_rng hpm c_3 (Or.inr c_9)
            have e9 := up_add (x := (mX4_readCommand σ u4).1) (d := 1) (k := 1) (M := 60) rfl (by have := e7; omega) (by have := e7; omega) (by decide) (by decide)
            exact ih (mX4_readCommand σ u4).2 _ _ hP hD hS ((mX4_readCommand σ u4).1 + 1) (mX4_noCommand (mX4_readCommand σ u4).2) (u2 + 1) (by rw [e9]; omega) (pm_no hpm c_3 (Or.inr c_9) c_12) (by rw [e9]; omega) (by rw [hR, mX4_perform_L48, if_neg c_3, if_neg c_7, if_pos c_9, if_neg c_12]) _ (lv_sub hl [0, 2, 1, 3, 4] rfl)
          · refine lv_aload_n hx hb dX4_perform_84 rfl (lv_at hl 4 rfl) ?_
            refine callWr hC (k_X4_doCommand l g ad (mX4_readCommand σ u4).2 (pm_keel hpm c_3 (Or.inr c_9)) (by rw [c_12]; decide)) ci_X4_doCommand lk_X4_197 ⟨Nat.le_of_ble_eq_true rfl, Nat.le_of_ble_eq_true rfl⟩ hP hD hK hE hS hA (q0 := 0) rfl rfl rfl rfl hl.1 rfl (Nat.le_of_ble_eq_true rfl) dX4_perform_85 ⟨Nat.zero_le _, Nat.zero_le _⟩ (fun H locs hP _ hD hS _ _ => ?_)
            refine lv_pop hx hb dX4_perform_88 rfl ?_
            refine lv_iinc (v := (u2 + 1)) (lv' := [(2, .int (u2 + 1)), (3, .int (mX4_noCommand (mX4_readCommand σ u4).2)), (4, .int (mX4_readCommand σ u4).1), (1, .int w1), (0, .ref ad.1)]) hx hb dX4_perform_89 hl (k := 2) rfl rfl (by decide) rfl (fun ls hl => ?_)
            refine lv_iinc (v := ((mX4_readCommand σ u4).1 + 1)) (lv' := [(4, .int ((mX4_readCommand σ u4).1 + 1)), (2, .int (u2 + 1)), (3, .int (mX4_noCommand (mX4_readCommand σ u4).2)), (1, .int w1), (0, .ref ad.1)]) hx hb dX4_perform_92 hl (k := 2) rfl rfl (by decide) rfl (fun ls hl => ?_)
            refine lv_goto (tgt := 48) hx hb dX4_perform_95 (by decide) ?_
            have e7 := pm_rng hpm c_3 (Or.inr c_9)
            have e9 := up_add (x := (mX4_readCommand σ u4).1) (d := 1) (k := 1) (M := 60) rfl (by have := e7; omega) (by have := e7; omega) (by decide) (by decide)
            exact ih (mX4_doCommand (mX4_readCommand σ u4).2).2 _ _ hP hD hS ((mX4_readCommand σ u4).1 + 1) (mX4_noCommand (mX4_readCommand σ u4).2) (u2 + 1) (by rw [e9]; omega) (pm_yes hpm c_3 (Or.inr c_9) c_12) (by rw [e9]; omega) (by rw [hR, mX4_perform_L48, if_neg c_3, if_neg c_7, if_pos c_9, if_pos c_12]) _ (lv_sub hl [0, 2, 1, 3, 4] rfl)
def mX4_perform_L16 (w1 : Int32) : Nat → MS → Int32 → Int32 × MS
  | 0, σ, _ => (0, σ)
  | n + 1, σ, u2 => (if 255 ≤ u2 then (mX4_perform_L48 w1 64 σ 0 0 0) else (mX4_perform_L16 w1 n (M_set_aside σ (upd (M_aside σ) u2.toNatClampNeg ((M_z σ) u2.toNatClampNeg))) (u2 + 1)))
set_option maxHeartbeats 4000000 in
set_option maxRecDepth 100000 in
theorem q_X4_perform_16 {p : Program} {e : Env} {s : State} {m : MethodId} {args : Array Value} {below : List Frame} {meth : Method} {c : Code} (l : Launch) (g : WG) (ad : AM) (w1 : Int32) (hC : Cx p s m args meth c yX4_perform cX4_perform 5 (some .int)) (hK : va_K g.1 vwCl (tysW g) s) {A : Nat → Prop} {ws0 : va_W} (hE : Ex A s s.heap) (hA : ∀ q : Nat, s.heap.size ≤ q → A q) (hAe : A = va_A ws0 s.heap.size) {r : Int32 × MS} : ∀ (n : Nat) (σ : MS) (H : Heap) (locs : List Loc) (hP : va_P g.1 vwCl (cM g ad σ) H) (hD : va_D A (cM g ad σ)) (hS : va_S A s.heap H locs) (u2 : Int32) (hi0 : 0 ≤ u2.toInt) (hi1 : u2.toInt ≤ 255) (hpm : ∀ a, PM 64 (M_set_aside σ a) 0 0) (hm : ((256 : Int) - u2.toInt).toNat < n) (hR : r = mX4_perform_L16 w1 n σ u2) (ls : Array Slot) (hl : lv_has ls 5 [(2, .int u2), (1, .int w1), (0, .ref ad.1)]), W p l e (rk 8) s m args below meth c H locs 0 0 (MQ below (va_Qi (fun x _ => x = r.1) (Bw g ws0 (cM g ad r.2) s.heap.size) (va_A ws0 s.heap.size)) args s 0 0 (va_A ws0 s.heap.size)) (F0 m 16 ls []) := by
  obtain ⟨hx, hb, hml, hr, hown, hts, hlk, hnm⟩ := id hC
  intro n
  induction n with
  | zero => intro σ H locs hP hD hS u2 hi0 hi1 hpm hm hR ls hl; exact absurd hm (Nat.not_lt_zero _)
  | succ n ih =>
    intro σ H locs hP hD hS u2 hi0 hi1 hpm hm hR ls hl
    refine lv_iload_n hx hb dX4_perform_16 rfl (lv_at hl 0 rfl) ?_
    refine lv_sipush (v := 255) hx hb dX4_perform_17 (by decide) ?_
    refine lv_icmp_ge (tgt := 41) hx hb dX4_perform_20 (by decide) (fun c_2 => ?_) (fun c_2 => ?_)
    · refine lv_iconst (v := 0) hx hb dX4_perform_41 (by decide) ?_
      refine lv_istore_n (lv' := [(2, .int 0), (1, .int w1), (0, .ref ad.1)]) hx hb dX4_perform_42 rfl hl (by decide) rfl (fun ls hl => ?_)
      refine lv_iconst (v := 0) hx hb dX4_perform_43 (by decide) ?_
      refine lv_istore_n (lv' := [(3, .int 0), (2, .int 0), (1, .int w1), (0, .ref ad.1)]) hx hb dX4_perform_44 rfl hl (by decide) rfl (fun ls hl => ?_)
      refine lv_iconst (v := 0) hx hb dX4_perform_45 (by decide) ?_
      refine lv_istore (lv' := [(4, .int 0), (3, .int 0), (2, .int 0), (1, .int w1), (0, .ref ad.1)]) hx hb dX4_perform_46 hl (by decide) rfl (fun ls hl => ?_)
      refine q_X4_perform_48 l g ad w1 hC hK hE hA hAe 64 σ _ _ hP hD hS 0 0 0 (by decide) (hpm (M_aside σ)) (by decide) ?_ _ (lv_sub hl [0, 1, 2, 3, 4] rfl)
      exact by rw [hR, mX4_perform_L16, if_pos c_2]
    · refine lv_aload_n hx hb dX4_perform_23 rfl (lv_at hl 2 rfl) ?_
      refine gM_aside hC rfl hK hP dX4_perform_24 ?_
      refine lv_iload_n hx hb dX4_perform_27 rfl (lv_at hl 0 rfl) ?_
      refine lv_aload_n hx hb dX4_perform_28 rfl (lv_at hl 2 rfl) ?_
      refine gM_z hC rfl hK hP dX4_perform_29 ?_
      refine lv_iload_n hx hb dX4_perform_32 rfl (lv_at hl 0 rfl) ?_
      refine lM_z hC hK hP (in_up (n := 255) rfl hi0 c_2) dX4_perform_33 ?_
      refine sM_aside hC hK hP hD hS (in_up (n := 255) rfl hi0 c_2) dX4_perform_34 (fun H locs hP hD hS => ?_)
      refine lv_iinc (v := (u2 + 1)) (lv' := [(2, .int (u2 + 1)), (1, .int w1), (0, .ref ad.1)]) hx hb dX4_perform_35 hl (k := 0) rfl rfl (by decide) rfl (fun ls hl => ?_)
      refine lv_goto (tgt := 16) hx hb dX4_perform_38 (by decide) ?_
      have e9 := up_add (d := 1) (k := 1) (M := 255) rfl hi0 hi1 (by decide) (by decide)
      have e8 := nle_ti (k := 255) rfl c_2
      exact ih (M_set_aside σ (upd (M_aside σ) u2.toNatClampNeg ((M_z σ) u2.toNatClampNeg))) _ _ hP hD hS (u2 + 1) (by rw [e9]; omega) (by rw [e9]; omega) (fun a => hpm a) (by rw [e9]; omega) (by rw [hR, mX4_perform_L16, if_neg c_2]) _ (lv_sub hl [0, 1, 2] rfl)
def mX4_perform (σ : MS) : Int32 × MS := (if (mX4_findFault σ).1 < 0 then (mX4_perform_L16 (mX4_findFault σ).1 257 (mX4_findFault σ).2 0) else (((-100) - (mX4_findFault σ).1), (mX4_findFault σ).2))
set_option maxHeartbeats 4000000 in
set_option maxRecDepth 100000 in
theorem k_X4_perform (l : Launch) (g : WG) (ad : AM) (σ : MS) (h_st : 0 ≤ (M_states σ).toInt ∧ (M_states σ).toInt ≤ 4) (h_len : 0 ≤ (M_length σ).toInt ∧ (M_length σ).toInt ≤ 60) (h_pm : ∀ a, PM 64 (M_set_aside (mX4_findFault σ).2 a) 0 0) (h_fst : 0 ≤ (M_states (mX4_findFault σ).2).toInt ∧ (M_states (mX4_findFault σ).2).toInt ≤ 4) : Wr l yX4_perform cX4_perform 5 (some .int) 8 g (cM g ad σ) (cM g ad (mX4_perform σ).2) [.ref ad.1] (mX4_perform σ).1 := by
  refine wr_of (by decide) (Nat.le_of_ble_eq_true rfl) ?_
  intro p e s m args below meth c ls A hC hAe hP hD hK hE hA hS hl
  obtain ⟨hx, hb, hml, hr, hown, hts, hlk, hnm⟩ := id hC
  have hl : lv_has ls 5 [(0, .ref ad.1)] := hl
  refine lv_aload_n hx hb dX4_perform_0 rfl (lv_at hl 0 rfl) ?_
  refine callWr hC (k_X4_findFault l g ad σ h_len) ci_X4_findFault lk_X4_191 ⟨Nat.le_of_ble_eq_true rfl, Nat.le_of_ble_eq_true rfl⟩ hP hD hK hE hS hA (q0 := 0) rfl rfl rfl rfl hl.1 rfl (Nat.le_of_ble_eq_true rfl) dX4_perform_1 ⟨Nat.zero_le _, Nat.zero_le _⟩ (fun H locs hP _ hD hS _ _ => ?_)
  refine lv_istore_n (lv' := [(1, .int (mX4_findFault σ).1), (0, .ref ad.1)]) hx hb dX4_perform_4 rfl hl (by decide) rfl (fun ls hl => ?_)
  refine lv_iload_n hx hb dX4_perform_5 rfl (lv_at hl 0 rfl) ?_
  refine lv_if_lt (tgt := 14) hx hb dX4_perform_6 (by decide) (fun c_1 => ?_) (fun c_1 => ?_)
  · refine lv_iconst (v := 0) hx hb dX4_perform_14 (by decide) ?_
    refine lv_istore_n (lv' := [(2, .int 0), (1, .int (mX4_findFault σ).1), (0, .ref ad.1)]) hx hb dX4_perform_15 rfl hl (by decide) rfl (fun ls hl => ?_)
    refine q_X4_perform_16 l g ad (mX4_findFault σ).1 hC hK hE hA hAe 257 (mX4_findFault σ).2 _ _ hP hD hS 0 (by decide) (by decide) h_pm (by decide) ?_ _ (lv_sub hl [0, 1, 2] rfl)
    exact by unfold mX4_perform; rw [if_pos c_1]
  · refine lv_bipush (v := (-100)) hx hb dX4_perform_9 (by decide) ?_
    refine lv_iload_n hx hb dX4_perform_11 rfl (lv_at hl 0 rfl) ?_
    refine lv_isub hx hb dX4_perform_12 ?_
    have hm : mX4_perform σ = (((-100) - (mX4_findFault σ).1), (mX4_findFault σ).2) := by unfold mX4_perform; rw [if_neg c_1]
    exact wr_ret hC hP (hAe ▸ hD) (hAe ▸ hS) dX4_perform_13 (by rw [hm]) (by rw [hm])
def mX4_stopped (σ : MS) (x1 : Int32) : Int32 := (if x1 = 0 then (M_stopNumber σ) else (if x1 = 1 then (M_stopError σ) else (-2)))
set_option maxHeartbeats 4000000 in
set_option maxRecDepth 100000 in
theorem k_X4_stopped (l : Launch) (g : WG) (ad : AM) (σ : MS) (x1 : Int32) : Rd l yX4_stopped cX4_stopped 2 (some .int) 0 (Wl g (cM g ad σ) (fun _ => False)) [.ref ad.1, .int x1] (mX4_stopped σ x1) := by
  refine rd_of (by decide) (Nat.le_of_ble_eq_true rfl) ?_
  intro p e s m args below meth c ls hC hW hl
  obtain ⟨hP, hK, hE⟩ := hW
  obtain ⟨hx, hb, hml, hr, hown, hts, hlk, hnm⟩ := id hC
  have hl : lv_has ls 2 [(0, .ref ad.1), (1, .int x1)] := hl
  refine lv_iload_n hx hb dX4_stopped_0 rfl (lv_at hl 1 rfl) ?_
  refine lv_if_ne (tgt := 11) hx hb dX4_stopped_1 (by decide) (fun c_1 => ?_) (fun c_1 => ?_)
  · refine lv_iload_n hx hb dX4_stopped_11 rfl (lv_at hl 1 rfl) ?_
    refine lv_iconst (v := 1) hx hb dX4_stopped_12 (by decide) ?_
    refine lv_icmp_ne (tgt := 23) hx hb dX4_stopped_13 (by decide) (fun c_2 => ?_) (fun c_2 => ?_)
    · refine lv_bipush (v := (-2)) hx hb dX4_stopped_23 (by decide) ?_
      exact rd_ret hC dX4_stopped_25 (Eq.symm (by unfold mX4_stopped; rw [if_neg c_1, if_neg c_2]))
    · refine lv_aload_n hx hb dX4_stopped_16 rfl (lv_at hl 0 rfl) ?_
      refine gM_stopError hC rfl hK hP dX4_stopped_17 ?_
      refine lv_goto (tgt := 25) hx hb dX4_stopped_20 (by decide) ?_
      exact rd_ret hC dX4_stopped_25 (Eq.symm (by unfold mX4_stopped; rw [if_neg c_1, if_pos c_2]))
  · refine lv_aload_n hx hb dX4_stopped_4 rfl (lv_at hl 0 rfl) ?_
    refine gM_stopNumber hC rfl hK hP dX4_stopped_5 ?_
    refine lv_goto (tgt := 25) hx hb dX4_stopped_8 (by decide) ?_
    exact rd_ret hC dX4_stopped_25 (Eq.symm (by unfold mX4_stopped; rw [if_pos c_1]))
def mX4_boat (σ : MS) (x1 : Int32) (x2 : Int32) : Int32 := (if (mX4_isBoat σ x1) = 0 then (-1) else (if x2 = 0 then (mX4_of σ x1 (1 + x2)) else (if x2 = 1 then (mX4_of σ x1 (1 + x2)) else (if x2 = 2 then (mX4_of σ x1 (1 + x2)) else (if x2 = 3 then (mX4_of σ x1 (1 + x2)) else (if x2 = 4 then (mX4_of σ x1 5) else (if x2 = 5 then (if (mX4_isAshore σ x1) = 0 then (-5) else (mX4_placeOf σ x1)) else (if x2 = 6 then (mX4_of σ x1 6) else (if x2 = 7 then (mX4_of σ x1 7) else (if x2 = 8 then (mX4_of σ x1 8) else (if x2 = 9 then (mX4_of σ x1 9) else (if x2 = 10 then (mX4_of σ x1 10) else (-2)))))))))))))
set_option maxHeartbeats 4000000 in
set_option maxRecDepth 100000 in
theorem k_X4_boat (l : Launch) (g : WG) (ad : AM) (σ : MS) (x1 : Int32) (x2 : Int32) : Rd l yX4_boat cX4_boat 3 (some .int) 3 (Wl g (cM g ad σ) (fun _ => False)) [.ref ad.1, .int x1, .int x2] (mX4_boat σ x1 x2) := by
  refine rd_of (by decide) (Nat.le_of_ble_eq_true rfl) ?_
  intro p e s m args below meth c ls hC hW hl
  obtain ⟨hP, hK, hE⟩ := hW
  obtain ⟨hx, hb, hml, hr, hown, hts, hlk, hnm⟩ := id hC
  have hl : lv_has ls 3 [(0, .ref ad.1), (1, .int x1), (2, .int x2)] := hl
  refine lv_aload_n hx hb dX4_boat_0 rfl (lv_at hl 0 rfl) ?_
  refine lv_iload_n hx hb dX4_boat_1 rfl (lv_at hl 1 rfl) ?_
  refine callRd hC (k_X4_isBoat l g ad σ x1) ci_X4_isBoat lk_X4_92 ⟨Nat.le_of_ble_eq_true rfl, Nat.le_of_ble_eq_true rfl⟩ hP hK hE (q0 := 0) rfl rfl rfl rfl hl.1 rfl (Nat.le_of_ble_eq_true rfl) dX4_boat_2 ⟨Nat.zero_le _, Nat.zero_le _⟩ ?_
  refine lv_if_ne (tgt := 10) hx hb dX4_boat_5 (by decide) (fun c_1 => ?_) (fun c_1 => ?_)
  · refine lv_iload_n hx hb dX4_boat_10 rfl (lv_at hl 2 rfl) ?_
    by_cases c_2 : x2 = 0
    · refine lv_tableIn (tgt := 68) (off := 57) hx hb dX4_boat_11 (by rw [c_2]; decide) (by rw [c_2]; decide) (by rw [c_2]; rfl) (by decide) ?_
      refine lv_aload_n hx hb dX4_boat_68 rfl (lv_at hl 0 rfl) ?_
      refine lv_iload_n hx hb dX4_boat_69 rfl (lv_at hl 1 rfl) ?_
      refine lv_iconst (v := 1) hx hb dX4_boat_70 (by decide) ?_
      refine lv_iload_n hx hb dX4_boat_71 rfl (lv_at hl 2 rfl) ?_
      refine lv_iadd hx hb dX4_boat_72 ?_
      refine callRd hC (k_X4_of l g ad σ x1 (1 + x2) (in_X4_isBoat c_1) (by rw [c_2]; exact in_iff.mpr (by decide))) ci_X4_of lk_X4_36 ⟨Nat.le_of_ble_eq_true rfl, Nat.le_of_ble_eq_true rfl⟩ hP hK hE (q0 := 0) rfl rfl rfl rfl hl.1 rfl (Nat.le_of_ble_eq_true rfl) dX4_boat_73 ⟨Nat.zero_le _, Nat.zero_le _⟩ ?_
      exact rd_ret hC dX4_boat_76 (Eq.symm (by unfold mX4_boat; rw [if_neg c_1, if_pos c_2]))
    · by_cases c_3 : x2 = 1
      · refine lv_tableIn (tgt := 68) (off := 57) hx hb dX4_boat_11 (by rw [c_3]; decide) (by rw [c_3]; decide) (by rw [c_3]; rfl) (by decide) ?_
        refine lv_aload_n hx hb dX4_boat_68 rfl (lv_at hl 0 rfl) ?_
        refine lv_iload_n hx hb dX4_boat_69 rfl (lv_at hl 1 rfl) ?_
        refine lv_iconst (v := 1) hx hb dX4_boat_70 (by decide) ?_
        refine lv_iload_n hx hb dX4_boat_71 rfl (lv_at hl 2 rfl) ?_
        refine lv_iadd hx hb dX4_boat_72 ?_
        refine callRd hC (k_X4_of l g ad σ x1 (1 + x2) (in_X4_isBoat c_1) (by rw [c_3]; exact in_iff.mpr (by decide))) ci_X4_of lk_X4_36 ⟨Nat.le_of_ble_eq_true rfl, Nat.le_of_ble_eq_true rfl⟩ hP hK hE (q0 := 0) rfl rfl rfl rfl hl.1 rfl (Nat.le_of_ble_eq_true rfl) dX4_boat_73 ⟨Nat.zero_le _, Nat.zero_le _⟩ ?_
        exact rd_ret hC dX4_boat_76 (Eq.symm (by unfold mX4_boat; rw [if_neg c_1, if_neg c_2, if_pos c_3]))
      · by_cases c_4 : x2 = 2
        · refine lv_tableIn (tgt := 68) (off := 57) hx hb dX4_boat_11 (by rw [c_4]; decide) (by rw [c_4]; decide) (by rw [c_4]; rfl) (by decide) ?_
          refine lv_aload_n hx hb dX4_boat_68 rfl (lv_at hl 0 rfl) ?_
          refine lv_iload_n hx hb dX4_boat_69 rfl (lv_at hl 1 rfl) ?_
          refine lv_iconst (v := 1) hx hb dX4_boat_70 (by decide) ?_
          refine lv_iload_n hx hb dX4_boat_71 rfl (lv_at hl 2 rfl) ?_
          refine lv_iadd hx hb dX4_boat_72 ?_
          refine callRd hC (k_X4_of l g ad σ x1 (1 + x2) (in_X4_isBoat c_1) (by rw [c_4]; exact in_iff.mpr (by decide))) ci_X4_of lk_X4_36 ⟨Nat.le_of_ble_eq_true rfl, Nat.le_of_ble_eq_true rfl⟩ hP hK hE (q0 := 0) rfl rfl rfl rfl hl.1 rfl (Nat.le_of_ble_eq_true rfl) dX4_boat_73 ⟨Nat.zero_le _, Nat.zero_le _⟩ ?_
          exact rd_ret hC dX4_boat_76 (Eq.symm (by unfold mX4_boat; rw [if_neg c_1, if_neg c_2, if_neg c_3, if_pos c_4]))
        · by_cases c_5 : x2 = 3
          · refine lv_tableIn (tgt := 68) (off := 57) hx hb dX4_boat_11 (by rw [c_5]; decide) (by rw [c_5]; decide) (by rw [c_5]; rfl) (by decide) ?_
            refine lv_aload_n hx hb dX4_boat_68 rfl (lv_at hl 0 rfl) ?_
            refine lv_iload_n hx hb dX4_boat_69 rfl (lv_at hl 1 rfl) ?_
            refine lv_iconst (v := 1) hx hb dX4_boat_70 (by decide) ?_
            refine lv_iload_n hx hb dX4_boat_71 rfl (lv_at hl 2 rfl) ?_
            refine lv_iadd hx hb dX4_boat_72 ?_
            refine callRd hC (k_X4_of l g ad σ x1 (1 + x2) (in_X4_isBoat c_1) (by rw [c_5]; exact in_iff.mpr (by decide))) ci_X4_of lk_X4_36 ⟨Nat.le_of_ble_eq_true rfl, Nat.le_of_ble_eq_true rfl⟩ hP hK hE (q0 := 0) rfl rfl rfl rfl hl.1 rfl (Nat.le_of_ble_eq_true rfl) dX4_boat_73 ⟨Nat.zero_le _, Nat.zero_le _⟩ ?_
            exact rd_ret hC dX4_boat_76 (Eq.symm (by unfold mX4_boat; rw [if_neg c_1, if_neg c_2, if_neg c_3, if_neg c_4, if_pos c_5]))
          · by_cases c_6 : x2 = 4
            · refine lv_tableIn (tgt := 77) (off := 66) hx hb dX4_boat_11 (by rw [c_6]; decide) (by rw [c_6]; decide) (by rw [c_6]; rfl) (by decide) ?_
              refine lv_aload_n hx hb dX4_boat_77 rfl (lv_at hl 0 rfl) ?_
              refine lv_iload_n hx hb dX4_boat_78 rfl (lv_at hl 1 rfl) ?_
              refine lv_iconst (v := 5) hx hb dX4_boat_79 (by decide) ?_
              refine callRd hC (k_X4_of l g ad σ x1 5 (in_X4_isBoat c_1) (in_iff.mpr (by decide))) ci_X4_of lk_X4_36 ⟨Nat.le_of_ble_eq_true rfl, Nat.le_of_ble_eq_true rfl⟩ hP hK hE (q0 := 0) rfl rfl rfl rfl hl.1 rfl (Nat.le_of_ble_eq_true rfl) dX4_boat_80 ⟨Nat.zero_le _, Nat.zero_le _⟩ ?_
              exact rd_ret hC dX4_boat_83 (Eq.symm (by unfold mX4_boat; rw [if_neg c_1, if_neg c_2, if_neg c_3, if_neg c_4, if_neg c_5, if_pos c_6]))
            · by_cases c_7 : x2 = 5
              · refine lv_tableIn (tgt := 84) (off := 73) hx hb dX4_boat_11 (by rw [c_7]; decide) (by rw [c_7]; decide) (by rw [c_7]; rfl) (by decide) ?_
                refine lv_aload_n hx hb dX4_boat_84 rfl (lv_at hl 0 rfl) ?_
                refine lv_iload_n hx hb dX4_boat_85 rfl (lv_at hl 1 rfl) ?_
                refine callRd hC (k_X4_isAshore l g ad σ x1 (in_X4_isBoat c_1)) ci_X4_isAshore lk_X4_40 ⟨Nat.le_of_ble_eq_true rfl, Nat.le_of_ble_eq_true rfl⟩ hP hK hE (q0 := 0) rfl rfl rfl rfl hl.1 rfl (Nat.le_of_ble_eq_true rfl) dX4_boat_86 ⟨Nat.zero_le _, Nat.zero_le _⟩ ?_
                refine lv_if_eq (tgt := 100) hx hb dX4_boat_89 (by decide) (fun c_8 => ?_) (fun c_8 => ?_)
                · refine lv_bipush (v := (-5)) hx hb dX4_boat_100 (by decide) ?_
                  exact rd_ret hC dX4_boat_102 (Eq.symm (by unfold mX4_boat; rw [if_neg c_1, if_neg c_2, if_neg c_3, if_neg c_4, if_neg c_5, if_neg c_6, if_pos c_7, if_pos c_8]))
                · refine lv_aload_n hx hb dX4_boat_92 rfl (lv_at hl 0 rfl) ?_
                  refine lv_iload_n hx hb dX4_boat_93 rfl (lv_at hl 1 rfl) ?_
                  refine callRd hC (k_X4_placeOf l g ad σ x1 (in_X4_isBoat c_1)) ci_X4_placeOf lk_X4_67 ⟨Nat.le_of_ble_eq_true rfl, Nat.le_of_ble_eq_true rfl⟩ hP hK hE (q0 := 0) rfl rfl rfl rfl hl.1 rfl (Nat.le_of_ble_eq_true rfl) dX4_boat_94 ⟨Nat.zero_le _, Nat.zero_le _⟩ ?_
                  refine lv_goto (tgt := 102) hx hb dX4_boat_97 (by decide) ?_
                  exact rd_ret hC dX4_boat_102 (Eq.symm (by unfold mX4_boat; rw [if_neg c_1, if_neg c_2, if_neg c_3, if_neg c_4, if_neg c_5, if_neg c_6, if_pos c_7, if_neg c_8]))
              · by_cases c_9 : x2 = 6
                · refine lv_tableIn (tgt := 103) (off := 92) hx hb dX4_boat_11 (by rw [c_9]; decide) (by rw [c_9]; decide) (by rw [c_9]; rfl) (by decide) ?_
                  refine lv_aload_n hx hb dX4_boat_103 rfl (lv_at hl 0 rfl) ?_
                  refine lv_iload_n hx hb dX4_boat_104 rfl (lv_at hl 1 rfl) ?_
                  refine lv_bipush (v := 6) hx hb dX4_boat_105 (by decide) ?_
                  refine callRd hC (k_X4_of l g ad σ x1 6 (in_X4_isBoat c_1) (in_iff.mpr (by decide))) ci_X4_of lk_X4_36 ⟨Nat.le_of_ble_eq_true rfl, Nat.le_of_ble_eq_true rfl⟩ hP hK hE (q0 := 0) rfl rfl rfl rfl hl.1 rfl (Nat.le_of_ble_eq_true rfl) dX4_boat_107 ⟨Nat.zero_le _, Nat.zero_le _⟩ ?_
                  exact rd_ret hC dX4_boat_110 (Eq.symm (by unfold mX4_boat; rw [if_neg c_1, if_neg c_2, if_neg c_3, if_neg c_4, if_neg c_5, if_neg c_6, if_neg c_7, if_pos c_9]))
                · by_cases c_10 : x2 = 7
                  · refine lv_tableIn (tgt := 111) (off := 100) hx hb dX4_boat_11 (by rw [c_10]; decide) (by rw [c_10]; decide) (by rw [c_10]; rfl) (by decide) ?_
                    refine lv_aload_n hx hb dX4_boat_111 rfl (lv_at hl 0 rfl) ?_
                    refine lv_iload_n hx hb dX4_boat_112 rfl (lv_at hl 1 rfl) ?_
                    refine lv_bipush (v := 7) hx hb dX4_boat_113 (by decide) ?_
                    refine callRd hC (k_X4_of l g ad σ x1 7 (in_X4_isBoat c_1) (in_iff.mpr (by decide))) ci_X4_of lk_X4_36 ⟨Nat.le_of_ble_eq_true rfl, Nat.le_of_ble_eq_true rfl⟩ hP hK hE (q0 := 0) rfl rfl rfl rfl hl.1 rfl (Nat.le_of_ble_eq_true rfl) dX4_boat_115 ⟨Nat.zero_le _, Nat.zero_le _⟩ ?_
                    exact rd_ret hC dX4_boat_118 (Eq.symm (by unfold mX4_boat; rw [if_neg c_1, if_neg c_2, if_neg c_3, if_neg c_4, if_neg c_5, if_neg c_6, if_neg c_7, if_neg c_9, if_pos c_10]))
                  · by_cases c_11 : x2 = 8
                    · refine lv_tableIn (tgt := 119) (off := 108) hx hb dX4_boat_11 (by rw [c_11]; decide) (by rw [c_11]; decide) (by rw [c_11]; rfl) (by decide) ?_
                      refine lv_aload_n hx hb dX4_boat_119 rfl (lv_at hl 0 rfl) ?_
                      refine lv_iload_n hx hb dX4_boat_120 rfl (lv_at hl 1 rfl) ?_
                      refine lv_bipush (v := 8) hx hb dX4_boat_121 (by decide) ?_
                      refine callRd hC (k_X4_of l g ad σ x1 8 (in_X4_isBoat c_1) (in_iff.mpr (by decide))) ci_X4_of lk_X4_36 ⟨Nat.le_of_ble_eq_true rfl, Nat.le_of_ble_eq_true rfl⟩ hP hK hE (q0 := 0) rfl rfl rfl rfl hl.1 rfl (Nat.le_of_ble_eq_true rfl) dX4_boat_123 ⟨Nat.zero_le _, Nat.zero_le _⟩ ?_
                      exact rd_ret hC dX4_boat_126 (Eq.symm (by unfold mX4_boat; rw [if_neg c_1, if_neg c_2, if_neg c_3, if_neg c_4, if_neg c_5, if_neg c_6, if_neg c_7, if_neg c_9, if_neg c_10, if_pos c_11]))
                    · by_cases c_12 : x2 = 9
                      · refine lv_tableIn (tgt := 127) (off := 116) hx hb dX4_boat_11 (by rw [c_12]; decide) (by rw [c_12]; decide) (by rw [c_12]; rfl) (by decide) ?_
                        refine lv_aload_n hx hb dX4_boat_127 rfl (lv_at hl 0 rfl) ?_
                        refine lv_iload_n hx hb dX4_boat_128 rfl (lv_at hl 1 rfl) ?_
                        refine lv_bipush (v := 9) hx hb dX4_boat_129 (by decide) ?_
                        refine callRd hC (k_X4_of l g ad σ x1 9 (in_X4_isBoat c_1) (in_iff.mpr (by decide))) ci_X4_of lk_X4_36 ⟨Nat.le_of_ble_eq_true rfl, Nat.le_of_ble_eq_true rfl⟩ hP hK hE (q0 := 0) rfl rfl rfl rfl hl.1 rfl (Nat.le_of_ble_eq_true rfl) dX4_boat_131 ⟨Nat.zero_le _, Nat.zero_le _⟩ ?_
                        exact rd_ret hC dX4_boat_134 (Eq.symm (by unfold mX4_boat; rw [if_neg c_1, if_neg c_2, if_neg c_3, if_neg c_4, if_neg c_5, if_neg c_6, if_neg c_7, if_neg c_9, if_neg c_10, if_neg c_11, if_pos c_12]))
                      · by_cases c_13 : x2 = 10
                        · refine lv_tableIn (tgt := 135) (off := 124) hx hb dX4_boat_11 (by rw [c_13]; decide) (by rw [c_13]; decide) (by rw [c_13]; rfl) (by decide) ?_
                          refine lv_aload_n hx hb dX4_boat_135 rfl (lv_at hl 0 rfl) ?_
                          refine lv_iload_n hx hb dX4_boat_136 rfl (lv_at hl 1 rfl) ?_
                          refine lv_bipush (v := 10) hx hb dX4_boat_137 (by decide) ?_
                          refine callRd hC (k_X4_of l g ad σ x1 10 (in_X4_isBoat c_1) (in_iff.mpr (by decide))) ci_X4_of lk_X4_36 ⟨Nat.le_of_ble_eq_true rfl, Nat.le_of_ble_eq_true rfl⟩ hP hK hE (q0 := 0) rfl rfl rfl rfl hl.1 rfl (Nat.le_of_ble_eq_true rfl) dX4_boat_139 ⟨Nat.zero_le _, Nat.zero_le _⟩ ?_
                          exact rd_ret hC dX4_boat_142 (Eq.symm (by unfold mX4_boat; rw [if_neg c_1, if_neg c_2, if_neg c_3, if_neg c_4, if_neg c_5, if_neg c_6, if_neg c_7, if_neg c_9, if_neg c_10, if_neg c_11, if_neg c_12, if_pos c_13]))
                        · refine lv_tableOut (tgt := 143) hx hb dX4_boat_11 (by have zc_2 := lv_neT c_2 (a := 0) rfl; have zc_3 := lv_neT c_3 (a := 1) rfl; have zc_4 := lv_neT c_4 (a := 2) rfl; have zc_5 := lv_neT c_5 (a := 3) rfl; have zc_6 := lv_neT c_6 (a := 4) rfl; have zc_7 := lv_neT c_7 (a := 5) rfl; have zc_9 := lv_neT c_9 (a := 6) rfl; have zc_10 := lv_neT c_10 (a := 7) rfl; have zc_11 := lv_neT c_11 (a := 8) rfl; have zc_12 := lv_neT c_12 (a := 9) rfl; have zc_13 := lv_neT c_13 (a := 10) rfl; omega) (by decide) ?_
                          refine lv_bipush (v := (-2)) hx hb dX4_boat_143 (by decide) ?_
                          exact rd_ret hC dX4_boat_145 (Eq.symm (by unfold mX4_boat; rw [if_neg c_1, if_neg c_2, if_neg c_3, if_neg c_4, if_neg c_5, if_neg c_6, if_neg c_7, if_neg c_9, if_neg c_10, if_neg c_11, if_neg c_12, if_neg c_13]))
  · refine lv_iconst (v := (-1)) hx hb dX4_boat_8 (by decide) ?_
    exact rd_ret hC dX4_boat_9 (Eq.symm (by unfold mX4_boat; rw [if_pos c_1]))
def mX4_row (σ : MS) (x1 : Int32) (x2 : Int32) : Int32 := (if (mX4_isRow x1) = 0 then (-1) else (if x2 = 0 then ((M_z σ) (11 + x1).toNatClampNeg) else (if x2 = 1 then (mX4_metresTaken σ x1) else (if x2 = 2 then (mX4_boatsIn σ x1) else (if x2 = 3 then (mX4_boatAt σ x1 ((mX4_boatsIn σ x1) - 1)) else (-2))))))
set_option maxHeartbeats 4000000 in
set_option maxRecDepth 100000 in
theorem k_X4_row (l : Launch) (g : WG) (ad : AM) (σ : MS) (x1 : Int32) (x2 : Int32) : Rd l yX4_row cX4_row 3 (some .int) 4 (Wl g (cM g ad σ) (fun _ => False)) [.ref ad.1, .int x1, .int x2] (mX4_row σ x1 x2) := by
  refine rd_of (by decide) (Nat.le_of_ble_eq_true rfl) ?_
  intro p e s m args below meth c ls hC hW hl
  obtain ⟨hP, hK, hE⟩ := hW
  obtain ⟨hx, hb, hml, hr, hown, hts, hlk, hnm⟩ := id hC
  have hl : lv_has ls 3 [(0, .ref ad.1), (1, .int x1), (2, .int x2)] := hl
  refine lv_iload_n hx hb dX4_row_0 rfl (lv_at hl 1 rfl) ?_
  refine callRs hC (k_X4_isRow l g x1) ci_X4_isRow lk_X4_98 ⟨Nat.le_of_ble_eq_true rfl, Nat.le_of_ble_eq_true rfl⟩ hK hE rfl hl.1 rfl (Nat.le_of_ble_eq_true rfl) dX4_row_1 ⟨Nat.zero_le _, Nat.zero_le _⟩ ?_
  refine lv_if_ne (tgt := 9) hx hb dX4_row_4 (by decide) (fun c_1 => ?_) (fun c_1 => ?_)
  · refine lv_iload_n hx hb dX4_row_9 rfl (lv_at hl 2 rfl) ?_
    by_cases c_2 : x2 = 0
    · refine lv_tableIn (tgt := 40) (off := 30) hx hb dX4_row_10 (by rw [c_2]; decide) (by rw [c_2]; decide) (by rw [c_2]; rfl) (by decide) ?_
      refine lv_aload_n hx hb dX4_row_40 rfl (lv_at hl 0 rfl) ?_
      refine gM_z hC rfl hK hP dX4_row_41 ?_
      refine lv_bipush (v := 11) hx hb dX4_row_44 (by decide) ?_
      refine lv_iload_n hx hb dX4_row_46 rfl (lv_at hl 1 rfl) ?_
      refine lv_iadd hx hb dX4_row_47 ?_
      refine lM_z hC hK hP (ix_c (z := 11) rfl (by decide) (in_X4_isRow c_1) (by decide) (by decide)) dX4_row_48 ?_
      exact rd_ret hC dX4_row_49 (Eq.symm (by unfold mX4_row; rw [if_neg c_1, if_pos c_2]))
    · by_cases c_3 : x2 = 1
      · refine lv_tableIn (tgt := 50) (off := 40) hx hb dX4_row_10 (by rw [c_3]; decide) (by rw [c_3]; decide) (by rw [c_3]; rfl) (by decide) ?_
        refine lv_aload_n hx hb dX4_row_50 rfl (lv_at hl 0 rfl) ?_
        refine lv_iload_n hx hb dX4_row_51 rfl (lv_at hl 1 rfl) ?_
        refine callRd hC (k_X4_metresTaken l g ad σ x1) ci_X4_metresTaken lk_X4_58 ⟨Nat.le_of_ble_eq_true rfl, Nat.le_of_ble_eq_true rfl⟩ hP hK hE (q0 := 0) rfl rfl rfl rfl hl.1 rfl (Nat.le_of_ble_eq_true rfl) dX4_row_52 ⟨Nat.zero_le _, Nat.zero_le _⟩ ?_
        exact rd_ret hC dX4_row_55 (Eq.symm (by unfold mX4_row; rw [if_neg c_1, if_neg c_2, if_pos c_3]))
      · by_cases c_4 : x2 = 2
        · refine lv_tableIn (tgt := 56) (off := 46) hx hb dX4_row_10 (by rw [c_4]; decide) (by rw [c_4]; decide) (by rw [c_4]; rfl) (by decide) ?_
          refine lv_aload_n hx hb dX4_row_56 rfl (lv_at hl 0 rfl) ?_
          refine lv_iload_n hx hb dX4_row_57 rfl (lv_at hl 1 rfl) ?_
          refine callRd hC (k_X4_boatsIn l g ad σ x1) ci_X4_boatsIn lk_X4_64 ⟨Nat.le_of_ble_eq_true rfl, Nat.le_of_ble_eq_true rfl⟩ hP hK hE (q0 := 0) rfl rfl rfl rfl hl.1 rfl (Nat.le_of_ble_eq_true rfl) dX4_row_58 ⟨Nat.zero_le _, Nat.zero_le _⟩ ?_
          exact rd_ret hC dX4_row_61 (Eq.symm (by unfold mX4_row; rw [if_neg c_1, if_neg c_2, if_neg c_3, if_pos c_4]))
        · by_cases c_5 : x2 = 3
          · refine lv_tableIn (tgt := 62) (off := 52) hx hb dX4_row_10 (by rw [c_5]; decide) (by rw [c_5]; decide) (by rw [c_5]; rfl) (by decide) ?_
            refine lv_aload_n hx hb dX4_row_62 rfl (lv_at hl 0 rfl) ?_
            refine lv_iload_n hx hb dX4_row_63 rfl (lv_at hl 1 rfl) ?_
            refine lv_aload_n hx hb dX4_row_64 rfl (lv_at hl 0 rfl) ?_
            refine lv_iload_n hx hb dX4_row_65 rfl (lv_at hl 1 rfl) ?_
            refine callRd hC (k_X4_boatsIn l g ad σ x1) ci_X4_boatsIn lk_X4_64 ⟨Nat.le_of_ble_eq_true rfl, Nat.le_of_ble_eq_true rfl⟩ hP hK hE (q0 := 0) rfl rfl rfl rfl hl.1 rfl (Nat.le_of_ble_eq_true rfl) dX4_row_66 ⟨Nat.zero_le _, Nat.zero_le _⟩ ?_
            refine lv_iconst (v := 1) hx hb dX4_row_69 (by decide) ?_
            refine lv_isub hx hb dX4_row_70 ?_
            refine callRd hC (k_X4_boatAt l g ad σ x1 ((mX4_boatsIn σ x1) - 1)) ci_X4_boatAt lk_X4_200 ⟨Nat.le_of_ble_eq_true rfl, Nat.le_of_ble_eq_true rfl⟩ hP hK hE (q0 := 0) rfl rfl rfl rfl hl.1 rfl (Nat.le_of_ble_eq_true rfl) dX4_row_71 ⟨Nat.zero_le _, Nat.zero_le _⟩ ?_
            exact rd_ret hC dX4_row_74 (Eq.symm (by unfold mX4_row; rw [if_neg c_1, if_neg c_2, if_neg c_3, if_neg c_4, if_pos c_5]))
          · refine lv_tableOut (tgt := 75) hx hb dX4_row_10 (by have zc_2 := lv_neT c_2 (a := 0) rfl; have zc_3 := lv_neT c_3 (a := 1) rfl; have zc_4 := lv_neT c_4 (a := 2) rfl; have zc_5 := lv_neT c_5 (a := 3) rfl; omega) (by decide) ?_
            refine lv_bipush (v := (-2)) hx hb dX4_row_75 (by decide) ?_
            exact rd_ret hC dX4_row_77 (Eq.symm (by unfold mX4_row; rw [if_neg c_1, if_neg c_2, if_neg c_3, if_neg c_4, if_neg c_5]))
  · refine lv_iconst (v := (-1)) hx hb dX4_row_7 (by decide) ?_
    exact rd_ret hC dX4_row_8 (Eq.symm (by unfold mX4_row; rw [if_pos c_1]))
def mX4_stands (σ : MS) (x1 : Int32) (x2 : Int32) : Int32 := (if (mX4_isRow x1) = 0 then (-1) else (if 0 ≤ x2 then (mX4_boatAt σ x1 x2) else (-2)))
set_option maxHeartbeats 4000000 in
set_option maxRecDepth 100000 in
theorem k_X4_stands (l : Launch) (g : WG) (ad : AM) (σ : MS) (x1 : Int32) (x2 : Int32) : Rd l yX4_stands cX4_stands 3 (some .int) 4 (Wl g (cM g ad σ) (fun _ => False)) [.ref ad.1, .int x1, .int x2] (mX4_stands σ x1 x2) := by
  refine rd_of (by decide) (Nat.le_of_ble_eq_true rfl) ?_
  intro p e s m args below meth c ls hC hW hl
  obtain ⟨hP, hK, hE⟩ := hW
  obtain ⟨hx, hb, hml, hr, hown, hts, hlk, hnm⟩ := id hC
  have hl : lv_has ls 3 [(0, .ref ad.1), (1, .int x1), (2, .int x2)] := hl
  refine lv_iload_n hx hb dX4_stands_0 rfl (lv_at hl 1 rfl) ?_
  refine callRs hC (k_X4_isRow l g x1) ci_X4_isRow lk_X4_98 ⟨Nat.le_of_ble_eq_true rfl, Nat.le_of_ble_eq_true rfl⟩ hK hE rfl hl.1 rfl (Nat.le_of_ble_eq_true rfl) dX4_stands_1 ⟨Nat.zero_le _, Nat.zero_le _⟩ ?_
  refine lv_if_ne (tgt := 9) hx hb dX4_stands_4 (by decide) (fun c_1 => ?_) (fun c_1 => ?_)
  · refine lv_iload_n hx hb dX4_stands_9 rfl (lv_at hl 2 rfl) ?_
    refine lv_if_ge (tgt := 18) hx hb dX4_stands_10 (by decide) (fun c_2 => ?_) (fun c_2 => ?_)
    · refine lv_aload_n hx hb dX4_stands_18 rfl (lv_at hl 0 rfl) ?_
      refine lv_iload_n hx hb dX4_stands_19 rfl (lv_at hl 1 rfl) ?_
      refine lv_iload_n hx hb dX4_stands_20 rfl (lv_at hl 2 rfl) ?_
      refine callRd hC (k_X4_boatAt l g ad σ x1 x2) ci_X4_boatAt lk_X4_200 ⟨Nat.le_of_ble_eq_true rfl, Nat.le_of_ble_eq_true rfl⟩ hP hK hE (q0 := 0) rfl rfl rfl rfl hl.1 rfl (Nat.le_of_ble_eq_true rfl) dX4_stands_21 ⟨Nat.zero_le _, Nat.zero_le _⟩ ?_
      exact rd_ret hC dX4_stands_24 (Eq.symm (by unfold mX4_stands; rw [if_neg c_1, if_pos c_2]))
    · refine lv_bipush (v := (-2)) hx hb dX4_stands_13 (by decide) ?_
      refine lv_goto (tgt := 24) hx hb dX4_stands_15 (by decide) ?_
      exact rd_ret hC dX4_stands_24 (Eq.symm (by unfold mX4_stands; rw [if_neg c_1, if_neg c_2]))
  · refine lv_iconst (v := (-1)) hx hb dX4_stands_7 (by decide) ?_
    exact rd_ret hC dX4_stands_8 (Eq.symm (by unfold mX4_stands; rw [if_pos c_1]))
def mX4_cradle (σ : MS) (x1 : Int32) (x2 : Int32) : Int32 := (if (mX4_isKind x1) = 0 then (-1) else (if x2 = 0 then ((M_z σ) (8 + x1).toNatClampNeg) else (if x2 = 1 then (mX4_taken σ x1) else (if x2 = 2 then (mX4_bears x1) else (-2)))))
set_option maxHeartbeats 4000000 in
set_option maxRecDepth 100000 in
theorem k_X4_cradle (l : Launch) (g : WG) (ad : AM) (σ : MS) (x1 : Int32) (x2 : Int32) : Rd l yX4_cradle cX4_cradle 3 (some .int) 3 (Wl g (cM g ad σ) (fun _ => False)) [.ref ad.1, .int x1, .int x2] (mX4_cradle σ x1 x2) := by
  refine rd_of (by decide) (Nat.le_of_ble_eq_true rfl) ?_
  intro p e s m args below meth c ls hC hW hl
  obtain ⟨hP, hK, hE⟩ := hW
  obtain ⟨hx, hb, hml, hr, hown, hts, hlk, hnm⟩ := id hC
  have hl : lv_has ls 3 [(0, .ref ad.1), (1, .int x1), (2, .int x2)] := hl
  refine lv_iload_n hx hb dX4_cradle_0 rfl (lv_at hl 1 rfl) ?_
  refine callRs hC (k_X4_isKind l g x1) ci_X4_isKind lk_X4_89 ⟨Nat.le_of_ble_eq_true rfl, Nat.le_of_ble_eq_true rfl⟩ hK hE rfl hl.1 rfl (Nat.le_of_ble_eq_true rfl) dX4_cradle_1 ⟨Nat.zero_le _, Nat.zero_le _⟩ ?_
  refine lv_if_ne (tgt := 9) hx hb dX4_cradle_4 (by decide) (fun c_1 => ?_) (fun c_1 => ?_)
  · refine lv_iload_n hx hb dX4_cradle_9 rfl (lv_at hl 2 rfl) ?_
    refine lv_if_ne (tgt := 25) hx hb dX4_cradle_10 (by decide) (fun c_2 => ?_) (fun c_2 => ?_)
    · refine lv_iload_n hx hb dX4_cradle_25 rfl (lv_at hl 2 rfl) ?_
      refine lv_iconst (v := 1) hx hb dX4_cradle_26 (by decide) ?_
      refine lv_icmp_ne (tgt := 38) hx hb dX4_cradle_27 (by decide) (fun c_3 => ?_) (fun c_3 => ?_)
      · refine lv_iload_n hx hb dX4_cradle_38 rfl (lv_at hl 2 rfl) ?_
        refine lv_iconst (v := 2) hx hb dX4_cradle_39 (by decide) ?_
        refine lv_icmp_ne (tgt := 50) hx hb dX4_cradle_40 (by decide) (fun c_4 => ?_) (fun c_4 => ?_)
        · refine lv_bipush (v := (-2)) hx hb dX4_cradle_50 (by decide) ?_
          exact rd_ret hC dX4_cradle_52 (Eq.symm (by unfold mX4_cradle; rw [if_neg c_1, if_neg c_2, if_neg c_3, if_neg c_4]))
        · refine lv_iload_n hx hb dX4_cradle_43 rfl (lv_at hl 1 rfl) ?_
          refine callRs hC (k_X4_bears l g x1) ci_X4_bears lk_X4_51 ⟨Nat.le_of_ble_eq_true rfl, Nat.le_of_ble_eq_true rfl⟩ hK hE rfl hl.1 rfl (Nat.le_of_ble_eq_true rfl) dX4_cradle_44 ⟨Nat.zero_le _, Nat.zero_le _⟩ ?_
          refine lv_goto (tgt := 52) hx hb dX4_cradle_47 (by decide) ?_
          exact rd_ret hC dX4_cradle_52 (Eq.symm (by unfold mX4_cradle; rw [if_neg c_1, if_neg c_2, if_neg c_3, if_pos c_4]))
      · refine lv_aload_n hx hb dX4_cradle_30 rfl (lv_at hl 0 rfl) ?_
        refine lv_iload_n hx hb dX4_cradle_31 rfl (lv_at hl 1 rfl) ?_
        refine callRd hC (k_X4_taken l g ad σ x1) ci_X4_taken lk_X4_44 ⟨Nat.le_of_ble_eq_true rfl, Nat.le_of_ble_eq_true rfl⟩ hP hK hE (q0 := 0) rfl rfl rfl rfl hl.1 rfl (Nat.le_of_ble_eq_true rfl) dX4_cradle_32 ⟨Nat.zero_le _, Nat.zero_le _⟩ ?_
        refine lv_goto (tgt := 52) hx hb dX4_cradle_35 (by decide) ?_
        exact rd_ret hC dX4_cradle_52 (Eq.symm (by unfold mX4_cradle; rw [if_neg c_1, if_neg c_2, if_pos c_3]))
    · refine lv_aload_n hx hb dX4_cradle_13 rfl (lv_at hl 0 rfl) ?_
      refine gM_z hC rfl hK hP dX4_cradle_14 ?_
      refine lv_bipush (v := 8) hx hb dX4_cradle_17 (by decide) ?_
      refine lv_iload_n hx hb dX4_cradle_19 rfl (lv_at hl 1 rfl) ?_
      refine lv_iadd hx hb dX4_cradle_20 ?_
      refine lM_z hC hK hP (ix_c (z := 8) rfl (by decide) (in_X4_isKind c_1) (by decide) (by decide)) dX4_cradle_21 ?_
      refine lv_goto (tgt := 52) hx hb dX4_cradle_22 (by decide) ?_
      exact rd_ret hC dX4_cradle_52 (Eq.symm (by unfold mX4_cradle; rw [if_neg c_1, if_pos c_2]))
  · refine lv_iconst (v := (-1)) hx hb dX4_cradle_7 (by decide) ?_
    exact rd_ret hC dX4_cradle_8 (Eq.symm (by unfold mX4_cradle; rw [if_pos c_1]))
def mX4_tide (σ : MS) (x1 : Int32) : Int32 := (if (mX4_in x1 0 9999) = 0 then (-2) else (mX4_tideAt σ x1))
set_option maxHeartbeats 4000000 in
set_option maxRecDepth 100000 in
theorem k_X4_tide (l : Launch) (g : WG) (ad : AM) (σ : MS) (x1 : Int32) : Rd l yX4_tide cX4_tide 2 (some .int) 1 (Wl g (cM g ad σ) (fun _ => False)) [.ref ad.1, .int x1] (mX4_tide σ x1) := by
  refine rd_of (by decide) (Nat.le_of_ble_eq_true rfl) ?_
  intro p e s m args below meth c ls hC hW hl
  obtain ⟨hP, hK, hE⟩ := hW
  obtain ⟨hx, hb, hml, hr, hown, hts, hlk, hnm⟩ := id hC
  have hl : lv_has ls 2 [(0, .ref ad.1), (1, .int x1)] := hl
  refine lv_iload_n hx hb dX4_tide_0 rfl (lv_at hl 1 rfl) ?_
  refine lv_iconst (v := 0) hx hb dX4_tide_1 (by decide) ?_
  refine lv_sipush (v := 9999) hx hb dX4_tide_2 (by decide) ?_
  refine callRs hC (k_X4_in l g x1 0 9999) ci_X4_in lk_X4_32 ⟨Nat.le_of_ble_eq_true rfl, Nat.le_of_ble_eq_true rfl⟩ hK hE rfl hl.1 rfl (Nat.le_of_ble_eq_true rfl) dX4_tide_5 ⟨Nat.zero_le _, Nat.zero_le _⟩ ?_
  refine lv_if_eq (tgt := 19) hx hb dX4_tide_8 (by decide) (fun c_1 => ?_) (fun c_1 => ?_)
  · refine lv_bipush (v := (-2)) hx hb dX4_tide_19 (by decide) ?_
    exact rd_ret hC dX4_tide_21 (Eq.symm (by unfold mX4_tide; rw [if_pos c_1]))
  · refine lv_aload_n hx hb dX4_tide_11 rfl (lv_at hl 0 rfl) ?_
    refine lv_iload_n hx hb dX4_tide_12 rfl (lv_at hl 1 rfl) ?_
    refine callRd hC (k_X4_tideAt l g ad σ x1) ci_X4_tideAt lk_X4_101 ⟨Nat.le_of_ble_eq_true rfl, Nat.le_of_ble_eq_true rfl⟩ hP hK hE (q0 := 0) rfl rfl rfl rfl hl.1 rfl (Nat.le_of_ble_eq_true rfl) dX4_tide_13 ⟨Nat.zero_le _, Nat.zero_le _⟩ ?_
    refine lv_goto (tgt := 21) hx hb dX4_tide_16 (by decide) ?_
    exact rd_ret hC dX4_tide_21 (Eq.symm (by unfold mX4_tide; rw [if_neg c_1]))
def mX4_liftReason (σ : MS) (x1 : Int32) (x2 : Int32) : Int32 := (if (mX4_isBoat σ x1) = 0 then (-1) else (if (mX4_isRow x2) = 0 then (-1) else (mX4_whyNoLift σ x1 x2)))
set_option maxHeartbeats 4000000 in
set_option maxRecDepth 100000 in
theorem k_X4_liftReason (l : Launch) (g : WG) (ad : AM) (σ : MS) (x1 : Int32) (x2 : Int32) (h_keels : KeelM σ) : Rd l yX4_liftReason cX4_liftReason 3 (some .int) 6 (Wl g (cM g ad σ) (fun _ => False)) [.ref ad.1, .int x1, .int x2] (mX4_liftReason σ x1 x2) := by
  refine rd_of (by decide) (Nat.le_of_ble_eq_true rfl) ?_
  intro p e s m args below meth c ls hC hW hl
  obtain ⟨hP, hK, hE⟩ := hW
  obtain ⟨hx, hb, hml, hr, hown, hts, hlk, hnm⟩ := id hC
  have hl : lv_has ls 3 [(0, .ref ad.1), (1, .int x1), (2, .int x2)] := hl
  refine lv_aload_n hx hb dX4_liftReason_0 rfl (lv_at hl 0 rfl) ?_
  refine lv_iload_n hx hb dX4_liftReason_1 rfl (lv_at hl 1 rfl) ?_
  refine callRd hC (k_X4_isBoat l g ad σ x1) ci_X4_isBoat lk_X4_92 ⟨Nat.le_of_ble_eq_true rfl, Nat.le_of_ble_eq_true rfl⟩ hP hK hE (q0 := 0) rfl rfl rfl rfl hl.1 rfl (Nat.le_of_ble_eq_true rfl) dX4_liftReason_2 ⟨Nat.zero_le _, Nat.zero_le _⟩ ?_
  refine lv_if_eq (tgt := 24) hx hb dX4_liftReason_5 (by decide) (fun c_1 => ?_) (fun c_1 => ?_)
  · refine lv_iconst (v := (-1)) hx hb dX4_liftReason_24 (by decide) ?_
    exact rd_ret hC dX4_liftReason_25 (Eq.symm (by unfold mX4_liftReason; rw [if_pos c_1]))
  · refine lv_iload_n hx hb dX4_liftReason_8 rfl (lv_at hl 2 rfl) ?_
    refine callRs hC (k_X4_isRow l g x2) ci_X4_isRow lk_X4_98 ⟨Nat.le_of_ble_eq_true rfl, Nat.le_of_ble_eq_true rfl⟩ hK hE rfl hl.1 rfl (Nat.le_of_ble_eq_true rfl) dX4_liftReason_9 ⟨Nat.zero_le _, Nat.zero_le _⟩ ?_
    refine lv_if_eq (tgt := 24) hx hb dX4_liftReason_12 (by decide) (fun c_2 => ?_) (fun c_2 => ?_)
    · refine lv_iconst (v := (-1)) hx hb dX4_liftReason_24 (by decide) ?_
      exact rd_ret hC dX4_liftReason_25 (Eq.symm (by unfold mX4_liftReason; rw [if_neg c_1, if_pos c_2]))
    · refine lv_aload_n hx hb dX4_liftReason_15 rfl (lv_at hl 0 rfl) ?_
      refine lv_iload_n hx hb dX4_liftReason_16 rfl (lv_at hl 1 rfl) ?_
      refine lv_iload_n hx hb dX4_liftReason_17 rfl (lv_at hl 2 rfl) ?_
      refine callRd hC (k_X4_whyNoLift l g ad σ x1 x2 (in_X4_isBoat c_1) (in_X4_isRow c_2) (h_keels x1 c_1)) ci_X4_whyNoLift lk_X4_113 ⟨Nat.le_of_ble_eq_true rfl, Nat.le_of_ble_eq_true rfl⟩ hP hK hE (q0 := 0) rfl rfl rfl rfl hl.1 rfl (Nat.le_of_ble_eq_true rfl) dX4_liftReason_18 ⟨Nat.zero_le _, Nat.zero_le _⟩ ?_
      refine lv_goto (tgt := 25) hx hb dX4_liftReason_21 (by decide) ?_
      exact rd_ret hC dX4_liftReason_25 (Eq.symm (by unfold mX4_liftReason; rw [if_neg c_1, if_neg c_2]))
def mX4_launchReason (σ : MS) (x1 : Int32) : Int32 := (if (mX4_isBoat σ x1) = 0 then (-1) else (mX4_whyNoLaunch σ x1))
set_option maxHeartbeats 4000000 in
set_option maxRecDepth 100000 in
theorem k_X4_launchReason (l : Launch) (g : WG) (ad : AM) (σ : MS) (x1 : Int32) : Rd l yX4_launchReason cX4_launchReason 2 (some .int) 5 (Wl g (cM g ad σ) (fun _ => False)) [.ref ad.1, .int x1] (mX4_launchReason σ x1) := by
  refine rd_of (by decide) (Nat.le_of_ble_eq_true rfl) ?_
  intro p e s m args below meth c ls hC hW hl
  obtain ⟨hP, hK, hE⟩ := hW
  obtain ⟨hx, hb, hml, hr, hown, hts, hlk, hnm⟩ := id hC
  have hl : lv_has ls 2 [(0, .ref ad.1), (1, .int x1)] := hl
  refine lv_aload_n hx hb dX4_launchReason_0 rfl (lv_at hl 0 rfl) ?_
  refine lv_iload_n hx hb dX4_launchReason_1 rfl (lv_at hl 1 rfl) ?_
  refine callRd hC (k_X4_isBoat l g ad σ x1) ci_X4_isBoat lk_X4_92 ⟨Nat.le_of_ble_eq_true rfl, Nat.le_of_ble_eq_true rfl⟩ hP hK hE (q0 := 0) rfl rfl rfl rfl hl.1 rfl (Nat.le_of_ble_eq_true rfl) dX4_launchReason_2 ⟨Nat.zero_le _, Nat.zero_le _⟩ ?_
  refine lv_if_eq (tgt := 16) hx hb dX4_launchReason_5 (by decide) (fun c_1 => ?_) (fun c_1 => ?_)
  · refine lv_iconst (v := (-1)) hx hb dX4_launchReason_16 (by decide) ?_
    exact rd_ret hC dX4_launchReason_17 (Eq.symm (by unfold mX4_launchReason; rw [if_pos c_1]))
  · refine lv_aload_n hx hb dX4_launchReason_8 rfl (lv_at hl 0 rfl) ?_
    refine lv_iload_n hx hb dX4_launchReason_9 rfl (lv_at hl 1 rfl) ?_
    refine callRd hC (k_X4_whyNoLaunch l g ad σ x1 (in_X4_isBoat c_1)) ci_X4_whyNoLaunch lk_X4_132 ⟨Nat.le_of_ble_eq_true rfl, Nat.le_of_ble_eq_true rfl⟩ hP hK hE (q0 := 0) rfl rfl rfl rfl hl.1 rfl (Nat.le_of_ble_eq_true rfl) dX4_launchReason_10 ⟨Nat.zero_le _, Nat.zero_le _⟩ ?_
    refine lv_goto (tgt := 17) hx hb dX4_launchReason_13 (by decide) ?_
    exact rd_ret hC dX4_launchReason_17 (Eq.symm (by unfold mX4_launchReason; rw [if_neg c_1]))
def mX4_blockers (σ : MS) (x1 : Int32) : Int32 := (if (mX4_isBoat σ x1) = 0 then (-1) else (if (mX4_isAshore σ x1) = 0 then (-5) else (mX4_blockersOf σ x1)))
set_option maxHeartbeats 4000000 in
set_option maxRecDepth 100000 in
theorem k_X4_blockers (l : Launch) (g : WG) (ad : AM) (σ : MS) (x1 : Int32) : Rd l yX4_blockers cX4_blockers 2 (some .int) 4 (Wl g (cM g ad σ) (fun _ => False)) [.ref ad.1, .int x1] (mX4_blockers σ x1) := by
  refine rd_of (by decide) (Nat.le_of_ble_eq_true rfl) ?_
  intro p e s m args below meth c ls hC hW hl
  obtain ⟨hP, hK, hE⟩ := hW
  obtain ⟨hx, hb, hml, hr, hown, hts, hlk, hnm⟩ := id hC
  have hl : lv_has ls 2 [(0, .ref ad.1), (1, .int x1)] := hl
  refine lv_aload_n hx hb dX4_blockers_0 rfl (lv_at hl 0 rfl) ?_
  refine lv_iload_n hx hb dX4_blockers_1 rfl (lv_at hl 1 rfl) ?_
  refine callRd hC (k_X4_isBoat l g ad σ x1) ci_X4_isBoat lk_X4_92 ⟨Nat.le_of_ble_eq_true rfl, Nat.le_of_ble_eq_true rfl⟩ hP hK hE (q0 := 0) rfl rfl rfl rfl hl.1 rfl (Nat.le_of_ble_eq_true rfl) dX4_blockers_2 ⟨Nat.zero_le _, Nat.zero_le _⟩ ?_
  refine lv_if_ne (tgt := 10) hx hb dX4_blockers_5 (by decide) (fun c_1 => ?_) (fun c_1 => ?_)
  · refine lv_aload_n hx hb dX4_blockers_10 rfl (lv_at hl 0 rfl) ?_
    refine lv_iload_n hx hb dX4_blockers_11 rfl (lv_at hl 1 rfl) ?_
    refine callRd hC (k_X4_isAshore l g ad σ x1 (in_X4_isBoat c_1)) ci_X4_isAshore lk_X4_40 ⟨Nat.le_of_ble_eq_true rfl, Nat.le_of_ble_eq_true rfl⟩ hP hK hE (q0 := 0) rfl rfl rfl rfl hl.1 rfl (Nat.le_of_ble_eq_true rfl) dX4_blockers_12 ⟨Nat.zero_le _, Nat.zero_le _⟩ ?_
    refine lv_if_eq (tgt := 26) hx hb dX4_blockers_15 (by decide) (fun c_2 => ?_) (fun c_2 => ?_)
    · refine lv_bipush (v := (-5)) hx hb dX4_blockers_26 (by decide) ?_
      exact rd_ret hC dX4_blockers_28 (Eq.symm (by unfold mX4_blockers; rw [if_neg c_1, if_pos c_2]))
    · refine lv_aload_n hx hb dX4_blockers_18 rfl (lv_at hl 0 rfl) ?_
      refine lv_iload_n hx hb dX4_blockers_19 rfl (lv_at hl 1 rfl) ?_
      refine callRd hC (k_X4_blockersOf l g ad σ x1 (in_X4_isBoat c_1)) ci_X4_blockersOf lk_X4_129 ⟨Nat.le_of_ble_eq_true rfl, Nat.le_of_ble_eq_true rfl⟩ hP hK hE (q0 := 0) rfl rfl rfl rfl hl.1 rfl (Nat.le_of_ble_eq_true rfl) dX4_blockers_20 ⟨Nat.zero_le _, Nat.zero_le _⟩ ?_
      refine lv_goto (tgt := 28) hx hb dX4_blockers_23 (by decide) ?_
      exact rd_ret hC dX4_blockers_28 (Eq.symm (by unfold mX4_blockers; rw [if_neg c_1, if_neg c_2]))
  · refine lv_iconst (v := (-1)) hx hb dX4_blockers_8 (by decide) ?_
    exact rd_ret hC dX4_blockers_9 (Eq.symm (by unfold mX4_blockers; rw [if_pos c_1]))
def mX4_launchDay_L17 (σ : MS) (x1 : Int32) : Nat → Int32 → Int32 → Int32
  | 0, _, _ => 0
  | n + 1, u3, u2 => (if u3 < 0 then u2 else (if (mX4_isAshore σ x1) = 0 then u2 else (if 0 < u3 then (if u3 < (mX4_of σ x1 8) then (mX4_launchDay_L17 σ x1 n (u3 + (-1)) u2) else (if ((M_z σ) (4 : Int32).toNatClampNeg) < (mX4_of σ x1 3) then (mX4_launchDay_L17 σ x1 n (u3 + (-1)) u2) else (if (mX4_tideAt σ (((M_z σ) (0 : Int32).toNatClampNeg) + u3)) < (mX4_of σ x1 2) then (mX4_launchDay_L17 σ x1 n (u3 + (-1)) u2) else (mX4_launchDay_L17 σ x1 n (u3 + (-1)) (((M_z σ) (0 : Int32).toNatClampNeg) + u3))))) else (if (mX4_liftsLeft σ) ≤ 0 then (mX4_launchDay_L17 σ x1 n (u3 + (-1)) u2) else (if u3 < (mX4_of σ x1 8) then (mX4_launchDay_L17 σ x1 n (u3 + (-1)) u2) else (if ((M_z σ) (4 : Int32).toNatClampNeg) < (mX4_of σ x1 3) then (mX4_launchDay_L17 σ x1 n (u3 + (-1)) u2) else (if (mX4_tideAt σ (((M_z σ) (0 : Int32).toNatClampNeg) + u3)) < (mX4_of σ x1 2) then (mX4_launchDay_L17 σ x1 n (u3 + (-1)) u2) else (mX4_launchDay_L17 σ x1 n (u3 + (-1)) (((M_z σ) (0 : Int32).toNatClampNeg) + u3)))))))))
set_option maxHeartbeats 4000000 in
set_option maxRecDepth 100000 in
theorem q_X4_launchDay_17 {p : Program} {e : Env} {s : State} {m : MethodId} {args : Array Value} {below : List Frame} {meth : Method} {c : Code} (l : Launch) (g : WG) (ad : AM) (σ : MS) (x1 : Int32) (h_b : vp_in x1 20) (hC : Cx p s m args meth c yX4_launchDay cX4_launchDay 6 (some .int)) (hP : va_P g.1 vwCl (cM g ad σ) s.heap) (hK : va_K g.1 vwCl (tysW g) s) (hE : Ex (fun _ => False) s s.heap) {r : Int32} : ∀ (n : Nat) (u3 : Int32) (u2 : Int32) (hi0 : -1 ≤ u3.toInt) (hi1 : u3.toInt ≤ 200) (hm : (u3.toInt + 1).toNat < n) (hR : r = mX4_launchDay_L17 σ x1 n u3 u2) (ls : Array Slot) (hl : lv_has ls 6 [(3, .int u3), (2, .int u2), (0, .ref ad.1), (1, .int x1)]), W p l e (rk 2) s m args below meth c s.heap [] 0 0 (MQ below (vp_Si (fun x => x = r)) args s 0 0 (fun _ => False)) (F0 m 17 ls []) := by
  obtain ⟨hx, hb, hml, hr, hown, hts, hlk, hnm⟩ := id hC
  intro n
  induction n with
  | zero => intro u3 u2 hi0 hi1 hm hR ls hl; exact absurd hm (Nat.not_lt_zero _)
  | succ n ih =>
    intro u3 u2 hi0 hi1 hm hR ls hl
    refine lv_iload_n hx hb dX4_launchDay_17 rfl (lv_at hl 0 rfl) ?_
    refine lv_if_lt (tgt := 130) hx hb dX4_launchDay_18 (by decide) (fun c_2 => ?_) (fun c_2 => ?_)
    · refine lv_iload_n hx hb dX4_launchDay_130 rfl (lv_at hl 1 rfl) ?_
      exact rd_ret hC dX4_launchDay_131 (Eq.symm (by rw [hR, mX4_launchDay_L17, if_pos c_2]))
    · refine lv_aload_n hx hb dX4_launchDay_21 rfl (lv_at hl 2 rfl) ?_
      refine lv_iload_n hx hb dX4_launchDay_22 rfl (lv_at hl 3 rfl) ?_
      refine callRd hC (k_X4_isAshore l g ad σ x1 h_b) ci_X4_isAshore lk_X4_40 ⟨Nat.le_of_ble_eq_true rfl, Nat.le_of_ble_eq_true rfl⟩ hP hK hE (q0 := 0) rfl rfl rfl rfl hl.1 rfl (Nat.le_of_ble_eq_true rfl) dX4_launchDay_23 ⟨Nat.zero_le _, Nat.zero_le _⟩ ?_
      refine lv_if_eq (tgt := 130) hx hb dX4_launchDay_26 (by decide) (fun c_3 => ?_) (fun c_3 => ?_)
      · refine lv_iload_n hx hb dX4_launchDay_130 rfl (lv_at hl 1 rfl) ?_
        exact rd_ret hC dX4_launchDay_131 (Eq.symm (by rw [hR, mX4_launchDay_L17, if_neg c_2, if_pos c_3]))
      · refine lv_iload_n hx hb dX4_launchDay_29 rfl (lv_at hl 0 rfl) ?_
        refine lv_if_gt (tgt := 40) hx hb dX4_launchDay_30 (by decide) (fun c_4 => ?_) (fun c_4 => ?_)
        · refine lv_iconst (v := 1) hx hb dX4_launchDay_40 (by decide) ?_
          refine lv_goto (tgt := 45) hx hb dX4_launchDay_41 (by decide) ?_
          refine lv_istore (lv' := [(4, .int 1), (3, .int u3), (2, .int u2), (0, .ref ad.1), (1, .int x1)]) hx hb dX4_launchDay_45 hl (by decide) rfl (fun ls hl => ?_)
          refine lv_iload hx hb dX4_launchDay_47 (lv_at hl 0 rfl) ?_
          refine lv_if_eq (tgt := 103) hx hb dX4_launchDay_49 (by decide) (fun c_5 => absurd c_5 (by decide)) (fun c_5 => ?_)
          refine lv_aload_n hx hb dX4_launchDay_52 rfl (lv_at hl 3 rfl) ?_
          refine lv_iload_n hx hb dX4_launchDay_53 rfl (lv_at hl 4 rfl) ?_
          refine lv_bipush (v := 8) hx hb dX4_launchDay_54 (by decide) ?_
          refine callRd hC (k_X4_of l g ad σ x1 8 h_b (in_iff.mpr (by decide))) ci_X4_of lk_X4_36 ⟨Nat.le_of_ble_eq_true rfl, Nat.le_of_ble_eq_true rfl⟩ hP hK hE (q0 := 0) rfl rfl rfl rfl hl.1 rfl (Nat.le_of_ble_eq_true rfl) dX4_launchDay_56 ⟨Nat.zero_le _, Nat.zero_le _⟩ ?_
          refine lv_iload_n hx hb dX4_launchDay_59 rfl (lv_at hl 1 rfl) ?_
          refine lv_icmp_gt (tgt := 103) hx hb dX4_launchDay_60 (by decide) (fun c_6 => ?_) (fun c_6 => ?_)
          · refine lv_iconst (v := 0) hx hb dX4_launchDay_103 (by decide) ?_
            refine lv_istore (lv' := [(5, .int 0), (4, .int 1), (3, .int u3), (2, .int u2), (0, .ref ad.1), (1, .int x1)]) hx hb dX4_launchDay_104 hl (by decide) rfl (fun ls hl => ?_)
            refine lv_iload hx hb dX4_launchDay_106 (lv_at hl 0 rfl) ?_
            refine lv_if_eq (tgt := 122) hx hb dX4_launchDay_108 (by decide) (fun c_7 => ?_) (fun c_7 => absurd c_7 (by decide))
            refine lv_iload_n hx hb dX4_launchDay_122 rfl (lv_at hl 3 rfl) ?_
            refine lv_istore_n (lv' := [(2, .int u2), (5, .int 0), (4, .int 1), (3, .int u3), (0, .ref ad.1), (1, .int x1)]) hx hb dX4_launchDay_123 rfl hl (by decide) rfl (fun ls hl => ?_)
            refine lv_iinc (v := (u3 + (-1))) (lv' := [(3, .int (u3 + (-1))), (2, .int u2), (5, .int 0), (4, .int 1), (0, .ref ad.1), (1, .int x1)]) hx hb dX4_launchDay_124 hl (k := 3) rfl rfl (by decide) rfl (fun ls hl => ?_)
            refine lv_goto (tgt := 17) hx hb dX4_launchDay_127 (by decide) ?_
            have e8 : 0 ≤ u3.toInt := by have q := c_2; rw [lt_ti] at q; have z : (0 : Int32).toInt = 0 := rfl; omega
            have e9 : (u3 + (-1)).toInt = u3.toInt - 1 := by rw [ti_add (x := u3) (y := (-1)) (by show _ ≤ u3.toInt + (-1); omega) (by show u3.toInt + (-1) < _; omega)]; rfl
            exact ih (u3 + (-1)) u2 (by rw [e9]; omega) (by rw [e9]; omega) (by rw [e9]; omega) (by rw [hR, mX4_launchDay_L17, if_neg c_2, if_neg c_3, if_pos c_4, if_pos c_6]) _ (lv_sub hl [0, 1, 4, 5] rfl)
          · refine lv_aload_n hx hb dX4_launchDay_63 rfl (lv_at hl 3 rfl) ?_
            refine lv_iload_n hx hb dX4_launchDay_64 rfl (lv_at hl 4 rfl) ?_
            refine lv_iconst (v := 3) hx hb dX4_launchDay_65 (by decide) ?_
            refine callRd hC (k_X4_of l g ad σ x1 3 h_b (in_iff.mpr (by decide))) ci_X4_of lk_X4_36 ⟨Nat.le_of_ble_eq_true rfl, Nat.le_of_ble_eq_true rfl⟩ hP hK hE (q0 := 0) rfl rfl rfl rfl hl.1 rfl (Nat.le_of_ble_eq_true rfl) dX4_launchDay_66 ⟨Nat.zero_le _, Nat.zero_le _⟩ ?_
            refine lv_aload_n hx hb dX4_launchDay_69 rfl (lv_at hl 3 rfl) ?_
            refine gM_z hC rfl hK hP dX4_launchDay_70 ?_
            refine lv_iconst (v := 4) hx hb dX4_launchDay_73 (by decide) ?_
            refine lM_z hC hK hP (in_iff.mpr (by decide)) dX4_launchDay_74 ?_
            refine lv_icmp_gt (tgt := 103) hx hb dX4_launchDay_75 (by decide) (fun c_8 => ?_) (fun c_8 => ?_)
            · refine lv_iconst (v := 0) hx hb dX4_launchDay_103 (by decide) ?_
              refine lv_istore (lv' := [(5, .int 0), (4, .int 1), (3, .int u3), (2, .int u2), (0, .ref ad.1), (1, .int x1)]) hx hb dX4_launchDay_104 hl (by decide) rfl (fun ls hl => ?_)
              refine lv_iload hx hb dX4_launchDay_106 (lv_at hl 0 rfl) ?_
              refine lv_if_eq (tgt := 122) hx hb dX4_launchDay_108 (by decide) (fun c_9 => ?_) (fun c_9 => absurd c_9 (by decide))
              refine lv_iload_n hx hb dX4_launchDay_122 rfl (lv_at hl 3 rfl) ?_
              refine lv_istore_n (lv' := [(2, .int u2), (5, .int 0), (4, .int 1), (3, .int u3), (0, .ref ad.1), (1, .int x1)]) hx hb dX4_launchDay_123 rfl hl (by decide) rfl (fun ls hl => ?_)
              refine lv_iinc (v := (u3 + (-1))) (lv' := [(3, .int (u3 + (-1))), (2, .int u2), (5, .int 0), (4, .int 1), (0, .ref ad.1), (1, .int x1)]) hx hb dX4_launchDay_124 hl (k := 3) rfl rfl (by decide) rfl (fun ls hl => ?_)
              refine lv_goto (tgt := 17) hx hb dX4_launchDay_127 (by decide) ?_
              have e8 : 0 ≤ u3.toInt := by have q := c_2; rw [lt_ti] at q; have z : (0 : Int32).toInt = 0 := rfl; omega
              have e9 : (u3 + (-1)).toInt = u3.toInt - 1 := by rw [ti_add (x := u3) (y := (-1)) (by show _ ≤ u3.toInt + (-1); omega) (by show u3.toInt + (-1) < _; omega)]; rfl
              exact ih (u3 + (-1)) u2 (by rw [e9]; omega) (by rw [e9]; omega) (by rw [e9]; omega) (by rw [hR, mX4_launchDay_L17, if_neg c_2, if_neg c_3, if_pos c_4, if_neg c_6, if_pos c_8]) _ (lv_sub hl [0, 1, 4, 5] rfl)
            · refine lv_aload_n hx hb dX4_launchDay_78 rfl (lv_at hl 3 rfl) ?_
              refine lv_aload_n hx hb dX4_launchDay_79 rfl (lv_at hl 3 rfl) ?_
              refine gM_z hC rfl hK hP dX4_launchDay_80 ?_
              refine lv_iconst (v := 0) hx hb dX4_launchDay_83 (by decide) ?_
              refine lM_z hC hK hP (in_iff.mpr (by decide)) dX4_launchDay_84 ?_
              refine lv_iload_n hx hb dX4_launchDay_85 rfl (lv_at hl 1 rfl) ?_
              refine lv_iadd hx hb dX4_launchDay_86 ?_
              refine callRd hC (k_X4_tideAt l g ad σ (((M_z σ) (0 : Int32).toNatClampNeg) + u3)) ci_X4_tideAt lk_X4_101 ⟨Nat.le_of_ble_eq_true rfl, Nat.le_of_ble_eq_true rfl⟩ hP hK hE (q0 := 0) rfl rfl rfl rfl hl.1 rfl (Nat.le_of_ble_eq_true rfl) dX4_launchDay_87 ⟨Nat.zero_le _, Nat.zero_le _⟩ ?_
              refine lv_aload_n hx hb dX4_launchDay_90 rfl (lv_at hl 3 rfl) ?_
              refine lv_iload_n hx hb dX4_launchDay_91 rfl (lv_at hl 4 rfl) ?_
              refine lv_iconst (v := 2) hx hb dX4_launchDay_92 (by decide) ?_
              refine callRd hC (k_X4_of l g ad σ x1 2 h_b (in_iff.mpr (by decide))) ci_X4_of lk_X4_36 ⟨Nat.le_of_ble_eq_true rfl, Nat.le_of_ble_eq_true rfl⟩ hP hK hE (q0 := 0) rfl rfl rfl rfl hl.1 rfl (Nat.le_of_ble_eq_true rfl) dX4_launchDay_93 ⟨Nat.zero_le _, Nat.zero_le _⟩ ?_
              refine lv_icmp_lt (tgt := 103) hx hb dX4_launchDay_96 (by decide) (fun c_10 => ?_) (fun c_10 => ?_)
              · refine lv_iconst (v := 0) hx hb dX4_launchDay_103 (by decide) ?_
                refine lv_istore (lv' := [(5, .int 0), (4, .int 1), (3, .int u3), (2, .int u2), (0, .ref ad.1), (1, .int x1)]) hx hb dX4_launchDay_104 hl (by decide) rfl (fun ls hl => ?_)
                refine lv_iload hx hb dX4_launchDay_106 (lv_at hl 0 rfl) ?_
                refine lv_if_eq (tgt := 122) hx hb dX4_launchDay_108 (by decide) (fun c_11 => ?_) (fun c_11 => absurd c_11 (by decide))
                refine lv_iload_n hx hb dX4_launchDay_122 rfl (lv_at hl 3 rfl) ?_
                refine lv_istore_n (lv' := [(2, .int u2), (5, .int 0), (4, .int 1), (3, .int u3), (0, .ref ad.1), (1, .int x1)]) hx hb dX4_launchDay_123 rfl hl (by decide) rfl (fun ls hl => ?_)
                refine lv_iinc (v := (u3 + (-1))) (lv' := [(3, .int (u3 + (-1))), (2, .int u2), (5, .int 0), (4, .int 1), (0, .ref ad.1), (1, .int x1)]) hx hb dX4_launchDay_124 hl (k := 3) rfl rfl (by decide) rfl (fun ls hl => ?_)
                refine lv_goto (tgt := 17) hx hb dX4_launchDay_127 (by decide) ?_
                have e8 : 0 ≤ u3.toInt := by have q := c_2; rw [lt_ti] at q; have z : (0 : Int32).toInt = 0 := rfl; omega
                have e9 : (u3 + (-1)).toInt = u3.toInt - 1 := by rw [ti_add (x := u3) (y := (-1)) (by show _ ≤ u3.toInt + (-1); omega) (by show u3.toInt + (-1) < _; omega)]; rfl
                exact ih (u3 + (-1)) u2 (by rw [e9]; omega) (by rw [e9]; omega) (by rw [e9]; omega) (by rw [hR, mX4_launchDay_L17, if_neg c_2, if_neg c_3, if_pos c_4, if_neg c_6, if_neg c_8, if_pos c_10]) _ (lv_sub hl [0, 1, 4, 5] rfl)
              · refine lv_iconst (v := 1) hx hb dX4_launchDay_99 (by decide) ?_
                refine lv_goto (tgt := 104) hx hb dX4_launchDay_100 (by decide) ?_
                refine lv_istore (lv' := [(5, .int 1), (4, .int 1), (3, .int u3), (2, .int u2), (0, .ref ad.1), (1, .int x1)]) hx hb dX4_launchDay_104 hl (by decide) rfl (fun ls hl => ?_)
                refine lv_iload hx hb dX4_launchDay_106 (lv_at hl 0 rfl) ?_
                refine lv_if_eq (tgt := 122) hx hb dX4_launchDay_108 (by decide) (fun c_12 => absurd c_12 (by decide)) (fun c_12 => ?_)
                refine lv_aload_n hx hb dX4_launchDay_111 rfl (lv_at hl 4 rfl) ?_
                refine gM_z hC rfl hK hP dX4_launchDay_112 ?_
                refine lv_iconst (v := 0) hx hb dX4_launchDay_115 (by decide) ?_
                refine lM_z hC hK hP (in_iff.mpr (by decide)) dX4_launchDay_116 ?_
                refine lv_iload_n hx hb dX4_launchDay_117 rfl (lv_at hl 2 rfl) ?_
                refine lv_iadd hx hb dX4_launchDay_118 ?_
                refine lv_goto (tgt := 123) hx hb dX4_launchDay_119 (by decide) ?_
                refine lv_istore_n (lv' := [(2, .int (((M_z σ) (0 : Int32).toNatClampNeg) + u3)), (5, .int 1), (4, .int 1), (3, .int u3), (0, .ref ad.1), (1, .int x1)]) hx hb dX4_launchDay_123 rfl hl (by decide) rfl (fun ls hl => ?_)
                refine lv_iinc (v := (u3 + (-1))) (lv' := [(3, .int (u3 + (-1))), (2, .int (((M_z σ) (0 : Int32).toNatClampNeg) + u3)), (5, .int 1), (4, .int 1), (0, .ref ad.1), (1, .int x1)]) hx hb dX4_launchDay_124 hl (k := 3) rfl rfl (by decide) rfl (fun ls hl => ?_)
                refine lv_goto (tgt := 17) hx hb dX4_launchDay_127 (by decide) ?_
                have e8 : 0 ≤ u3.toInt := by have q := c_2; rw [lt_ti] at q; have z : (0 : Int32).toInt = 0 := rfl; omega
                have e9 : (u3 + (-1)).toInt = u3.toInt - 1 := by rw [ti_add (x := u3) (y := (-1)) (by show _ ≤ u3.toInt + (-1); omega) (by show u3.toInt + (-1) < _; omega)]; rfl
                exact ih (u3 + (-1)) (((M_z σ) (0 : Int32).toNatClampNeg) + u3) (by rw [e9]; omega) (by rw [e9]; omega) (by rw [e9]; omega) (by rw [hR, mX4_launchDay_L17, if_neg c_2, if_neg c_3, if_pos c_4, if_neg c_6, if_neg c_8, if_neg c_10]) _ (lv_sub hl [0, 1, 4, 5] rfl)
        · refine lv_aload_n hx hb dX4_launchDay_33 rfl (lv_at hl 2 rfl) ?_
          refine callRd hC (k_X4_liftsLeft l g ad σ) ci_X4_liftsLeft lk_X4_110 ⟨Nat.le_of_ble_eq_true rfl, Nat.le_of_ble_eq_true rfl⟩ hP hK hE (q0 := 0) rfl rfl rfl rfl hl.1 rfl (Nat.le_of_ble_eq_true rfl) dX4_launchDay_34 ⟨Nat.zero_le _, Nat.zero_le _⟩ ?_
          refine lv_if_le (tgt := 44) hx hb dX4_launchDay_37 (by decide) (fun c_13 => ?_) (fun c_13 => ?_)
          · refine lv_iconst (v := 0) hx hb dX4_launchDay_44 (by decide) ?_
            refine lv_istore (lv' := [(4, .int 0), (3, .int u3), (2, .int u2), (0, .ref ad.1), (1, .int x1)]) hx hb dX4_launchDay_45 hl (by decide) rfl (fun ls hl => ?_)
            refine lv_iload hx hb dX4_launchDay_47 (lv_at hl 0 rfl) ?_
            refine lv_if_eq (tgt := 103) hx hb dX4_launchDay_49 (by decide) (fun c_14 => ?_) (fun c_14 => absurd c_14 (by decide))
            refine lv_iconst (v := 0) hx hb dX4_launchDay_103 (by decide) ?_
            refine lv_istore (lv' := [(5, .int 0), (4, .int 0), (3, .int u3), (2, .int u2), (0, .ref ad.1), (1, .int x1)]) hx hb dX4_launchDay_104 hl (by decide) rfl (fun ls hl => ?_)
            refine lv_iload hx hb dX4_launchDay_106 (lv_at hl 0 rfl) ?_
            refine lv_if_eq (tgt := 122) hx hb dX4_launchDay_108 (by decide) (fun c_15 => ?_) (fun c_15 => absurd c_15 (by decide))
            refine lv_iload_n hx hb dX4_launchDay_122 rfl (lv_at hl 3 rfl) ?_
            refine lv_istore_n (lv' := [(2, .int u2), (5, .int 0), (4, .int 0), (3, .int u3), (0, .ref ad.1), (1, .int x1)]) hx hb dX4_launchDay_123 rfl hl (by decide) rfl (fun ls hl => ?_)
            refine lv_iinc (v := (u3 + (-1))) (lv' := [(3, .int (u3 + (-1))), (2, .int u2), (5, .int 0), (4, .int 0), (0, .ref ad.1), (1, .int x1)]) hx hb dX4_launchDay_124 hl (k := 3) rfl rfl (by decide) rfl (fun ls hl => ?_)
            refine lv_goto (tgt := 17) hx hb dX4_launchDay_127 (by decide) ?_
            have e8 : 0 ≤ u3.toInt := by have q := c_2; rw [lt_ti] at q; have z : (0 : Int32).toInt = 0 := rfl; omega
            have e9 : (u3 + (-1)).toInt = u3.toInt - 1 := by rw [ti_add (x := u3) (y := (-1)) (by show _ ≤ u3.toInt + (-1); omega) (by show u3.toInt + (-1) < _; omega)]; rfl
            exact ih (u3 + (-1)) u2 (by rw [e9]; omega) (by rw [e9]; omega) (by rw [e9]; omega) (by rw [hR, mX4_launchDay_L17, if_neg c_2, if_neg c_3, if_neg c_4, if_pos c_13]) _ (lv_sub hl [0, 1, 4, 5] rfl)
          · refine lv_iconst (v := 1) hx hb dX4_launchDay_40 (by decide) ?_
            refine lv_goto (tgt := 45) hx hb dX4_launchDay_41 (by decide) ?_
            refine lv_istore (lv' := [(4, .int 1), (3, .int u3), (2, .int u2), (0, .ref ad.1), (1, .int x1)]) hx hb dX4_launchDay_45 hl (by decide) rfl (fun ls hl => ?_)
            refine lv_iload hx hb dX4_launchDay_47 (lv_at hl 0 rfl) ?_
            refine lv_if_eq (tgt := 103) hx hb dX4_launchDay_49 (by decide) (fun c_16 => absurd c_16 (by decide)) (fun c_16 => ?_)
            refine lv_aload_n hx hb dX4_launchDay_52 rfl (lv_at hl 3 rfl) ?_
            refine lv_iload_n hx hb dX4_launchDay_53 rfl (lv_at hl 4 rfl) ?_
            refine lv_bipush (v := 8) hx hb dX4_launchDay_54 (by decide) ?_
            refine callRd hC (k_X4_of l g ad σ x1 8 h_b (in_iff.mpr (by decide))) ci_X4_of lk_X4_36 ⟨Nat.le_of_ble_eq_true rfl, Nat.le_of_ble_eq_true rfl⟩ hP hK hE (q0 := 0) rfl rfl rfl rfl hl.1 rfl (Nat.le_of_ble_eq_true rfl) dX4_launchDay_56 ⟨Nat.zero_le _, Nat.zero_le _⟩ ?_
            refine lv_iload_n hx hb dX4_launchDay_59 rfl (lv_at hl 1 rfl) ?_
            refine lv_icmp_gt (tgt := 103) hx hb dX4_launchDay_60 (by decide) (fun c_17 => ?_) (fun c_17 => ?_)
            · refine lv_iconst (v := 0) hx hb dX4_launchDay_103 (by decide) ?_
              refine lv_istore (lv' := [(5, .int 0), (4, .int 1), (3, .int u3), (2, .int u2), (0, .ref ad.1), (1, .int x1)]) hx hb dX4_launchDay_104 hl (by decide) rfl (fun ls hl => ?_)
              refine lv_iload hx hb dX4_launchDay_106 (lv_at hl 0 rfl) ?_
              refine lv_if_eq (tgt := 122) hx hb dX4_launchDay_108 (by decide) (fun c_18 => ?_) (fun c_18 => absurd c_18 (by decide))
              refine lv_iload_n hx hb dX4_launchDay_122 rfl (lv_at hl 3 rfl) ?_
              refine lv_istore_n (lv' := [(2, .int u2), (5, .int 0), (4, .int 1), (3, .int u3), (0, .ref ad.1), (1, .int x1)]) hx hb dX4_launchDay_123 rfl hl (by decide) rfl (fun ls hl => ?_)
              refine lv_iinc (v := (u3 + (-1))) (lv' := [(3, .int (u3 + (-1))), (2, .int u2), (5, .int 0), (4, .int 1), (0, .ref ad.1), (1, .int x1)]) hx hb dX4_launchDay_124 hl (k := 3) rfl rfl (by decide) rfl (fun ls hl => ?_)
              refine lv_goto (tgt := 17) hx hb dX4_launchDay_127 (by decide) ?_
              have e8 : 0 ≤ u3.toInt := by have q := c_2; rw [lt_ti] at q; have z : (0 : Int32).toInt = 0 := rfl; omega
              have e9 : (u3 + (-1)).toInt = u3.toInt - 1 := by rw [ti_add (x := u3) (y := (-1)) (by show _ ≤ u3.toInt + (-1); omega) (by show u3.toInt + (-1) < _; omega)]; rfl
              exact ih (u3 + (-1)) u2 (by rw [e9]; omega) (by rw [e9]; omega) (by rw [e9]; omega) (by rw [hR, mX4_launchDay_L17, if_neg c_2, if_neg c_3, if_neg c_4, if_neg c_13, if_pos c_17]) _ (lv_sub hl [0, 1, 4, 5] rfl)
            · refine lv_aload_n hx hb dX4_launchDay_63 rfl (lv_at hl 3 rfl) ?_
              refine lv_iload_n hx hb dX4_launchDay_64 rfl (lv_at hl 4 rfl) ?_
              refine lv_iconst (v := 3) hx hb dX4_launchDay_65 (by decide) ?_
              refine callRd hC (k_X4_of l g ad σ x1 3 h_b (in_iff.mpr (by decide))) ci_X4_of lk_X4_36 ⟨Nat.le_of_ble_eq_true rfl, Nat.le_of_ble_eq_true rfl⟩ hP hK hE (q0 := 0) rfl rfl rfl rfl hl.1 rfl (Nat.le_of_ble_eq_true rfl) dX4_launchDay_66 ⟨Nat.zero_le _, Nat.zero_le _⟩ ?_
              refine lv_aload_n hx hb dX4_launchDay_69 rfl (lv_at hl 3 rfl) ?_
              refine gM_z hC rfl hK hP dX4_launchDay_70 ?_
              refine lv_iconst (v := 4) hx hb dX4_launchDay_73 (by decide) ?_
              refine lM_z hC hK hP (in_iff.mpr (by decide)) dX4_launchDay_74 ?_
              refine lv_icmp_gt (tgt := 103) hx hb dX4_launchDay_75 (by decide) (fun c_19 => ?_) (fun c_19 => ?_)
              · refine lv_iconst (v := 0) hx hb dX4_launchDay_103 (by decide) ?_
                refine lv_istore (lv' := [(5, .int 0), (4, .int 1), (3, .int u3), (2, .int u2), (0, .ref ad.1), (1, .int x1)]) hx hb dX4_launchDay_104 hl (by decide) rfl (fun ls hl => ?_)
                refine lv_iload hx hb dX4_launchDay_106 (lv_at hl 0 rfl) ?_
                refine lv_if_eq (tgt := 122) hx hb dX4_launchDay_108 (by decide) (fun c_20 => ?_) (fun c_20 => absurd c_20 (by decide))
                refine lv_iload_n hx hb dX4_launchDay_122 rfl (lv_at hl 3 rfl) ?_
                refine lv_istore_n (lv' := [(2, .int u2), (5, .int 0), (4, .int 1), (3, .int u3), (0, .ref ad.1), (1, .int x1)]) hx hb dX4_launchDay_123 rfl hl (by decide) rfl (fun ls hl => ?_)
                refine lv_iinc (v := (u3 + (-1))) (lv' := [(3, .int (u3 + (-1))), (2, .int u2), (5, .int 0), (4, .int 1), (0, .ref ad.1), (1, .int x1)]) hx hb dX4_launchDay_124 hl (k := 3) rfl rfl (by decide) rfl (fun ls hl => ?_)
                refine lv_goto (tgt := 17) hx hb dX4_launchDay_127 (by decide) ?_
                have e8 : 0 ≤ u3.toInt := by have q := c_2; rw [lt_ti] at q; have z : (0 : Int32).toInt = 0 := rfl; omega
                have e9 : (u3 + (-1)).toInt = u3.toInt - 1 := by rw [ti_add (x := u3) (y := (-1)) (by show _ ≤ u3.toInt + (-1); omega) (by show u3.toInt + (-1) < _; omega)]; rfl
                exact ih (u3 + (-1)) u2 (by rw [e9]; omega) (by rw [e9]; omega) (by rw [e9]; omega) (by rw [hR, mX4_launchDay_L17, if_neg c_2, if_neg c_3, if_neg c_4, if_neg c_13, if_neg c_17, if_pos c_19]) _ (lv_sub hl [0, 1, 4, 5] rfl)
              · refine lv_aload_n hx hb dX4_launchDay_78 rfl (lv_at hl 3 rfl) ?_
                refine lv_aload_n hx hb dX4_launchDay_79 rfl (lv_at hl 3 rfl) ?_
                refine gM_z hC rfl hK hP dX4_launchDay_80 ?_
                refine lv_iconst (v := 0) hx hb dX4_launchDay_83 (by decide) ?_
                refine lM_z hC hK hP (in_iff.mpr (by decide)) dX4_launchDay_84 ?_
                refine lv_iload_n hx hb dX4_launchDay_85 rfl (lv_at hl 1 rfl) ?_
                refine lv_iadd hx hb dX4_launchDay_86 ?_
                refine callRd hC (k_X4_tideAt l g ad σ (((M_z σ) (0 : Int32).toNatClampNeg) + u3)) ci_X4_tideAt lk_X4_101 ⟨Nat.le_of_ble_eq_true rfl, Nat.le_of_ble_eq_true rfl⟩ hP hK hE (q0 := 0) rfl rfl rfl rfl hl.1 rfl (Nat.le_of_ble_eq_true rfl) dX4_launchDay_87 ⟨Nat.zero_le _, Nat.zero_le _⟩ ?_
                refine lv_aload_n hx hb dX4_launchDay_90 rfl (lv_at hl 3 rfl) ?_
                refine lv_iload_n hx hb dX4_launchDay_91 rfl (lv_at hl 4 rfl) ?_
                refine lv_iconst (v := 2) hx hb dX4_launchDay_92 (by decide) ?_
                refine callRd hC (k_X4_of l g ad σ x1 2 h_b (in_iff.mpr (by decide))) ci_X4_of lk_X4_36 ⟨Nat.le_of_ble_eq_true rfl, Nat.le_of_ble_eq_true rfl⟩ hP hK hE (q0 := 0) rfl rfl rfl rfl hl.1 rfl (Nat.le_of_ble_eq_true rfl) dX4_launchDay_93 ⟨Nat.zero_le _, Nat.zero_le _⟩ ?_
                refine lv_icmp_lt (tgt := 103) hx hb dX4_launchDay_96 (by decide) (fun c_21 => ?_) (fun c_21 => ?_)
                · refine lv_iconst (v := 0) hx hb dX4_launchDay_103 (by decide) ?_
                  refine lv_istore (lv' := [(5, .int 0), (4, .int 1), (3, .int u3), (2, .int u2), (0, .ref ad.1), (1, .int x1)]) hx hb dX4_launchDay_104 hl (by decide) rfl (fun ls hl => ?_)
                  refine lv_iload hx hb dX4_launchDay_106 (lv_at hl 0 rfl) ?_
                  refine lv_if_eq (tgt := 122) hx hb dX4_launchDay_108 (by decide) (fun c_22 => ?_) (fun c_22 => absurd c_22 (by decide))
                  refine lv_iload_n hx hb dX4_launchDay_122 rfl (lv_at hl 3 rfl) ?_
                  refine lv_istore_n (lv' := [(2, .int u2), (5, .int 0), (4, .int 1), (3, .int u3), (0, .ref ad.1), (1, .int x1)]) hx hb dX4_launchDay_123 rfl hl (by decide) rfl (fun ls hl => ?_)
                  refine lv_iinc (v := (u3 + (-1))) (lv' := [(3, .int (u3 + (-1))), (2, .int u2), (5, .int 0), (4, .int 1), (0, .ref ad.1), (1, .int x1)]) hx hb dX4_launchDay_124 hl (k := 3) rfl rfl (by decide) rfl (fun ls hl => ?_)
                  refine lv_goto (tgt := 17) hx hb dX4_launchDay_127 (by decide) ?_
                  have e8 : 0 ≤ u3.toInt := by have q := c_2; rw [lt_ti] at q; have z : (0 : Int32).toInt = 0 := rfl; omega
                  have e9 : (u3 + (-1)).toInt = u3.toInt - 1 := by rw [ti_add (x := u3) (y := (-1)) (by show _ ≤ u3.toInt + (-1); omega) (by show u3.toInt + (-1) < _; omega)]; rfl
                  exact ih (u3 + (-1)) u2 (by rw [e9]; omega) (by rw [e9]; omega) (by rw [e9]; omega) (by rw [hR, mX4_launchDay_L17, if_neg c_2, if_neg c_3, if_neg c_4, if_neg c_13, if_neg c_17, if_neg c_19, if_pos c_21]) _ (lv_sub hl [0, 1, 4, 5] rfl)
                · refine lv_iconst (v := 1) hx hb dX4_launchDay_99 (by decide) ?_
                  refine lv_goto (tgt := 104) hx hb dX4_launchDay_100 (by decide) ?_
                  refine lv_istore (lv' := [(5, .int 1), (4, .int 1), (3, .int u3), (2, .int u2), (0, .ref ad.1), (1, .int x1)]) hx hb dX4_launchDay_104 hl (by decide) rfl (fun ls hl => ?_)
                  refine lv_iload hx hb dX4_launchDay_106 (lv_at hl 0 rfl) ?_
                  refine lv_if_eq (tgt := 122) hx hb dX4_launchDay_108 (by decide) (fun c_23 => absurd c_23 (by decide)) (fun c_23 => ?_)
                  refine lv_aload_n hx hb dX4_launchDay_111 rfl (lv_at hl 4 rfl) ?_
                  refine gM_z hC rfl hK hP dX4_launchDay_112 ?_
                  refine lv_iconst (v := 0) hx hb dX4_launchDay_115 (by decide) ?_
                  refine lM_z hC hK hP (in_iff.mpr (by decide)) dX4_launchDay_116 ?_
                  refine lv_iload_n hx hb dX4_launchDay_117 rfl (lv_at hl 2 rfl) ?_
                  refine lv_iadd hx hb dX4_launchDay_118 ?_
                  refine lv_goto (tgt := 123) hx hb dX4_launchDay_119 (by decide) ?_
                  refine lv_istore_n (lv' := [(2, .int (((M_z σ) (0 : Int32).toNatClampNeg) + u3)), (5, .int 1), (4, .int 1), (3, .int u3), (0, .ref ad.1), (1, .int x1)]) hx hb dX4_launchDay_123 rfl hl (by decide) rfl (fun ls hl => ?_)
                  refine lv_iinc (v := (u3 + (-1))) (lv' := [(3, .int (u3 + (-1))), (2, .int (((M_z σ) (0 : Int32).toNatClampNeg) + u3)), (5, .int 1), (4, .int 1), (0, .ref ad.1), (1, .int x1)]) hx hb dX4_launchDay_124 hl (k := 3) rfl rfl (by decide) rfl (fun ls hl => ?_)
                  refine lv_goto (tgt := 17) hx hb dX4_launchDay_127 (by decide) ?_
                  have e8 : 0 ≤ u3.toInt := by have q := c_2; rw [lt_ti] at q; have z : (0 : Int32).toInt = 0 := rfl; omega
                  have e9 : (u3 + (-1)).toInt = u3.toInt - 1 := by rw [ti_add (x := u3) (y := (-1)) (by show _ ≤ u3.toInt + (-1); omega) (by show u3.toInt + (-1) < _; omega)]; rfl
                  exact ih (u3 + (-1)) (((M_z σ) (0 : Int32).toNatClampNeg) + u3) (by rw [e9]; omega) (by rw [e9]; omega) (by rw [e9]; omega) (by rw [hR, mX4_launchDay_L17, if_neg c_2, if_neg c_3, if_neg c_4, if_neg c_13, if_neg c_17, if_neg c_19, if_neg c_21]) _ (lv_sub hl [0, 1, 4, 5] rfl)
def mX4_launchDay (σ : MS) (x1 : Int32) : Int32 := (if (mX4_isBoat σ x1) = 0 then (-1) else (mX4_launchDay_L17 σ x1 202 200 (-5)))
set_option maxHeartbeats 4000000 in
set_option maxRecDepth 100000 in
theorem k_X4_launchDay (l : Launch) (g : WG) (ad : AM) (σ : MS) (x1 : Int32) : Rd l yX4_launchDay cX4_launchDay 6 (some .int) 2 (Wl g (cM g ad σ) (fun _ => False)) [.ref ad.1, .int x1] (mX4_launchDay σ x1) := by
  refine rd_of (by decide) (Nat.le_of_ble_eq_true rfl) ?_
  intro p e s m args below meth c ls hC hW hl
  obtain ⟨hP, hK, hE⟩ := hW
  obtain ⟨hx, hb, hml, hr, hown, hts, hlk, hnm⟩ := id hC
  have hl : lv_has ls 6 [(0, .ref ad.1), (1, .int x1)] := hl
  refine lv_aload_n hx hb dX4_launchDay_0 rfl (lv_at hl 0 rfl) ?_
  refine lv_iload_n hx hb dX4_launchDay_1 rfl (lv_at hl 1 rfl) ?_
  refine callRd hC (k_X4_isBoat l g ad σ x1) ci_X4_isBoat lk_X4_92 ⟨Nat.le_of_ble_eq_true rfl, Nat.le_of_ble_eq_true rfl⟩ hP hK hE (q0 := 0) rfl rfl rfl rfl hl.1 rfl (Nat.le_of_ble_eq_true rfl) dX4_launchDay_2 ⟨Nat.zero_le _, Nat.zero_le _⟩ ?_
  refine lv_if_ne (tgt := 10) hx hb dX4_launchDay_5 (by decide) (fun c_1 => ?_) (fun c_1 => ?_)
  · refine lv_bipush (v := (-5)) hx hb dX4_launchDay_10 (by decide) ?_
    refine lv_istore_n (lv' := [(2, .int (-5)), (0, .ref ad.1), (1, .int x1)]) hx hb dX4_launchDay_12 rfl hl (by decide) rfl (fun ls hl => ?_)
    refine lv_sipush (v := 200) hx hb dX4_launchDay_13 (by decide) ?_
    refine lv_istore_n (lv' := [(3, .int 200), (2, .int (-5)), (0, .ref ad.1), (1, .int x1)]) hx hb dX4_launchDay_16 rfl hl (by decide) rfl (fun ls hl => ?_)
    refine q_X4_launchDay_17 l g ad σ x1 (in_X4_isBoat c_1) hC hP hK hE 202 200 (-5) (by decide) (by decide) (by decide) ?_ _ (lv_sub hl [0, 1, 2, 3] rfl)
    exact by unfold mX4_launchDay; rw [if_neg c_1]
  · refine lv_iconst (v := (-1)) hx hb dX4_launchDay_8 (by decide) ?_
    exact rd_ret hC dX4_launchDay_9 (Eq.symm (by unfold mX4_launchDay; rw [if_pos c_1]))
