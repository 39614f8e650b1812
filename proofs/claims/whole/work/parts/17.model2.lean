theorem ok_noMast {σ : MS} {b r : Int32} (c : 0 ≤ mX4_noMast σ b r) : ¬ mX4_isBoat σ b = 0 := by
  unfold mX4_noMast at c
  split at c
  · exact absurd c (by decide)
  · assumption
def mX4_mast (σ : MS) (x1 : Int32) (x2 : Int32) : Int32 × MS := (if 0 ≤ (mX4_noMast σ x1 x2) then ((mX4_doMast (mX4_push_z σ) x1 x2).1, (mX4_doMast (mX4_push_z σ) x1 x2).2) else ((mX4_noMast σ x1 x2), σ))
set_option maxHeartbeats 4000000 in
set_option maxRecDepth 100000 in
theorem k_X4_mast (l : Launch) (g : WG) (ad : AM) (σ : MS) (x1 : Int32) (x2 : Int32) (h_st : 0 ≤ (M_states σ).toInt ∧ (M_states σ).toInt ≤ 4) : Wr l yX4_mast cX4_mast 4 (some .int) 4 g (cM g ad σ) (cM g ad (mX4_mast σ x1 x2).2) [.ref ad.1, .int x1, .int x2] (mX4_mast σ x1 x2).1 := by
  refine wr_of (by decide) (Nat.le_of_ble_eq_true rfl) ?_
  intro p e s m args below meth c ls A hC hAe hP hD hK hE hA hS hl
  obtain ⟨hx, hb, hml, hr, hown, hts, hlk, hnm⟩ := id hC
  have hl : lv_has ls 4 [(0, .ref ad.1), (1, .int x1), (2, .int x2)] := hl
  refine lv_aload_n hx hb dX4_mast_0 rfl (lv_at hl 0 rfl) ?_
  refine lv_iload_n hx hb dX4_mast_1 rfl (lv_at hl 1 rfl) ?_
  refine lv_iload_n hx hb dX4_mast_2 rfl (lv_at hl 2 rfl) ?_
  refine callRd hC (k_X4_noMast l g ad σ x1 x2) ci_X4_noMast lk_X4_153 ⟨Nat.le_of_ble_eq_true rfl, Nat.le_of_ble_eq_true rfl⟩ hP hK (hE.S hS).none (q0 := 0) rfl rfl rfl rfl hl.1 rfl (Nat.le_of_ble_eq_true rfl) dX4_mast_3 ⟨Nat.zero_le _, Nat.zero_le _⟩ ?_
  refine lv_istore_n (lv' := [(3, .int (mX4_noMast σ x1 x2)), (0, .ref ad.1), (1, .int x1), (2, .int x2)]) hx hb dX4_mast_6 rfl hl (by decide) rfl (fun ls hl => ?_)
  refine lv_iload_n hx hb dX4_mast_7 rfl (lv_at hl 0 rfl) ?_
  refine lv_if_ge (tgt := 13) hx hb dX4_mast_8 (by decide) (fun c_1 => ?_) (fun c_1 => ?_)
  · refine lv_aload_n hx hb dX4_mast_13 rfl (lv_at hl 1 rfl) ?_
    refine lv_aload_n hx hb dX4_mast_14 rfl (lv_at hl 1 rfl) ?_
    refine gM_z hC rfl hK hP dX4_mast_15 ?_
    refine callWv hC (k_X4_push_z l g ad σ h_st) ci_X4_push lk_X4_85 ⟨Nat.le_of_ble_eq_true rfl, Nat.le_of_ble_eq_true rfl⟩ hP hD hK hE hS hA (q0 := 0) rfl rfl rfl rfl hl.1 rfl (Nat.le_of_ble_eq_true rfl) dX4_mast_18 ⟨Nat.zero_le _, Nat.zero_le _⟩ (fun H locs hP _ hD hS _ _ => ?_)
    refine lv_aload_n hx hb dX4_mast_21 rfl (lv_at hl 1 rfl) ?_
    refine lv_iload_n hx hb dX4_mast_22 rfl (lv_at hl 2 rfl) ?_
    refine lv_iload_n hx hb dX4_mast_23 rfl (lv_at hl 3 rfl) ?_
    refine callWr hC (k_X4_doMast l g ad (mX4_push_z σ) x1 x2 (in_X4_isBoat (ok_noMast c_1))) ci_X4_doMast lk_X4_157 ⟨Nat.le_of_ble_eq_true rfl, Nat.le_of_ble_eq_true rfl⟩ hP hD hK hE hS hA (q0 := 0) rfl rfl rfl rfl hl.1 rfl (Nat.le_of_ble_eq_true rfl) dX4_mast_24 ⟨Nat.zero_le _, Nat.zero_le _⟩ (fun H locs hP _ hD hS _ _ => ?_)
    have hm : mX4_mast σ x1 x2 = ((mX4_doMast (mX4_push_z σ) x1 x2).1, (mX4_doMast (mX4_push_z σ) x1 x2).2) := by unfold mX4_mast; rw [if_pos c_1]
    exact wr_ret hC hP (hAe ▸ hD) (hAe ▸ hS) dX4_mast_27 (by rw [hm]) (by rw [hm])
  · refine lv_iload_n hx hb dX4_mast_11 rfl (lv_at hl 0 rfl) ?_
    have hm : mX4_mast σ x1 x2 = ((mX4_noMast σ x1 x2), σ) := by unfold mX4_mast; rw [if_neg c_1]
    exact wr_ret hC hP (hAe ▸ hD) (hAe ▸ hS) dX4_mast_12 (by rw [hm]) (by rw [hm])
def mX4_work (σ : MS) (x1 : Int32) (x2 : Int32) : Int32 × MS := (if (mX4_isBoat σ x1) = 0 then ((-1), σ) else (if (mX4_in x2 1 99) = 0 then ((-2), σ) else (if ((mX4_of σ x1 8) + x2) ≤ 99 then ((mX4_of (mX4_put (mX4_push_z σ) x1 8 ((mX4_of (mX4_push_z σ) x1 8) + x2)) x1 8), (mX4_put (mX4_push_z σ) x1 8 ((mX4_of (mX4_push_z σ) x1 8) + x2))) else ((-3), σ))))
set_option maxHeartbeats 4000000 in
set_option maxRecDepth 100000 in
theorem k_X4_work (l : Launch) (g : WG) (ad : AM) (σ : MS) (x1 : Int32) (x2 : Int32) (h_st : 0 ≤ (M_states σ).toInt ∧ (M_states σ).toInt ≤ 4) : Wr l yX4_work cX4_work 3 (some .int) 2 g (cM g ad σ) (cM g ad (mX4_work σ x1 x2).2) [.ref ad.1, .int x1, .int x2] (mX4_work σ x1 x2).1 := by
  refine wr_of (by decide) (Nat.le_of_ble_eq_true rfl) ?_
  intro p e s m args below meth c ls A hC hAe hP hD hK hE hA hS hl
  obtain ⟨hx, hb, hml, hr, hown, hts, hlk, hnm⟩ := id hC
  have hl : lv_has ls 3 [(0, .ref ad.1), (1, .int x1), (2, .int x2)] := hl
  refine lv_aload_n hx hb dX4_work_0 rfl (lv_at hl 0 rfl) ?_
  refine lv_iload_n hx hb dX4_work_1 rfl (lv_at hl 1 rfl) ?_
  refine callRd hC (k_X4_isBoat l g ad σ x1) ci_X4_isBoat lk_X4_92 ⟨Nat.le_of_ble_eq_true rfl, Nat.le_of_ble_eq_true rfl⟩ hP hK (hE.S hS).none (q0 := 0) rfl rfl rfl rfl hl.1 rfl (Nat.le_of_ble_eq_true rfl) dX4_work_2 ⟨Nat.zero_le _, Nat.zero_le _⟩ ?_
  refine lv_if_ne (tgt := 10) hx hb dX4_work_5 (by decide) (fun c_1 => ?_) (fun c_1 => ?_)
  · refine lv_iload_n hx hb dX4_work_10 rfl (lv_at hl 2 rfl) ?_
    refine lv_iconst (v := 1) hx hb dX4_work_11 (by decide) ?_
    refine lv_bipush (v := 99) hx hb dX4_work_12 (by decide) ?_
    refine callRs hC (k_X4_in l g x2 1 99) ci_X4_in lk_X4_32 ⟨Nat.le_of_ble_eq_true rfl, Nat.le_of_ble_eq_true rfl⟩ hK (hE.S hS).none rfl hl.1 rfl (Nat.le_of_ble_eq_true rfl) dX4_work_14 ⟨Nat.zero_le _, Nat.zero_le _⟩ ?_
    refine lv_if_ne (tgt := 23) hx hb dX4_work_17 (by decide) (fun c_2 => ?_) (fun c_2 => ?_)
    · refine lv_aload_n hx hb dX4_work_23 rfl (lv_at hl 0 rfl) ?_
      refine lv_iload_n hx hb dX4_work_24 rfl (lv_at hl 1 rfl) ?_
      refine lv_bipush (v := 8) hx hb dX4_work_25 (by decide) ?_
      refine callRd hC (k_X4_of l g ad σ x1 8 (in_X4_isBoat c_1) (in_iff.mpr (by decide))) ci_X4_of lk_X4_36 ⟨Nat.le_of_ble_eq_true rfl, Nat.le_of_ble_eq_true rfl⟩ hP hK (hE.S hS).none (q0 := 0) rfl rfl rfl rfl hl.1 rfl (Nat.le_of_ble_eq_true rfl) dX4_work_27 ⟨Nat.zero_le _, Nat.zero_le _⟩ ?_
      refine lv_iload_n hx hb dX4_work_30 rfl (lv_at hl 2 rfl) ?_
      refine lv_iadd hx hb dX4_work_31 ?_
      refine lv_bipush (v := 99) hx hb dX4_work_32 (by decide) ?_
      refine lv_icmp_le (tgt := 40) hx hb dX4_work_34 (by decide) (fun c_3 => ?_) (fun c_3 => ?_)
      · refine lv_aload_n hx hb dX4_work_40 rfl (lv_at hl 0 rfl) ?_
        refine lv_aload_n hx hb dX4_work_41 rfl (lv_at hl 0 rfl) ?_
        refine gM_z hC rfl hK hP dX4_work_42 ?_
        refine callWv hC (k_X4_push_z l g ad σ h_st) ci_X4_push lk_X4_85 ⟨Nat.le_of_ble_eq_true rfl, Nat.le_of_ble_eq_true rfl⟩ hP hD hK hE hS hA (q0 := 0) rfl rfl rfl rfl hl.1 rfl (Nat.le_of_ble_eq_true rfl) dX4_work_45 ⟨Nat.zero_le _, Nat.zero_le _⟩ (fun H locs hP _ hD hS _ _ => ?_)
        refine lv_aload_n hx hb dX4_work_48 rfl (lv_at hl 0 rfl) ?_
        refine lv_iload_n hx hb dX4_work_49 rfl (lv_at hl 1 rfl) ?_
        refine lv_bipush (v := 8) hx hb dX4_work_50 (by decide) ?_
        refine lv_aload_n hx hb dX4_work_52 rfl (lv_at hl 0 rfl) ?_
        refine lv_iload_n hx hb dX4_work_53 rfl (lv_at hl 1 rfl) ?_
        refine lv_bipush (v := 8) hx hb dX4_work_54 (by decide) ?_
        refine callRd hC (k_X4_of l g ad (mX4_push_z σ) x1 8 (in_X4_isBoat c_1) (in_iff.mpr (by decide))) ci_X4_of lk_X4_36 ⟨Nat.le_of_ble_eq_true rfl, Nat.le_of_ble_eq_true rfl⟩ hP hK (hE.S hS).none (q0 := 0) rfl rfl rfl rfl hl.1 rfl (Nat.le_of_ble_eq_true rfl) dX4_work_56 ⟨Nat.zero_le _, Nat.zero_le _⟩ ?_
        refine lv_iload_n hx hb dX4_work_59 rfl (lv_at hl 2 rfl) ?_
        refine lv_iadd hx hb dX4_work_60 ?_
        refine callWv hC (k_X4_put l g ad (mX4_push_z σ) x1 8 ((mX4_of (mX4_push_z σ) x1 8) + x2) (in_X4_isBoat c_1) (in_iff.mpr (by decide))) ci_X4_put lk_X4_70 ⟨Nat.le_of_ble_eq_true rfl, Nat.le_of_ble_eq_true rfl⟩ hP hD hK hE hS hA (q0 := 0) rfl rfl rfl rfl hl.1 rfl (Nat.le_of_ble_eq_true rfl) dX4_work_61 ⟨Nat.zero_le _, Nat.zero_le _⟩ (fun H locs hP _ hD hS _ _ => ?_)
        refine lv_aload_n hx hb dX4_work_64 rfl (lv_at hl 0 rfl) ?_
        refine lv_iload_n hx hb dX4_work_65 rfl (lv_at hl 1 rfl) ?_
        refine lv_bipush (v := 8) hx hb dX4_work_66 (by decide) ?_
        refine callRd hC (k_X4_of l g ad (mX4_put (mX4_push_z σ) x1 8 ((mX4_of (mX4_push_z σ) x1 8) + x2)) x1 8 (in_X4_isBoat c_1) (in_iff.mpr (by decide))) ci_X4_of lk_X4_36 ⟨Nat.le_of_ble_eq_true rfl, Nat.le_of_ble_eq_true rfl⟩ hP hK (hE.S hS).none (q0 := 0) rfl rfl rfl rfl hl.1 rfl (Nat.le_of_ble_eq_true rfl) dX4_work_68 ⟨Nat.zero_le _, Nat.zero_le _⟩ ?_
        have hm : mX4_work σ x1 x2 = ((mX4_of (mX4_put (mX4_push_z σ) x1 8 ((mX4_of (mX4_push_z σ) x1 8) + x2)) x1 8), (mX4_put (mX4_push_z σ) x1 8 ((mX4_of (mX4_push_z σ) x1 8) + x2))) := by unfold mX4_work; rw [if_neg c_1, if_neg c_2, if_pos c_3]
        exact wr_ret hC hP (hAe ▸ hD) (hAe ▸ hS) dX4_work_71 (by rw [hm]) (by rw [hm])
      · refine lv_bipush (v := (-3)) hx hb dX4_work_37 (by decide) ?_
        have hm : mX4_work σ x1 x2 = ((-3), σ) := by unfold mX4_work; rw [if_neg c_1, if_neg c_2, if_neg c_3]
        exact wr_ret hC hP (hAe ▸ hD) (hAe ▸ hS) dX4_work_39 (by rw [hm]) (by rw [hm])
    · refine lv_bipush (v := (-2)) hx hb dX4_work_20 (by decide) ?_
      have hm : mX4_work σ x1 x2 = ((-2), σ) := by unfold mX4_work; rw [if_neg c_1, if_pos c_2]
      exact wr_ret hC hP (hAe ▸ hD) (hAe ▸ hS) dX4_work_22 (by rw [hm]) (by rw [hm])
  · refine lv_iconst (v := (-1)) hx hb dX4_work_8 (by decide) ?_
    have hm : mX4_work σ x1 x2 = ((-1), σ) := by unfold mX4_work; rw [if_pos c_1]
    exact wr_ret hC hP (hAe ▸ hD) (hAe ▸ hS) dX4_work_9 (by rw [hm]) (by rw [hm])
def mX4_noPass (σ : MS) (x1 : Int32) : Int32 := (if (mX4_in x1 1 99) = 0 then (-2) else (if (((M_z σ) (0 : Int32).toNatClampNeg) + x1) ≤ 9999 then 0 else (-3)))
set_option maxHeartbeats 4000000 in
set_option maxRecDepth 100000 in
theorem k_X4_noPass (l : Launch) (g : WG) (ad : AM) (σ : MS) (x1 : Int32) : Rd l yX4_noPass cX4_noPass 2 (some .int) 1 (Wl g (cM g ad σ) (fun _ => False)) [.ref ad.1, .int x1] (mX4_noPass σ x1) := by
  refine rd_of (by decide) (Nat.le_of_ble_eq_true rfl) ?_
  intro p e s m args below meth c ls hC hW hl
  obtain ⟨hP, hK, hE⟩ := hW
  obtain ⟨hx, hb, hml, hr, hown, hts, hlk, hnm⟩ := id hC
  have hl : lv_has ls 2 [(0, .ref ad.1), (1, .int x1)] := hl
  refine lv_iload_n hx hb dX4_noPass_0 rfl (lv_at hl 1 rfl) ?_
  refine lv_iconst (v := 1) hx hb dX4_noPass_1 (by decide) ?_
  refine lv_bipush (v := 99) hx hb dX4_noPass_2 (by decide) ?_
  refine callRs hC (k_X4_in l g x1 1 99) ci_X4_in lk_X4_32 ⟨Nat.le_of_ble_eq_true rfl, Nat.le_of_ble_eq_true rfl⟩ hK hE rfl hl.1 rfl (Nat.le_of_ble_eq_true rfl) dX4_noPass_4 ⟨Nat.zero_le _, Nat.zero_le _⟩ ?_
  refine lv_if_ne (tgt := 15) hx hb dX4_noPass_7 (by decide) (fun c_1 => ?_) (fun c_1 => ?_)
  · refine lv_aload_n hx hb dX4_noPass_15 rfl (lv_at hl 0 rfl) ?_
    refine gM_z hC rfl hK hP dX4_noPass_16 ?_
    refine lv_iconst (v := 0) hx hb dX4_noPass_19 (by decide) ?_
    refine lM_z hC hK hP (in_iff.mpr (by decide)) dX4_noPass_20 ?_
    refine lv_iload_n hx hb dX4_noPass_21 rfl (lv_at hl 1 rfl) ?_
    refine lv_iadd hx hb dX4_noPass_22 ?_
    refine lv_sipush (v := 9999) hx hb dX4_noPass_23 (by decide) ?_
    refine lv_icmp_le (tgt := 34) hx hb dX4_noPass_26 (by decide) (fun c_2 => ?_) (fun c_2 => ?_)
    · refine lv_iconst (v := 0) hx hb dX4_noPass_34 (by decide) ?_
      exact rd_ret hC dX4_noPass_35 (Eq.symm (by unfold mX4_noPass; rw [if_neg c_1, if_pos c_2]))
    · refine lv_bipush (v := (-3)) hx hb dX4_noPass_29 (by decide) ?_
      refine lv_goto (tgt := 35) hx hb dX4_noPass_31 (by decide) ?_
      exact rd_ret hC dX4_noPass_35 (Eq.symm (by unfold mX4_noPass; rw [if_neg c_1, if_neg c_2]))
  · refine lv_bipush (v := (-2)) hx hb dX4_noPass_10 (by decide) ?_
    refine lv_goto (tgt := 35) hx hb dX4_noPass_12 (by decide) ?_
    exact rd_ret hC dX4_noPass_35 (Eq.symm (by unfold mX4_noPass; rw [if_pos c_1]))
def mX4_doPass_L19 (x1 : Int32) : Nat → MS → Int32 → Int32 × MS
  | 0, σ, _ => (0, σ)
  | n + 1, σ, u2 => (if 20 ≤ u2 then ((mX4_tideAt σ ((M_z σ) (0 : Int32).toNatClampNeg)), σ) else (if (mX4_of σ u2 0) = 1 then (if (mX4_isAshore σ u2) = 0 then (mX4_doPass_L19 x1 n σ (u2 + 1)) else (if (mX4_of (mX4_put σ u2 9 ((mX4_of σ u2 9) + x1)) u2 8) ≤ x1 then (mX4_doPass_L19 x1 n (mX4_put (mX4_put σ u2 9 ((mX4_of σ u2 9) + x1)) u2 8 0) (u2 + 1)) else (mX4_doPass_L19 x1 n (mX4_put (mX4_put σ u2 9 ((mX4_of σ u2 9) + x1)) u2 8 ((mX4_of (mX4_put σ u2 9 ((mX4_of σ u2 9) + x1)) u2 8) - x1)) (u2 + 1)))) else (mX4_doPass_L19 x1 n σ (u2 + 1))))
set_option maxHeartbeats 4000000 in
set_option maxRecDepth 100000 in
theorem q_X4_doPass_19 {p : Program} {e : Env} {s : State} {m : MethodId} {args : Array Value} {below : List Frame} {meth : Method} {c : Code} (l : Launch) (g : WG) (ad : AM) (x1 : Int32) (hC : Cx p s m args meth c yX4_doPass cX4_doPass 3 (some .int)) (hK : va_K g.1 vwCl (tysW g) s) {A : Nat → Prop} {ws0 : va_W} (hE : Ex A s s.heap) (hA : ∀ q : Nat, s.heap.size ≤ q → A q) (hAe : A = va_A ws0 s.heap.size) {r : Int32 × MS} : ∀ (n : Nat) (σ : MS) (H : Heap) (locs : List Loc) (hP : va_P g.1 vwCl (cM g ad σ) H) (hD : va_D A (cM g ad σ)) (hS : va_S A s.heap H locs) (u2 : Int32) (hi0 : 0 ≤ u2.toInt) (hi1 : u2.toInt ≤ 20) (hm : ((21 : Int) - u2.toInt).toNat < n) (hR : r = mX4_doPass_L19 x1 n σ u2) (ls : Array Slot) (hl : lv_has ls 3 [(2, .int u2), (0, .ref ad.1), (1, .int x1)]), W p l e (rk 2) s m args below meth c H locs 0 0 (MQ below (va_Qi (fun x _ => x = r.1) (Bw g ws0 (cM g ad r.2) s.heap.size) (va_A ws0 s.heap.size)) args s 0 0 (va_A ws0 s.heap.size)) (F0 m 19 ls []) := by
  obtain ⟨hx, hb, hml, hr, hown, hts, hlk, hnm⟩ := id hC
  intro n
  induction n with
  | zero => intro σ H locs hP hD hS u2 hi0 hi1 hm hR ls hl; exact absurd hm (Nat.not_lt_zero _)
  | succ n ih =>
    intro σ H locs hP hD hS u2 hi0 hi1 hm hR ls hl
    refine lv_iload_n hx hb dX4_doPass_19 rfl (lv_at hl 0 rfl) ?_
    refine lv_bipush (v := 20) hx hb dX4_doPass_20 (by decide) ?_
    refine lv_icmp_ge (tgt := 96) hx hb dX4_doPass_22 (by decide) (fun c_1 => ?_) (fun c_1 => ?_)
    · refine lv_aload_n hx hb dX4_doPass_96 rfl (lv_at hl 1 rfl) ?_
      refine lv_aload_n hx hb dX4_doPass_97 rfl (lv_at hl 1 rfl) ?_
      refine gM_z hC rfl hK hP dX4_doPass_98 ?_
      refine lv_iconst (v := 0) hx hb dX4_doPass_101 (by decide) ?_
      refine lM_z hC hK hP (in_iff.mpr (by decide)) dX4_doPass_102 ?_
      refine callRd hC (k_X4_tideAt l g ad σ ((M_z σ) (0 : Int32).toNatClampNeg)) ci_X4_tideAt lk_X4_101 ⟨Nat.le_of_ble_eq_true rfl, Nat.le_of_ble_eq_true rfl⟩ hP hK (hE.S hS).none (q0 := 0) rfl rfl rfl rfl hl.1 rfl (Nat.le_of_ble_eq_true rfl) dX4_doPass_103 ⟨Nat.zero_le _, Nat.zero_le _⟩ ?_
      have hm : r = ((mX4_tideAt σ ((M_z σ) (0 : Int32).toNatClampNeg)), σ) := by rw [hR, mX4_doPass_L19, if_pos c_1]
      exact wr_ret hC hP (hAe ▸ hD) (hAe ▸ hS) dX4_doPass_106 (by rw [hm]) (by rw [hm])
    · refine lv_aload_n hx hb dX4_doPass_25 rfl (lv_at hl 1 rfl) ?_
      refine lv_iload_n hx hb dX4_doPass_26 rfl (lv_at hl 0 rfl) ?_
      refine lv_iconst (v := 0) hx hb dX4_doPass_27 (by decide) ?_
      refine callRd hC (k_X4_of l g ad σ u2 0 (in_up (n := 20) rfl hi0 c_1) (in_iff.mpr (by decide))) ci_X4_of lk_X4_36 ⟨Nat.le_of_ble_eq_true rfl, Nat.le_of_ble_eq_true rfl⟩ hP hK (hE.S hS).none (q0 := 0) rfl rfl rfl rfl hl.1 rfl (Nat.le_of_ble_eq_true rfl) dX4_doPass_28 ⟨Nat.zero_le _, Nat.zero_le _⟩ ?_
      refine lv_iconst (v := 1) hx hb dX4_doPass_31 (by decide) ?_
      refine lv_icmp_ne (tgt := 90) hx hb dX4_doPass_32 (by decide) (fun c_2 => ?_) (fun c_2 => ?_)
      · refine lv_iinc (v := (u2 + 1)) (lv' := [(2, .int (u2 + 1)), (0, .ref ad.1), (1, .int x1)]) hx hb dX4_doPass_90 hl (k := 0) rfl rfl (by decide) rfl (fun ls hl => ?_)
        refine lv_goto (tgt := 19) hx hb dX4_doPass_93 (by decide) ?_
        have e9 := up_add (d := 1) (k := 1) (M := 20) rfl hi0 hi1 (by decide) (by decide)
        have e8 := nle_ti (k := 20) rfl c_1
        exact ih σ _ _ hP hD hS (u2 + 1) (by rw [e9]; omega) (by rw [e9]; omega) (by rw [e9]; omega) (by rw [hR, mX4_doPass_L19, if_neg c_1, if_neg c_2]) _ (lv_sub hl [0, 1, 2] rfl)
      · refine lv_aload_n hx hb dX4_doPass_35 rfl (lv_at hl 1 rfl) ?_
        refine lv_iload_n hx hb dX4_doPass_36 rfl (lv_at hl 0 rfl) ?_
        refine callRd hC (k_X4_isAshore l g ad σ u2 (in_up (n := 20) rfl hi0 c_1)) ci_X4_isAshore lk_X4_40 ⟨Nat.le_of_ble_eq_true rfl, Nat.le_of_ble_eq_true rfl⟩ hP hK (hE.S hS).none (q0 := 0) rfl rfl rfl rfl hl.1 rfl (Nat.le_of_ble_eq_true rfl) dX4_doPass_37 ⟨Nat.zero_le _, Nat.zero_le _⟩ ?_
        refine lv_if_eq (tgt := 90) hx hb dX4_doPass_40 (by decide) (fun c_3 => ?_) (fun c_3 => ?_)
        · refine lv_iinc (v := (u2 + 1)) (lv' := [(2, .int (u2 + 1)), (0, .ref ad.1), (1, .int x1)]) hx hb dX4_doPass_90 hl (k := 0) rfl rfl (by decide) rfl (fun ls hl => ?_)
          refine lv_goto (tgt := 19) hx hb dX4_doPass_93 (by decide) ?_
          have e9 := up_add (d := 1) (k := 1) (M := 20) rfl hi0 hi1 (by decide) (by decide)
          have e8 := nle_ti (k := 20) rfl c_1
          exact ih σ _ _ hP hD hS (u2 + 1) (by rw [e9]; omega) (by rw [e9]; omega) (by rw [e9]; omega) (by rw [hR, mX4_doPass_L19, if_neg c_1, if_pos c_2, if_pos c_3]) _ (lv_sub hl [0, 1, 2] rfl)
        · refine lv_aload_n hx hb dX4_doPass_43 rfl (lv_at hl 1 rfl) ?_
          refine lv_iload_n hx hb dX4_doPass_44 rfl (lv_at hl 0 rfl) ?_
          refine lv_bipush (v := 9) hx hb dX4_doPass_45 (by decide) ?_
          refine lv_aload_n hx hb dX4_doPass_47 rfl (lv_at hl 1 rfl) ?_
          refine lv_iload_n hx hb dX4_doPass_48 rfl (lv_at hl 0 rfl) ?_
          refine lv_bipush (v := 9) hx hb dX4_doPass_49 (by decide) ?_
          refine callRd hC (k_X4_of l g ad σ u2 9 (in_up (n := 20) rfl hi0 c_1) (in_iff.mpr (by decide))) ci_X4_of lk_X4_36 ⟨Nat.le_of_ble_eq_true rfl, Nat.le_of_ble_eq_true rfl⟩ hP hK (hE.S hS).none (q0 := 0) rfl rfl rfl rfl hl.1 rfl (Nat.le_of_ble_eq_true rfl) dX4_doPass_51 ⟨Nat.zero_le _, Nat.zero_le _⟩ ?_
          refine lv_iload_n hx hb dX4_doPass_54 rfl (lv_at hl 2 rfl) ?_
          refine lv_iadd hx hb dX4_doPass_55 ?_
          refine callWv hC (k_X4_put l g ad σ u2 9 ((mX4_of σ u2 9) + x1) (in_up (n := 20) rfl hi0 c_1) (in_iff.mpr (by decide))) ci_X4_put lk_X4_70 ⟨Nat.le_of_ble_eq_true rfl, Nat.le_of_ble_eq_true rfl⟩ hP hD hK hE hS hA (q0 := 0) rfl rfl rfl rfl hl.1 rfl (Nat.le_of_ble_eq_true rfl) dX4_doPass_56 ⟨Nat.zero_le _, Nat.zero_le _⟩ (fun H locs hP _ hD hS _ _ => ?_)
          refine lv_aload_n hx hb dX4_doPass_59 rfl (lv_at hl 1 rfl) ?_
          refine lv_iload_n hx hb dX4_doPass_60 rfl (lv_at hl 0 rfl) ?_
          refine lv_bipush (v := 8) hx hb dX4_doPass_61 (by decide) ?_
          refine lv_aload_n hx hb dX4_doPass_63 rfl (lv_at hl 1 rfl) ?_
          refine lv_iload_n hx hb dX4_doPass_64 rfl (lv_at hl 0 rfl) ?_
          refine lv_bipush (v := 8) hx hb dX4_doPass_65 (by decide) ?_
          refine callRd hC (k_X4_of l g ad (mX4_put σ u2 9 ((mX4_of σ u2 9) + x1)) u2 8 (in_up (n := 20) rfl hi0 c_1) (in_iff.mpr (by decide))) ci_X4_of lk_X4_36 ⟨Nat.le_of_ble_eq_true rfl, Nat.le_of_ble_eq_true rfl⟩ hP hK (hE.S hS).none (q0 := 0) rfl rfl rfl rfl hl.1 rfl (Nat.le_of_ble_eq_true rfl) dX4_doPass_67 ⟨Nat.zero_le _, Nat.zero_le _⟩ ?_
          refine lv_iload_n hx hb dX4_doPass_70 rfl (lv_at hl 2 rfl) ?_
          refine lv_icmp_le (tgt := 86) hx hb dX4_doPass_71 (by decide) (fun c_4 => ?_) (fun c_4 => ?_)
          · refine lv_iconst (v := 0) hx hb dX4_doPass_86 (by decide) ?_
            refine callWv hC (k_X4_put l g ad (mX4_put σ u2 9 ((mX4_of σ u2 9) + x1)) u2 8 0 (in_up (n := 20) rfl hi0 c_1) (in_iff.mpr (by decide))) ci_X4_put lk_X4_70 ⟨Nat.le_of_ble_eq_true rfl, Nat.le_of_ble_eq_true rfl⟩ hP hD hK hE hS hA (q0 := 0) rfl rfl rfl rfl hl.1 rfl (Nat.le_of_ble_eq_true rfl) dX4_doPass_87 ⟨Nat.zero_le _, Nat.zero_le _⟩ (fun H locs hP _ hD hS _ _ => ?_)
            refine lv_iinc (v := (u2 + 1)) (lv' := [(2, .int (u2 + 1)), (0, .ref ad.1), (1, .int x1)]) hx hb dX4_doPass_90 hl (k := 0) rfl rfl (by decide) rfl (fun ls hl => ?_)
            refine lv_goto (tgt := 19) hx hb dX4_doPass_93 (by decide) ?_
            have e9 := up_add (d := 1) (k := 1) (M := 20) rfl hi0 hi1 (by decide) (by decide)
            have e8 := nle_ti (k := 20) rfl c_1
            exact ih (mX4_put (mX4_put σ u2 9 ((mX4_of σ u2 9) + x1)) u2 8 0) _ _ hP hD hS (u2 + 1) (by rw [e9]; omega) (by rw [e9]; omega) (by rw [e9]; omega) (by rw [hR, mX4_doPass_L19, if_neg c_1, if_pos c_2, if_neg c_3, if_pos c_4]) _ (lv_sub hl [0, 1, 2] rfl)
          · refine lv_aload_n hx hb dX4_doPass_74 rfl (lv_at hl 1 rfl) ?_
            refine lv_iload_n hx hb dX4_doPass_75 rfl (lv_at hl 0 rfl) ?_
            refine lv_bipush (v := 8) hx hb dX4_doPass_76 (by decide) ?_
            refine callRd hC (k_X4_of l g ad (mX4_put σ u2 9 ((mX4_of σ u2 9) + x1)) u2 8 (in_up (n := 20) rfl hi0 c_1) (in_iff.mpr (by decide))) ci_X4_of lk_X4_36 ⟨Nat.le_of_ble_eq_true rfl, Nat.le_of_ble_eq_true rfl⟩ hP hK (hE.S hS).none (q0 := 0) rfl rfl rfl rfl hl.1 rfl (Nat.le_of_ble_eq_true rfl) dX4_doPass_78 ⟨Nat.zero_le _, Nat.zero_le _⟩ ?_
            refine lv_iload_n hx hb dX4_doPass_81 rfl (lv_at hl 2 rfl) ?_
            refine lv_isub hx hb dX4_doPass_82 ?_
            refine lv_goto (tgt := 87) hx hb dX4_doPass_83 (by decide) ?_
            refine callWv hC (k_X4_put l g ad (mX4_put σ u2 9 ((mX4_of σ u2 9) + x1)) u2 8 ((mX4_of (mX4_put σ u2 9 ((mX4_of σ u2 9) + x1)) u2 8) - x1) (in_up (n := 20) rfl hi0 c_1) (in_iff.mpr (by decide))) ci_X4_put lk_X4_70 ⟨Nat.le_of_ble_eq_true rfl, Nat.le_of_ble_eq_true rfl⟩ hP hD hK hE hS hA (q0 := 0) rfl rfl rfl rfl hl.1 rfl (Nat.le_of_ble_eq_true rfl) dX4_doPass_87 ⟨Nat.zero_le _, Nat.zero_le _⟩ (fun H locs hP _ hD hS _ _ => ?_)
            refine lv_iinc (v := (u2 + 1)) (lv' := [(2, .int (u2 + 1)), (0, .ref ad.1), (1, .int x1)]) hx hb dX4_doPass_90 hl (k := 0) rfl rfl (by decide) rfl (fun ls hl => ?_)
            refine lv_goto (tgt := 19) hx hb dX4_doPass_93 (by decide) ?_
            have e9 := up_add (d := 1) (k := 1) (M := 20) rfl hi0 hi1 (by decide) (by decide)
            have e8 := nle_ti (k := 20) rfl c_1
            exact ih (mX4_put (mX4_put σ u2 9 ((mX4_of σ u2 9) + x1)) u2 8 ((mX4_of (mX4_put σ u2 9 ((mX4_of σ u2 9) + x1)) u2 8) - x1)) _ _ hP hD hS (u2 + 1) (by rw [e9]; omega) (by rw [e9]; omega) (by rw [e9]; omega) (by rw [hR, mX4_doPass_L19, if_neg c_1, if_pos c_2, if_neg c_3, if_neg c_4]) _ (lv_sub hl [0, 1, 2] rfl)
def mX4_doPass (σ : MS) (x1 : Int32) : Int32 × MS := (mX4_doPass_L19 x1 22 (M_set_z (M_set_z σ (upd (M_z σ) (0 : Int32).toNatClampNeg (((M_z σ) (0 : Int32).toNatClampNeg) + x1))) (upd (M_z (M_set_z σ (upd (M_z σ) (0 : Int32).toNatClampNeg (((M_z σ) (0 : Int32).toNatClampNeg) + x1)))) (1 : Int32).toNatClampNeg 0)) 0)
set_option maxHeartbeats 4000000 in
set_option maxRecDepth 100000 in
theorem k_X4_doPass (l : Launch) (g : WG) (ad : AM) (σ : MS) (x1 : Int32) : Wr l yX4_doPass cX4_doPass 3 (some .int) 2 g (cM g ad σ) (cM g ad (mX4_doPass σ x1).2) [.ref ad.1, .int x1] (mX4_doPass σ x1).1 := by
  refine wr_of (by decide) (Nat.le_of_ble_eq_true rfl) ?_
  intro p e s m args below meth c ls A hC hAe hP hD hK hE hA hS hl
  obtain ⟨hx, hb, hml, hr, hown, hts, hlk, hnm⟩ := id hC
  have hl : lv_has ls 3 [(0, .ref ad.1), (1, .int x1)] := hl
  refine lv_aload_n hx hb dX4_doPass_0 rfl (lv_at hl 0 rfl) ?_
  refine gM_z hC rfl hK hP dX4_doPass_1 ?_
  refine lv_iconst (v := 0) hx hb dX4_doPass_4 (by decide) ?_
  refine lv_dup2_11 hx hb dX4_doPass_5 rfl rfl ?_
  refine lM_z hC hK hP (in_iff.mpr (by decide)) dX4_doPass_6 ?_
  refine lv_iload_n hx hb dX4_doPass_7 rfl (lv_at hl 1 rfl) ?_
  refine lv_iadd hx hb dX4_doPass_8 ?_
  refine sM_z hC hK hP hD hS (in_iff.mpr (by decide)) dX4_doPass_9 (fun H locs hP hD hS => ?_)
  refine lv_aload_n hx hb dX4_doPass_10 rfl (lv_at hl 0 rfl) ?_
  refine gM_z hC rfl hK hP dX4_doPass_11 ?_
  refine lv_iconst (v := 1) hx hb dX4_doPass_14 (by decide) ?_
  refine lv_iconst (v := 0) hx hb dX4_doPass_15 (by decide) ?_
  refine sM_z hC hK hP hD hS (in_iff.mpr (by decide)) dX4_doPass_16 (fun H locs hP hD hS => ?_)
  refine lv_iconst (v := 0) hx hb dX4_doPass_17 (by decide) ?_
  refine lv_istore_n (lv' := [(2, .int 0), (0, .ref ad.1), (1, .int x1)]) hx hb dX4_doPass_18 rfl hl (by decide) rfl (fun ls hl => ?_)
  refine q_X4_doPass_19 l g ad x1 hC hK hE hA hAe 22 (M_set_z (M_set_z σ (upd (M_z σ) (0 : Int32).toNatClampNeg (((M_z σ) (0 : Int32).toNatClampNeg) + x1))) (upd (M_z (M_set_z σ (upd (M_z σ) (0 : Int32).toNatClampNeg (((M_z σ) (0 : Int32).toNatClampNeg) + x1)))) (1 : Int32).toNatClampNeg 0)) _ _ hP hD hS 0 (by decide) (by decide) (by decide) ?_ _ (lv_sub hl [0, 1, 2] rfl)
  exact by unfold mX4_doPass; rfl
def mX4_pass (σ : MS) (x1 : Int32) : Int32 × MS := (if 0 ≤ (mX4_noPass σ x1) then ((mX4_doPass (mX4_push_z σ) x1).1, (mX4_doPass (mX4_push_z σ) x1).2) else ((mX4_noPass σ x1), σ))
set_option maxHeartbeats 4000000 in
set_option maxRecDepth 100000 in
theorem k_X4_pass (l : Launch) (g : WG) (ad : AM) (σ : MS) (x1 : Int32) (h_st : 0 ≤ (M_states σ).toInt ∧ (M_states σ).toInt ≤ 4) : Wr l yX4_pass cX4_pass 3 (some .int) 3 g (cM g ad σ) (cM g ad (mX4_pass σ x1).2) [.ref ad.1, .int x1] (mX4_pass σ x1).1 := by
  refine wr_of (by decide) (Nat.le_of_ble_eq_true rfl) ?_
  intro p e s m args below meth c ls A hC hAe hP hD hK hE hA hS hl
  obtain ⟨hx, hb, hml, hr, hown, hts, hlk, hnm⟩ := id hC
  have hl : lv_has ls 3 [(0, .ref ad.1), (1, .int x1)] := hl
  refine lv_aload_n hx hb dX4_pass_0 rfl (lv_at hl 0 rfl) ?_
  refine lv_iload_n hx hb dX4_pass_1 rfl (lv_at hl 1 rfl) ?_
  refine callRd hC (k_X4_noPass l g ad σ x1) ci_X4_noPass lk_X4_160 ⟨Nat.le_of_ble_eq_true rfl, Nat.le_of_ble_eq_true rfl⟩ hP hK (hE.S hS).none (q0 := 0) rfl rfl rfl rfl hl.1 rfl (Nat.le_of_ble_eq_true rfl) dX4_pass_2 ⟨Nat.zero_le _, Nat.zero_le _⟩ ?_
  refine lv_istore_n (lv' := [(2, .int (mX4_noPass σ x1)), (0, .ref ad.1), (1, .int x1)]) hx hb dX4_pass_5 rfl hl (by decide) rfl (fun ls hl => ?_)
  refine lv_iload_n hx hb dX4_pass_6 rfl (lv_at hl 0 rfl) ?_
  refine lv_if_ge (tgt := 12) hx hb dX4_pass_7 (by decide) (fun c_1 => ?_) (fun c_1 => ?_)
  · refine lv_aload_n hx hb dX4_pass_12 rfl (lv_at hl 1 rfl) ?_
    refine lv_aload_n hx hb dX4_pass_13 rfl (lv_at hl 1 rfl) ?_
    refine gM_z hC rfl hK hP dX4_pass_14 ?_
    refine callWv hC (k_X4_push_z l g ad σ h_st) ci_X4_push lk_X4_85 ⟨Nat.le_of_ble_eq_true rfl, Nat.le_of_ble_eq_true rfl⟩ hP hD hK hE hS hA (q0 := 0) rfl rfl rfl rfl hl.1 rfl (Nat.le_of_ble_eq_true rfl) dX4_pass_17 ⟨Nat.zero_le _, Nat.zero_le _⟩ (fun H locs hP _ hD hS _ _ => ?_)
    refine lv_aload_n hx hb dX4_pass_20 rfl (lv_at hl 1 rfl) ?_
    refine lv_iload_n hx hb dX4_pass_21 rfl (lv_at hl 2 rfl) ?_
    refine callWr hC (k_X4_doPass l g ad (mX4_push_z σ) x1) ci_X4_doPass lk_X4_163 ⟨Nat.le_of_ble_eq_true rfl, Nat.le_of_ble_eq_true rfl⟩ hP hD hK hE hS hA (q0 := 0) rfl rfl rfl rfl hl.1 rfl (Nat.le_of_ble_eq_true rfl) dX4_pass_22 ⟨Nat.zero_le _, Nat.zero_le _⟩ (fun H locs hP _ hD hS _ _ => ?_)
    have hm : mX4_pass σ x1 = ((mX4_doPass (mX4_push_z σ) x1).1, (mX4_doPass (mX4_push_z σ) x1).2) := by unfold mX4_pass; rw [if_pos c_1]
    exact wr_ret hC hP (hAe ▸ hD) (hAe ▸ hS) dX4_pass_25 (by rw [hm]) (by rw [hm])
  · refine lv_iload_n hx hb dX4_pass_10 rfl (lv_at hl 0 rfl) ?_
    have hm : mX4_pass σ x1 = ((mX4_noPass σ x1), σ) := by unfold mX4_pass; rw [if_neg c_1]
    exact wr_ret hC hP (hAe ▸ hD) (hAe ▸ hS) dX4_pass_11 (by rw [hm]) (by rw [hm])
theorem in_ne60 {σ : MS} (h : 0 ≤ (M_length σ).toInt ∧ (M_length σ).toInt ≤ 60) (c : ¬ (M_length σ) = 60) : vp_in (M_length σ) 60 := by
  rw [eq_ti] at c
  have e : (60 : Int32).toInt = 60 := rfl
  exact in_iff.mpr ⟨h.1, by omega⟩
def mX4_type (σ : MS) (x1 : Int32) : Int32 × MS := (if (M_length σ) = 60 then ((-3), σ) else ((M_length (M_set_length (M_set_text σ (upd (M_text σ) (M_length σ).toNatClampNeg x1)) ((M_length (M_set_text σ (upd (M_text σ) (M_length σ).toNatClampNeg x1))) + 1))), (M_set_length (M_set_text σ (upd (M_text σ) (M_length σ).toNatClampNeg x1)) ((M_length (M_set_text σ (upd (M_text σ) (M_length σ).toNatClampNeg x1))) + 1))))
set_option maxHeartbeats 4000000 in
set_option maxRecDepth 100000 in
theorem k_X4_type (l : Launch) (g : WG) (ad : AM) (σ : MS) (x1 : Int32) (h_len : 0 ≤ (M_length σ).toInt ∧ (M_length σ).toInt ≤ 60) : Wr l yX4_type cX4_type 2 (some .int) 0 g (cM g ad σ) (cM g ad (mX4_type σ x1).2) [.ref ad.1, .int x1] (mX4_type σ x1).1 := by
  refine wr_of (by decide) (Nat.le_of_ble_eq_true rfl) ?_
  intro p e s m args below meth c ls A hC hAe hP hD hK hE hA hS hl
  obtain ⟨hx, hb, hml, hr, hown, hts, hlk, hnm⟩ := id hC
  have hl : lv_has ls 2 [(0, .ref ad.1), (1, .int x1)] := hl
  refine lv_aload_n hx hb dX4_type_0 rfl (lv_at hl 0 rfl) ?_
  refine gM_length hC rfl hK hP dX4_type_1 ?_
  refine lv_bipush (v := 60) hx hb dX4_type_4 (by decide) ?_
  refine lv_icmp_ne (tgt := 12) hx hb dX4_type_6 (by decide) (fun c_1 => ?_) (fun c_1 => ?_)
  · refine lv_aload_n hx hb dX4_type_12 rfl (lv_at hl 0 rfl) ?_
    refine gM_text hC rfl hK hP dX4_type_13 ?_
    refine lv_aload_n hx hb dX4_type_16 rfl (lv_at hl 0 rfl) ?_
    refine gM_length hC rfl hK hP dX4_type_17 ?_
    refine lv_iload_n hx hb dX4_type_20 rfl (lv_at hl 1 rfl) ?_
    refine sM_text hC hK hP hD hS (in_ne60 h_len c_1) dX4_type_21 (fun H locs hP hD hS => ?_)
    refine lv_aload_n hx hb dX4_type_22 rfl (lv_at hl 0 rfl) ?_
    refine lv_dup hx hb dX4_type_23 rfl ?_
    refine gM_length hC rfl hK hP dX4_type_24 ?_
    refine lv_iconst (v := 1) hx hb dX4_type_27 (by decide) ?_
    refine lv_iadd hx hb dX4_type_28 ?_
    refine pM_length hC rfl hK hP hD hS dX4_type_29 (fun H locs hP hD hS => ?_)
    refine lv_aload_n hx hb dX4_type_32 rfl (lv_at hl 0 rfl) ?_
    refine gM_length hC rfl hK hP dX4_type_33 ?_
    have hm : mX4_type σ x1 = ((M_length (M_set_length (M_set_text σ (upd (M_text σ) (M_length σ).toNatClampNeg x1)) ((M_length (M_set_text σ (upd (M_text σ) (M_length σ).toNatClampNeg x1))) + 1))), (M_set_length (M_set_text σ (upd (M_text σ) (M_length σ).toNatClampNeg x1)) ((M_length (M_set_text σ (upd (M_text σ) (M_length σ).toNatClampNeg x1))) + 1))) := by unfold mX4_type; rw [if_neg c_1]
    exact wr_ret hC hP (hAe ▸ hD) (hAe ▸ hS) dX4_type_36 (by rw [hm]) (by rw [hm])
  · refine lv_bipush (v := (-3)) hx hb dX4_type_9 (by decide) ?_
    have hm : mX4_type σ x1 = ((-3), σ) := by unfold mX4_type; rw [if_pos c_1]
    exact wr_ret hC hP (hAe ▸ hD) (hAe ▸ hS) dX4_type_11 (by rw [hm]) (by rw [hm])
def mX4_clearText (σ : MS) : Int32 × MS := ((M_length σ), (M_set_length σ 0))
set_option maxHeartbeats 4000000 in
set_option maxRecDepth 100000 in
theorem k_X4_clearText (l : Launch) (g : WG) (ad : AM) (σ : MS) : Wr l yX4_clearText cX4_clearText 2 (some .int) 0 g (cM g ad σ) (cM g ad (mX4_clearText σ).2) [.ref ad.1] (mX4_clearText σ).1 := by
  refine wr_of (by decide) (Nat.le_of_ble_eq_true rfl) ?_
  intro p e s m args below meth c ls A hC hAe hP hD hK hE hA hS hl
  obtain ⟨hx, hb, hml, hr, hown, hts, hlk, hnm⟩ := id hC
  have hl : lv_has ls 2 [(0, .ref ad.1)] := hl
  refine lv_aload_n hx hb dX4_clearText_0 rfl (lv_at hl 0 rfl) ?_
  refine gM_length hC rfl hK hP dX4_clearText_1 ?_
  refine lv_istore_n (lv' := [(1, .int (M_length σ)), (0, .ref ad.1)]) hx hb dX4_clearText_4 rfl hl (by decide) rfl (fun ls hl => ?_)
  refine lv_aload_n hx hb dX4_clearText_5 rfl (lv_at hl 1 rfl) ?_
  refine lv_iconst (v := 0) hx hb dX4_clearText_6 (by decide) ?_
  refine pM_length hC rfl hK hP hD hS dX4_clearText_7 (fun H locs hP hD hS => ?_)
  refine lv_iload_n hx hb dX4_clearText_10 rfl (lv_at hl 0 rfl) ?_
  have hm : mX4_clearText σ = ((M_length σ), (M_set_length σ 0)) := by unfold mX4_clearText; rfl
  exact wr_ret hC hP (hAe ▸ hD) (hAe ▸ hS) dX4_clearText_11 (by rw [hm]) (by rw [hm])
theorem pl_in {σ : MS} {x : Int32} (h : 0 ≤ x.toInt ∧ (M_length σ).toInt ≤ 60) (c : ¬ (M_length σ) ≤ x) : vp_in x 60 := by
  rw [le_ti] at c
  exact in_iff.mpr ⟨h.1, by omega⟩
def mX4_at (σ : MS) (x1 : Int32) : Int32 := (if (M_length σ) ≤ x1 then 0 else ((M_text σ) x1.toNatClampNeg))
set_option maxHeartbeats 4000000 in
set_option maxRecDepth 100000 in
theorem k_X4_at (l : Launch) (g : WG) (ad : AM) (σ : MS) (x1 : Int32) (h_pl : 0 ≤ x1.toInt ∧ (M_length σ).toInt ≤ 60) : Rd l yX4_at cX4_at 2 (some .int) 0 (Wl g (cM g ad σ) (fun _ => False)) [.ref ad.1, .int x1] (mX4_at σ x1) := by
  refine rd_of (by decide) (Nat.le_of_ble_eq_true rfl) ?_
  intro p e s m args below meth c ls hC hW hl
  obtain ⟨hP, hK, hE⟩ := hW
  obtain ⟨hx, hb, hml, hr, hown, hts, hlk, hnm⟩ := id hC
  have hl : lv_has ls 2 [(0, .ref ad.1), (1, .int x1)] := hl
  refine lv_iload_n hx hb dX4_at_0 rfl (lv_at hl 1 rfl) ?_
  refine lv_aload_n hx hb dX4_at_1 rfl (lv_at hl 0 rfl) ?_
  refine gM_length hC rfl hK hP dX4_at_2 ?_
  refine lv_icmp_ge (tgt := 17) hx hb dX4_at_5 (by decide) (fun c_1 => ?_) (fun c_1 => ?_)
  · refine lv_iconst (v := 0) hx hb dX4_at_17 (by decide) ?_
    exact rd_ret hC dX4_at_18 (Eq.symm (by unfold mX4_at; rw [if_pos c_1]))
  · refine lv_aload_n hx hb dX4_at_8 rfl (lv_at hl 0 rfl) ?_
    refine gM_text hC rfl hK hP dX4_at_9 ?_
    refine lv_iload_n hx hb dX4_at_12 rfl (lv_at hl 1 rfl) ?_
    refine lM_text hC hK hP (pl_in h_pl c_1) dX4_at_13 ?_
    refine lv_goto (tgt := 18) hx hb dX4_at_14 (by decide) ?_
    exact rd_ret hC dX4_at_18 (Eq.symm (by unfold mX4_at; rw [if_neg c_1]))
def mX4_isDigit (x1 : Int32) : Int32 := (mX4_in x1 48 57)
set_option maxHeartbeats 4000000 in
set_option maxRecDepth 100000 in
theorem k_X4_isDigit (l : Launch) (g : WG) (x1 : Int32) : Rd l yX4_isDigit cX4_isDigit 1 (some .boolean) 1 (Wl g [] (fun _ => False)) [.int x1] (mX4_isDigit x1) := by
  refine rd_of (by decide) (Nat.le_of_ble_eq_true rfl) ?_
  intro p e s m args below meth c ls hC hW hl
  obtain ⟨hP, hK, hE⟩ := hW
  obtain ⟨hx, hb, hml, hr, hown, hts, hlk, hnm⟩ := id hC
  have hl : lv_has ls 1 [(0, .int x1)] := hl
  refine lv_iload_n hx hb dX4_isDigit_0 rfl (lv_at hl 0 rfl) ?_
  refine lv_bipush (v := 48) hx hb dX4_isDigit_1 (by decide) ?_
  refine lv_bipush (v := 57) hx hb dX4_isDigit_3 (by decide) ?_
  refine callRs hC (k_X4_in l g x1 48 57) ci_X4_in lk_X4_32 ⟨Nat.le_of_ble_eq_true rfl, Nat.le_of_ble_eq_true rfl⟩ hK hE rfl hl.1 rfl (Nat.le_of_ble_eq_true rfl) dX4_isDigit_5 ⟨Nat.zero_le _, Nat.zero_le _⟩ ?_
  exact rd_zret hC dX4_isDigit_8 (bz_X4_in ..) (Eq.symm (by unfold mX4_isDigit; rfl))
def mX4_stopped (σ : MS) (x1 : Int32) : Int32 := (if x1 = 0 then (M_stopNumber σ) else (if x1 = 1 then (M_stopError σ) else (-2)))
set_option maxHeartbeats 4000000 in
set_option maxRecDepth 100000 in
theorem k_X4_stopped (l : Launch) (g : WG) (ad : AM) (σ : MS) (x1 : Int32) : Rd l yX4_stopped cX4_stopped 2 (some .int) 0 (Wl g (cM g ad σ) (fun _ => False)) [.ref ad.1, .int x1] (mX4_stopped σ x1) := by
  refine rd_of (by decide) (Nat.le_of_ble_eq_true rfl) ?_
  intro p e s m args below meth c ls hC hW hl
  obtain ⟨hP, hK, hE⟩ := hW
  obtain ⟨hx, hb, hml, hr, hown, hts, hlk, hnm⟩ := id hC
  have hl : lv_has ls 2 [(0, .ref ad.1), (1, .int x1)] := hl
  refine lv_iload_n hx hb dX4_stopped_0 rfl (lv_at hl 1 rfl) ?_
  refine lv_if_ne (tgt := 11) hx hb dX4_stopped_1 (by decide) (fun c_1 => ?_) (fun c_1 => ?_)
  · refine lv_iload_n hx hb dX4_stopped_11 rfl (lv_at hl 1 rfl) ?_
    refine lv_iconst (v := 1) hx hb dX4_stopped_12 (by decide) ?_
    refine lv_icmp_ne (tgt := 23) hx hb dX4_stopped_13 (by decide) (fun c_2 => ?_) (fun c_2 => ?_)
    · refine lv_bipush (v := (-2)) hx hb dX4_stopped_23 (by decide) ?_
      exact rd_ret hC dX4_stopped_25 (Eq.symm (by unfold mX4_stopped; rw [if_neg c_1, if_neg c_2]))
    · refine lv_aload_n hx hb dX4_stopped_16 rfl (lv_at hl 0 rfl) ?_
      refine gM_stopError hC rfl hK hP dX4_stopped_17 ?_
      refine lv_goto (tgt := 25) hx hb dX4_stopped_20 (by decide) ?_
      exact rd_ret hC dX4_stopped_25 (Eq.symm (by unfold mX4_stopped; rw [if_neg c_1, if_pos c_2]))
  · refine lv_aload_n hx hb dX4_stopped_4 rfl (lv_at hl 0 rfl) ?_
    refine gM_stopNumber hC rfl hK hP dX4_stopped_5 ?_
    refine lv_goto (tgt := 25) hx hb dX4_stopped_8 (by decide) ?_
    exact rd_ret hC dX4_stopped_25 (Eq.symm (by unfold mX4_stopped; rw [if_pos c_1]))
def mX4_boat (σ : MS) (x1 : Int32) (x2 : Int32) : Int32 := (if (mX4_isBoat σ x1) = 0 then (-1) else (if x2 = 0 then (mX4_of σ x1 (1 + x2)) else (if x2 = 1 then (mX4_of σ x1 (1 + x2)) else (if x2 = 2 then (mX4_of σ x1 (1 + x2)) else (if x2 = 3 then (mX4_of σ x1 (1 + x2)) else (if x2 = 4 then (mX4_of σ x1 5) else (if x2 = 5 then (if (mX4_isAshore σ x1) = 0 then (-5) else (mX4_placeOf σ x1)) else (if x2 = 6 then (mX4_of σ x1 6) else (if x2 = 7 then (mX4_of σ x1 7) else (if x2 = 8 then (mX4_of σ x1 8) else (if x2 = 9 then (mX4_of σ x1 9) else (if x2 = 10 then (mX4_of σ x1 10) else (-2)))))))))))))
set_option maxHeartbeats 4000000 in
set_option maxRecDepth 100000 in
theorem k_X4_boat (l : Launch) (g : WG) (ad : AM) (σ : MS) (x1 : Int32) (x2 : Int32) : Rd l yX4_boat cX4_boat 3 (some .int) 3 (Wl g (cM g ad σ) (fun _ => False)) [.ref ad.1, .int x1, .int x2] (mX4_boat σ x1 x2) := by
  refine rd_of (by decide) (Nat.le_of_ble_eq_true rfl) ?_
  intro p e s m args below meth c ls hC hW hl
  obtain ⟨hP, hK, hE⟩ := hW
  obtain ⟨hx, hb, hml, hr, hown, hts, hlk, hnm⟩ := id hC
  have hl : lv_has ls 3 [(0, .ref ad.1), (1, .int x1), (2, .int x2)] := hl
  refine lv_aload_n hx hb dX4_boat_0 rfl (lv_at hl 0 rfl) ?_
  refine lv_iload_n hx hb dX4_boat_1 rfl (lv_at hl 1 rfl) ?_
  refine callRd hC (k_X4_isBoat l g ad σ x1) ci_X4_isBoat lk_X4_92 ⟨Nat.le_of_ble_eq_true rfl, Nat.le_of_ble_eq_true rfl⟩ hP hK hE (q0 := 0) rfl rfl rfl rfl hl.1 rfl (Nat.le_of_ble_eq_true rfl) dX4_boat_2 ⟨Nat.zero_le _, Nat.zero_le _⟩ ?_
  refine lv_if_ne (tgt := 10) hx hb dX4_boat_5 (by decide) (fun c_1 => ?_) (fun c_1 => ?_)
  · refine lv_iload_n hx hb dX4_boat_10 rfl (lv_at hl 2 rfl) ?_
    by_cases c_2 : x2 = 0
    · refine lv_tableIn (tgt := 68) (off := 57) hx hb dX4_boat_11 (by rw [c_2]; decide) (by rw [c_2]; decide) (by rw [c_2]; rfl) (by decide) ?_
      refine lv_aload_n hx hb dX4_boat_68 rfl (lv_at hl 0 rfl) ?_
      refine lv_iload_n hx hb dX4_boat_69 rfl (lv_at hl 1 rfl) ?_
      refine lv_iconst (v := 1) hx hb dX4_boat_70 (by decide) ?_
      refine lv_iload_n hx hb dX4_boat_71 rfl (lv_at hl 2 rfl) ?_
      refine lv_iadd hx hb dX4_boat_72 ?_
      refine callRd hC (k_X4_of l g ad σ x1 (1 + x2) (in_X4_isBoat c_1) (by rw [c_2]; exact in_iff.mpr (by decide))) ci_X4_of lk_X4_36 ⟨Nat.le_of_ble_eq_true rfl, Nat.le_of_ble_eq_true rfl⟩ hP hK hE (q0 := 0) rfl rfl rfl rfl hl.1 rfl (Nat.le_of_ble_eq_true rfl) dX4_boat_73 ⟨Nat.zero_le _, Nat.zero_le _⟩ ?_
      exact rd_ret hC dX4_boat_76 (Eq.symm (by unfold mX4_boat; rw [if_neg c_1, if_pos c_2]))
    · by_cases c_3 : x2 = 1
      · refine lv_tableIn (tgt := 68) (off := 57) hx hb dX4_boat_11 (by rw [c_3]; decide) (by rw [c_3]; decide) (by rw [c_3]; rfl) (by decide) ?_
        refine lv_aload_n hx hb dX4_boat_68 rfl (lv_at hl 0 rfl) ?_
        refine lv_iload_n hx hb dX4_boat_69 rfl (lv_at hl 1 rfl) ?_
        refine lv_iconst (v := 1) hx hb dX4_boat_70 (by decide) ?_
        refine lv_iload_n hx hb dX4_boat_71 rfl (lv_at hl 2 rfl) ?_
        refine lv_iadd hx hb dX4_boat_72 ?_
        refine callRd hC (k_X4_of l g ad σ x1 (1 + x2) (in_X4_isBoat c_1) (by rw [c_3]; exact in_iff.mpr (by decide))) ci_X4_of lk_X4_36 ⟨Nat.le_of_ble_eq_true rfl, Nat.le_of_ble_eq_true rfl⟩ hP hK hE (q0 := 0) rfl rfl rfl rfl hl.1 rfl (Nat.le_of_ble_eq_true rfl) dX4_boat_73 ⟨Nat.zero_le _, Nat.zero_le _⟩ ?_
        exact rd_ret hC dX4_boat_76 (Eq.symm (by unfold mX4_boat; rw [if_neg c_1, if_neg c_2, if_pos c_3]))
      · by_cases c_4 : x2 = 2
        · refine lv_tableIn (tgt := 68) (off := 57) hx hb dX4_boat_11 (by rw [c_4]; decide) (by rw [c_4]; decide) (by rw [c_4]; rfl) (by decide) ?_
          refine lv_aload_n hx hb dX4_boat_68 rfl (lv_at hl 0 rfl) ?_
          refine lv_iload_n hx hb dX4_boat_69 rfl (lv_at hl 1 rfl) ?_
          refine lv_iconst (v := 1) hx hb dX4_boat_70 (by decide) ?_
          refine lv_iload_n hx hb dX4_boat_71 rfl (lv_at hl 2 rfl) ?_
          refine lv_iadd hx hb dX4_boat_72 ?_
          refine callRd hC (k_X4_of l g ad σ x1 (1 + x2) (in_X4_isBoat c_1) (by rw [c_4]; exact in_iff.mpr (by decide))) ci_X4_of lk_X4_36 ⟨Nat.le_of_ble_eq_true rfl, Nat.le_of_ble_eq_true rfl⟩ hP hK hE (q0 := 0) rfl rfl rfl rfl hl.1 rfl (Nat.le_of_ble_eq_true rfl) dX4_boat_73 ⟨Nat.zero_le _, Nat.zero_le _⟩ ?_
          exact rd_ret hC dX4_boat_76 (Eq.symm (by unfold mX4_boat; rw [if_neg c_1, if_neg c_2, if_neg c_3, if_pos c_4]))
        · by_cases c_5 : x2 = 3
          · refine lv_tableIn (tgt := 68) (off := 57) hx hb dX4_boat_11 (by rw [c_5]; decide) (by rw [c_5]; decide) (by rw [c_5]; rfl) (by decide) ?_
            refine lv_aload_n hx hb dX4_boat_68 rfl (lv_at hl 0 rfl) ?_
            refine lv_iload_n hx hb dX4_boat_69 rfl (lv_at hl 1 rfl) ?_
            refine lv_iconst (v := 1) hx hb dX4_boat_70 (by decide) ?_
            refine lv_iload_n hx hb dX4_boat_71 rfl (lv_at hl 2 rfl) ?_
            refine lv_iadd hx hb dX4_boat_72 ?_
            refine callRd hC (k_X4_of l g ad σ x1 (1 + x2) (in_X4_isBoat c_1) (by rw [c_5]; exact in_iff.mpr (by decide))) ci_X4_of lk_X4_36 ⟨Nat.le_of_ble_eq_true rfl, Nat.le_of_ble_eq_true rfl⟩ hP hK hE (q0 := 0) rfl rfl rfl rfl hl.1 rfl (Nat.le_of_ble_eq_true rfl) dX4_boat_73 ⟨Nat.zero_le _, Nat.zero_le _⟩ ?_
            exact rd_ret hC dX4_boat_76 (Eq.symm (by unfold mX4_boat; rw [if_neg c_1, if_neg c_2, if_neg c_3, if_neg c_4, if_pos c_5]))
          · by_cases c_6 : x2 = 4
            · refine lv_tableIn (tgt := 77) (off := 66) hx hb dX4_boat_11 (by rw [c_6]; decide) (by rw [c_6]; decide) (by rw [c_6]; rfl) (by decide) ?_
              refine lv_aload_n hx hb dX4_boat_77 rfl (lv_at hl 0 rfl) ?_
              refine lv_iload_n hx hb dX4_boat_78 rfl (lv_at hl 1 rfl) ?_
              refine lv_iconst (v := 5) hx hb dX4_boat_79 (by decide) ?_
              refine callRd hC (k_X4_of l g ad σ x1 5 (in_X4_isBoat c_1) (in_iff.mpr (by decide))) ci_X4_of lk_X4_36 ⟨Nat.le_of_ble_eq_true rfl, Nat.le_of_ble_eq_true rfl⟩ hP hK hE (q0 := 0) rfl rfl rfl rfl hl.1 rfl (Nat.le_of_ble_eq_true rfl) dX4_boat_80 ⟨Nat.zero_le _, Nat.zero_le _⟩ ?_
              exact rd_ret hC dX4_boat_83 (Eq.symm (by unfold mX4_boat; rw [if_neg c_1, if_neg c_2, if_neg c_3, if_neg c_4, if_neg c_5, if_pos c_6]))
            · by_cases c_7 : x2 = 5
              · refine lv_tableIn (tgt := 84) (off := 73) hx hb dX4_boat_11 (by rw [c_7]; decide) (by rw [c_7]; decide) (by rw [c_7]; rfl) (by decide) ?_
                refine lv_aload_n hx hb dX4_boat_84 rfl (lv_at hl 0 rfl) ?_
                refine lv_iload_n hx hb dX4_boat_85 rfl (lv_at hl 1 rfl) ?_
                refine callRd hC (k_X4_isAshore l g ad σ x1 (in_X4_isBoat c_1)) ci_X4_isAshore lk_X4_40 ⟨Nat.le_of_ble_eq_true rfl, Nat.le_of_ble_eq_true rfl⟩ hP hK hE (q0 := 0) rfl rfl rfl rfl hl.1 rfl (Nat.le_of_ble_eq_true rfl) dX4_boat_86 ⟨Nat.zero_le _, Nat.zero_le _⟩ ?_
                refine lv_if_eq (tgt := 100) hx hb dX4_boat_89 (by decide) (fun c_8 => ?_) (fun c_8 => ?_)
                · refine lv_bipush (v := (-5)) hx hb dX4_boat_100 (by decide) ?_
                  exact rd_ret hC dX4_boat_102 (Eq.symm (by unfold mX4_boat; rw [if_neg c_1, if_neg c_2, if_neg c_3, if_neg c_4, if_neg c_5, if_neg c_6, if_pos c_7, if_pos c_8]))
                · refine lv_aload_n hx hb dX4_boat_92 rfl (lv_at hl 0 rfl) ?_
                  refine lv_iload_n hx hb dX4_boat_93 rfl (lv_at hl 1 rfl) ?_
                  refine callRd hC (k_X4_placeOf l g ad σ x1 (in_X4_isBoat c_1)) ci_X4_placeOf lk_X4_67 ⟨Nat.le_of_ble_eq_true rfl, Nat.le_of_ble_eq_true rfl⟩ hP hK hE (q0 := 0) rfl rfl rfl rfl hl.1 rfl (Nat.le_of_ble_eq_true rfl) dX4_boat_94 ⟨Nat.zero_le _, Nat.zero_le _⟩ ?_
                  refine lv_goto (tgt := 102) hx hb dX4_boat_97 (by decide) ?_
                  exact rd_ret hC dX4_boat_102 (Eq.symm (by unfold mX4_boat; rw [if_neg c_1, if_neg c_2, if_neg c_3, if_neg c_4, if_neg c_5, if_neg c_6, if_pos c_7, if_neg c_8]))
              · by_cases c_9 : x2 = 6
                · refine lv_tableIn (tgt := 103) (off := 92) hx hb dX4_boat_11 (by rw [c_9]; decide) (by rw [c_9]; decide) (by rw [c_9]; rfl) (by decide) ?_
                  refine lv_aload_n hx hb dX4_boat_103 rfl (lv_at hl 0 rfl) ?_
                  refine lv_iload_n hx hb dX4_boat_104 rfl (lv_at hl 1 rfl) ?_
                  refine lv_bipush (v := 6) hx hb dX4_boat_105 (by decide) ?_
                  refine callRd hC (k_X4_of l g ad σ x1 6 (in_X4_isBoat c_1) (in_iff.mpr (by decide))) ci_X4_of lk_X4_36 ⟨Nat.le_of_ble_eq_true rfl, Nat.le_of_ble_eq_true rfl⟩ hP hK hE (q0 := 0) rfl rfl rfl rfl hl.1 rfl (Nat.le_of_ble_eq_true rfl) dX4_boat_107 ⟨Nat.zero_le _, Nat.zero_le _⟩ ?_
                  exact rd_ret hC dX4_boat_110 (Eq.symm (by unfold mX4_boat; rw [if_neg c_1, if_neg c_2, if_neg c_3, if_neg c_4, if_neg c_5, if_neg c_6, if_neg c_7, if_pos c_9]))
                · by_cases c_10 : x2 = 7
                  · refine lv_tableIn (tgt := 111) (off := 100) hx hb dX4_boat_11 (by rw [c_10]; decide) (by rw [c_10]; decide) (by rw [c_10]; rfl) (by decide) ?_
                    refine lv_aload_n hx hb dX4_boat_111 rfl (lv_at hl 0 rfl) ?_
                    refine lv_iload_n hx hb dX4_boat_112 rfl (lv_at hl 1 rfl) ?_
                    refine lv_bipush (v := 7) hx hb dX4_boat_113 (by decide) ?_
                    refine callRd hC (k_X4_of l g ad σ x1 7 (in_X4_isBoat c_1) (in_iff.mpr (by decide))) ci_X4_of lk_X4_36 ⟨Nat.le_of_ble_eq_true rfl, Nat.le_of_ble_eq_true rfl⟩ hP hK hE (q0 := 0) rfl rfl rfl rfl hl.1 rfl (Nat.le_of_ble_eq_true rfl) dX4_boat_115 ⟨Nat.zero_le _, Nat.zero_le _⟩ ?_
                    exact rd_ret hC dX4_boat_118 (Eq.symm (by unfold mX4_boat; rw [if_neg c_1, if_neg c_2, if_neg c_3, if_neg c_4, if_neg c_5, if_neg c_6, if_neg c_7, if_neg c_9, if_pos c_10]))
                  · by_cases c_11 : x2 = 8
                    · refine lv_tableIn (tgt := 119) (off := 108) hx hb dX4_boat_11 (by rw [c_11]; decide) (by rw [c_11]; decide) (by rw [c_11]; rfl) (by decide) ?_
                      refine lv_aload_n hx hb dX4_boat_119 rfl (lv_at hl 0 rfl) ?_
                      refine lv_iload_n hx hb dX4_boat_120 rfl (lv_at hl 1 rfl) ?_
                      refine lv_bipush (v := 8) hx hb dX4_boat_121 (by decide) ?_
                      refine callRd hC (k_X4_of l g ad σ x1 8 (in_X4_isBoat c_1) (in_iff.mpr (by decide))) ci_X4_of lk_X4_36 ⟨Nat.le_of_ble_eq_true rfl, Nat.le_of_ble_eq_true rfl⟩ hP hK hE (q0 := 0) rfl rfl rfl rfl hl.1 rfl (Nat.le_of_ble_eq_true rfl) dX4_boat_123 ⟨Nat.zero_le _, Nat.zero_le _⟩ ?_
                      exact rd_ret hC dX4_boat_126 (Eq.symm (by unfold mX4_boat; rw [if_neg c_1, if_neg c_2, if_neg c_3, if_neg c_4, if_neg c_5, if_neg c_6, if_neg c_7, if_neg c_9, if_neg c_10, if_pos c_11]))
                    · by_cases c_12 : x2 = 9
                      · refine lv_tableIn (tgt := 127) (off := 116) hx hb dX4_boat_11 (by rw [c_12]; decide) (by rw [c_12]; decide) (by rw [c_12]; rfl) (by decide) ?_
                        refine lv_aload_n hx hb dX4_boat_127 rfl (lv_at hl 0 rfl) ?_
                        refine lv_iload_n hx hb dX4_boat_128 rfl (lv_at hl 1 rfl) ?_
                        refine lv_bipush (v := 9) hx hb dX4_boat_129 (by decide) ?_
                        refine callRd hC (k_X4_of l g ad σ x1 9 (in_X4_isBoat c_1) (in_iff.mpr (by decide))) ci_X4_of lk_X4_36 ⟨Nat.le_of_ble_eq_true rfl, Nat.le_of_ble_eq_true rfl⟩ hP hK hE (q0 := 0) rfl rfl rfl rfl hl.1 rfl (Nat.le_of_ble_eq_true rfl) dX4_boat_131 ⟨Nat.zero_le _, Nat.zero_le _⟩ ?_
                        exact rd_ret hC dX4_boat_134 (Eq.symm (by unfold mX4_boat; rw [if_neg c_1, if_neg c_2, if_neg c_3, if_neg c_4, if_neg c_5, if_neg c_6, if_neg c_7, if_neg c_9, if_neg c_10, if_neg c_11, if_pos c_12]))
                      · by_cases c_13 : x2 = 10
                        · refine lv_tableIn (tgt := 135) (off := 124) hx hb dX4_boat_11 (by rw [c_13]; decide) (by rw [c_13]; decide) (by rw [c_13]; rfl) (by decide) ?_
                          refine lv_aload_n hx hb dX4_boat_135 rfl (lv_at hl 0 rfl) ?_
                          refine lv_iload_n hx hb dX4_boat_136 rfl (lv_at hl 1 rfl) ?_
                          refine lv_bipush (v := 10) hx hb dX4_boat_137 (by decide) ?_
                          refine callRd hC (k_X4_of l g ad σ x1 10 (in_X4_isBoat c_1) (in_iff.mpr (by decide))) ci_X4_of lk_X4_36 ⟨Nat.le_of_ble_eq_true rfl, Nat.le_of_ble_eq_true rfl⟩ hP hK hE (q0 := 0) rfl rfl rfl rfl hl.1 rfl (Nat.le_of_ble_eq_true rfl) dX4_boat_139 ⟨Nat.zero_le _, Nat.zero_le _⟩ ?_
                          exact rd_ret hC dX4_boat_142 (Eq.symm (by unfold mX4_boat; rw [if_neg c_1, if_neg c_2, if_neg c_3, if_neg c_4, if_neg c_5, if_neg c_6, if_neg c_7, if_neg c_9, if_neg c_10, if_neg c_11, if_neg c_12, if_pos c_13]))
                        · refine lv_tableOut (tgt := 143) hx hb dX4_boat_11 (by have zc_2 := lv_neT c_2 (a := 0) rfl; have zc_3 := lv_neT c_3 (a := 1) rfl; have zc_4 := lv_neT c_4 (a := 2) rfl; have zc_5 := lv_neT c_5 (a := 3) rfl; have zc_6 := lv_neT c_6 (a := 4) rfl; have zc_7 := lv_neT c_7 (a := 5) rfl; have zc_9 := lv_neT c_9 (a := 6) rfl; have zc_10 := lv_neT c_10 (a := 7) rfl; have zc_11 := lv_neT c_11 (a := 8) rfl; have zc_12 := lv_neT c_12 (a := 9) rfl; have zc_13 := lv_neT c_13 (a := 10) rfl; omega) (by decide) ?_
                          refine lv_bipush (v := (-2)) hx hb dX4_boat_143 (by decide) ?_
                          exact rd_ret hC dX4_boat_145 (Eq.symm (by unfold mX4_boat; rw [if_neg c_1, if_neg c_2, if_neg c_3, if_neg c_4, if_neg c_5, if_neg c_6, if_neg c_7, if_neg c_9, if_neg c_10, if_neg c_11, if_neg c_12, if_neg c_13]))
  · refine lv_iconst (v := (-1)) hx hb dX4_boat_8 (by decide) ?_
    exact rd_ret hC dX4_boat_9 (Eq.symm (by unfold mX4_boat; rw [if_pos c_1]))
def mX4_row (σ : MS) (x1 : Int32) (x2 : Int32) : Int32 := (if (mX4_isRow x1) = 0 then (-1) else (if x2 = 0 then ((M_z σ) (11 + x1).toNatClampNeg) else (if x2 = 1 then (mX4_metresTaken σ x1) else (if x2 = 2 then (mX4_boatsIn σ x1) else (if x2 = 3 then (mX4_boatAt σ x1 ((mX4_boatsIn σ x1) - 1)) else (-2))))))
set_option maxHeartbeats 4000000 in
set_option maxRecDepth 100000 in
theorem k_X4_row (l : Launch) (g : WG) (ad : AM) (σ : MS) (x1 : Int32) (x2 : Int32) : Rd l yX4_row cX4_row 3 (some .int) 4 (Wl g (cM g ad σ) (fun _ => False)) [.ref ad.1, .int x1, .int x2] (mX4_row σ x1 x2) := by
  refine rd_of (by decide) (Nat.le_of_ble_eq_true rfl) ?_
  intro p e s m args below meth c ls hC hW hl
  obtain ⟨hP, hK, hE⟩ := hW
  obtain ⟨hx, hb, hml, hr, hown, hts, hlk, hnm⟩ := id hC
  have hl : lv_has ls 3 [(0, .ref ad.1), (1, .int x1), (2, .int x2)] := hl
  refine lv_iload_n hx hb dX4_row_0 rfl (lv_at hl 1 rfl) ?_
  refine callRs hC (k_X4_isRow l g x1) ci_X4_isRow lk_X4_98 ⟨Nat.le_of_ble_eq_true rfl, Nat.le_of_ble_eq_true rfl⟩ hK hE rfl hl.1 rfl (Nat.le_of_ble_eq_true rfl) dX4_row_1 ⟨Nat.zero_le _, Nat.zero_le _⟩ ?_
  refine lv_if_ne (tgt := 9) hx hb dX4_row_4 (by decide) (fun c_1 => ?_) (fun c_1 => ?_)
  · refine lv_iload_n hx hb dX4_row_9 rfl (lv_at hl 2 rfl) ?_
    by_cases c_2 : x2 = 0
    · refine lv_tableIn (tgt := 40) (off := 30) hx hb dX4_row_10 (by rw [c_2]; decide) (by rw [c_2]; decide) (by rw [c_2]; rfl) (by decide) ?_
      refine lv_aload_n hx hb dX4_row_40 rfl (lv_at hl 0 rfl) ?_
      refine gM_z hC rfl hK hP dX4_row_41 ?_
      refine lv_bipush (v := 11) hx hb dX4_row_44 (by decide) ?_
      refine lv_iload_n hx hb dX4_row_46 rfl (lv_at hl 1 rfl) ?_
      refine lv_iadd hx hb dX4_row_47 ?_
      refine lM_z hC hK hP (ix_c (z := 11) rfl (by decide) (in_X4_isRow c_1) (by decide) (by decide)) dX4_row_48 ?_
      exact rd_ret hC dX4_row_49 (Eq.symm (by unfold mX4_row; rw [if_neg c_1, if_pos c_2]))
    · by_cases c_3 : x2 = 1
      · refine lv_tableIn (tgt := 50) (off := 40) hx hb dX4_row_10 (by rw [c_3]; decide) (by rw [c_3]; decide) (by rw [c_3]; rfl) (by decide) ?_
        refine lv_aload_n hx hb dX4_row_50 rfl (lv_at hl 0 rfl) ?_
        refine lv_iload_n hx hb dX4_row_51 rfl (lv_at hl 1 rfl) ?_
        refine callRd hC (k_X4_metresTaken l g ad σ x1) ci_X4_metresTaken lk_X4_58 ⟨Nat.le_of_ble_eq_true rfl, Nat.le_of_ble_eq_true rfl⟩ hP hK hE (q0 := 0) rfl rfl rfl rfl hl.1 rfl (Nat.le_of_ble_eq_true rfl) dX4_row_52 ⟨Nat.zero_le _, Nat.zero_le _⟩ ?_
        exact rd_ret hC dX4_row_55 (Eq.symm (by unfold mX4_row; rw [if_neg c_1, if_neg c_2, if_pos c_3]))
      · by_cases c_4 : x2 = 2
        · refine lv_tableIn (tgt := 56) (off := 46) hx hb dX4_row_10 (by rw [c_4]; decide) (by rw [c_4]; decide) (by rw [c_4]; rfl) (by decide) ?_
          refine lv_aload_n hx hb dX4_row_56 rfl (lv_at hl 0 rfl) ?_
          refine lv_iload_n hx hb dX4_row_57 rfl (lv_at hl 1 rfl) ?_
          refine callRd hC (k_X4_boatsIn l g ad σ x1) ci_X4_boatsIn lk_X4_64 ⟨Nat.le_of_ble_eq_true rfl, Nat.le_of_ble_eq_true rfl⟩ hP hK hE (q0 := 0) rfl rfl rfl rfl hl.1 rfl (Nat.le_of_ble_eq_true rfl) dX4_row_58 ⟨Nat.zero_le _, Nat.zero_le _⟩ ?_
          exact rd_ret hC dX4_row_61 (Eq.symm (by unfold mX4_row; rw [if_neg c_1, if_neg c_2, if_neg c_3, if_pos c_4]))
        · by_cases c_5 : x2 = 3
          · refine lv_tableIn (tgt := 62) (off := 52) hx hb dX4_row_10 (by rw [c_5]; decide) (by rw [c_5]; decide) (by rw [c_5]; rfl) (by decide) ?_
            refine lv_aload_n hx hb dX4_row_62 rfl (lv_at hl 0 rfl) ?_
            refine lv_iload_n hx hb dX4_row_63 rfl (lv_at hl 1 rfl) ?_
            refine lv_aload_n hx hb dX4_row_64 rfl (lv_at hl 0 rfl) ?_
            refine lv_iload_n hx hb dX4_row_65 rfl (lv_at hl 1 rfl) ?_
            refine callRd hC (k_X4_boatsIn l g ad σ x1) ci_X4_boatsIn lk_X4_64 ⟨Nat.le_of_ble_eq_true rfl, Nat.le_of_ble_eq_true rfl⟩ hP hK hE (q0 := 0) rfl rfl rfl rfl hl.1 rfl (Nat.le_of_ble_eq_true rfl) dX4_row_66 ⟨Nat.zero_le _, Nat.zero_le _⟩ ?_
            refine lv_iconst (v := 1) hx hb dX4_row_69 (by decide) ?_
            refine lv_isub hx hb dX4_row_70 ?_
            refine callRd hC (k_X4_boatAt l g ad σ x1 ((mX4_boatsIn σ x1) - 1)) ci_X4_boatAt lk_X4_200 ⟨Nat.le_of_ble_eq_true rfl, Nat.le_of_ble_eq_true rfl⟩ hP hK hE (q0 := 0) rfl rfl rfl rfl hl.1 rfl (Nat.le_of_ble_eq_true rfl) dX4_row_71 ⟨Nat.zero_le _, Nat.zero_le _⟩ ?_
            exact rd_ret hC dX4_row_74 (Eq.symm (by unfold mX4_row; rw [if_neg c_1, if_neg c_2, if_neg c_3, if_neg c_4, if_pos c_5]))
          · refine lv_tableOut (tgt := 75) hx hb dX4_row_10 (by have zc_2 := lv_neT c_2 (a := 0) rfl; have zc_3 := lv_neT c_3 (a := 1) rfl; have zc_4 := lv_neT c_4 (a := 2) rfl; have zc_5 := lv_neT c_5 (a := 3) rfl; omega) (by decide) ?_
            refine lv_bipush (v := (-2)) hx hb dX4_row_75 (by decide) ?_
            exact rd_ret hC dX4_row_77 (Eq.symm (by unfold mX4_row; rw [if_neg c_1, if_neg c_2, if_neg c_3, if_neg c_4, if_neg c_5]))
  · refine lv_iconst (v := (-1)) hx hb dX4_row_7 (by decide) ?_
    exact rd_ret hC dX4_row_8 (Eq.symm (by unfold mX4_row; rw [if_pos c_1]))
def mX4_stands (σ : MS) (x1 : Int32) (x2 : Int32) : Int32 := (if (mX4_isRow x1) = 0 then (-1) else (if 0 ≤ x2 then (mX4_boatAt σ x1 x2) else (-2)))
set_option maxHeartbeats 4000000 in
set_option maxRecDepth 100000 in
theorem k_X4_stands (l : Launch) (g : WG) (ad : AM) (σ : MS) (x1 : Int32) (x2 : Int32) : Rd l yX4_stands cX4_stands 3 (some .int) 4 (Wl g (cM g ad σ) (fun _ => False)) [.ref ad.1, .int x1, .int x2] (mX4_stands σ x1 x2) := by
  refine rd_of (by decide) (Nat.le_of_ble_eq_true rfl) ?_
  intro p e s m args below meth c ls hC hW hl
  obtain ⟨hP, hK, hE⟩ := hW
  obtain ⟨hx, hb, hml, hr, hown, hts, hlk, hnm⟩ := id hC
  have hl : lv_has ls 3 [(0, .ref ad.1), (1, .int x1), (2, .int x2)] := hl
  refine lv_iload_n hx hb dX4_stands_0 rfl (lv_at hl 1 rfl) ?_
  refine callRs hC (k_X4_isRow l g x1) ci_X4_isRow lk_X4_98 ⟨Nat.le_of_ble_eq_true rfl, Nat.le_of_ble_eq_true rfl⟩ hK hE rfl hl.1 rfl (Nat.le_of_ble_eq_true rfl) dX4_stands_1 ⟨Nat.zero_le _, Nat.zero_le _⟩ ?_
  refine lv_if_ne (tgt := 9) hx hb dX4_stands_4 (by decide) (fun c_1 => ?_) (fun c_1 => ?_)
  · refine lv_iload_n hx hb dX4_stands_9 rfl (lv_at hl 2 rfl) ?_
    refine lv_if_ge (tgt := 18) hx hb dX4_stands_10 (by decide) (fun c_2 => ?_) (fun c_2 => ?_)
    · refine lv_aload_n hx hb dX4_stands_18 rfl (lv_at hl 0 rfl) ?_
      refine lv_iload_n hx hb dX4_stands_19 rfl (lv_at hl 1 rfl) ?_
      refine lv_iload_n hx hb dX4_stands_20 rfl (lv_at hl 2 rfl) ?_
      refine callRd hC (k_X4_boatAt l g ad σ x1 x2) ci_X4_boatAt lk_X4_200 ⟨Nat.le_of_ble_eq_true rfl, Nat.le_of_ble_eq_true rfl⟩ hP hK hE (q0 := 0) rfl rfl rfl rfl hl.1 rfl (Nat.le_of_ble_eq_true rfl) dX4_stands_21 ⟨Nat.zero_le _, Nat.zero_le _⟩ ?_
      exact rd_ret hC dX4_stands_24 (Eq.symm (by unfold mX4_stands; rw [if_neg c_1, if_pos c_2]))
    · refine lv_bipush (v := (-2)) hx hb dX4_stands_13 (by decide) ?_
      refine lv_goto (tgt := 24) hx hb dX4_stands_15 (by decide) ?_
      exact rd_ret hC dX4_stands_24 (Eq.symm (by unfold mX4_stands; rw [if_neg c_1, if_neg c_2]))
  · refine lv_iconst (v := (-1)) hx hb dX4_stands_7 (by decide) ?_
    exact rd_ret hC dX4_stands_8 (Eq.symm (by unfold mX4_stands; rw [if_pos c_1]))
def mX4_cradle (σ : MS) (x1 : Int32) (x2 : Int32) : Int32 := (if (mX4_isKind x1) = 0 then (-1) else (if x2 = 0 then ((M_z σ) (8 + x1).toNatClampNeg) else (if x2 = 1 then (mX4_taken σ x1) else (if x2 = 2 then (mX4_bears x1) else (-2)))))
set_option maxHeartbeats 4000000 in
set_option maxRecDepth 100000 in
theorem k_X4_cradle (l : Launch) (g : WG) (ad : AM) (σ : MS) (x1 : Int32) (x2 : Int32) : Rd l yX4_cradle cX4_cradle 3 (some .int) 3 (Wl g (cM g ad σ) (fun _ => False)) [.ref ad.1, .int x1, .int x2] (mX4_cradle σ x1 x2) := by
  refine rd_of (by decide) (Nat.le_of_ble_eq_true rfl) ?_
  intro p e s m args below meth c ls hC hW hl
  obtain ⟨hP, hK, hE⟩ := hW
  obtain ⟨hx, hb, hml, hr, hown, hts, hlk, hnm⟩ := id hC
  have hl : lv_has ls 3 [(0, .ref ad.1), (1, .int x1), (2, .int x2)] := hl
  refine lv_iload_n hx hb dX4_cradle_0 rfl (lv_at hl 1 rfl) ?_
  refine callRs hC (k_X4_isKind l g x1) ci_X4_isKind lk_X4_89 ⟨Nat.le_of_ble_eq_true rfl, Nat.le_of_ble_eq_true rfl⟩ hK hE rfl hl.1 rfl (Nat.le_of_ble_eq_true rfl) dX4_cradle_1 ⟨Nat.zero_le _, Nat.zero_le _⟩ ?_
  refine lv_if_ne (tgt := 9) hx hb dX4_cradle_4 (by decide) (fun c_1 => ?_) (fun c_1 => ?_)
  · refine lv_iload_n hx hb dX4_cradle_9 rfl (lv_at hl 2 rfl) ?_
    refine lv_if_ne (tgt := 25) hx hb dX4_cradle_10 (by decide) (fun c_2 => ?_) (fun c_2 => ?_)
    · refine lv_iload_n hx hb dX4_cradle_25 rfl (lv_at hl 2 rfl) ?_
      refine lv_iconst (v := 1) hx hb dX4_cradle_26 (by decide) ?_
      refine lv_icmp_ne (tgt := 38) hx hb dX4_cradle_27 (by decide) (fun c_3 => ?_) (fun c_3 => ?_)
      · refine lv_iload_n hx hb dX4_cradle_38 rfl (lv_at hl 2 rfl) ?_
        refine lv_iconst (v := 2) hx hb dX4_cradle_39 (by decide) ?_
        refine lv_icmp_ne (tgt := 50) hx hb dX4_cradle_40 (by decide) (fun c_4 => ?_) (fun c_4 => ?_)
        · refine lv_bipush (v := (-2)) hx hb dX4_cradle_50 (by decide) ?_
          exact rd_ret hC dX4_cradle_52 (Eq.symm (by unfold mX4_cradle; rw [if_neg c_1, if_neg c_2, if_neg c_3, if_neg c_4]))
        · refine lv_iload_n hx hb dX4_cradle_43 rfl (lv_at hl 1 rfl) ?_
          refine callRs hC (k_X4_bears l g x1) ci_X4_bears lk_X4_51 ⟨Nat.le_of_ble_eq_true rfl, Nat.le_of_ble_eq_true rfl⟩ hK hE rfl hl.1 rfl (Nat.le_of_ble_eq_true rfl) dX4_cradle_44 ⟨Nat.zero_le _, Nat.zero_le _⟩ ?_
          refine lv_goto (tgt := 52) hx hb dX4_cradle_47 (by decide) ?_
          exact rd_ret hC dX4_cradle_52 (Eq.symm (by unfold mX4_cradle; rw [if_neg c_1, if_neg c_2, if_neg c_3, if_pos c_4]))
      · refine lv_aload_n hx hb dX4_cradle_30 rfl (lv_at hl 0 rfl) ?_
        refine lv_iload_n hx hb dX4_cradle_31 rfl (lv_at hl 1 rfl) ?_
        refine callRd hC (k_X4_taken l g ad σ x1) ci_X4_taken lk_X4_44 ⟨Nat.le_of_ble_eq_true rfl, Nat.le_of_ble_eq_true rfl⟩ hP hK hE (q0 := 0) rfl rfl rfl rfl hl.1 rfl (Nat.le_of_ble_eq_true rfl) dX4_cradle_32 ⟨Nat.zero_le _, Nat.zero_le _⟩ ?_
        refine lv_goto (tgt := 52) hx hb dX4_cradle_35 (by decide) ?_
        exact rd_ret hC dX4_cradle_52 (Eq.symm (by unfold mX4_cradle; rw [if_neg c_1, if_neg c_2, if_pos c_3]))
    · refine lv_aload_n hx hb dX4_cradle_13 rfl (lv_at hl 0 rfl) ?_
      refine gM_z hC rfl hK hP dX4_cradle_14 ?_
      refine lv_bipush (v := 8) hx hb dX4_cradle_17 (by decide) ?_
      refine lv_iload_n hx hb dX4_cradle_19 rfl (lv_at hl 1 rfl) ?_
      refine lv_iadd hx hb dX4_cradle_20 ?_
      refine lM_z hC hK hP (ix_c (z := 8) rfl (by decide) (in_X4_isKind c_1) (by decide) (by decide)) dX4_cradle_21 ?_
      refine lv_goto (tgt := 52) hx hb dX4_cradle_22 (by decide) ?_
      exact rd_ret hC dX4_cradle_52 (Eq.symm (by unfold mX4_cradle; rw [if_neg c_1, if_pos c_2]))
  · refine lv_iconst (v := (-1)) hx hb dX4_cradle_7 (by decide) ?_
    exact rd_ret hC dX4_cradle_8 (Eq.symm (by unfold mX4_cradle; rw [if_pos c_1]))
def mX4_tide (σ : MS) (x1 : Int32) : Int32 := (if (mX4_in x1 0 9999) = 0 then (-2) else (mX4_tideAt σ x1))
set_option maxHeartbeats 4000000 in
set_option maxRecDepth 100000 in
theorem k_X4_tide (l : Launch) (g : WG) (ad : AM) (σ : MS) (x1 : Int32) : Rd l yX4_tide cX4_tide 2 (some .int) 1 (Wl g (cM g ad σ) (fun _ => False)) [.ref ad.1, .int x1] (mX4_tide σ x1) := by
  refine rd_of (by decide) (Nat.le_of_ble_eq_true rfl) ?_
  intro p e s m args below meth c ls hC hW hl
  obtain ⟨hP, hK, hE⟩ := hW
  obtain ⟨hx, hb, hml, hr, hown, hts, hlk, hnm⟩ := id hC
  have hl : lv_has ls 2 [(0, .ref ad.1), (1, .int x1)] := hl
  refine lv_iload_n hx hb dX4_tide_0 rfl (lv_at hl 1 rfl) ?_
  refine lv_iconst (v := 0) hx hb dX4_tide_1 (by decide) ?_
  refine lv_sipush (v := 9999) hx hb dX4_tide_2 (by decide) ?_
  refine callRs hC (k_X4_in l g x1 0 9999) ci_X4_in lk_X4_32 ⟨Nat.le_of_ble_eq_true rfl, Nat.le_of_ble_eq_true rfl⟩ hK hE rfl hl.1 rfl (Nat.le_of_ble_eq_true rfl) dX4_tide_5 ⟨Nat.zero_le _, Nat.zero_le _⟩ ?_
  refine lv_if_eq (tgt := 19) hx hb dX4_tide_8 (by decide) (fun c_1 => ?_) (fun c_1 => ?_)
  · refine lv_bipush (v := (-2)) hx hb dX4_tide_19 (by decide) ?_
    exact rd_ret hC dX4_tide_21 (Eq.symm (by unfold mX4_tide; rw [if_pos c_1]))
  · refine lv_aload_n hx hb dX4_tide_11 rfl (lv_at hl 0 rfl) ?_
    refine lv_iload_n hx hb dX4_tide_12 rfl (lv_at hl 1 rfl) ?_
    refine callRd hC (k_X4_tideAt l g ad σ x1) ci_X4_tideAt lk_X4_101 ⟨Nat.le_of_ble_eq_true rfl, Nat.le_of_ble_eq_true rfl⟩ hP hK hE (q0 := 0) rfl rfl rfl rfl hl.1 rfl (Nat.le_of_ble_eq_true rfl) dX4_tide_13 ⟨Nat.zero_le _, Nat.zero_le _⟩ ?_
    refine lv_goto (tgt := 21) hx hb dX4_tide_16 (by decide) ?_
    exact rd_ret hC dX4_tide_21 (Eq.symm (by unfold mX4_tide; rw [if_neg c_1]))
def mX4_liftReason (σ : MS) (x1 : Int32) (x2 : Int32) : Int32 := (if (mX4_isBoat σ x1) = 0 then (-1) else (if (mX4_isRow x2) = 0 then (-1) else (mX4_whyNoLift σ x1 x2)))
set_option maxHeartbeats 4000000 in
set_option maxRecDepth 100000 in
theorem k_X4_liftReason (l : Launch) (g : WG) (ad : AM) (σ : MS) (x1 : Int32) (x2 : Int32) (h_keels : KeelM σ) : Rd l yX4_liftReason cX4_liftReason 3 (some .int) 6 (Wl g (cM g ad σ) (fun _ => False)) [.ref ad.1, .int x1, .int x2] (mX4_liftReason σ x1 x2) := by
  refine rd_of (by decide) (Nat.le_of_ble_eq_true rfl) ?_
  intro p e s m args below meth c ls hC hW hl
  obtain ⟨hP, hK, hE⟩ := hW
  obtain ⟨hx, hb, hml, hr, hown, hts, hlk, hnm⟩ := id hC
  have hl : lv_has ls 3 [(0, .ref ad.1), (1, .int x1), (2, .int x2)] := hl
  refine lv_aload_n hx hb dX4_liftReason_0 rfl (lv_at hl 0 rfl) ?_
  refine lv_iload_n hx hb dX4_liftReason_1 rfl (lv_at hl 1 rfl) ?_
  refine callRd hC (k_X4_isBoat l g ad σ x1) ci_X4_isBoat lk_X4_92 ⟨Nat.le_of_ble_eq_true rfl, Nat.le_of_ble_eq_true rfl⟩ hP hK hE (q0 := 0) rfl rfl rfl rfl hl.1 rfl (Nat.le_of_ble_eq_true rfl) dX4_liftReason_2 ⟨Nat.zero_le _, Nat.zero_le _⟩ ?_
  refine lv_if_eq (tgt := 24) hx hb dX4_liftReason_5 (by decide) (fun c_1 => ?_) (fun c_1 => ?_)
  · refine lv_iconst (v := (-1)) hx hb dX4_liftReason_24 (by decide) ?_
    exact rd_ret hC dX4_liftReason_25 (Eq.symm (by unfold mX4_liftReason; rw [if_pos c_1]))
  · refine lv_iload_n hx hb dX4_liftReason_8 rfl (lv_at hl 2 rfl) ?_
    refine callRs hC (k_X4_isRow l g x2) ci_X4_isRow lk_X4_98 ⟨Nat.le_of_ble_eq_true rfl, Nat.le_of_ble_eq_true rfl⟩ hK hE rfl hl.1 rfl (Nat.le_of_ble_eq_true rfl) dX4_liftReason_9 ⟨Nat.zero_le _, Nat.zero_le _⟩ ?_
    refine lv_if_eq (tgt := 24) hx hb dX4_liftReason_12 (by decide) (fun c_2 => ?_) (fun c_2 => ?_)
    · refine lv_iconst (v := (-1)) hx hb dX4_liftReason_24 (by decide) ?_
      exact rd_ret hC dX4_liftReason_25 (Eq.symm (by unfold mX4_liftReason; rw [if_neg c_1, if_pos c_2]))
    · refine lv_aload_n hx hb dX4_liftReason_15 rfl (lv_at hl 0 rfl) ?_
      refine lv_iload_n hx hb dX4_liftReason_16 rfl (lv_at hl 1 rfl) ?_
      refine lv_iload_n hx hb dX4_liftReason_17 rfl (lv_at hl 2 rfl) ?_
      refine callRd hC (k_X4_whyNoLift l g ad σ x1 x2 (in_X4_isBoat c_1) (in_X4_isRow c_2) (h_keels x1 c_1)) ci_X4_whyNoLift lk_X4_113 ⟨Nat.le_of_ble_eq_true rfl, Nat.le_of_ble_eq_true rfl⟩ hP hK hE (q0 := 0) rfl rfl rfl rfl hl.1 rfl (Nat.le_of_ble_eq_true rfl) dX4_liftReason_18 ⟨Nat.zero_le _, Nat.zero_le _⟩ ?_
      refine lv_goto (tgt := 25) hx hb dX4_liftReason_21 (by decide) ?_
      exact rd_ret hC dX4_liftReason_25 (Eq.symm (by unfold mX4_liftReason; rw [if_neg c_1, if_neg c_2]))
def mX4_launchReason (σ : MS) (x1 : Int32) : Int32 := (if (mX4_isBoat σ x1) = 0 then (-1) else (mX4_whyNoLaunch σ x1))
set_option maxHeartbeats 4000000 in
set_option maxRecDepth 100000 in
theorem k_X4_launchReason (l : Launch) (g : WG) (ad : AM) (σ : MS) (x1 : Int32) : Rd l yX4_launchReason cX4_launchReason 2 (some .int) 5 (Wl g (cM g ad σ) (fun _ => False)) [.ref ad.1, .int x1] (mX4_launchReason σ x1) := by
  refine rd_of (by decide) (Nat.le_of_ble_eq_true rfl) ?_
  intro p e s m args below meth c ls hC hW hl
  obtain ⟨hP, hK, hE⟩ := hW
  obtain ⟨hx, hb, hml, hr, hown, hts, hlk, hnm⟩ := id hC
  have hl : lv_has ls 2 [(0, .ref ad.1), (1, .int x1)] := hl
  refine lv_aload_n hx hb dX4_launchReason_0 rfl (lv_at hl 0 rfl) ?_
  refine lv_iload_n hx hb dX4_launchReason_1 rfl (lv_at hl 1 rfl) ?_
  refine callRd hC (k_X4_isBoat l g ad σ x1) ci_X4_isBoat lk_X4_92 ⟨Nat.le_of_ble_eq_true rfl, Nat.le_of_ble_eq_true rfl⟩ hP hK hE (q0 := 0) rfl rfl rfl rfl hl.1 rfl (Nat.le_of_ble_eq_true rfl) dX4_launchReason_2 ⟨Nat.zero_le _, Nat.zero_le _⟩ ?_
  refine lv_if_eq (tgt := 16) hx hb dX4_launchReason_5 (by decide) (fun c_1 => ?_) (fun c_1 => ?_)
  · refine lv_iconst (v := (-1)) hx hb dX4_launchReason_16 (by decide) ?_
    exact rd_ret hC dX4_launchReason_17 (Eq.symm (by unfold mX4_launchReason; rw [if_pos c_1]))
  · refine lv_aload_n hx hb dX4_launchReason_8 rfl (lv_at hl 0 rfl) ?_
    refine lv_iload_n hx hb dX4_launchReason_9 rfl (lv_at hl 1 rfl) ?_
    refine callRd hC (k_X4_whyNoLaunch l g ad σ x1 (in_X4_isBoat c_1)) ci_X4_whyNoLaunch lk_X4_132 ⟨Nat.le_of_ble_eq_true rfl, Nat.le_of_ble_eq_true rfl⟩ hP hK hE (q0 := 0) rfl rfl rfl rfl hl.1 rfl (Nat.le_of_ble_eq_true rfl) dX4_launchReason_10 ⟨Nat.zero_le _, Nat.zero_le _⟩ ?_
    refine lv_goto (tgt := 17) hx hb dX4_launchReason_13 (by decide) ?_
    exact rd_ret hC dX4_launchReason_17 (Eq.symm (by unfold mX4_launchReason; rw [if_neg c_1]))
def mX4_blockers (σ : MS) (x1 : Int32) : Int32 := (if (mX4_isBoat σ x1) = 0 then (-1) else (if (mX4_isAshore σ x1) = 0 then (-5) else (mX4_blockersOf σ x1)))
set_option maxHeartbeats 4000000 in
set_option maxRecDepth 100000 in
theorem k_X4_blockers (l : Launch) (g : WG) (ad : AM) (σ : MS) (x1 : Int32) : Rd l yX4_blockers cX4_blockers 2 (some .int) 4 (Wl g (cM g ad σ) (fun _ => False)) [.ref ad.1, .int x1] (mX4_blockers σ x1) := by
  refine rd_of (by decide) (Nat.le_of_ble_eq_true rfl) ?_
  intro p e s m args below meth c ls hC hW hl
  obtain ⟨hP, hK, hE⟩ := hW
  obtain ⟨hx, hb, hml, hr, hown, hts, hlk, hnm⟩ := id hC
  have hl : lv_has ls 2 [(0, .ref ad.1), (1, .int x1)] := hl
  refine lv_aload_n hx hb dX4_blockers_0 rfl (lv_at hl 0 rfl) ?_
  refine lv_iload_n hx hb dX4_blockers_1 rfl (lv_at hl 1 rfl) ?_
  refine callRd hC (k_X4_isBoat l g ad σ x1) ci_X4_isBoat lk_X4_92 ⟨Nat.le_of_ble_eq_true rfl, Nat.le_of_ble_eq_true rfl⟩ hP hK hE (q0 := 0) rfl rfl rfl rfl hl.1 rfl (Nat.le_of_ble_eq_true rfl) dX4_blockers_2 ⟨Nat.zero_le _, Nat.zero_le _⟩ ?_
  refine lv_if_ne (tgt := 10) hx hb dX4_blockers_5 (by decide) (fun c_1 => ?_) (fun c_1 => ?_)
  · refine lv_aload_n hx hb dX4_blockers_10 rfl (lv_at hl 0 rfl) ?_
    refine lv_iload_n hx hb dX4_blockers_11 rfl (lv_at hl 1 rfl) ?_
    refine callRd hC (k_X4_isAshore l g ad σ x1 (in_X4_isBoat c_1)) ci_X4_isAshore lk_X4_40 ⟨Nat.le_of_ble_eq_true rfl, Nat.le_of_ble_eq_true rfl⟩ hP hK hE (q0 := 0) rfl rfl rfl rfl hl.1 rfl (Nat.le_of_ble_eq_true rfl) dX4_blockers_12 ⟨Nat.zero_le _, Nat.zero_le _⟩ ?_
    refine lv_if_eq (tgt := 26) hx hb dX4_blockers_15 (by decide) (fun c_2 => ?_) (fun c_2 => ?_)
    · refine lv_bipush (v := (-5)) hx hb dX4_blockers_26 (by decide) ?_
      exact rd_ret hC dX4_blockers_28 (Eq.symm (by unfold mX4_blockers; rw [if_neg c_1, if_pos c_2]))
    · refine lv_aload_n hx hb dX4_blockers_18 rfl (lv_at hl 0 rfl) ?_
      refine lv_iload_n hx hb dX4_blockers_19 rfl (lv_at hl 1 rfl) ?_
      refine callRd hC (k_X4_blockersOf l g ad σ x1 (in_X4_isBoat c_1)) ci_X4_blockersOf lk_X4_129 ⟨Nat.le_of_ble_eq_true rfl, Nat.le_of_ble_eq_true rfl⟩ hP hK hE (q0 := 0) rfl rfl rfl rfl hl.1 rfl (Nat.le_of_ble_eq_true rfl) dX4_blockers_20 ⟨Nat.zero_le _, Nat.zero_le _⟩ ?_
      refine lv_goto (tgt := 28) hx hb dX4_blockers_23 (by decide) ?_
      exact rd_ret hC dX4_blockers_28 (Eq.symm (by unfold mX4_blockers; rw [if_neg c_1, if_neg c_2]))
  · refine lv_iconst (v := (-1)) hx hb dX4_blockers_8 (by decide) ?_
    exact rd_ret hC dX4_blockers_9 (Eq.symm (by unfold mX4_blockers; rw [if_pos c_1]))
def mX4_launchDay_L17 (σ : MS) (x1 : Int32) : Nat → Int32 → Int32 → Int32
  | 0, _, _ => 0
  | n + 1, u3, u2 => (if u3 < 0 then u2 else (if (mX4_isAshore σ x1) = 0 then u2 else (if 0 < u3 then (if u3 < (mX4_of σ x1 8) then (mX4_launchDay_L17 σ x1 n (u3 + (-1)) u2) else (if ((M_z σ) (4 : Int32).toNatClampNeg) < (mX4_of σ x1 3) then (mX4_launchDay_L17 σ x1 n (u3 + (-1)) u2) else (if (mX4_tideAt σ (((M_z σ) (0 : Int32).toNatClampNeg) + u3)) < (mX4_of σ x1 2) then (mX4_launchDay_L17 σ x1 n (u3 + (-1)) u2) else (mX4_launchDay_L17 σ x1 n (u3 + (-1)) (((M_z σ) (0 : Int32).toNatClampNeg) + u3))))) else (if (mX4_liftsLeft σ) ≤ 0 then (mX4_launchDay_L17 σ x1 n (u3 + (-1)) u2) else (if u3 < (mX4_of σ x1 8) then (mX4_launchDay_L17 σ x1 n (u3 + (-1)) u2) else (if ((M_z σ) (4 : Int32).toNatClampNeg) < (mX4_of σ x1 3) then (mX4_launchDay_L17 σ x1 n (u3 + (-1)) u2) else (if (mX4_tideAt σ (((M_z σ) (0 : Int32).toNatClampNeg) + u3)) < (mX4_of σ x1 2) then (mX4_launchDay_L17 σ x1 n (u3 + (-1)) u2) else (mX4_launchDay_L17 σ x1 n (u3 + (-1)) (((M_z σ) (0 : Int32).toNatClampNeg) + u3)))))))))
set_option maxHeartbeats 4000000 in
set_option maxRecDepth 100000 in
theorem q_X4_launchDay_17 {p : Program} {e : Env} {s : State} {m : MethodId} {args : Array Value} {below : List Frame} {meth : Method} {c : Code} (l : Launch) (g : WG) (ad : AM) (σ : MS) (x1 : Int32) (h_b : vp_in x1 20) (hC : Cx p s m args meth c yX4_launchDay cX4_launchDay 6 (some .int)) (hP : va_P g.1 vwCl (cM g ad σ) s.heap) (hK : va_K g.1 vwCl (tysW g) s) (hE : Ex (fun _ => False) s s.heap) {r : Int32} : ∀ (n : Nat) (u3 : Int32) (u2 : Int32) (hi0 : -1 ≤ u3.toInt) (hi1 : u3.toInt ≤ 200) (hm : (u3.toInt + 1).toNat < n) (hR : r = mX4_launchDay_L17 σ x1 n u3 u2) (ls : Array Slot) (hl : lv_has ls 6 [(3, .int u3), (2, .int u2), (0, .ref ad.1), (1, .int x1)]), W p l e (rk 2) s m args below meth c s.heap [] 0 0 (MQ below (vp_Si (fun x => x = r)) args s 0 0 (fun _ => False)) (F0 m 17 ls []) := by
  obtain ⟨hx, hb, hml, hr, hown, hts, hlk, hnm⟩ := id hC
  intro n
  induction n with
  | zero => intro u3 u2 hi0 hi1 hm hR ls hl; exact absurd hm (Nat.not_lt_zero _)
  | succ n ih =>
    intro u3 u2 hi0 hi1 hm hR ls hl
    refine lv_iload_n hx hb dX4_launchDay_17 rfl (lv_at hl 0 rfl) ?_
    refine lv_if_lt (tgt := 130) hx hb dX4_launchDay_18 (by decide) (fun c_2 => ?_) (fun c_2 => ?_)
    · refine lv_iload_n hx hb dX4_launchDay_130 rfl (lv_at hl 1 rfl) ?_
      exact rd_ret hC dX4_launchDay_131 (Eq.symm (by rw [hR, mX4_launchDay_L17, if_pos c_2]))
    · refine lv_aload_n hx hb dX4_launchDay_21 rfl (lv_at hl 2 rfl) ?_
      refine lv_iload_n hx hb dX4_launchDay_22 rfl (lv_at hl 3 rfl) ?_
      refine callRd hC (k_X4_isAshore l g ad σ x1 h_b) ci_X4_isAshore lk_X4_40 ⟨Nat.le_of_ble_eq_true rfl, Nat.le_of_ble_eq_true rfl⟩ hP hK hE (q0 := 0) rfl rfl rfl rfl hl.1 rfl (Nat.le_of_ble_eq_true rfl) dX4_launchDay_23 ⟨Nat.zero_le _, Nat.zero_le _⟩ ?_
      refine lv_if_eq (tgt := 130) hx hb dX4_launchDay_26 (by decide) (fun c_3 => ?_) (fun c_3 => ?_)
      · refine lv_iload_n hx hb dX4_launchDay_130 rfl (lv_at hl 1 rfl) ?_
        exact rd_ret hC dX4_launchDay_131 (Eq.symm (by rw [hR, mX4_launchDay_L17, if_neg c_2, if_pos c_3]))
      · refine lv_iload_n hx hb dX4_launchDay_29 rfl (lv_at hl 0 rfl) ?_
        refine lv_if_gt (tgt := 40) hx hb dX4_launchDay_30 (by decide) (fun c_4 => ?_) (fun c_4 => ?_)
        · refine lv_iconst (v := 1) hx hb dX4_launchDay_40 (by decide) ?_
          refine lv_goto (tgt := 45) hx hb dX4_launchDay_41 (by decide) ?_
          refine lv_istore (lv' := [(4, .int 1), (3, .int u3), (2, .int u2), (0, .ref ad.1), (1, .int x1)]) hx hb dX4_launchDay_45 hl (by decide) rfl (fun ls hl => ?_)
          refine lv_iload hx hb dX4_launchDay_47 (lv_at hl 0 rfl) ?_
          refine lv_if_eq (tgt := 103) hx hb dX4_launchDay_49 (by decide) (fun c_5 => absurd c_5 (by decide)) (fun c_5 => ?_)
          refine lv_aload_n hx hb dX4_launchDay_52 rfl (lv_at hl 3 rfl) ?_
          refine lv_iload_n hx hb dX4_launchDay_53 rfl (lv_at hl 4 rfl) ?_
          refine lv_bipush (v := 8) hx hb dX4_launchDay_54 (by decide) ?_
          refine callRd hC (k_X4_of l g ad σ x1 8 h_b (in_iff.mpr (by decide))) ci_X4_of lk_X4_36 ⟨Nat.le_of_ble_eq_true rfl, Nat.le_of_ble_eq_true rfl⟩ hP hK hE (q0 := 0) rfl rfl rfl rfl hl.1 rfl (Nat.le_of_ble_eq_true rfl) dX4_launchDay_56 ⟨Nat.zero_le _, Nat.zero_le _⟩ ?_
          refine lv_iload_n hx hb dX4_launchDay_59 rfl (lv_at hl 1 rfl) ?_
          refine lv_icmp_gt (tgt := 103) hx hb dX4_launchDay_60 (by decide) (fun c_6 => ?_) (fun c_6 => ?_)
          · refine lv_iconst (v := 0) hx hb dX4_launchDay_103 (by decide) ?_
            refine lv_istore (lv' := [(5, .int 0), (4, .int 1), (3, .int u3), (2, .int u2), (0, .ref ad.1), (1, .int x1)]) hx hb dX4_launchDay_104 hl (by decide) rfl (fun ls hl => ?_)
            refine lv_iload hx hb dX4_launchDay_106 (lv_at hl 0 rfl) ?_
            refine lv_if_eq (tgt := 122) hx hb dX4_launchDay_108 (by decide) (fun c_7 => ?_) (fun c_7 => absurd c_7 (by decide))
            refine lv_iload_n hx hb dX4_launchDay_122 rfl (lv_at hl 3 rfl) ?_
            refine lv_istore_n (lv' := [(2, .int u2), (5, .int 0), (4, .int 1), (3, .int u3), (0, .ref ad.1), (1, .int x1)]) hx hb dX4_launchDay_123 rfl hl (by decide) rfl (fun ls hl => ?_)
            refine lv_iinc (v := (u3 + (-1))) (lv' := [(3, .int (u3 + (-1))), (2, .int u2), (5, .int 0), (4, .int 1), (0, .ref ad.1), (1, .int x1)]) hx hb dX4_launchDay_124 hl (k := 3) rfl rfl (by decide) rfl (fun ls hl => ?_)
            refine lv_goto (tgt := 17) hx hb dX4_launchDay_127 (by decide) ?_
            have e8 : 0 ≤ u3.toInt := by have q := c_2; rw [lt_ti] at q; have z : (0 : Int32).toInt = 0 := rfl; omega
            have e9 : (u3 + (-1)).toInt = u3.toInt - 1 := by rw [ti_add (x := u3) (y := (-1)) (by show _ ≤ u3.toInt + (-1); omega) (by show u3.toInt + (-1) < _; omega)]; rfl
            exact ih (u3 + (-1)) u2 (by rw [e9]; omega) (by rw [e9]; omega) (by rw [e9]; omega) (by rw [hR, mX4_launchDay_L17, if_neg c_2, if_neg c_3, if_pos c_4, if_pos c_6]) _ (lv_sub hl [0, 1, 4, 5] rfl)
          · refine lv_aload_n hx hb dX4_launchDay_63 rfl (lv_at hl 3 rfl) ?_
            refine lv_iload_n hx hb dX4_launchDay_64 rfl (lv_at hl 4 rfl) ?_
            refine lv_iconst (v := 3) hx hb dX4_launchDay_65 (by decide) ?_
            refine callRd hC (k_X4_of l g ad σ x1 3 h_b (in_iff.mpr (by decide))) ci_X4_of lk_X4_36 ⟨Nat.le_of_ble_eq_true rfl, Nat.le_of_ble_eq_true rfl⟩ hP hK hE (q0 := 0) rfl rfl rfl rfl hl.1 rfl (Nat.le_of_ble_eq_true rfl) dX4_launchDay_66 ⟨Nat.zero_le _, Nat.zero_le _⟩ ?_
            refine lv_aload_n hx hb dX4_launchDay_69 rfl (lv_at hl 3 rfl) ?_
            refine gM_z hC rfl hK hP dX4_launchDay_70 ?_
            refine lv_iconst (v := 4) hx hb dX4_launchDay_73 (by decide) ?_
            refine lM_z hC hK hP (in_iff.mpr (by decide)) dX4_launchDay_74 ?_
            refine lv_icmp_gt (tgt := 103) hx hb dX4_launchDay_75 (by decide) (fun c_8 => ?_) (fun c_8 => ?_)
            · refine lv_iconst (v := 0) hx hb dX4_launchDay_103 (by decide) ?_
              refine lv_istore (lv' := [(5, .int 0), (4, .int 1), (3, .int u3), (2, .int u2), (0, .ref ad.1), (1, .int x1)]) hx hb dX4_launchDay_104 hl (by decide) rfl (fun ls hl => ?_)
              refine lv_iload hx hb dX4_launchDay_106 (lv_at hl 0 rfl) ?_
              refine lv_if_eq (tgt := 122) hx hb dX4_launchDay_108 (by decide) (fun c_9 => ?_) (fun c_9 => absurd c_9 (by decide))
              refine lv_iload_n hx hb dX4_launchDay_122 rfl (lv_at hl 3 rfl) ?_
              refine lv_istore_n (lv' := [(2, .int u2), (5, .int 0), (4, .int 1), (3, .int u3), (0, .ref ad.1), (1, .int x1)]) hx hb dX4_launchDay_123 rfl hl (by decide) rfl (fun ls hl => ?_)
              refine lv_iinc (v := (u3 + (-1))) (lv' := [(3, .int (u3 + (-1))), (2, .int u2), (5, .int 0), (4, .int 1), (0, .ref ad.1), (1, .int x1)]) hx hb dX4_launchDay_124 hl (k := 3) rfl rfl (by decide) rfl (fun ls hl => ?_)
              refine lv_goto (tgt := 17) hx hb dX4_launchDay_127 (by decide) ?_
              have e8 : 0 ≤ u3.toInt := by have q := c_2; rw [lt_ti] at q; have z : (0 : Int32).toInt = 0 := rfl; omega
              have e9 : (u3 + (-1)).toInt = u3.toInt - 1 := by rw [ti_add (x := u3) (y := (-1)) (by show _ ≤ u3.toInt + (-1); omega) (by show u3.toInt + (-1) < _; omega)]; rfl
              exact ih (u3 + (-1)) u2 (by rw [e9]; omega) (by rw [e9]; omega) (by rw [e9]; omega) (by rw [hR, mX4_launchDay_L17, if_neg c_2, if_neg c_3, if_pos c_4, if_neg c_6, if_pos c_8]) _ (lv_sub hl [0, 1, 4, 5] rfl)
            · refine lv_aload_n hx hb dX4_launchDay_78 rfl (lv_at hl 3 rfl) ?_
              refine lv_aload_n hx hb dX4_launchDay_79 rfl (lv_at hl 3 rfl) ?_
              refine gM_z hC rfl hK hP dX4_launchDay_80 ?_
              refine lv_iconst (v := 0) hx hb dX4_launchDay_83 (by decide) ?_
              refine lM_z hC hK hP (in_iff.mpr (by decide)) dX4_launchDay_84 ?_
              refine lv_iload_n hx hb dX4_launchDay_85 rfl (lv_at hl 1 rfl) ?_
              refine lv_iadd hx hb dX4_launchDay_86 ?_
              refine callRd hC (k_X4_tideAt l g ad σ (((M_z σ) (0 : Int32).toNatClampNeg) + u3)) ci_X4_tideAt lk_X4_101 ⟨Nat.le_of_ble_eq_true rfl, Nat.le_of_ble_eq_true rfl⟩ hP hK hE (q0 := 0) rfl rfl rfl rfl hl.1 rfl (Nat.le_of_ble_eq_true rfl) dX4_launchDay_87 ⟨Nat.zero_le _, Nat.zero_le _⟩ ?_
              refine lv_aload_n hx hb dX4_launchDay_90 rfl (lv_at hl 3 rfl) ?_
              refine lv_iload_n hx hb dX4_launchDay_91 rfl (lv_at hl 4 rfl) ?_
              refine lv_iconst (v := 2) hx hb dX4_launchDay_92 (by decide) ?_
              refine callRd hC (k_X4_of l g ad σ x1 2 h_b (in_iff.mpr (by decide))) ci_X4_of lk_X4_36 ⟨Nat.le_of_ble_eq_true rfl, Nat.le_of_ble_eq_true rfl⟩ hP hK hE (q0 := 0) rfl rfl rfl rfl hl.1 rfl (Nat.le_of_ble_eq_true rfl) dX4_launchDay_93 ⟨Nat.zero_le _, Nat.zero_le _⟩ ?_
              refine lv_icmp_lt (tgt := 103) hx hb dX4_launchDay_96 (by decide) (fun c_10 => ?_) (fun c_10 => ?_)
              · refine lv_iconst (v := 0) hx hb dX4_launchDay_103 (by decide) ?_
                refine lv_istore (lv' := [(5, .int 0), (4, .int 1), (3, .int u3), (2, .int u2), (0, .ref ad.1), (1, .int x1)]) hx hb dX4_launchDay_104 hl (by decide) rfl (fun ls hl => ?_)
                refine lv_iload hx hb dX4_launchDay_106 (lv_at hl 0 rfl) ?_
                refine lv_if_eq (tgt := 122) hx hb dX4_launchDay_108 (by decide) (fun c_11 => ?_) (fun c_11 => absurd c_11 (by decide))
                refine lv_iload_n hx hb dX4_launchDay_122 rfl (lv_at hl 3 rfl) ?_
                refine lv_istore_n (lv' := [(2, .int u2), (5, .int 0), (4, .int 1), (3, .int u3), (0, .ref ad.1), (1, .int x1)]) hx hb dX4_launchDay_123 rfl hl (by decide) rfl (fun ls hl => ?_)
                refine lv_iinc (v := (u3 + (-1))) (lv' := [(3, .int (u3 + (-1))), (2, .int u2), (5, .int 0), (4, .int 1), (0, .ref ad.1), (1, .int x1)]) hx hb dX4_launchDay_124 hl (k := 3) rfl rfl (by decide) rfl (fun ls hl => ?_)
                refine lv_goto (tgt := 17) hx hb dX4_launchDay_127 (by decide) ?_
                have e8 : 0 ≤ u3.toInt := by have q := c_2; rw [lt_ti] at q; have z : (0 : Int32).toInt = 0 := rfl; omega
                have e9 : (u3 + (-1)).toInt = u3.toInt - 1 := by rw [ti_add (x := u3) (y := (-1)) (by show _ ≤ u3.toInt + (-1); omega) (by show u3.toInt + (-1) < _; omega)]; rfl
                exact ih (u3 + (-1)) u2 (by rw [e9]; omega) (by rw [e9]; omega) (by rw [e9]; omega) (by rw [hR, mX4_launchDay_L17, if_neg c_2, if_neg c_3, if_pos c_4, if_neg c_6, if_neg c_8, if_pos c_10]) _ (lv_sub hl [0, 1, 4, 5] rfl)
              · refine lv_iconst (v := 1) hx hb dX4_launchDay_99 (by decide) ?_
                refine lv_goto (tgt := 104) hx hb dX4_launchDay_100 (by decide) ?_
                refine lv_istore (lv' := [(5, .int 1), (4, .int 1), (3, .int u3), (2, .int u2), (0, .ref ad.1), (1, .int x1)]) hx hb dX4_launchDay_104 hl (by decide) rfl (fun ls hl => ?_)
                refine lv_iload hx hb dX4_launchDay_106 (lv_at hl 0 rfl) ?_
                refine lv_if_eq (tgt := 122) hx hb dX4_launchDay_108 (by decide) (fun c_12 => absurd c_12 (by decide)) (fun c_12 => ?_)
                refine lv_aload_n hx hb dX4_launchDay_111 rfl (lv_at hl 4 rfl) ?_
                refine gM_z hC rfl hK hP dX4_launchDay_112 ?_
                refine lv_iconst (v := 0) hx hb dX4_launchDay_115 (by decide) ?_
                refine lM_z hC hK hP (in_iff.mpr (by decide)) dX4_launchDay_116 ?_
                refine lv_iload_n hx hb dX4_launchDay_117 rfl (lv_at hl 2 rfl) ?_
                refine lv_iadd hx hb dX4_launchDay_118 ?_
                refine lv_goto (tgt := 123) hx hb dX4_launchDay_119 (by decide) ?_
                refine lv_istore_n (lv' := [(2, .int (((M_z σ) (0 : Int32).toNatClampNeg) + u3)), (5, .int 1), (4, .int 1), (3, .int u3), (0, .ref ad.1), (1, .int x1)]) hx hb dX4_launchDay_123 rfl hl (by decide) rfl (fun ls hl => ?_)
                refine lv_iinc (v := (u3 + (-1))) (lv' := [(3, .int (u3 + (-1))), (2, .int (((M_z σ) (0 : Int32).toNatClampNeg) + u3)), (5, .int 1), (4, .int 1), (0, .ref ad.1), (1, .int x1)]) hx hb dX4_launchDay_124 hl (k := 3) rfl rfl (by decide) rfl (fun ls hl => ?_)
                refine lv_goto (tgt := 17) hx hb dX4_launchDay_127 (by decide) ?_
                have e8 : 0 ≤ u3.toInt := by have q := c_2; rw [lt_ti] at q; have z : (0 : Int32).toInt = 0 := rfl; omega
                have e9 : (u3 + (-1)).toInt = u3.toInt - 1 := by rw [ti_add (x := u3) (y := (-1)) (by show _ ≤ u3.toInt + (-1); omega) (by show u3.toInt + (-1) < _; omega)]; rfl
                exact ih (u3 + (-1)) (((M_z σ) (0 : Int32).toNatClampNeg) + u3) (by rw [e9]; omega) (by rw [e9]; omega) (by rw [e9]; omega) (by rw [hR, mX4_launchDay_L17, if_neg c_2, if_neg c_3, if_pos c_4, if_neg c_6, if_neg c_8, if_neg c_10]) _ (lv_sub hl [0, 1, 4, 5] rfl)
        · refine lv_aload_n hx hb dX4_launchDay_33 rfl (lv_at hl 2 rfl) ?_
          refine callRd hC (k_X4_liftsLeft l g ad σ) ci_X4_liftsLeft lk_X4_110 ⟨Nat.le_of_ble_eq_true rfl, Nat.le_of_ble_eq_true rfl⟩ hP hK hE (q0 := 0) rfl rfl rfl rfl hl.1 rfl (Nat.le_of_ble_eq_true rfl) dX4_launchDay_34 ⟨Nat.zero_le _, Nat.zero_le _⟩ ?_
          refine lv_if_le (tgt := 44) hx hb dX4_launchDay_37 (by decide) (fun c_13 => ?_) (fun c_13 => ?_)
          · refine lv_iconst (v := 0) hx hb dX4_launchDay_44 (by decide) ?_
            refine lv_istore (lv' := [(4, .int 0), (3, .int u3), (2, .int u2), (0, .ref ad.1), (1, .int x1)]) hx hb dX4_launchDay_45 hl (by decide) rfl (fun ls hl => ?_)
            refine lv_iload hx hb dX4_launchDay_47 (lv_at hl 0 rfl) ?_
            refine lv_if_eq (tgt := 103) hx hb dX4_launchDay_49 (by decide) (fun c_14 => ?_) (fun c_14 => absurd c_14 (by decide))
            refine lv_iconst (v := 0) hx hb dX4_launchDay_103 (by decide) ?_
            refine lv_istore (lv' := [(5, .int 0), (4, .int 0), (3, .int u3), (2, .int u2), (0, .ref ad.1), (1, .int x1)]) hx hb dX4_launchDay_104 hl (by decide) rfl (fun ls hl => ?_)
            refine lv_iload hx hb dX4_launchDay_106 (lv_at hl 0 rfl) ?_
            refine lv_if_eq (tgt := 122) hx hb dX4_launchDay_108 (by decide) (fun c_15 => ?_) (fun c_15 => absurd c_15 (by decide))
            refine lv_iload_n hx hb dX4_launchDay_122 rfl (lv_at hl 3 rfl) ?_
            refine lv_istore_n (lv' := [(2, .int u2), (5, .int 0), (4, .int 0), (3, .int u3), (0, .ref ad.1), (1, .int x1)]) hx hb dX4_launchDay_123 rfl hl (by decide) rfl (fun ls hl => ?_)
            refine lv_iinc (v := (u3 + (-1))) (lv' := [(3, .int (u3 + (-1))), (2, .int u2), (5, .int 0), (4, .int 0), (0, .ref ad.1), (1, .int x1)]) hx hb dX4_launchDay_124 hl (k := 3) rfl rfl (by decide) rfl (fun ls hl => ?_)
            refine lv_goto (tgt := 17) hx hb dX4_launchDay_127 (by decide) ?_
            have e8 : 0 ≤ u3.toInt := by have q := c_2; rw [lt_ti] at q; have z : (0 : Int32).toInt = 0 := rfl; omega
            have e9 : (u3 + (-1)).toInt = u3.toInt - 1 := by rw [ti_add (x := u3) (y := (-1)) (by show _ ≤ u3.toInt + (-1); omega) (by show u3.toInt + (-1) < _; omega)]; rfl
            exact ih (u3 + (-1)) u2 (by rw [e9]; omega) (by rw [e9]; omega) (by rw [e9]; omega) (by rw [hR, mX4_launchDay_L17, if_neg c_2, if_neg c_3, if_neg c_4, if_pos c_13]) _ (lv_sub hl [0, 1, 4, 5] rfl)
          · refine lv_iconst (v := 1) hx hb dX4_launchDay_40 (by decide) ?_
            refine lv_goto (tgt := 45) hx hb dX4_launchDay_41 (by decide) ?_
            refine lv_istore (lv' := [(4, .int 1), (3, .int u3), (2, .int u2), (0, .ref ad.1), (1, .int x1)]) hx hb dX4_launchDay_45 hl (by decide) rfl (fun ls hl => ?_)
            refine lv_iload hx hb dX4_launchDay_47 (lv_at hl 0 rfl) ?_
            refine lv_if_eq (tgt := 103) hx hb dX4_launchDay_49 (by decide) (fun c_16 => absurd c_16 (by decide)) (fun c_16 => ?_)
            refine lv_aload_n hx hb dX4_launchDay_52 rfl (lv_at hl 3 rfl) ?_
            refine lv_iload_n hx hb dX4_launchDay_53 rfl (lv_at hl 4 rfl) ?_
            refine lv_bipush (v := 8) hx hb dX4_launchDay_54 (by decide) ?_
            refine callRd hC (k_X4_of l g ad σ x1 8 h_b (in_iff.mpr (by decide))) ci_X4_of lk_X4_36 ⟨Nat.le_of_ble_eq_true rfl, Nat.le_of_ble_eq_true rfl⟩ hP hK hE (q0 := 0) rfl rfl rfl rfl hl.1 rfl (Nat.le_of_ble_eq_true rfl) dX4_launchDay_56 ⟨Nat.zero_le _, Nat.zero_le _⟩ ?_
            refine lv_iload_n hx hb dX4_launchDay_59 rfl (lv_at hl 1 rfl) ?_
            refine lv_icmp_gt (tgt := 103) hx hb dX4_launchDay_60 (by decide) (fun c_17 => ?_) (fun c_17 => ?_)
            · refine lv_iconst (v := 0) hx hb dX4_launchDay_103 (by decide) ?_
              refine lv_istore (lv' := [(5, .int 0), (4, .int 1), (3, .int u3), (2, .int u2), (0, .ref ad.1), (1, .int x1)]) hx hb dX4_launchDay_104 hl (by decide) rfl (fun ls hl => ?_)
              refine lv_iload hx hb dX4_launchDay_106 (lv_at hl 0 rfl) ?_
              refine lv_if_eq (tgt := 122) hx hb dX4_launchDay_108 (by decide) (fun c_18 => ?_) (fun c_18 => absurd c_18 (by decide))
              refine lv_iload_n hx hb dX4_launchDay_122 rfl (lv_at hl 3 rfl) ?_
              refine lv_istore_n (lv' := [(2, .int u2), (5, .int 0), (4, .int 1), (3, .int u3), (0, .ref ad.1), (1, .int x1)]) hx hb dX4_launchDay_123 rfl hl (by decide) rfl (fun ls hl => ?_)
              refine lv_iinc (v := (u3 + (-1))) (lv' := [(3, .int (u3 + (-1))), (2, .int u2), (5, .int 0), (4, .int 1), (0, .ref ad.1), (1, .int x1)]) hx hb dX4_launchDay_124 hl (k := 3) rfl rfl (by decide) rfl (fun ls hl => ?_)
              refine lv_goto (tgt := 17) hx hb dX4_launchDay_127 (by decide) ?_
              have e8 : 0 ≤ u3.toInt := by have q := c_2; rw [lt_ti] at q; have z : (0 : Int32).toInt = 0 := rfl; omega
              have e9 : (u3 + (-1)).toInt = u3.toInt - 1 := by rw [ti_add (x := u3) (y := (-1)) (by show _ ≤ u3.toInt + (-1); omega) (by show u3.toInt + (-1) < _; omega)]; rfl
              exact ih (u3 + (-1)) u2 (by rw [e9]; omega) (by rw [e9]; omega) (by rw [e9]; omega) (by rw [hR, mX4_launchDay_L17, if_neg c_2, if_neg c_3, if_neg c_4, if_neg c_13, if_pos c_17]) _ (lv_sub hl [0, 1, 4, 5] rfl)
            · refine lv_aload_n hx hb dX4_launchDay_63 rfl (lv_at hl 3 rfl) ?_
              refine lv_iload_n hx hb dX4_launchDay_64 rfl (lv_at hl 4 rfl) ?_
              refine lv_iconst (v := 3) hx hb dX4_launchDay_65 (by decide) ?_
              refine callRd hC (k_X4_of l g ad σ x1 3 h_b (in_iff.mpr (by decide))) ci_X4_of lk_X4_36 ⟨Nat.le_of_ble_eq_true rfl, Nat.le_of_ble_eq_true rfl⟩ hP hK hE (q0 := 0) rfl rfl rfl rfl hl.1 rfl (Nat.le_of_ble_eq_true rfl) dX4_launchDay_66 ⟨Nat.zero_le _, Nat.zero_le _⟩ ?_
              refine lv_aload_n hx hb dX4_launchDay_69 rfl (lv_at hl 3 rfl) ?_
              refine gM_z hC rfl hK hP dX4_launchDay_70 ?_
              refine lv_iconst (v := 4) hx hb dX4_launchDay_73 (by decide) ?_
              refine lM_z hC hK hP (in_iff.mpr (by decide)) dX4_launchDay_74 ?_
              refine lv_icmp_gt (tgt := 103) hx hb dX4_launchDay_75 (by decide) (fun c_19 => ?_) (fun c_19 => ?_)
              · refine lv_iconst (v := 0) hx hb dX4_launchDay_103 (by decide) ?_
                refine lv_istore (lv' := [(5, .int 0), (4, .int 1), (3, .int u3), (2, .int u2), (0, .ref ad.1), (1, .int x1)]) hx hb dX4_launchDay_104 hl (by decide) rfl (fun ls hl => ?_)
                refine lv_iload hx hb dX4_launchDay_106 (lv_at hl 0 rfl) ?_
                refine lv_if_eq (tgt := 122) hx hb dX4_launchDay_108 (by decide) (fun c_20 => ?_) (fun c_20 => absurd c_20 (by decide))
                refine lv_iload_n hx hb dX4_launchDay_122 rfl (lv_at hl 3 rfl) ?_
                refine lv_istore_n (lv' := [(2, .int u2), (5, .int 0), (4, .int 1), (3, .int u3), (0, .ref ad.1), (1, .int x1)]) hx hb dX4_launchDay_123 rfl hl (by decide) rfl (fun ls hl => ?_)
                refine lv_iinc (v := (u3 + (-1))) (lv' := [(3, .int (u3 + (-1))), (2, .int u2), (5, .int 0), (4, .int 1), (0, .ref ad.1), (1, .int x1)]) hx hb dX4_launchDay_124 hl (k := 3) rfl rfl (by decide) rfl (fun ls hl => ?_)
                refine lv_goto (tgt := 17) hx hb dX4_launchDay_127 (by decide) ?_
                have e8 : 0 ≤ u3.toInt := by have q := c_2; rw [lt_ti] at q; have z : (0 : Int32).toInt = 0 := rfl; omega
                have e9 : (u3 + (-1)).toInt = u3.toInt - 1 := by rw [ti_add (x := u3) (y := (-1)) (by show _ ≤ u3.toInt + (-1); omega) (by show u3.toInt + (-1) < _; omega)]; rfl
                exact ih (u3 + (-1)) u2 (by rw [e9]; omega) (by rw [e9]; omega) (by rw [e9]; omega) (by rw [hR, mX4_launchDay_L17, if_neg c_2, if_neg c_3, if_neg c_4, if_neg c_13, if_neg c_17, if_pos c_19]) _ (lv_sub hl [0, 1, 4, 5] rfl)
              · refine lv_aload_n hx hb dX4_launchDay_78 rfl (lv_at hl 3 rfl) ?_
                refine lv_aload_n hx hb dX4_launchDay_79 rfl (lv_at hl 3 rfl) ?_
                refine gM_z hC rfl hK hP dX4_launchDay_80 ?_
                refine lv_iconst (v := 0) hx hb dX4_launchDay_83 (by decide) ?_
                refine lM_z hC hK hP (in_iff.mpr (by decide)) dX4_launchDay_84 ?_
                refine lv_iload_n hx hb dX4_launchDay_85 rfl (lv_at hl 1 rfl) ?_
                refine lv_iadd hx hb dX4_launchDay_86 ?_
                refine callRd hC (k_X4_tideAt l g ad σ (((M_z σ) (0 : Int32).toNatClampNeg) + u3)) ci_X4_tideAt lk_X4_101 ⟨Nat.le_of_ble_eq_true rfl, Nat.le_of_ble_eq_true rfl⟩ hP hK hE (q0 := 0) rfl rfl rfl rfl hl.1 rfl (Nat.le_of_ble_eq_true rfl) dX4_launchDay_87 ⟨Nat.zero_le _, Nat.zero_le _⟩ ?_
                refine lv_aload_n hx hb dX4_launchDay_90 rfl (lv_at hl 3 rfl) ?_
                refine lv_iload_n hx hb dX4_launchDay_91 rfl (lv_at hl 4 rfl) ?_
                refine lv_iconst (v := 2) hx hb dX4_launchDay_92 (by decide) ?_
                refine callRd hC (k_X4_of l g ad σ x1 2 h_b (in_iff.mpr (by decide))) ci_X4_of lk_X4_36 ⟨Nat.le_of_ble_eq_true rfl, Nat.le_of_ble_eq_true rfl⟩ hP hK hE (q0 := 0) rfl rfl rfl rfl hl.1 rfl (Nat.le_of_ble_eq_true rfl) dX4_launchDay_93 ⟨Nat.zero_le _, Nat.zero_le _⟩ ?_
                refine lv_icmp_lt (tgt := 103) hx hb dX4_launchDay_96 (by decide) (fun c_21 => ?_) (fun c_21 => ?_)
                · refine lv_iconst (v := 0) hx hb dX4_launchDay_103 (by decide) ?_
                  refine lv_istore (lv' := [(5, .int 0), (4, .int 1), (3, .int u3), (2, .int u2), (0, .ref ad.1), (1, .int x1)]) hx hb dX4_launchDay_104 hl (by decide) rfl (fun ls hl => ?_)
                  refine lv_iload hx hb dX4_launchDay_106 (lv_at hl 0 rfl) ?_
                  refine lv_if_eq (tgt := 122) hx hb dX4_launchDay_108 (by decide) (fun c_22 => ?_) (fun c_22 => absurd c_22 (by decide))
                  refine lv_iload_n hx hb dX4_launchDay_122 rfl (lv_at hl 3 rfl) ?_
                  refine lv_istore_n (lv' := [(2, .int u2), (5, .int 0), (4, .int 1), (3, .int u3), (0, .ref ad.1), (1, .int x1)]) hx hb dX4_launchDay_123 rfl hl (by decide) rfl (fun ls hl => ?_)
                  refine lv_iinc (v := (u3 + (-1))) (lv' := [(3, .int (u3 + (-1))), (2, .int u2), (5, .int 0), (4, .int 1), (0, .ref ad.1), (1, .int x1)]) hx hb dX4_launchDay_124 hl (k := 3) rfl rfl (by decide) rfl (fun ls hl => ?_)
                  refine lv_goto (tgt := 17) hx hb dX4_launchDay_127 (by decide) ?_
                  have e8 : 0 ≤ u3.toInt := by have q := c_2; rw [lt_ti] at q; have z : (0 : Int32).toInt = 0 := rfl; omega
                  have e9 : (u3 + (-1)).toInt = u3.toInt - 1 := by rw [ti_add (x := u3) (y := (-1)) (by show _ ≤ u3.toInt + (-1); omega) (by show u3.toInt + (-1) < _; omega)]; rfl
                  exact ih (u3 + (-1)) u2 (by rw [e9]; omega) (by rw [e9]; omega) (by rw [e9]; omega) (by rw [hR, mX4_launchDay_L17, if_neg c_2, if_neg c_3, if_neg c_4, if_neg c_13, if_neg c_17, if_neg c_19, if_pos c_21]) _ (lv_sub hl [0, 1, 4, 5] rfl)
                · refine lv_iconst (v := 1) hx hb dX4_launchDay_99 (by decide) ?_
                  refine lv_goto (tgt := 104) hx hb dX4_launchDay_100 (by decide) ?_
                  refine lv_istore (lv' := [(5, .int 1), (4, .int 1), (3, .int u3), (2, .int u2), (0, .ref ad.1), (1, .int x1)]) hx hb dX4_launchDay_104 hl (by decide) rfl (fun ls hl => ?_)
                  refine lv_iload hx hb dX4_launchDay_106 (lv_at hl 0 rfl) ?_
                  refine lv_if_eq (tgt := 122) hx hb dX4_launchDay_108 (by decide) (fun c_23 => absurd c_23 (by decide)) (fun c_23 => ?_)
                  refine lv_aload_n hx hb dX4_launchDay_111 rfl (lv_at hl 4 rfl) ?_
                  refine gM_z hC rfl hK hP dX4_launchDay_112 ?_
                  refine lv_iconst (v := 0) hx hb dX4_launchDay_115 (by decide) ?_
                  refine lM_z hC hK hP (in_iff.mpr (by decide)) dX4_launchDay_116 ?_
                  refine lv_iload_n hx hb dX4_launchDay_117 rfl (lv_at hl 2 rfl) ?_
                  refine lv_iadd hx hb dX4_launchDay_118 ?_
                  refine lv_goto (tgt := 123) hx hb dX4_launchDay_119 (by decide) ?_
                  refine lv_istore_n (lv' := [(2, .int (((M_z σ) (0 : Int32).toNatClampNeg) + u3)), (5, .int 1), (4, .int 1), (3, .int u3), (0, .ref ad.1), (1, .int x1)]) hx hb dX4_launchDay_123 rfl hl (by decide) rfl (fun ls hl => ?_)
                  refine lv_iinc (v := (u3 + (-1))) (lv' := [(3, .int (u3 + (-1))), (2, .int (((M_z σ) (0 : Int32).toNatClampNeg) + u3)), (5, .int 1), (4, .int 1), (0, .ref ad.1), (1, .int x1)]) hx hb dX4_launchDay_124 hl (k := 3) rfl rfl (by decide) rfl (fun ls hl => ?_)
                  refine lv_goto (tgt := 17) hx hb dX4_launchDay_127 (by decide) ?_
                  have e8 : 0 ≤ u3.toInt := by have q := c_2; rw [lt_ti] at q; have z : (0 : Int32).toInt = 0 := rfl; omega
                  have e9 : (u3 + (-1)).toInt = u3.toInt - 1 := by rw [ti_add (x := u3) (y := (-1)) (by show _ ≤ u3.toInt + (-1); omega) (by show u3.toInt + (-1) < _; omega)]; rfl
                  exact ih (u3 + (-1)) (((M_z σ) (0 : Int32).toNatClampNeg) + u3) (by rw [e9]; omega) (by rw [e9]; omega) (by rw [e9]; omega) (by rw [hR, mX4_launchDay_L17, if_neg c_2, if_neg c_3, if_neg c_4, if_neg c_13, if_neg c_17, if_neg c_19, if_neg c_21]) _ (lv_sub hl [0, 1, 4, 5] rfl)
def mX4_launchDay (σ : MS) (x1 : Int32) : Int32 := (if (mX4_isBoat σ x1) = 0 then (-1) else (mX4_launchDay_L17 σ x1 202 200 (-5)))
set_option maxHeartbeats 4000000 in
set_option maxRecDepth 100000 in
theorem k_X4_launchDay (l : Launch) (g : WG) (ad : AM) (σ : MS) (x1 : Int32) : Rd l yX4_launchDay cX4_launchDay 6 (some .int) 2 (Wl g (cM g ad σ) (fun _ => False)) [.ref ad.1, .int x1] (mX4_launchDay σ x1) := by
  refine rd_of (by decide) (Nat.le_of_ble_eq_true rfl) ?_
  intro p e s m args below meth c ls hC hW hl
  obtain ⟨hP, hK, hE⟩ := hW
  obtain ⟨hx, hb, hml, hr, hown, hts, hlk, hnm⟩ := id hC
  have hl : lv_has ls 6 [(0, .ref ad.1), (1, .int x1)] := hl
  refine lv_aload_n hx hb dX4_launchDay_0 rfl (lv_at hl 0 rfl) ?_
  refine lv_iload_n hx hb dX4_launchDay_1 rfl (lv_at hl 1 rfl) ?_
  refine callRd hC (k_X4_isBoat l g ad σ x1) ci_X4_isBoat lk_X4_92 ⟨Nat.le_of_ble_eq_true rfl, Nat.le_of_ble_eq_true rfl⟩ hP hK hE (q0 := 0) rfl rfl rfl rfl hl.1 rfl (Nat.le_of_ble_eq_true rfl) dX4_launchDay_2 ⟨Nat.zero_le _, Nat.zero_le _⟩ ?_
  refine lv_if_ne (tgt := 10) hx hb dX4_launchDay_5 (by decide) (fun c_1 => ?_) (fun c_1 => ?_)
  · refine lv_bipush (v := (-5)) hx hb dX4_launchDay_10 (by decide) ?_
    refine lv_istore_n (lv' := [(2, .int (-5)), (0, .ref ad.1), (1, .int x1)]) hx hb dX4_launchDay_12 rfl hl (by decide) rfl (fun ls hl => ?_)
    refine lv_sipush (v := 200) hx hb dX4_launchDay_13 (by decide) ?_
    refine lv_istore_n (lv' := [(3, .int 200), (2, .int (-5)), (0, .ref ad.1), (1, .int x1)]) hx hb dX4_launchDay_16 rfl hl (by decide) rfl (fun ls hl => ?_)
    refine q_X4_launchDay_17 l g ad σ x1 (in_X4_isBoat c_1) hC hP hK hE 202 200 (-5) (by decide) (by decide) (by decide) ?_ _ (lv_sub hl [0, 1, 2, 3] rfl)
    exact by unfold mX4_launchDay; rw [if_neg c_1]
  · refine lv_iconst (v := (-1)) hx hb dX4_launchDay_8 (by decide) ?_
    exact rd_ret hC dX4_launchDay_9 (Eq.symm (by unfold mX4_launchDay; rw [if_pos c_1]))
theorem best_in {x : Int32} (h : x = -5 ∨ vp_in x 4) (c : ¬ x < 0) : vp_in x 4 := by
  rcases h with h | h
  · rw [h] at c; exact absurd (by decide) c
  · exact h
theorem best_in' {x : Int32} (h : x = -5 ∨ vp_in x 4) (c : 0 ≤ x) : vp_in x 4 := by
  rcases h with h | h
  · rw [h] at c; exact absurd c (by decide)
  · exact h
def mX4_bestRow_L15 (σ : MS) (x1 : Int32) : Nat → Int32 → Int32 → Int32
  | 0, _, _ => 0
  | n + 1, u3, u2 => (if 4 ≤ u3 then u2 else (if u3 = (mX4_of σ x1 5) then (mX4_bestRow_L15 σ x1 n (u3 + 1) u2) else (if (mX4_hasRoom σ x1 u3) = 0 then (mX4_bestRow_L15 σ x1 n (u3 + 1) u2) else (if u2 < 0 then (mX4_bestRow_L15 σ x1 n (u3 + 1) u3) else (if (mX4_metresLeft σ u2) ≤ (mX4_metresLeft σ u3) then (mX4_bestRow_L15 σ x1 n (u3 + 1) u2) else (mX4_bestRow_L15 σ x1 n (u3 + 1) u3))))))
set_option maxHeartbeats 4000000 in
set_option maxRecDepth 100000 in
theorem q_X4_bestRow_15 {p : Program} {e : Env} {s : State} {m : MethodId} {args : Array Value} {below : List Frame} {meth : Method} {c : Code} (l : Launch) (g : WG) (ad : AM) (σ : MS) (x1 : Int32) (h_b : vp_in x1 20) (hC : Cx p s m args meth c yX4_bestRow cX4_bestRow 5 (some .int)) (hP : va_P g.1 vwCl (cM g ad σ) s.heap) (hK : va_K g.1 vwCl (tysW g) s) (hE : Ex (fun _ => False) s s.heap) {r : Int32} : ∀ (n : Nat) (u3 : Int32) (u2 : Int32) (hi0 : 0 ≤ u3.toInt) (hi1 : u3.toInt ≤ 4) (hbst : u2 = -5 ∨ vp_in u2 4) (hm : ((5 : Int) - u3.toInt).toNat < n) (hR : r = mX4_bestRow_L15 σ x1 n u3 u2) (ls : Array Slot) (hl : lv_has ls 5 [(3, .int u3), (2, .int u2), (0, .ref ad.1), (1, .int x1)]), W p l e (rk 5) s m args below meth c s.heap [] 0 0 (MQ below (vp_Si (fun x => x = r)) args s 0 0 (fun _ => False)) (F0 m 15 ls []) := by
  obtain ⟨hx, hb, hml, hr, hown, hts, hlk, hnm⟩ := id hC
  intro n
  induction n with
  | zero => intro u3 u2 hi0 hi1 hbst hm hR ls hl; exact absurd hm (Nat.not_lt_zero _)
  | succ n ih =>
    intro u3 u2 hi0 hi1 hbst hm hR ls hl
    refine lv_iload_n hx hb dX4_bestRow_15 rfl (lv_at hl 0 rfl) ?_
    refine lv_iconst (v := 4) hx hb dX4_bestRow_16 (by decide) ?_
    refine lv_icmp_ge (tgt := 80) hx hb dX4_bestRow_17 (by decide) (fun c_2 => ?_) (fun c_2 => ?_)
    · refine lv_iload_n hx hb dX4_bestRow_80 rfl (lv_at hl 1 rfl) ?_
      exact rd_ret hC dX4_bestRow_81 (Eq.symm (by rw [hR, mX4_bestRow_L15, if_pos c_2]))
    · refine lv_iload_n hx hb dX4_bestRow_20 rfl (lv_at hl 0 rfl) ?_
      refine lv_aload_n hx hb dX4_bestRow_21 rfl (lv_at hl 2 rfl) ?_
      refine lv_iload_n hx hb dX4_bestRow_22 rfl (lv_at hl 3 rfl) ?_
      refine lv_iconst (v := 5) hx hb dX4_bestRow_23 (by decide) ?_
      refine callRd hC (k_X4_of l g ad σ x1 5 h_b (in_iff.mpr (by decide))) ci_X4_of lk_X4_36 ⟨Nat.le_of_ble_eq_true rfl, Nat.le_of_ble_eq_true rfl⟩ hP hK hE (q0 := 0) rfl rfl rfl rfl hl.1 rfl (Nat.le_of_ble_eq_true rfl) dX4_bestRow_24 ⟨Nat.zero_le _, Nat.zero_le _⟩ ?_
      refine lv_icmp_eq (tgt := 43) hx hb dX4_bestRow_27 (by decide) (fun c_3 => ?_) (fun c_3 => ?_)
      · refine lv_iconst (v := 0) hx hb dX4_bestRow_43 (by decide) ?_
        refine lv_istore (lv' := [(4, .int 0), (3, .int u3), (2, .int u2), (0, .ref ad.1), (1, .int x1)]) hx hb dX4_bestRow_44 hl (by decide) rfl (fun ls hl => ?_)
        refine lv_iload hx hb dX4_bestRow_46 (lv_at hl 0 rfl) ?_
        refine lv_if_eq (tgt := 72) hx hb dX4_bestRow_48 (by decide) (fun c_4 => ?_) (fun c_4 => absurd c_4 (by decide))
        refine lv_iload_n hx hb dX4_bestRow_72 rfl (lv_at hl 2 rfl) ?_
        refine lv_istore_n (lv' := [(2, .int u2), (4, .int 0), (3, .int u3), (0, .ref ad.1), (1, .int x1)]) hx hb dX4_bestRow_73 rfl hl (by decide) rfl (fun ls hl => ?_)
        refine lv_iinc (v := (u3 + 1)) (lv' := [(3, .int (u3 + 1)), (2, .int u2), (4, .int 0), (0, .ref ad.1), (1, .int x1)]) hx hb dX4_bestRow_74 hl (k := 2) rfl rfl (by decide) rfl (fun ls hl => ?_)
        refine lv_goto (tgt := 15) hx hb dX4_bestRow_77 (by decide) ?_
        have e9 := up_add (d := 1) (k := 1) (M := 4) rfl hi0 hi1 (by decide) (by decide)
        have e8 := nle_ti (k := 4) rfl c_2
        exact ih (u3 + 1) u2 (by rw [e9]; omega) (by rw [e9]; omega) hbst (by rw [e9]; omega) (by rw [hR, mX4_bestRow_L15, if_neg c_2, if_pos c_3]) _ (lv_sub hl [0, 1, 3, 4] rfl)
      · refine lv_aload_n hx hb dX4_bestRow_30 rfl (lv_at hl 2 rfl) ?_
        refine lv_iload_n hx hb dX4_bestRow_31 rfl (lv_at hl 3 rfl) ?_
        refine lv_iload_n hx hb dX4_bestRow_32 rfl (lv_at hl 0 rfl) ?_
        refine callRd hC (k_X4_hasRoom l g ad σ x1 u3 h_b (in_up (n := 4) rfl hi0 c_2)) ci_X4_hasRoom lk_X4_107 ⟨Nat.le_of_ble_eq_true rfl, Nat.le_of_ble_eq_true rfl⟩ hP hK hE (q0 := 0) rfl rfl rfl rfl hl.1 rfl (Nat.le_of_ble_eq_true rfl) dX4_bestRow_33 ⟨Nat.zero_le _, Nat.zero_le _⟩ ?_
        refine lv_if_eq (tgt := 43) hx hb dX4_bestRow_36 (by decide) (fun c_5 => ?_) (fun c_5 => ?_)
        · refine lv_iconst (v := 0) hx hb dX4_bestRow_43 (by decide) ?_
          refine lv_istore (lv' := [(4, .int 0), (3, .int u3), (2, .int u2), (0, .ref ad.1), (1, .int x1)]) hx hb dX4_bestRow_44 hl (by decide) rfl (fun ls hl => ?_)
          refine lv_iload hx hb dX4_bestRow_46 (lv_at hl 0 rfl) ?_
          refine lv_if_eq (tgt := 72) hx hb dX4_bestRow_48 (by decide) (fun c_6 => ?_) (fun c_6 => absurd c_6 (by decide))
          refine lv_iload_n hx hb dX4_bestRow_72 rfl (lv_at hl 2 rfl) ?_
          refine lv_istore_n (lv' := [(2, .int u2), (4, .int 0), (3, .int u3), (0, .ref ad.1), (1, .int x1)]) hx hb dX4_bestRow_73 rfl hl (by decide) rfl (fun ls hl => ?_)
          refine lv_iinc (v := (u3 + 1)) (lv' := [(3, .int (u3 + 1)), (2, .int u2), (4, .int 0), (0, .ref ad.1), (1, .int x1)]) hx hb dX4_bestRow_74 hl (k := 2) rfl rfl (by decide) rfl (fun ls hl => ?_)
          refine lv_goto (tgt := 15) hx hb dX4_bestRow_77 (by decide) ?_
          have e9 := up_add (d := 1) (k := 1) (M := 4) rfl hi0 hi1 (by decide) (by decide)
          have e8 := nle_ti (k := 4) rfl c_2
          exact ih (u3 + 1) u2 (by rw [e9]; omega) (by rw [e9]; omega) hbst (by rw [e9]; omega) (by rw [hR, mX4_bestRow_L15, if_neg c_2, if_neg c_3, if_pos c_5]) _ (lv_sub hl [0, 1, 3, 4] rfl)
        · refine lv_iconst (v := 1) hx hb dX4_bestRow_39 (by decide) ?_
          refine lv_goto (tgt := 44) hx hb dX4_bestRow_40 (by decide) ?_
          refine lv_istore (lv' := [(4, .int 1), (3, .int u3), (2, .int u2), (0, .ref ad.1), (1, .int x1)]) hx hb dX4_bestRow_44 hl (by decide) rfl (fun ls hl => ?_)
          refine lv_iload hx hb dX4_bestRow_46 (lv_at hl 0 rfl) ?_
          refine lv_if_eq (tgt := 72) hx hb dX4_bestRow_48 (by decide) (fun c_7 => absurd c_7 (by decide)) (fun c_7 => ?_)
          refine lv_iload_n hx hb dX4_bestRow_51 rfl (lv_at hl 2 rfl) ?_
          refine lv_if_lt (tgt := 68) hx hb dX4_bestRow_52 (by decide) (fun c_8 => ?_) (fun c_8 => ?_)
          · refine lv_iload_n hx hb dX4_bestRow_68 rfl (lv_at hl 1 rfl) ?_
            refine lv_goto (tgt := 73) hx hb dX4_bestRow_69 (by decide) ?_
            refine lv_istore_n (lv' := [(2, .int u3), (4, .int 1), (3, .int u3), (0, .ref ad.1), (1, .int x1)]) hx hb dX4_bestRow_73 rfl hl (by decide) rfl (fun ls hl => ?_)
            refine lv_iinc (v := (u3 + 1)) (lv' := [(3, .int (u3 + 1)), (2, .int u3), (4, .int 1), (0, .ref ad.1), (1, .int x1)]) hx hb dX4_bestRow_74 hl (k := 2) rfl rfl (by decide) rfl (fun ls hl => ?_)
            refine lv_goto (tgt := 15) hx hb dX4_bestRow_77 (by decide) ?_
            have e9 := up_add (d := 1) (k := 1) (M := 4) rfl hi0 hi1 (by decide) (by decide)
            have e8 := nle_ti (k := 4) rfl c_2
            exact ih (u3 + 1) u3 (by rw [e9]; omega) (by rw [e9]; omega) (Or.inr (in_up (n := 4) rfl hi0 c_2)) (by rw [e9]; omega) (by rw [hR, mX4_bestRow_L15, if_neg c_2, if_neg c_3, if_neg c_5, if_pos c_8]) _ (lv_sub hl [0, 1, 3, 4] rfl)
          · refine lv_aload_n hx hb dX4_bestRow_55 rfl (lv_at hl 3 rfl) ?_
            refine lv_iload_n hx hb dX4_bestRow_56 rfl (lv_at hl 1 rfl) ?_
            refine callRd hC (k_X4_metresLeft l g ad σ u3 (in_up (n := 4) rfl hi0 c_2)) ci_X4_metresLeft lk_X4_61 ⟨Nat.le_of_ble_eq_true rfl, Nat.le_of_ble_eq_true rfl⟩ hP hK hE (q0 := 0) rfl rfl rfl rfl hl.1 rfl (Nat.le_of_ble_eq_true rfl) dX4_bestRow_57 ⟨Nat.zero_le _, Nat.zero_le _⟩ ?_
            refine lv_aload_n hx hb dX4_bestRow_60 rfl (lv_at hl 3 rfl) ?_
            refine lv_iload_n hx hb dX4_bestRow_61 rfl (lv_at hl 2 rfl) ?_
            refine callRd hC (k_X4_metresLeft l g ad σ u2 (best_in hbst c_8)) ci_X4_metresLeft lk_X4_61 ⟨Nat.le_of_ble_eq_true rfl, Nat.le_of_ble_eq_true rfl⟩ hP hK hE (q0 := 0) rfl rfl rfl rfl hl.1 rfl (Nat.le_of_ble_eq_true rfl) dX4_bestRow_62 ⟨Nat.zero_le _, Nat.zero_le _⟩ ?_
            refine lv_icmp_ge (tgt := 72) hx hb dX4_bestRow_65 (by decide) (fun c_9 => ?_) (fun c_9 => ?_)
            · refine lv_iload_n hx hb dX4_bestRow_72 rfl (lv_at hl 2 rfl) ?_
              refine lv_istore_n (lv' := [(2, .int u2), (4, .int 1), (3, .int u3), (0, .ref ad.1), (1, .int x1)]) hx hb dX4_bestRow_73 rfl hl (by decide) rfl (fun ls hl => ?_)
              refine lv_iinc (v := (u3 + 1)) (lv' := [(3, .int (u3 + 1)), (2, .int u2), (4, .int 1), (0, .ref ad.1), (1, .int x1)]) hx hb dX4_bestRow_74 hl (k := 2) rfl rfl (by decide) rfl (fun ls hl => ?_)
              refine lv_goto (tgt := 15) hx hb dX4_bestRow_77 (by decide) ?_
              have e9 := up_add (d := 1) (k := 1) (M := 4) rfl hi0 hi1 (by decide) (by decide)
              have e8 := nle_ti (k := 4) rfl c_2
              exact ih (u3 + 1) u2 (by rw [e9]; omega) (by rw [e9]; omega) hbst (by rw [e9]; omega) (by rw [hR, mX4_bestRow_L15, if_neg c_2, if_neg c_3, if_neg c_5, if_neg c_8, if_pos c_9]) _ (lv_sub hl [0, 1, 3, 4] rfl)
            · refine lv_iload_n hx hb dX4_bestRow_68 rfl (lv_at hl 1 rfl) ?_
              refine lv_goto (tgt := 73) hx hb dX4_bestRow_69 (by decide) ?_
              refine lv_istore_n (lv' := [(2, .int u3), (4, .int 1), (3, .int u3), (0, .ref ad.1), (1, .int x1)]) hx hb dX4_bestRow_73 rfl hl (by decide) rfl (fun ls hl => ?_)
              refine lv_iinc (v := (u3 + 1)) (lv' := [(3, .int (u3 + 1)), (2, .int u3), (4, .int 1), (0, .ref ad.1), (1, .int x1)]) hx hb dX4_bestRow_74 hl (k := 2) rfl rfl (by decide) rfl (fun ls hl => ?_)
              refine lv_goto (tgt := 15) hx hb dX4_bestRow_77 (by decide) ?_
              have e9 := up_add (d := 1) (k := 1) (M := 4) rfl hi0 hi1 (by decide) (by decide)
              have e8 := nle_ti (k := 4) rfl c_2
              exact ih (u3 + 1) u3 (by rw [e9]; omega) (by rw [e9]; omega) (Or.inr (in_up (n := 4) rfl hi0 c_2)) (by rw [e9]; omega) (by rw [hR, mX4_bestRow_L15, if_neg c_2, if_neg c_3, if_neg c_5, if_neg c_8, if_neg c_9]) _ (lv_sub hl [0, 1, 3, 4] rfl)
def mX4_bestRow (σ : MS) (x1 : Int32) : Int32 := (if (mX4_isBoat σ x1) = 0 then (-1) else (mX4_bestRow_L15 σ x1 6 0 (-5)))
set_option maxHeartbeats 4000000 in
set_option maxRecDepth 100000 in
theorem k_X4_bestRow (l : Launch) (g : WG) (ad : AM) (σ : MS) (x1 : Int32) : Rd l yX4_bestRow cX4_bestRow 5 (some .int) 5 (Wl g (cM g ad σ) (fun _ => False)) [.ref ad.1, .int x1] (mX4_bestRow σ x1) := by
  refine rd_of (by decide) (Nat.le_of_ble_eq_true rfl) ?_
  intro p e s m args below meth c ls hC hW hl
  obtain ⟨hP, hK, hE⟩ := hW
  obtain ⟨hx, hb, hml, hr, hown, hts, hlk, hnm⟩ := id hC
  have hl : lv_has ls 5 [(0, .ref ad.1), (1, .int x1)] := hl
  refine lv_aload_n hx hb dX4_bestRow_0 rfl (lv_at hl 0 rfl) ?_
  refine lv_iload_n hx hb dX4_bestRow_1 rfl (lv_at hl 1 rfl) ?_
  refine callRd hC (k_X4_isBoat l g ad σ x1) ci_X4_isBoat lk_X4_92 ⟨Nat.le_of_ble_eq_true rfl, Nat.le_of_ble_eq_true rfl⟩ hP hK hE (q0 := 0) rfl rfl rfl rfl hl.1 rfl (Nat.le_of_ble_eq_true rfl) dX4_bestRow_2 ⟨Nat.zero_le _, Nat.zero_le _⟩ ?_
  refine lv_if_ne (tgt := 10) hx hb dX4_bestRow_5 (by decide) (fun c_1 => ?_) (fun c_1 => ?_)
  · refine lv_bipush (v := (-5)) hx hb dX4_bestRow_10 (by decide) ?_
    refine lv_istore_n (lv' := [(2, .int (-5)), (0, .ref ad.1), (1, .int x1)]) hx hb dX4_bestRow_12 rfl hl (by decide) rfl (fun ls hl => ?_)
    refine lv_iconst (v := 0) hx hb dX4_bestRow_13 (by decide) ?_
    refine lv_istore_n (lv' := [(3, .int 0), (2, .int (-5)), (0, .ref ad.1), (1, .int x1)]) hx hb dX4_bestRow_14 rfl hl (by decide) rfl (fun ls hl => ?_)
    refine q_X4_bestRow_15 l g ad σ x1 (in_X4_isBoat c_1) hC hP hK hE 6 0 (-5) (by decide) (by decide) (Or.inl rfl) (by decide) ?_ _ (lv_sub hl [0, 1, 2, 3] rfl)
    exact by unfold mX4_bestRow; rw [if_neg c_1]
  · refine lv_iconst (v := (-1)) hx hb dX4_bestRow_8 (by decide) ?_
    exact rd_ret hC dX4_bestRow_9 (Eq.symm (by unfold mX4_bestRow; rw [if_pos c_1]))
def mX4_count_L7 (σ : MS) (x1 : Int32) : Nat → Int32 → Int32 → Int32 → Int32
  | 0, _, _, _ => 0
  | n + 1, u4, u3, u2 => (if 20 ≤ u4 then (if x1 = 0 then ((M_z σ) (0 : Int32).toNatClampNeg) else (if x1 = 1 then (mX4_tideAt σ ((M_z σ) (0 : Int32).toNatClampNeg)) else (if x1 = 2 then (mX4_liftsLeft σ) else (if x1 = 3 then (mX4_boats σ) else (if x1 = 4 then u2 else (if x1 = 5 then u3 else (if x1 = 6 then ((M_z σ) (5 : Int32).toNatClampNeg) else (if x1 = 7 then ((M_z σ) (6 : Int32).toNatClampNeg) else (if x1 = 8 then (mX4_mastsIn σ (x1 - 8)) else (if x1 = 9 then (mX4_mastsIn σ (x1 - 8)) else (if x1 = 10 then ((M_z σ) ((2 + x1) - 10).toNatClampNeg) else (if x1 = 11 then ((M_z σ) ((2 + x1) - 10).toNatClampNeg) else (if x1 = 12 then ((M_z σ) ((2 + x1) - 10).toNatClampNeg) else (if x1 = 13 then (M_states σ) else (if x1 = 14 then (M_length σ) else (-2)))))))))))))))) else (if (mX4_of σ u4 0) = 1 then (if (mX4_isAshore σ u4) = 0 then (if (mX4_of σ u4 0) = 1 then (if (mX4_of σ u4 8) ≤ 0 then (mX4_count_L7 σ x1 n (u4 + 1) (u3 + 0) (u2 + 0)) else (mX4_count_L7 σ x1 n (u4 + 1) (u3 + 1) (u2 + 0))) else (mX4_count_L7 σ x1 n (u4 + 1) (u3 + 0) (u2 + 0))) else (if (mX4_of σ u4 0) = 1 then (if (mX4_of σ u4 8) ≤ 0 then (mX4_count_L7 σ x1 n (u4 + 1) (u3 + 0) (u2 + 1)) else (mX4_count_L7 σ x1 n (u4 + 1) (u3 + 1) (u2 + 1))) else (mX4_count_L7 σ x1 n (u4 + 1) (u3 + 0) (u2 + 1)))) else (if (mX4_of σ u4 0) = 1 then (if (mX4_of σ u4 8) ≤ 0 then (mX4_count_L7 σ x1 n (u4 + 1) (u3 + 0) (u2 + 0)) else (mX4_count_L7 σ x1 n (u4 + 1) (u3 + 1) (u2 + 0))) else (mX4_count_L7 σ x1 n (u4 + 1) (u3 + 0) (u2 + 0)))))
set_option maxHeartbeats 4000000 in
set_option maxRecDepth 100000 in
theorem q_X4_count_7 {p : Program} {e : Env} {s : State} {m : MethodId} {args : Array Value} {below : List Frame} {meth : Method} {c : Code} (l : Launch) (g : WG) (ad : AM) (σ : MS) (x1 : Int32) (hC : Cx p s m args meth c yX4_count cX4_count 5 (some .int)) (hP : va_P g.1 vwCl (cM g ad σ) s.heap) (hK : va_K g.1 vwCl (tysW g) s) (hE : Ex (fun _ => False) s s.heap) {r : Int32} : ∀ (n : Nat) (u4 : Int32) (u3 : Int32) (u2 : Int32) (hi0 : 0 ≤ u4.toInt) (hi1 : u4.toInt ≤ 20) (hm : ((21 : Int) - u4.toInt).toNat < n) (hR : r = mX4_count_L7 σ x1 n u4 u3 u2) (ls : Array Slot) (hl : lv_has ls 5 [(4, .int u4), (3, .int u3), (2, .int u2), (0, .ref ad.1), (1, .int x1)]), W p l e (rk 2) s m args below meth c s.heap [] 0 0 (MQ below (vp_Si (fun x => x = r)) args s 0 0 (fun _ => False)) (F0 m 7 ls []) := by
  obtain ⟨hx, hb, hml, hr, hown, hts, hlk, hnm⟩ := id hC
  intro n
  induction n with
  | zero => intro u4 u3 u2 hi0 hi1 hm hR ls hl; exact absurd hm (Nat.not_lt_zero _)
  | succ n ih =>
    intro u4 u3 u2 hi0 hi1 hm hR ls hl
    refine lv_iload hx hb dX4_count_7 (lv_at hl 0 rfl) ?_
    refine lv_bipush (v := 20) hx hb dX4_count_9 (by decide) ?_
    refine lv_icmp_ge (tgt := 78) hx hb dX4_count_11 (by decide) (fun c_1 => ?_) (fun c_1 => ?_)
    · refine lv_iload_n hx hb dX4_count_78 rfl (lv_at hl 4 rfl) ?_
      by_cases c_2 : x1 = 0
      · refine lv_tableIn (tgt := 152) (off := 73) hx hb dX4_count_79 (by rw [c_2]; decide) (by rw [c_2]; decide) (by rw [c_2]; rfl) (by decide) ?_
        refine lv_aload_n hx hb dX4_count_152 rfl (lv_at hl 3 rfl) ?_
        refine gM_z hC rfl hK hP dX4_count_153 ?_
        refine lv_iconst (v := 0) hx hb dX4_count_156 (by decide) ?_
        refine lM_z hC hK hP (in_iff.mpr (by decide)) dX4_count_157 ?_
        exact rd_ret hC dX4_count_158 (Eq.symm (by rw [hR, mX4_count_L7, if_pos c_1, if_pos c_2]))
      · by_cases c_3 : x1 = 1
        · refine lv_tableIn (tgt := 159) (off := 80) hx hb dX4_count_79 (by rw [c_3]; decide) (by rw [c_3]; decide) (by rw [c_3]; rfl) (by decide) ?_
          refine lv_aload_n hx hb dX4_count_159 rfl (lv_at hl 3 rfl) ?_
          refine lv_aload_n hx hb dX4_count_160 rfl (lv_at hl 3 rfl) ?_
          refine gM_z hC rfl hK hP dX4_count_161 ?_
          refine lv_iconst (v := 0) hx hb dX4_count_164 (by decide) ?_
          refine lM_z hC hK hP (in_iff.mpr (by decide)) dX4_count_165 ?_
          refine callRd hC (k_X4_tideAt l g ad σ ((M_z σ) (0 : Int32).toNatClampNeg)) ci_X4_tideAt lk_X4_101 ⟨Nat.le_of_ble_eq_true rfl, Nat.le_of_ble_eq_true rfl⟩ hP hK hE (q0 := 0) rfl rfl rfl rfl hl.1 rfl (Nat.le_of_ble_eq_true rfl) dX4_count_166 ⟨Nat.zero_le _, Nat.zero_le _⟩ ?_
          exact rd_ret hC dX4_count_169 (Eq.symm (by rw [hR, mX4_count_L7, if_pos c_1, if_neg c_2, if_pos c_3]))
        · by_cases c_4 : x1 = 2
          · refine lv_tableIn (tgt := 170) (off := 91) hx hb dX4_count_79 (by rw [c_4]; decide) (by rw [c_4]; decide) (by rw [c_4]; rfl) (by decide) ?_
            refine lv_aload_n hx hb dX4_count_170 rfl (lv_at hl 3 rfl) ?_
            refine callRd hC (k_X4_liftsLeft l g ad σ) ci_X4_liftsLeft lk_X4_110 ⟨Nat.le_of_ble_eq_true rfl, Nat.le_of_ble_eq_true rfl⟩ hP hK hE (q0 := 0) rfl rfl rfl rfl hl.1 rfl (Nat.le_of_ble_eq_true rfl) dX4_count_171 ⟨Nat.zero_le _, Nat.zero_le _⟩ ?_
            exact rd_ret hC dX4_count_174 (Eq.symm (by rw [hR, mX4_count_L7, if_pos c_1, if_neg c_2, if_neg c_3, if_pos c_4]))
          · by_cases c_5 : x1 = 3
            · refine lv_tableIn (tgt := 175) (off := 96) hx hb dX4_count_79 (by rw [c_5]; decide) (by rw [c_5]; decide) (by rw [c_5]; rfl) (by decide) ?_
              refine lv_aload_n hx hb dX4_count_175 rfl (lv_at hl 3 rfl) ?_
              refine callRd hC (k_X4_boats l g ad σ) ci_X4_boats lk_X4_81 ⟨Nat.le_of_ble_eq_true rfl, Nat.le_of_ble_eq_true rfl⟩ hP hK hE (q0 := 0) rfl rfl rfl rfl hl.1 rfl (Nat.le_of_ble_eq_true rfl) dX4_count_176 ⟨Nat.zero_le _, Nat.zero_le _⟩ ?_
              exact rd_ret hC dX4_count_179 (Eq.symm (by rw [hR, mX4_count_L7, if_pos c_1, if_neg c_2, if_neg c_3, if_neg c_4, if_pos c_5]))
            · by_cases c_6 : x1 = 4
              · refine lv_tableIn (tgt := 180) (off := 101) hx hb dX4_count_79 (by rw [c_6]; decide) (by rw [c_6]; decide) (by rw [c_6]; rfl) (by decide) ?_
                refine lv_iload_n hx hb dX4_count_180 rfl (lv_at hl 2 rfl) ?_
                exact rd_ret hC dX4_count_181 (Eq.symm (by rw [hR, mX4_count_L7, if_pos c_1, if_neg c_2, if_neg c_3, if_neg c_4, if_neg c_5, if_pos c_6]))
              · by_cases c_7 : x1 = 5
                · refine lv_tableIn (tgt := 182) (off := 103) hx hb dX4_count_79 (by rw [c_7]; decide) (by rw [c_7]; decide) (by rw [c_7]; rfl) (by decide) ?_
                  refine lv_iload_n hx hb dX4_count_182 rfl (lv_at hl 1 rfl) ?_
                  exact rd_ret hC dX4_count_183 (Eq.symm (by rw [hR, mX4_count_L7, if_pos c_1, if_neg c_2, if_neg c_3, if_neg c_4, if_neg c_5, if_neg c_6, if_pos c_7]))
                · by_cases c_8 : x1 = 6
                  · refine lv_tableIn (tgt := 184) (off := 105) hx hb dX4_count_79 (by rw [c_8]; decide) (by rw [c_8]; decide) (by rw [c_8]; rfl) (by decide) ?_
                    refine lv_aload_n hx hb dX4_count_184 rfl (lv_at hl 3 rfl) ?_
                    refine gM_z hC rfl hK hP dX4_count_185 ?_
                    refine lv_iconst (v := 5) hx hb dX4_count_188 (by decide) ?_
                    refine lM_z hC hK hP (in_iff.mpr (by decide)) dX4_count_189 ?_
                    exact rd_ret hC dX4_count_190 (Eq.symm (by rw [hR, mX4_count_L7, if_pos c_1, if_neg c_2, if_neg c_3, if_neg c_4, if_neg c_5, if_neg c_6, if_neg c_7, if_pos c_8]))
                  · by_cases c_9 : x1 = 7
                    · refine lv_tableIn (tgt := 191) (off := 112) hx hb dX4_count_79 (by rw [c_9]; decide) (by rw [c_9]; decide) (by rw [c_9]; rfl) (by decide) ?_
                      refine lv_aload_n hx hb dX4_count_191 rfl (lv_at hl 3 rfl) ?_
                      refine gM_z hC rfl hK hP dX4_count_192 ?_
                      refine lv_bipush (v := 6) hx hb dX4_count_195 (by decide) ?_
                      refine lM_z hC hK hP (in_iff.mpr (by decide)) dX4_count_197 ?_
                      exact rd_ret hC dX4_count_198 (Eq.symm (by rw [hR, mX4_count_L7, if_pos c_1, if_neg c_2, if_neg c_3, if_neg c_4, if_neg c_5, if_neg c_6, if_neg c_7, if_neg c_8, if_pos c_9]))
                    · by_cases c_10 : x1 = 8
                      · refine lv_tableIn (tgt := 199) (off := 120) hx hb dX4_count_79 (by rw [c_10]; decide) (by rw [c_10]; decide) (by rw [c_10]; rfl) (by decide) ?_
                        refine lv_aload_n hx hb dX4_count_199 rfl (lv_at hl 3 rfl) ?_
                        refine lv_iload_n hx hb dX4_count_200 rfl (lv_at hl 4 rfl) ?_
                        refine lv_bipush (v := 8) hx hb dX4_count_201 (by decide) ?_
                        refine lv_isub hx hb dX4_count_203 ?_
                        refine callRd hC (k_X4_mastsIn l g ad σ (x1 - 8)) ci_X4_mastsIn lk_X4_147 ⟨Nat.le_of_ble_eq_true rfl, Nat.le_of_ble_eq_true rfl⟩ hP hK hE (q0 := 0) rfl rfl rfl rfl hl.1 rfl (Nat.le_of_ble_eq_true rfl) dX4_count_204 ⟨Nat.zero_le _, Nat.zero_le _⟩ ?_
                        exact rd_ret hC dX4_count_207 (Eq.symm (by rw [hR, mX4_count_L7, if_pos c_1, if_neg c_2, if_neg c_3, if_neg c_4, if_neg c_5, if_neg c_6, if_neg c_7, if_neg c_8, if_neg c_9, if_pos c_10]))
                      · by_cases c_11 : x1 = 9
                        · refine lv_tableIn (tgt := 199) (off := 120) hx hb dX4_count_79 (by rw [c_11]; decide) (by rw [c_11]; decide) (by rw [c_11]; rfl) (by decide) ?_
                          refine lv_aload_n hx hb dX4_count_199 rfl (lv_at hl 3 rfl) ?_
                          refine lv_iload_n hx hb dX4_count_200 rfl (lv_at hl 4 rfl) ?_
                          refine lv_bipush (v := 8) hx hb dX4_count_201 (by decide) ?_
                          refine lv_isub hx hb dX4_count_203 ?_
                          refine callRd hC (k_X4_mastsIn l g ad σ (x1 - 8)) ci_X4_mastsIn lk_X4_147 ⟨Nat.le_of_ble_eq_true rfl, Nat.le_of_ble_eq_true rfl⟩ hP hK hE (q0 := 0) rfl rfl rfl rfl hl.1 rfl (Nat.le_of_ble_eq_true rfl) dX4_count_204 ⟨Nat.zero_le _, Nat.zero_le _⟩ ?_
                          exact rd_ret hC dX4_count_207 (Eq.symm (by rw [hR, mX4_count_L7, if_pos c_1, if_neg c_2, if_neg c_3, if_neg c_4, if_neg c_5, if_neg c_6, if_neg c_7, if_neg c_8, if_neg c_9, if_neg c_10, if_pos c_11]))
                        · by_cases c_12 : x1 = 10
                          · refine lv_tableIn (tgt := 208) (off := 129) hx hb dX4_count_79 (by rw [c_12]; decide) (by rw [c_12]; decide) (by rw [c_12]; rfl) (by decide) ?_
                            refine lv_aload_n hx hb dX4_count_208 rfl (lv_at hl 3 rfl) ?_
                            refine gM_z hC rfl hK hP dX4_count_209 ?_
                            refine lv_iconst (v := 2) hx hb dX4_count_212 (by decide) ?_
                            refine lv_iload_n hx hb dX4_count_213 rfl (lv_at hl 4 rfl) ?_
                            refine lv_iadd hx hb dX4_count_214 ?_
                            refine lv_bipush (v := 10) hx hb dX4_count_215 (by decide) ?_
                            refine lv_isub hx hb dX4_count_217 ?_
                            refine lM_z hC hK hP (by rw [c_12]; exact in_iff.mpr (by decide)) dX4_count_218 ?_
                            exact rd_ret hC dX4_count_219 (Eq.symm (by rw [hR, mX4_count_L7, if_pos c_1, if_neg c_2, if_neg c_3, if_neg c_4, if_neg c_5, if_neg c_6, if_neg c_7, if_neg c_8, if_neg c_9, if_neg c_10, if_neg c_11, if_pos c_12]))
                          · by_cases c_13 : x1 = 11
                            · refine lv_tableIn (tgt := 208) (off := 129) hx hb dX4_count_79 (by rw [c_13]; decide) (by rw [c_13]; decide) (by rw [c_13]; rfl) (by decide) ?_
                              refine lv_aload_n hx hb dX4_count_208 rfl (lv_at hl 3 rfl) ?_
                              refine gM_z hC rfl hK hP dX4_count_209 ?_
                              refine lv_iconst (v := 2) hx hb dX4_count_212 (by decide) ?_
                              refine lv_iload_n hx hb dX4_count_213 rfl (lv_at hl 4 rfl) ?_
                              refine lv_iadd hx hb dX4_count_214 ?_
                              refine lv_bipush (v := 10) hx hb dX4_count_215 (by decide) ?_
                              refine lv_isub hx hb dX4_count_217 ?_
                              refine lM_z hC hK hP (by rw [c_13]; exact in_iff.mpr (by decide)) dX4_count_218 ?_
                              exact rd_ret hC dX4_count_219 (Eq.symm (by rw [hR, mX4_count_L7, if_pos c_1, if_neg c_2, if_neg c_3, if_neg c_4, if_neg c_5, if_neg c_6, if_neg c_7, if_neg c_8, if_neg c_9, if_neg c_10, if_neg c_11, if_neg c_12, if_pos c_13]))
                            · by_cases c_14 : x1 = 12
                              · refine lv_tableIn (tgt := 208) (off := 129) hx hb dX4_count_79 (by rw [c_14]; decide) (by rw [c_14]; decide) (by rw [c_14]; rfl) (by decide) ?_
                                refine lv_aload_n hx hb dX4_count_208 rfl (lv_at hl 3 rfl) ?_
                                refine gM_z hC rfl hK hP dX4_count_209 ?_
                                refine lv_iconst (v := 2) hx hb dX4_count_212 (by decide) ?_
                                refine lv_iload_n hx hb dX4_count_213 rfl (lv_at hl 4 rfl) ?_
                                refine lv_iadd hx hb dX4_count_214 ?_
                                refine lv_bipush (v := 10) hx hb dX4_count_215 (by decide) ?_
                                refine lv_isub hx hb dX4_count_217 ?_
                                refine lM_z hC hK hP (by rw [c_14]; exact in_iff.mpr (by decide)) dX4_count_218 ?_
                                exact rd_ret hC dX4_count_219 (Eq.symm (by rw [hR, mX4_count_L7, if_pos c_1, if_neg c_2, if_neg c_3, if_neg c_4, if_neg c_5, if_neg c_6, if_neg c_7, if_neg c_8, if_neg c_9, if_neg c_10, if_neg c_11, if_neg c_12, if_neg c_13, if_pos c_14]))
                              · by_cases c_15 : x1 = 13
                                · refine lv_tableIn (tgt := 220) (off := 141) hx hb dX4_count_79 (by rw [c_15]; decide) (by rw [c_15]; decide) (by rw [c_15]; rfl) (by decide) ?_
                                  refine lv_aload_n hx hb dX4_count_220 rfl (lv_at hl 3 rfl) ?_
                                  refine gM_states hC rfl hK hP dX4_count_221 ?_
                                  exact rd_ret hC dX4_count_224 (Eq.symm (by rw [hR, mX4_count_L7, if_pos c_1, if_neg c_2, if_neg c_3, if_neg c_4, if_neg c_5, if_neg c_6, if_neg c_7, if_neg c_8, if_neg c_9, if_neg c_10, if_neg c_11, if_neg c_12, if_neg c_13, if_neg c_14, if_pos c_15]))
                                · by_cases c_16 : x1 = 14
                                  · refine lv_tableIn (tgt := 225) (off := 146) hx hb dX4_count_79 (by rw [c_16]; decide) (by rw [c_16]; decide) (by rw [c_16]; rfl) (by decide) ?_
                                    refine lv_aload_n hx hb dX4_count_225 rfl (lv_at hl 3 rfl) ?_
                                    refine gM_length hC rfl hK hP dX4_count_226 ?_
                                    exact rd_ret hC dX4_count_229 (Eq.symm (by rw [hR, mX4_count_L7, if_pos c_1, if_neg c_2, if_neg c_3, if_neg c_4, if_neg c_5, if_neg c_6, if_neg c_7, if_neg c_8, if_neg c_9, if_neg c_10, if_neg c_11, if_neg c_12, if_neg c_13, if_neg c_14, if_neg c_15, if_pos c_16]))
                                  · refine lv_tableOut (tgt := 230) hx hb dX4_count_79 (by have zc_2 := lv_neT c_2 (a := 0) rfl; have zc_3 := lv_neT c_3 (a := 1) rfl; have zc_4 := lv_neT c_4 (a := 2) rfl; have zc_5 := lv_neT c_5 (a := 3) rfl; have zc_6 := lv_neT c_6 (a := 4) rfl; have zc_7 := lv_neT c_7 (a := 5) rfl; have zc_8 := lv_neT c_8 (a := 6) rfl; have zc_9 := lv_neT c_9 (a := 7) rfl; have zc_10 := lv_neT c_10 (a := 8) rfl; have zc_11 := lv_neT c_11 (a := 9) rfl; have zc_12 := lv_neT c_12 (a := 10) rfl; have zc_13 := lv_neT c_13 (a := 11) rfl; have zc_14 := lv_neT c_14 (a := 12) rfl; have zc_15 := lv_neT c_15 (a := 13) rfl; have zc_16 := lv_neT c_16 (a := 14) rfl; omega) (by decide) ?_
                                    refine lv_bipush (v := (-2)) hx hb dX4_count_230 (by decide) ?_
                                    exact rd_ret hC dX4_count_232 (Eq.symm (by rw [hR, mX4_count_L7, if_pos c_1, if_neg c_2, if_neg c_3, if_neg c_4, if_neg c_5, if_neg c_6, if_neg c_7, if_neg c_8, if_neg c_9, if_neg c_10, if_neg c_11, if_neg c_12, if_neg c_13, if_neg c_14, if_neg c_15, if_neg c_16]))
    · refine lv_iload_n hx hb dX4_count_14 rfl (lv_at hl 2 rfl) ?_
      refine lv_aload_n hx hb dX4_count_15 rfl (lv_at hl 3 rfl) ?_
      refine lv_iload hx hb dX4_count_16 (lv_at hl 0 rfl) ?_
      refine lv_iconst (v := 0) hx hb dX4_count_18 (by decide) ?_
      refine callRd hC (k_X4_of l g ad σ u4 0 (in_up (n := 20) rfl hi0 c_1) (in_iff.mpr (by decide))) ci_X4_of lk_X4_36 ⟨Nat.le_of_ble_eq_true rfl, Nat.le_of_ble_eq_true rfl⟩ hP hK hE (q0 := 0) rfl rfl rfl rfl hl.1 rfl (Nat.le_of_ble_eq_true rfl) dX4_count_19 ⟨Nat.zero_le _, Nat.zero_le _⟩ ?_
      refine lv_iconst (v := 1) hx hb dX4_count_22 (by decide) ?_
      refine lv_icmp_ne (tgt := 39) hx hb dX4_count_23 (by decide) (fun c_17 => ?_) (fun c_17 => ?_)
      · refine lv_iconst (v := 0) hx hb dX4_count_39 (by decide) ?_
        refine lv_iadd hx hb dX4_count_40 ?_
        refine lv_istore_n (lv' := [(2, .int (u2 + 0)), (4, .int u4), (3, .int u3), (0, .ref ad.1), (1, .int x1)]) hx hb dX4_count_41 rfl hl (by decide) rfl (fun ls hl => ?_)
        refine lv_iload_n hx hb dX4_count_42 rfl (lv_at hl 2 rfl) ?_
        refine lv_aload_n hx hb dX4_count_43 rfl (lv_at hl 3 rfl) ?_
        refine lv_iload hx hb dX4_count_44 (lv_at hl 1 rfl) ?_
        refine lv_iconst (v := 0) hx hb dX4_count_46 (by decide) ?_
        refine callRd hC (k_X4_of l g ad σ u4 0 (in_up (n := 20) rfl hi0 c_1) (in_iff.mpr (by decide))) ci_X4_of lk_X4_36 ⟨Nat.le_of_ble_eq_true rfl, Nat.le_of_ble_eq_true rfl⟩ hP hK hE (q0 := 0) rfl rfl rfl rfl hl.1 rfl (Nat.le_of_ble_eq_true rfl) dX4_count_47 ⟨Nat.zero_le _, Nat.zero_le _⟩ ?_
        refine lv_iconst (v := 1) hx hb dX4_count_50 (by decide) ?_
        refine lv_icmp_ne (tgt := 69) hx hb dX4_count_51 (by decide) (fun c_18 => ?_) (fun c_18 => ?_)
        · refine lv_iconst (v := 0) hx hb dX4_count_69 (by decide) ?_
          refine lv_iadd hx hb dX4_count_70 ?_
          refine lv_istore_n (lv' := [(3, .int (u3 + 0)), (2, .int (u2 + 0)), (4, .int u4), (0, .ref ad.1), (1, .int x1)]) hx hb dX4_count_71 rfl hl (by decide) rfl (fun ls hl => ?_)
          refine lv_iinc (v := (u4 + 1)) (lv' := [(4, .int (u4 + 1)), (3, .int (u3 + 0)), (2, .int (u2 + 0)), (0, .ref ad.1), (1, .int x1)]) hx hb dX4_count_72 hl (k := 2) rfl rfl (by decide) rfl (fun ls hl => ?_)
          refine lv_goto (tgt := 7) hx hb dX4_count_75 (by decide) ?_
          have e9 := up_add (d := 1) (k := 1) (M := 20) rfl hi0 hi1 (by decide) (by decide)
          have e8 := nle_ti (k := 20) rfl c_1
          exact ih (u4 + 1) (u3 + 0) (u2 + 0) (by rw [e9]; omega) (by rw [e9]; omega) (by rw [e9]; omega) (by rw [hR, mX4_count_L7, if_neg c_1, if_neg c_17, if_neg c_18]) _ (lv_sub hl [0, 1, 2, 3, 4] rfl)
        · refine lv_aload_n hx hb dX4_count_54 rfl (lv_at hl 3 rfl) ?_
          refine lv_iload hx hb dX4_count_55 (lv_at hl 1 rfl) ?_
          refine lv_bipush (v := 8) hx hb dX4_count_57 (by decide) ?_
          refine callRd hC (k_X4_of l g ad σ u4 8 (in_up (n := 20) rfl hi0 c_1) (in_iff.mpr (by decide))) ci_X4_of lk_X4_36 ⟨Nat.le_of_ble_eq_true rfl, Nat.le_of_ble_eq_true rfl⟩ hP hK hE (q0 := 0) rfl rfl rfl rfl hl.1 rfl (Nat.le_of_ble_eq_true rfl) dX4_count_59 ⟨Nat.zero_le _, Nat.zero_le _⟩ ?_
          refine lv_if_le (tgt := 69) hx hb dX4_count_62 (by decide) (fun c_19 => ?_) (fun c_19 => ?_)
          · refine lv_iconst (v := 0) hx hb dX4_count_69 (by decide) ?_
            refine lv_iadd hx hb dX4_count_70 ?_
            refine lv_istore_n (lv' := [(3, .int (u3 + 0)), (2, .int (u2 + 0)), (4, .int u4), (0, .ref ad.1), (1, .int x1)]) hx hb dX4_count_71 rfl hl (by decide) rfl (fun ls hl => ?_)
            refine lv_iinc (v := (u4 + 1)) (lv' := [(4, .int (u4 + 1)), (3, .int (u3 + 0)), (2, .int (u2 + 0)), (0, .ref ad.1), (1, .int x1)]) hx hb dX4_count_72 hl (k := 2) rfl rfl (by decide) rfl (fun ls hl => ?_)
            refine lv_goto (tgt := 7) hx hb dX4_count_75 (by decide) ?_
            have e9 := up_add (d := 1) (k := 1) (M := 20) rfl hi0 hi1 (by decide) (by decide)
            have e8 := nle_ti (k := 20) rfl c_1
            exact ih (u4 + 1) (u3 + 0) (u2 + 0) (by rw [e9]; omega) (by rw [e9]; omega) (by rw [e9]; omega) (by rw [hR, mX4_count_L7, if_neg c_1, if_neg c_17, if_pos c_18, if_pos c_19]) _ (lv_sub hl [0, 1, 2, 3, 4] rfl)
          · refine lv_iconst (v := 1) hx hb dX4_count_65 (by decide) ?_
            refine lv_goto (tgt := 70) hx hb dX4_count_66 (by decide) ?_
            refine lv_iadd hx hb dX4_count_70 ?_
            refine lv_istore_n (lv' := [(3, .int (u3 + 1)), (2, .int (u2 + 0)), (4, .int u4), (0, .ref ad.1), (1, .int x1)]) hx hb dX4_count_71 rfl hl (by decide) rfl (fun ls hl => ?_)
            refine lv_iinc (v := (u4 + 1)) (lv' := [(4, .int (u4 + 1)), (3, .int (u3 + 1)), (2, .int (u2 + 0)), (0, .ref ad.1), (1, .int x1)]) hx hb dX4_count_72 hl (k := 2) rfl rfl (by decide) rfl (fun ls hl => ?_)
            refine lv_goto (tgt := 7) hx hb dX4_count_75 (by decide) ?_
            have e9 := up_add (d := 1) (k := 1) (M := 20) rfl hi0 hi1 (by decide) (by decide)
            have e8 := nle_ti (k := 20) rfl c_1
            exact ih (u4 + 1) (u3 + 1) (u2 + 0) (by rw [e9]; omega) (by rw [e9]; omega) (by rw [e9]; omega) (by rw [hR, mX4_count_L7, if_neg c_1, if_neg c_17, if_pos c_18, if_neg c_19]) _ (lv_sub hl [0, 1, 2, 3, 4] rfl)
      · refine lv_aload_n hx hb dX4_count_26 rfl (lv_at hl 3 rfl) ?_
        refine lv_iload hx hb dX4_count_27 (lv_at hl 0 rfl) ?_
        refine callRd hC (k_X4_isAshore l g ad σ u4 (in_up (n := 20) rfl hi0 c_1)) ci_X4_isAshore lk_X4_40 ⟨Nat.le_of_ble_eq_true rfl, Nat.le_of_ble_eq_true rfl⟩ hP hK hE (q0 := 0) rfl rfl rfl rfl hl.1 rfl (Nat.le_of_ble_eq_true rfl) dX4_count_29 ⟨Nat.zero_le _, Nat.zero_le _⟩ ?_
        refine lv_if_eq (tgt := 39) hx hb dX4_count_32 (by decide) (fun c_20 => ?_) (fun c_20 => ?_)
        · refine lv_iconst (v := 0) hx hb dX4_count_39 (by decide) ?_
          refine lv_iadd hx hb dX4_count_40 ?_
          refine lv_istore_n (lv' := [(2, .int (u2 + 0)), (4, .int u4), (3, .int u3), (0, .ref ad.1), (1, .int x1)]) hx hb dX4_count_41 rfl hl (by decide) rfl (fun ls hl => ?_)
          refine lv_iload_n hx hb dX4_count_42 rfl (lv_at hl 2 rfl) ?_
          refine lv_aload_n hx hb dX4_count_43 rfl (lv_at hl 3 rfl) ?_
          refine lv_iload hx hb dX4_count_44 (lv_at hl 1 rfl) ?_
          refine lv_iconst (v := 0) hx hb dX4_count_46 (by decide) ?_
          refine callRd hC (k_X4_of l g ad σ u4 0 (in_up (n := 20) rfl hi0 c_1) (in_iff.mpr (by decide))) ci_X4_of lk_X4_36 ⟨Nat.le_of_ble_eq_true rfl, Nat.le_of_ble_eq_true rfl⟩ hP hK hE (q0 := 0) rfl rfl rfl rfl hl.1 rfl (Nat.le_of_ble_eq_true rfl) dX4_count_47 ⟨Nat.zero_le _, Nat.zero_le _⟩ ?_
          refine lv_iconst (v := 1) hx hb dX4_count_50 (by decide) ?_
          refine lv_icmp_ne (tgt := 69) hx hb dX4_count_51 (by decide) (fun c_21 => ?_) (fun c_21 => ?_)
          · refine lv_iconst (v := 0) hx hb dX4_count_69 (by decide) ?_
            refine lv_iadd hx hb dX4_count_70 ?_
            refine lv_istore_n (lv' := [(3, .int (u3 + 0)), (2, .int (u2 + 0)), (4, .int u4), (0, .ref ad.1), (1, .int x1)]) hx hb dX4_count_71 rfl hl (by decide) rfl (fun ls hl => ?_)
            refine lv_iinc (v := (u4 + 1)) (lv' := [(4, .int (u4 + 1)), (3, .int (u3 + 0)), (2, .int (u2 + 0)), (0, .ref ad.1), (1, .int x1)]) hx hb dX4_count_72 hl (k := 2) rfl rfl (by decide) rfl (fun ls hl => ?_)
            refine lv_goto (tgt := 7) hx hb dX4_count_75 (by decide) ?_
            have e9 := up_add (d := 1) (k := 1) (M := 20) rfl hi0 hi1 (by decide) (by decide)
            have e8 := nle_ti (k := 20) rfl c_1
            exact ih (u4 + 1) (u3 + 0) (u2 + 0) (by rw [e9]; omega) (by rw [e9]; omega) (by rw [e9]; omega) (by rw [hR, mX4_count_L7, if_neg c_1, if_pos c_17, if_pos c_20, if_neg c_21]) _ (lv_sub hl [0, 1, 2, 3, 4] rfl)
          · refine lv_aload_n hx hb dX4_count_54 rfl (lv_at hl 3 rfl) ?_
            refine lv_iload hx hb dX4_count_55 (lv_at hl 1 rfl) ?_
            refine lv_bipush (v := 8) hx hb dX4_count_57 (by decide) ?_
            refine callRd hC (k_X4_of l g ad σ u4 8 (in_up (n := 20) rfl hi0 c_1) (in_iff.mpr (by decide))) ci_X4_of lk_X4_36 ⟨Nat.le_of_ble_eq_true rfl, Nat.le_of_ble_eq_true rfl⟩ hP hK hE (q0 := 0) rfl rfl rfl rfl hl.1 rfl (Nat.le_of_ble_eq_true rfl) dX4_count_59 ⟨Nat.zero_le _, Nat.zero_le _⟩ ?_
            refine lv_if_le (tgt := 69) hx hb dX4_count_62 (by decide) (fun c_22 => ?_) (fun c_22 => ?_)
            · refine lv_iconst (v := 0) hx hb dX4_count_69 (by decide) ?_
              refine lv_iadd hx hb dX4_count_70 ?_
              refine lv_istore_n (lv' := [(3, .int (u3 + 0)), (2, .int (u2 + 0)), (4, .int u4), (0, .ref ad.1), (1, .int x1)]) hx hb dX4_count_71 rfl hl (by decide) rfl (fun ls hl => ?_)
              refine lv_iinc (v := (u4 + 1)) (lv' := [(4, .int (u4 + 1)), (3, .int (u3 + 0)), (2, .int (u2 + 0)), (0, .ref ad.1), (1, .int x1)]) hx hb dX4_count_72 hl (k := 2) rfl rfl (by decide) rfl (fun ls hl => ?_)
              refine lv_goto (tgt := 7) hx hb dX4_count_75 (by decide) ?_
              have e9 := up_add (d := 1) (k := 1) (M := 20) rfl hi0 hi1 (by decide) (by decide)
              have e8 := nle_ti (k := 20) rfl c_1
              exact ih (u4 + 1) (u3 + 0) (u2 + 0) (by rw [e9]; omega) (by rw [e9]; omega) (by rw [e9]; omega) (by rw [hR, mX4_count_L7, if_neg c_1, if_pos c_17, if_pos c_20, if_pos c_21, if_pos c_22]) _ (lv_sub hl [0, 1, 2, 3, 4] rfl)
            · refine lv_iconst (v := 1) hx hb dX4_count_65 (by decide) ?_
              refine lv_goto (tgt := 70) hx hb dX4_count_66 (by decide) ?_
              refine lv_iadd hx hb dX4_count_70 ?_
              refine lv_istore_n (lv' := [(3, .int (u3 + 1)), (2, .int (u2 + 0)), (4, .int u4), (0, .ref ad.1), (1, .int x1)]) hx hb dX4_count_71 rfl hl (by decide) rfl (fun ls hl => ?_)
              refine lv_iinc (v := (u4 + 1)) (lv' := [(4, .int (u4 + 1)), (3, .int (u3 + 1)), (2, .int (u2 + 0)), (0, .ref ad.1), (1, .int x1)]) hx hb dX4_count_72 hl (k := 2) rfl rfl (by decide) rfl (fun ls hl => ?_)
              refine lv_goto (tgt := 7) hx hb dX4_count_75 (by decide) ?_
              have e9 := up_add (d := 1) (k := 1) (M := 20) rfl hi0 hi1 (by decide) (by decide)
              have e8 := nle_ti (k := 20) rfl c_1
              exact ih (u4 + 1) (u3 + 1) (u2 + 0) (by rw [e9]; omega) (by rw [e9]; omega) (by rw [e9]; omega) (by rw [hR, mX4_count_L7, if_neg c_1, if_pos c_17, if_pos c_20, if_pos c_21, if_neg c_22]) _ (lv_sub hl [0, 1, 2, 3, 4] rfl)
        · refine lv_iconst (v := 1) hx hb dX4_count_35 (by decide) ?_
          refine lv_goto (tgt := 40) hx hb dX4_count_36 (by decide) ?_
          refine lv_iadd hx hb dX4_count_40 ?_
          refine lv_istore_n (lv' := [(2, .int (u2 + 1)), (4, .int u4), (3, .int u3), (0, .ref ad.1), (1, .int x1)]) hx hb dX4_count_41 rfl hl (by decide) rfl (fun ls hl => ?_)
          refine lv_iload_n hx hb dX4_count_42 rfl (lv_at hl 2 rfl) ?_
          refine lv_aload_n hx hb dX4_count_43 rfl (lv_at hl 3 rfl) ?_
          refine lv_iload hx hb dX4_count_44 (lv_at hl 1 rfl) ?_
          refine lv_iconst (v := 0) hx hb dX4_count_46 (by decide) ?_
          refine callRd hC (k_X4_of l g ad σ u4 0 (in_up (n := 20) rfl hi0 c_1) (in_iff.mpr (by decide))) ci_X4_of lk_X4_36 ⟨Nat.le_of_ble_eq_true rfl, Nat.le_of_ble_eq_true rfl⟩ hP hK hE (q0 := 0) rfl rfl rfl rfl hl.1 rfl (Nat.le_of_ble_eq_true rfl) dX4_count_47 ⟨Nat.zero_le _, Nat.zero_le _⟩ ?_
          refine lv_iconst (v := 1) hx hb dX4_count_50 (by decide) ?_
          refine lv_icmp_ne (tgt := 69) hx hb dX4_count_51 (by decide) (fun c_23 => ?_) (fun c_23 => ?_)
          · refine lv_iconst (v := 0) hx hb dX4_count_69 (by decide) ?_
            refine lv_iadd hx hb dX4_count_70 ?_
            refine lv_istore_n (lv' := [(3, .int (u3 + 0)), (2, .int (u2 + 1)), (4, .int u4), (0, .ref ad.1), (1, .int x1)]) hx hb dX4_count_71 rfl hl (by decide) rfl (fun ls hl => ?_)
            refine lv_iinc (v := (u4 + 1)) (lv' := [(4, .int (u4 + 1)), (3, .int (u3 + 0)), (2, .int (u2 + 1)), (0, .ref ad.1), (1, .int x1)]) hx hb dX4_count_72 hl (k := 2) rfl rfl (by decide) rfl (fun ls hl => ?_)
            refine lv_goto (tgt := 7) hx hb dX4_count_75 (by decide) ?_
            have e9 := up_add (d := 1) (k := 1) (M := 20) rfl hi0 hi1 (by decide) (by decide)
            have e8 := nle_ti (k := 20) rfl c_1
            exact ih (u4 + 1) (u3 + 0) (u2 + 1) (by rw [e9]; omega) (by rw [e9]; omega) (by rw [e9]; omega) (by rw [hR, mX4_count_L7, if_neg c_1, if_pos c_17, if_neg c_20, if_neg c_23]) _ (lv_sub hl [0, 1, 2, 3, 4] rfl)
          · refine lv_aload_n hx hb dX4_count_54 rfl (lv_at hl 3 rfl) ?_
            refine lv_iload hx hb dX4_count_55 (lv_at hl 1 rfl) ?_
            refine lv_bipush (v := 8) hx hb dX4_count_57 (by decide) ?_
            refine callRd hC (k_X4_of l g ad σ u4 8 (in_up (n := 20) rfl hi0 c_1) (in_iff.mpr (by decide))) ci_X4_of lk_X4_36 ⟨Nat.le_of_ble_eq_true rfl, Nat.le_of_ble_eq_true rfl⟩ hP hK hE (q0 := 0) rfl rfl rfl rfl hl.1 rfl (Nat.le_of_ble_eq_true rfl) dX4_count_59 ⟨Nat.zero_le _, Nat.zero_le _⟩ ?_
            refine lv_if_le (tgt := 69) hx hb dX4_count_62 (by decide) (fun c_24 => ?_) (fun c_24 => ?_)
            · refine lv_iconst (v := 0) hx hb dX4_count_69 (by decide) ?_
              refine lv_iadd hx hb dX4_count_70 ?_
              refine lv_istore_n (lv' := [(3, .int (u3 + 0)), (2, .int (u2 + 1)), (4, .int u4), (0, .ref ad.1), (1, .int x1)]) hx hb dX4_count_71 rfl hl (by decide) rfl (fun ls hl => ?_)
              refine lv_iinc (v := (u4 + 1)) (lv' := [(4, .int (u4 + 1)), (3, .int (u3 + 0)), (2, .int (u2 + 1)), (0, .ref ad.1), (1, .int x1)]) hx hb dX4_count_72 hl (k := 2) rfl rfl (by decide) rfl (fun ls hl => ?_)
              refine lv_goto (tgt := 7) hx hb dX4_count_75 (by decide) ?_
              have e9 := up_add (d := 1) (k := 1) (M := 20) rfl hi0 hi1 (by decide) (by decide)
              have e8 := nle_ti (k := 20) rfl c_1
              exact ih (u4 + 1) (u3 + 0) (u2 + 1) (by rw [e9]; omega) (by rw [e9]; omega) (by rw [e9]; omega) (by rw [hR, mX4_count_L7, if_neg c_1, if_pos c_17, if_neg c_20, if_pos c_23, if_pos c_24]) _ (lv_sub hl [0, 1, 2, 3, 4] rfl)
            · refine lv_iconst (v := 1) hx hb dX4_count_65 (by decide) ?_
              refine lv_goto (tgt := 70) hx hb dX4_count_66 (by decide) ?_
              refine lv_iadd hx hb dX4_count_70 ?_
              refine lv_istore_n (lv' := [(3, .int (u3 + 1)), (2, .int (u2 + 1)), (4, .int u4), (0, .ref ad.1), (1, .int x1)]) hx hb dX4_count_71 rfl hl (by decide) rfl (fun ls hl => ?_)
              refine lv_iinc (v := (u4 + 1)) (lv' := [(4, .int (u4 + 1)), (3, .int (u3 + 1)), (2, .int (u2 + 1)), (0, .ref ad.1), (1, .int x1)]) hx hb dX4_count_72 hl (k := 2) rfl rfl (by decide) rfl (fun ls hl => ?_)
              refine lv_goto (tgt := 7) hx hb dX4_count_75 (by decide) ?_
              have e9 := up_add (d := 1) (k := 1) (M := 20) rfl hi0 hi1 (by decide) (by decide)
              have e8 := nle_ti (k := 20) rfl c_1
              exact ih (u4 + 1) (u3 + 1) (u2 + 1) (by rw [e9]; omega) (by rw [e9]; omega) (by rw [e9]; omega) (by rw [hR, mX4_count_L7, if_neg c_1, if_pos c_17, if_neg c_20, if_pos c_23, if_neg c_24]) _ (lv_sub hl [0, 1, 2, 3, 4] rfl)
def mX4_count (σ : MS) (x1 : Int32) : Int32 := (mX4_count_L7 σ x1 22 0 0 0)
set_option maxHeartbeats 4000000 in
set_option maxRecDepth 100000 in
theorem k_X4_count (l : Launch) (g : WG) (ad : AM) (σ : MS) (x1 : Int32) : Rd l yX4_count cX4_count 5 (some .int) 2 (Wl g (cM g ad σ) (fun _ => False)) [.ref ad.1, .int x1] (mX4_count σ x1) := by
  refine rd_of (by decide) (Nat.le_of_ble_eq_true rfl) ?_
  intro p e s m args below meth c ls hC hW hl
  obtain ⟨hP, hK, hE⟩ := hW
  obtain ⟨hx, hb, hml, hr, hown, hts, hlk, hnm⟩ := id hC
  have hl : lv_has ls 5 [(0, .ref ad.1), (1, .int x1)] := hl
  refine lv_iconst (v := 0) hx hb dX4_count_0 (by decide) ?_
  refine lv_istore_n (lv' := [(2, .int 0), (0, .ref ad.1), (1, .int x1)]) hx hb dX4_count_1 rfl hl (by decide) rfl (fun ls hl => ?_)
  refine lv_iconst (v := 0) hx hb dX4_count_2 (by decide) ?_
  refine lv_istore_n (lv' := [(3, .int 0), (2, .int 0), (0, .ref ad.1), (1, .int x1)]) hx hb dX4_count_3 rfl hl (by decide) rfl (fun ls hl => ?_)
  refine lv_iconst (v := 0) hx hb dX4_count_4 (by decide) ?_
  refine lv_istore (lv' := [(4, .int 0), (3, .int 0), (2, .int 0), (0, .ref ad.1), (1, .int x1)]) hx hb dX4_count_5 hl (by decide) rfl (fun ls hl => ?_)
  refine q_X4_count_7 l g ad σ x1 hC hP hK hE 22 0 0 0 (by decide) (by decide) (by decide) ?_ _ (lv_sub hl [0, 1, 2, 3, 4] rfl)
  exact by unfold mX4_count; rfl
