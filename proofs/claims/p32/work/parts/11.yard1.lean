def mX2_cradlesTaken (σ : YS) (x1 : Int32) : Int32 := (mX2_boatsWith σ 6 x1)
set_option maxHeartbeats 4000000 in
set_option maxRecDepth 100000 in
theorem k_X2_cradlesTaken (l : Launch) (g : WG) (ad : AY) (σ : YS) (x1 : Int32) : Rd l yX2_cradlesTaken cX2_cradlesTaken 2 (some .int) 2 (Wl g (cY g ad σ) (fun _ => False)) [.ref ad.1, .int x1] (mX2_cradlesTaken σ x1) := by
  refine rd_of (by decide) (Nat.le_of_ble_eq_true rfl) ?_
  intro p e s m args below meth c ls hC hW hl
  obtain ⟨hP, hK, hE⟩ := hW
  obtain ⟨hx, hb, hml, hr, hown, hts, hlk, hnm⟩ := id hC
  have hl : lv_has ls 2 [(0, .ref ad.1), (1, .int x1)] := hl
  refine lv_aload_n hx hb dX2_cradlesTaken_0 rfl (lv_at hl 0 rfl) ?_
  refine lv_bipush (v := 6) hx hb dX2_cradlesTaken_1 (by decide) ?_
  refine lv_iload_n hx hb dX2_cradlesTaken_3 rfl (lv_at hl 1 rfl) ?_
  refine callRd hC (k_X2_boatsWith l g ad σ 6 x1) ci_X2_boatsWith lk_X2_89 ⟨Nat.le_of_ble_eq_true rfl, Nat.le_of_ble_eq_true rfl⟩ hP hK hE (q0 := 0) rfl rfl rfl rfl hl.1 rfl (Nat.le_of_ble_eq_true rfl) dX2_cradlesTaken_4 ⟨Nat.zero_le _, Nat.zero_le _⟩ ?_
  exact rd_ret hC dX2_cradlesTaken_7 (Eq.symm (by unfold mX2_cradlesTaken; rfl))
def mX2_bearsG (x1 : Int32) : Int32 := (if (mX2_isKind x1) = 0 then (-5) else (tvB x1.toNatClampNeg))
set_option maxHeartbeats 4000000 in
set_option maxRecDepth 100000 in
theorem k_X2_bearsG (l : Launch) (g : WG) (x1 : Int32) : Rd l yX2_bears cX2_bears 1 (some .int) 1 (Wl g [] (fun _ => False)) [.int x1] (mX2_bearsG x1) := by
  refine rd_of (by decide) (Nat.le_of_ble_eq_true rfl) ?_
  intro p e s m args below meth c ls hC hW hl
  obtain ⟨hP, hK, hE⟩ := hW
  obtain ⟨hx, hb, hml, hr, hown, hts, hlk, hnm⟩ := id hC
  have hl : lv_has ls 1 [(0, .int x1)] := hl
  refine lv_iload_n hx hb dX2_bears_0 rfl (lv_at hl 0 rfl) ?_
  refine callRs hC (k_X2_isKind l g x1) ci_X2_isKind lk_X2_63 ⟨Nat.le_of_ble_eq_true rfl, Nat.le_of_ble_eq_true rfl⟩ hK hE rfl hl.1 rfl (Nat.le_of_ble_eq_true rfl) dX2_bears_1 ⟨Nat.zero_le _, Nat.zero_le _⟩ ?_
  refine lv_if_eq (tgt := 15) hx hb dX2_bears_4 (by decide) (fun c_1 => ?_) (fun c_1 => ?_)
  · refine lv_bipush (v := (-5)) hx hb dX2_bears_15 (by decide) ?_
    exact rd_ret hC dX2_bears_17 (Eq.symm (by unfold mX2_bearsG; rw [if_pos c_1]))
  · obtain ⟨t_2, hZt_2, hTt_2⟩ := hE.2.2.2.2
    refine va_gets hx hb hZt_2 va_S.rf hown (hts _ fl_X2_92) (fun _ h => h) dX2_bears_7 ?_
    refine lv_iload_n hx hb dX2_bears_10 rfl (lv_at hl 0 rfl) ?_
    refine va_ti (v := .int (tvB x1.toNatClampNeg)) hx hb hTt_2 va_S.rf (in_X2_isKind c_1) rfl dX2_bears_11 ?_
    refine lv_goto (tgt := 17) hx hb dX2_bears_12 (by decide) ?_
    exact rd_ret hC dX2_bears_17 (Eq.symm (by unfold mX2_bearsG; rw [if_neg c_1]))
def mX2_bears (x1 : Int32) : Int32 := (tvB x1.toNatClampNeg)
theorem ad_X2_bears {x1 : Int32} (h_1 : vp_in x1 3) : mX2_bearsG x1 = mX2_bears x1 := if_neg (ne_X2_isKind h_1)
theorem k_X2_bears (l : Launch) (g : WG) (x1 : Int32) (h_1 : vp_in x1 3) : Rd l yX2_bears cX2_bears 1 (some .int) 1 (Wl g [] (fun _ => False)) [.int x1] (mX2_bears x1) := (ad_X2_bears h_1) ▸ (k_X2_bearsG l g x1)
def mX2_changeCradles (σ : YS) (x1 : Int32) (x2 : Int32) : Int32 × YS := (if (mX2_isKind x1) = 0 then ((-1), σ) else (if (mX3_within x2 0 9) = 0 then ((-2), σ) else (if (mX2_cradlesTaken σ x1) ≤ x2 then (if ((Y_cradles σ) x1.toNatClampNeg) = x2 then ((-5), σ) else (((Y_cradles σ) x1.toNatClampNeg), (Y_set_cradles σ (upd (Y_cradles σ) x1.toNatClampNeg x2)))) else ((-4), σ))))
set_option maxHeartbeats 4000000 in
set_option maxRecDepth 100000 in
theorem k_X2_changeCradles (l : Launch) (g : WG) (ad : AY) (σ : YS) (x1 : Int32) (x2 : Int32) : Wr l yX2_changeCradles cX2_changeCradles 4 (some .int) 3 g (cY g ad σ) (cY g ad (mX2_changeCradles σ x1 x2).2) [.ref ad.1, .int x1, .int x2] (mX2_changeCradles σ x1 x2).1 := by
  refine wr_of (by decide) (Nat.le_of_ble_eq_true rfl) ?_
  intro p e s m args below meth c ls A hC hAe hP hD hK hE hA hS hl
  obtain ⟨hx, hb, hml, hr, hown, hts, hlk, hnm⟩ := id hC
  have hl : lv_has ls 4 [(0, .ref ad.1), (1, .int x1), (2, .int x2)] := hl
  refine lv_iload_n hx hb dX2_changeCradles_0 rfl (lv_at hl 1 rfl) ?_
  refine callRs hC (k_X2_isKind l g x1) ci_X2_isKind lk_X2_63 ⟨Nat.le_of_ble_eq_true rfl, Nat.le_of_ble_eq_true rfl⟩ hK (hE.S hS).none rfl hl.1 rfl (Nat.le_of_ble_eq_true rfl) dX2_changeCradles_1 ⟨Nat.zero_le _, Nat.zero_le _⟩ ?_
  refine lv_if_ne (tgt := 9) hx hb dX2_changeCradles_4 (by decide) (fun c_1 => ?_) (fun c_1 => ?_)
  · refine lv_iload_n hx hb dX2_changeCradles_9 rfl (lv_at hl 2 rfl) ?_
    refine lv_iconst (v := 0) hx hb dX2_changeCradles_10 (by decide) ?_
    refine lv_bipush (v := 9) hx hb dX2_changeCradles_11 (by decide) ?_
    refine callRn hC (k_X3_within l g x2 0 9) ci_X3_within hE.2.1 ⟨Nat.le_of_ble_eq_true rfl, Nat.le_of_ble_eq_true rfl⟩ hK (hE.S hS).none rfl hl.1 rfl (Nat.le_of_ble_eq_true rfl) dX2_changeCradles_13 ⟨Nat.zero_le _, Nat.zero_le _⟩ ?_
    refine lv_if_ne (tgt := 22) hx hb dX2_changeCradles_16 (by decide) (fun c_2 => ?_) (fun c_2 => ?_)
    · refine lv_aload_n hx hb dX2_changeCradles_22 rfl (lv_at hl 0 rfl) ?_
      refine lv_iload_n hx hb dX2_changeCradles_23 rfl (lv_at hl 1 rfl) ?_
      refine callRd hC (k_X2_cradlesTaken l g ad σ x1) ci_X2_cradlesTaken lk_X2_95 ⟨Nat.le_of_ble_eq_true rfl, Nat.le_of_ble_eq_true rfl⟩ hP hK (hE.S hS).none (q0 := 0) rfl rfl rfl rfl hl.1 rfl (Nat.le_of_ble_eq_true rfl) dX2_changeCradles_24 ⟨Nat.zero_le _, Nat.zero_le _⟩ ?_
      refine lv_iload_n hx hb dX2_changeCradles_27 rfl (lv_at hl 2 rfl) ?_
      refine lv_icmp_le (tgt := 34) hx hb dX2_changeCradles_28 (by decide) (fun c_3 => ?_) (fun c_3 => ?_)
      · refine lv_aload_n hx hb dX2_changeCradles_34 rfl (lv_at hl 0 rfl) ?_
        refine gY_cradles hC rfl hK hP dX2_changeCradles_35 ?_
        refine lv_iload_n hx hb dX2_changeCradles_38 rfl (lv_at hl 1 rfl) ?_
        refine lY_cradles hC hK hP (in_X2_isKind c_1) dX2_changeCradles_39 ?_
        refine lv_istore_n (lv' := [(3, .int ((Y_cradles σ) x1.toNatClampNeg)), (0, .ref ad.1), (1, .int x1), (2, .int x2)]) hx hb dX2_changeCradles_40 rfl hl (by decide) rfl (fun ls hl => ?_)
        refine lv_iload_n hx hb dX2_changeCradles_41 rfl (lv_at hl 0 rfl) ?_
        refine lv_iload_n hx hb dX2_changeCradles_42 rfl (lv_at hl 3 rfl) ?_
        refine lv_icmp_ne (tgt := 49) hx hb dX2_changeCradles_43 (by decide) (fun c_4 => ?_) (fun c_4 => ?_)
        · refine lv_aload_n hx hb dX2_changeCradles_49 rfl (lv_at hl 1 rfl) ?_
          refine gY_cradles hC rfl hK hP dX2_changeCradles_50 ?_
          refine lv_iload_n hx hb dX2_changeCradles_53 rfl (lv_at hl 2 rfl) ?_
          refine lv_iload_n hx hb dX2_changeCradles_54 rfl (lv_at hl 3 rfl) ?_
          refine sY_cradles hC hK hP hD hS (in_X2_isKind c_1) dX2_changeCradles_55 (fun H locs hP hD hS => ?_)
          refine lv_iload_n hx hb dX2_changeCradles_56 rfl (lv_at hl 0 rfl) ?_
          have hm : mX2_changeCradles σ x1 x2 = (((Y_cradles σ) x1.toNatClampNeg), (Y_set_cradles σ (upd (Y_cradles σ) x1.toNatClampNeg x2))) := by unfold mX2_changeCradles; rw [if_neg c_1, if_neg c_2, if_pos c_3, if_neg c_4]
          exact wr_ret hC hP (hAe ▸ hD) (hAe ▸ hS) dX2_changeCradles_57 (by rw [hm]) (by rw [hm])
        · refine lv_bipush (v := (-5)) hx hb dX2_changeCradles_46 (by decide) ?_
          have hm : mX2_changeCradles σ x1 x2 = ((-5), σ) := by unfold mX2_changeCradles; rw [if_neg c_1, if_neg c_2, if_pos c_3, if_pos c_4]
          exact wr_ret hC hP (hAe ▸ hD) (hAe ▸ hS) dX2_changeCradles_48 (by rw [hm]) (by rw [hm])
      · refine lv_bipush (v := (-4)) hx hb dX2_changeCradles_31 (by decide) ?_
        have hm : mX2_changeCradles σ x1 x2 = ((-4), σ) := by unfold mX2_changeCradles; rw [if_neg c_1, if_neg c_2, if_neg c_3]
        exact wr_ret hC hP (hAe ▸ hD) (hAe ▸ hS) dX2_changeCradles_33 (by rw [hm]) (by rw [hm])
    · refine lv_bipush (v := (-2)) hx hb dX2_changeCradles_19 (by decide) ?_
      have hm : mX2_changeCradles σ x1 x2 = ((-2), σ) := by unfold mX2_changeCradles; rw [if_neg c_1, if_pos c_2]
      exact wr_ret hC hP (hAe ▸ hD) (hAe ▸ hS) dX2_changeCradles_21 (by rw [hm]) (by rw [hm])
  · refine lv_iconst (v := (-1)) hx hb dX2_changeCradles_7 (by decide) ?_
    have hm : mX2_changeCradles σ x1 x2 = ((-1), σ) := by unfold mX2_changeCradles; rw [if_pos c_1]
    exact wr_ret hC hP (hAe ▸ hD) (hAe ▸ hS) dX2_changeCradles_8 (by rw [hm]) (by rw [hm])
def mX2_hasFreeCradle (σ : YS) (x1 : Int32) : Int32 := (if (mX2_cradlesOf σ x1) ≤ (mX2_boatsWith σ 6 x1) then 0 else 1)
set_option maxHeartbeats 4000000 in
set_option maxRecDepth 100000 in
theorem k_X2_hasFreeCradle (l : Launch) (g : WG) (ad : AY) (σ : YS) (x1 : Int32) (h_1 : vp_in x1 3) : Rd l yX2_hasFreeCradle cX2_hasFreeCradle 2 (some .boolean) 2 (Wl g (cY g ad σ) (fun _ => False)) [.ref ad.1, .int x1] (mX2_hasFreeCradle σ x1) := by
  refine rd_of (by decide) (Nat.le_of_ble_eq_true rfl) ?_
  intro p e s m args below meth c ls hC hW hl
  obtain ⟨hP, hK, hE⟩ := hW
  obtain ⟨hx, hb, hml, hr, hown, hts, hlk, hnm⟩ := id hC
  have hl : lv_has ls 2 [(0, .ref ad.1), (1, .int x1)] := hl
  refine lv_aload_n hx hb dX2_hasFreeCradle_0 rfl (lv_at hl 0 rfl) ?_
  refine lv_bipush (v := 6) hx hb dX2_hasFreeCradle_1 (by decide) ?_
  refine lv_iload_n hx hb dX2_hasFreeCradle_3 rfl (lv_at hl 1 rfl) ?_
  refine callRd hC (k_X2_boatsWith l g ad σ 6 x1) ci_X2_boatsWith lk_X2_89 ⟨Nat.le_of_ble_eq_true rfl, Nat.le_of_ble_eq_true rfl⟩ hP hK hE (q0 := 0) rfl rfl rfl rfl hl.1 rfl (Nat.le_of_ble_eq_true rfl) dX2_hasFreeCradle_4 ⟨Nat.zero_le _, Nat.zero_le _⟩ ?_
  refine lv_aload_n hx hb dX2_hasFreeCradle_7 rfl (lv_at hl 0 rfl) ?_
  refine lv_iload_n hx hb dX2_hasFreeCradle_8 rfl (lv_at hl 1 rfl) ?_
  refine callRd hC (k_X2_cradlesOf l g ad σ x1 h_1) ci_X2_cradlesOf lk_X2_99 ⟨Nat.le_of_ble_eq_true rfl, Nat.le_of_ble_eq_true rfl⟩ hP hK hE (q0 := 0) rfl rfl rfl rfl hl.1 rfl (Nat.le_of_ble_eq_true rfl) dX2_hasFreeCradle_9 ⟨Nat.zero_le _, Nat.zero_le _⟩ ?_
  refine lv_icmp_ge (tgt := 19) hx hb dX2_hasFreeCradle_12 (by decide) (fun c_1 => ?_) (fun c_1 => ?_)
  · refine lv_iconst (v := 0) hx hb dX2_hasFreeCradle_19 (by decide) ?_
    exact rd_zret hC dX2_hasFreeCradle_20 rfl (Eq.symm (by unfold mX2_hasFreeCradle; rw [if_pos c_1]))
  · refine lv_iconst (v := 1) hx hb dX2_hasFreeCradle_15 (by decide) ?_
    refine lv_goto (tgt := 20) hx hb dX2_hasFreeCradle_16 (by decide) ?_
    exact rd_zret hC dX2_hasFreeCradle_20 rfl (Eq.symm (by unfold mX2_hasFreeCradle; rw [if_neg c_1]))
def mX2_otherKindFor (x1 : Int32) : Int32 := (if x1 = 0 then 2 else (if x1 = 2 then 0 else (-5)))
theorem in_X2_other {x : Int32} (c : ¬ mX2_otherKindFor x = -5) : vp_in (mX2_otherKindFor x) 3 := by
  unfold mX2_otherKindFor at c ⊢
  split
  · exact in_iff.mpr (by decide)
  · split
    · exact in_iff.mpr (by decide)
    · rename_i h1 h2
      rw [if_neg h1, if_neg h2] at c
      exact absurd rfl c
set_option maxHeartbeats 4000000 in
set_option maxRecDepth 100000 in
theorem k_X2_otherKindFor (l : Launch) (g : WG) (x1 : Int32) : Rd l yX2_otherKindFor cX2_otherKindFor 1 (some .int) 0 (Wl g [] (fun _ => False)) [.int x1] (mX2_otherKindFor x1) := by
  refine rd_of (by decide) (Nat.le_of_ble_eq_true rfl) ?_
  intro p e s m args below meth c ls hC hW hl
  obtain ⟨hP, hK, hE⟩ := hW
  obtain ⟨hx, hb, hml, hr, hown, hts, hlk, hnm⟩ := id hC
  have hl : lv_has ls 1 [(0, .int x1)] := hl
  refine lv_iload_n hx hb dX2_otherKindFor_0 rfl (lv_at hl 0 rfl) ?_
  refine lv_if_ne (tgt := 6) hx hb dX2_otherKindFor_1 (by decide) (fun c_1 => ?_) (fun c_1 => ?_)
  · refine lv_iload_n hx hb dX2_otherKindFor_6 rfl (lv_at hl 0 rfl) ?_
    refine lv_iconst (v := 2) hx hb dX2_otherKindFor_7 (by decide) ?_
    refine lv_icmp_ne (tgt := 15) hx hb dX2_otherKindFor_8 (by decide) (fun c_2 => ?_) (fun c_2 => ?_)
    · refine lv_bipush (v := (-5)) hx hb dX2_otherKindFor_15 (by decide) ?_
      exact rd_ret hC dX2_otherKindFor_17 (Eq.symm (by unfold mX2_otherKindFor; rw [if_neg c_1, if_neg c_2]))
    · refine lv_iconst (v := 0) hx hb dX2_otherKindFor_11 (by decide) ?_
      refine lv_goto (tgt := 17) hx hb dX2_otherKindFor_12 (by decide) ?_
      exact rd_ret hC dX2_otherKindFor_17 (Eq.symm (by unfold mX2_otherKindFor; rw [if_neg c_1, if_pos c_2]))
  · refine lv_iconst (v := 2) hx hb dX2_otherKindFor_4 (by decide) ?_
    exact rd_ret hC dX2_otherKindFor_5 (Eq.symm (by unfold mX2_otherKindFor; rw [if_pos c_1]))
def mX2_cradleFor (σ : YS) (x1 : Int32) : Int32 := (if (mX2_hasFreeCradle σ (mX2_fact σ x1 3)) = 0 then (if (mX2_otherKindFor (mX2_fact σ x1 3)) = (-5) then (-5) else (if (mX2_hasFreeCradle σ (mX2_otherKindFor (mX2_fact σ x1 3))) = 0 then (-5) else (if (mX2_bears (mX2_otherKindFor (mX2_fact σ x1 3))) < (2 * (mX2_fact σ x1 2)) then (-5) else (mX2_otherKindFor (mX2_fact σ x1 3))))) else (if (mX2_bears (mX2_fact σ x1 3)) < (mX2_fact σ x1 2) then (if (mX2_otherKindFor (mX2_fact σ x1 3)) = (-5) then (-5) else (if (mX2_hasFreeCradle σ (mX2_otherKindFor (mX2_fact σ x1 3))) = 0 then (-5) else (if (mX2_bears (mX2_otherKindFor (mX2_fact σ x1 3))) < (2 * (mX2_fact σ x1 2)) then (-5) else (mX2_otherKindFor (mX2_fact σ x1 3))))) else (mX2_fact σ x1 3)))
set_option maxHeartbeats 4000000 in
set_option maxRecDepth 100000 in
theorem k_X2_cradleFor (l : Launch) (g : WG) (ad : AY) (σ : YS) (x1 : Int32) (h_1 : vp_in x1 20) (h_keel : vp_in (mX2_fact σ x1 3) 3) : Rd l yX2_cradleFor cX2_cradleFor 5 (some .int) 3 (Wl g (cY g ad σ) (fun _ => False)) [.ref ad.1, .int x1] (mX2_cradleFor σ x1) := by
  refine rd_of (by decide) (Nat.le_of_ble_eq_true rfl) ?_
  intro p e s m args below meth c ls hC hW hl
  obtain ⟨hP, hK, hE⟩ := hW
  obtain ⟨hx, hb, hml, hr, hown, hts, hlk, hnm⟩ := id hC
  have hl : lv_has ls 5 [(0, .ref ad.1), (1, .int x1)] := hl
  refine lv_aload_n hx hb dX2_cradleFor_0 rfl (lv_at hl 0 rfl) ?_
  refine lv_iload_n hx hb dX2_cradleFor_1 rfl (lv_at hl 1 rfl) ?_
  refine lv_iconst (v := 3) hx hb dX2_cradleFor_2 (by decide) ?_
  refine callRd hC (k_X2_fact l g ad σ x1 3 h_1 (in_iff.mpr (by decide))) ci_X2_fact lk_X2_47 ⟨Nat.le_of_ble_eq_true rfl, Nat.le_of_ble_eq_true rfl⟩ hP hK hE (q0 := 0) rfl rfl rfl rfl hl.1 rfl (Nat.le_of_ble_eq_true rfl) dX2_cradleFor_3 ⟨Nat.zero_le _, Nat.zero_le _⟩ ?_
  refine lv_istore_n (lv' := [(2, .int (mX2_fact σ x1 3)), (0, .ref ad.1), (1, .int x1)]) hx hb dX2_cradleFor_6 rfl hl (by decide) rfl (fun ls hl => ?_)
  refine lv_aload_n hx hb dX2_cradleFor_7 rfl (lv_at hl 1 rfl) ?_
  refine lv_iload_n hx hb dX2_cradleFor_8 rfl (lv_at hl 2 rfl) ?_
  refine lv_iconst (v := 2) hx hb dX2_cradleFor_9 (by decide) ?_
  refine callRd hC (k_X2_fact l g ad σ x1 2 h_1 (in_iff.mpr (by decide))) ci_X2_fact lk_X2_47 ⟨Nat.le_of_ble_eq_true rfl, Nat.le_of_ble_eq_true rfl⟩ hP hK hE (q0 := 0) rfl rfl rfl rfl hl.1 rfl (Nat.le_of_ble_eq_true rfl) dX2_cradleFor_10 ⟨Nat.zero_le _, Nat.zero_le _⟩ ?_
  refine lv_istore_n (lv' := [(3, .int (mX2_fact σ x1 2)), (2, .int (mX2_fact σ x1 3)), (0, .ref ad.1), (1, .int x1)]) hx hb dX2_cradleFor_13 rfl hl (by decide) rfl (fun ls hl => ?_)
  refine lv_aload_n hx hb dX2_cradleFor_14 rfl (lv_at hl 2 rfl) ?_
  refine lv_iload_n hx hb dX2_cradleFor_15 rfl (lv_at hl 1 rfl) ?_
  refine callRd hC (k_X2_hasFreeCradle l g ad σ (mX2_fact σ x1 3) h_keel) ci_X2_hasFreeCradle lk_X2_102 ⟨Nat.le_of_ble_eq_true rfl, Nat.le_of_ble_eq_true rfl⟩ hP hK hE (q0 := 0) rfl rfl rfl rfl hl.1 rfl (Nat.le_of_ble_eq_true rfl) dX2_cradleFor_16 ⟨Nat.zero_le _, Nat.zero_le _⟩ ?_
  refine lv_if_eq (tgt := 32) hx hb dX2_cradleFor_19 (by decide) (fun c_1 => ?_) (fun c_1 => ?_)
  · refine lv_iload_n hx hb dX2_cradleFor_32 rfl (lv_at hl 1 rfl) ?_
    refine callRs hC (k_X2_otherKindFor l g (mX2_fact σ x1 3)) ci_X2_otherKindFor lk_X2_108 ⟨Nat.le_of_ble_eq_true rfl, Nat.le_of_ble_eq_true rfl⟩ hK hE rfl hl.1 rfl (Nat.le_of_ble_eq_true rfl) dX2_cradleFor_33 ⟨Nat.zero_le _, Nat.zero_le _⟩ ?_
    refine lv_istore (lv' := [(4, .int (mX2_otherKindFor (mX2_fact σ x1 3))), (3, .int (mX2_fact σ x1 2)), (2, .int (mX2_fact σ x1 3)), (0, .ref ad.1), (1, .int x1)]) hx hb dX2_cradleFor_36 hl (by decide) rfl (fun ls hl => ?_)
    refine lv_iload hx hb dX2_cradleFor_38 (lv_at hl 0 rfl) ?_
    refine lv_bipush (v := (-5)) hx hb dX2_cradleFor_40 (by decide) ?_
    refine lv_icmp_eq (tgt := 68) hx hb dX2_cradleFor_42 (by decide) (fun c_2 => ?_) (fun c_2 => ?_)
    · refine lv_bipush (v := (-5)) hx hb dX2_cradleFor_68 (by decide) ?_
      exact rd_ret hC dX2_cradleFor_70 (Eq.symm (by unfold mX2_cradleFor; rw [if_pos c_1, if_pos c_2]))
    · refine lv_aload_n hx hb dX2_cradleFor_45 rfl (lv_at hl 3 rfl) ?_
      refine lv_iload hx hb dX2_cradleFor_46 (lv_at hl 0 rfl) ?_
      refine callRd hC (k_X2_hasFreeCradle l g ad σ (mX2_otherKindFor (mX2_fact σ x1 3)) (in_X2_other c_2)) ci_X2_hasFreeCradle lk_X2_102 ⟨Nat.le_of_ble_eq_true rfl, Nat.le_of_ble_eq_true rfl⟩ hP hK hE (q0 := 0) rfl rfl rfl rfl hl.1 rfl (Nat.le_of_ble_eq_true rfl) dX2_cradleFor_48 ⟨Nat.zero_le _, Nat.zero_le _⟩ ?_
      refine lv_if_eq (tgt := 68) hx hb dX2_cradleFor_51 (by decide) (fun c_3 => ?_) (fun c_3 => ?_)
      · refine lv_bipush (v := (-5)) hx hb dX2_cradleFor_68 (by decide) ?_
        exact rd_ret hC dX2_cradleFor_70 (Eq.symm (by unfold mX2_cradleFor; rw [if_pos c_1, if_neg c_2, if_pos c_3]))
      · refine lv_iconst (v := 2) hx hb dX2_cradleFor_54 (by decide) ?_
        refine lv_iload_n hx hb dX2_cradleFor_55 rfl (lv_at hl 1 rfl) ?_
        refine lv_imul hx hb dX2_cradleFor_56 ?_
        refine lv_iload hx hb dX2_cradleFor_57 (lv_at hl 0 rfl) ?_
        refine callRs hC (k_X2_bears l g (mX2_otherKindFor (mX2_fact σ x1 3)) (in_X2_other c_2)) ci_X2_bears lk_X2_105 ⟨Nat.le_of_ble_eq_true rfl, Nat.le_of_ble_eq_true rfl⟩ hK hE rfl hl.1 rfl (Nat.le_of_ble_eq_true rfl) dX2_cradleFor_59 ⟨Nat.zero_le _, Nat.zero_le _⟩ ?_
        refine lv_icmp_gt (tgt := 68) hx hb dX2_cradleFor_62 (by decide) (fun c_4 => ?_) (fun c_4 => ?_)
        · refine lv_bipush (v := (-5)) hx hb dX2_cradleFor_68 (by decide) ?_
          exact rd_ret hC dX2_cradleFor_70 (Eq.symm (by unfold mX2_cradleFor; rw [if_pos c_1, if_neg c_2, if_neg c_3, if_pos c_4]))
        · refine lv_iload hx hb dX2_cradleFor_65 (lv_at hl 0 rfl) ?_
          exact rd_ret hC dX2_cradleFor_67 (Eq.symm (by unfold mX2_cradleFor; rw [if_pos c_1, if_neg c_2, if_neg c_3, if_neg c_4]))
  · refine lv_iload_n hx hb dX2_cradleFor_22 rfl (lv_at hl 0 rfl) ?_
    refine lv_iload_n hx hb dX2_cradleFor_23 rfl (lv_at hl 1 rfl) ?_
    refine callRs hC (k_X2_bears l g (mX2_fact σ x1 3) h_keel) ci_X2_bears lk_X2_105 ⟨Nat.le_of_ble_eq_true rfl, Nat.le_of_ble_eq_true rfl⟩ hK hE rfl hl.1 rfl (Nat.le_of_ble_eq_true rfl) dX2_cradleFor_24 ⟨Nat.zero_le _, Nat.zero_le _⟩ ?_
    refine lv_icmp_gt (tgt := 32) hx hb dX2_cradleFor_27 (by decide) (fun c_5 => ?_) (fun c_5 => ?_)
    · refine lv_iload_n hx hb dX2_cradleFor_32 rfl (lv_at hl 1 rfl) ?_
      refine callRs hC (k_X2_otherKindFor l g (mX2_fact σ x1 3)) ci_X2_otherKindFor lk_X2_108 ⟨Nat.le_of_ble_eq_true rfl, Nat.le_of_ble_eq_true rfl⟩ hK hE rfl hl.1 rfl (Nat.le_of_ble_eq_true rfl) dX2_cradleFor_33 ⟨Nat.zero_le _, Nat.zero_le _⟩ ?_
      refine lv_istore (lv' := [(4, .int (mX2_otherKindFor (mX2_fact σ x1 3))), (3, .int (mX2_fact σ x1 2)), (2, .int (mX2_fact σ x1 3)), (0, .ref ad.1), (1, .int x1)]) hx hb dX2_cradleFor_36 hl (by decide) rfl (fun ls hl => ?_)
      refine lv_iload hx hb dX2_cradleFor_38 (lv_at hl 0 rfl) ?_
      refine lv_bipush (v := (-5)) hx hb dX2_cradleFor_40 (by decide) ?_
      refine lv_icmp_eq (tgt := 68) hx hb dX2_cradleFor_42 (by decide) (fun c_6 => ?_) (fun c_6 => ?_)
      · refine lv_bipush (v := (-5)) hx hb dX2_cradleFor_68 (by decide) ?_
        exact rd_ret hC dX2_cradleFor_70 (Eq.symm (by unfold mX2_cradleFor; rw [if_neg c_1, if_pos c_5, if_pos c_6]))
      · refine lv_aload_n hx hb dX2_cradleFor_45 rfl (lv_at hl 3 rfl) ?_
        refine lv_iload hx hb dX2_cradleFor_46 (lv_at hl 0 rfl) ?_
        refine callRd hC (k_X2_hasFreeCradle l g ad σ (mX2_otherKindFor (mX2_fact σ x1 3)) (in_X2_other c_6)) ci_X2_hasFreeCradle lk_X2_102 ⟨Nat.le_of_ble_eq_true rfl, Nat.le_of_ble_eq_true rfl⟩ hP hK hE (q0 := 0) rfl rfl rfl rfl hl.1 rfl (Nat.le_of_ble_eq_true rfl) dX2_cradleFor_48 ⟨Nat.zero_le _, Nat.zero_le _⟩ ?_
        refine lv_if_eq (tgt := 68) hx hb dX2_cradleFor_51 (by decide) (fun c_7 => ?_) (fun c_7 => ?_)
        · refine lv_bipush (v := (-5)) hx hb dX2_cradleFor_68 (by decide) ?_
          exact rd_ret hC dX2_cradleFor_70 (Eq.symm (by unfold mX2_cradleFor; rw [if_neg c_1, if_pos c_5, if_neg c_6, if_pos c_7]))
        · refine lv_iconst (v := 2) hx hb dX2_cradleFor_54 (by decide) ?_
          refine lv_iload_n hx hb dX2_cradleFor_55 rfl (lv_at hl 1 rfl) ?_
          refine lv_imul hx hb dX2_cradleFor_56 ?_
          refine lv_iload hx hb dX2_cradleFor_57 (lv_at hl 0 rfl) ?_
          refine callRs hC (k_X2_bears l g (mX2_otherKindFor (mX2_fact σ x1 3)) (in_X2_other c_6)) ci_X2_bears lk_X2_105 ⟨Nat.le_of_ble_eq_true rfl, Nat.le_of_ble_eq_true rfl⟩ hK hE rfl hl.1 rfl (Nat.le_of_ble_eq_true rfl) dX2_cradleFor_59 ⟨Nat.zero_le _, Nat.zero_le _⟩ ?_
          refine lv_icmp_gt (tgt := 68) hx hb dX2_cradleFor_62 (by decide) (fun c_8 => ?_) (fun c_8 => ?_)
          · refine lv_bipush (v := (-5)) hx hb dX2_cradleFor_68 (by decide) ?_
            exact rd_ret hC dX2_cradleFor_70 (Eq.symm (by unfold mX2_cradleFor; rw [if_neg c_1, if_pos c_5, if_neg c_6, if_neg c_7, if_pos c_8]))
          · refine lv_iload hx hb dX2_cradleFor_65 (lv_at hl 0 rfl) ?_
            exact rd_ret hC dX2_cradleFor_67 (Eq.symm (by unfold mX2_cradleFor; rw [if_neg c_1, if_pos c_5, if_neg c_6, if_neg c_7, if_neg c_8]))
    · refine lv_iload_n hx hb dX2_cradleFor_30 rfl (lv_at hl 1 rfl) ?_
      exact rd_ret hC dX2_cradleFor_31 (Eq.symm (by unfold mX2_cradleFor; rw [if_neg c_1, if_neg c_5]))
def mX2_metresOfG (σ : YS) (x1 : Int32) : Int32 := (if (mX2_isRow x1) = 0 then (-5) else ((Y_metres σ) x1.toNatClampNeg))
set_option maxHeartbeats 4000000 in
set_option maxRecDepth 100000 in
theorem k_X2_metresOfG (l : Launch) (g : WG) (ad : AY) (σ : YS) (x1 : Int32) : Rd l yX2_metresOf cX2_metresOf 2 (some .int) 1 (Wl g (cY g ad σ) (fun _ => False)) [.ref ad.1, .int x1] (mX2_metresOfG σ x1) := by
  refine rd_of (by decide) (Nat.le_of_ble_eq_true rfl) ?_
  intro p e s m args below meth c ls hC hW hl
  obtain ⟨hP, hK, hE⟩ := hW
  obtain ⟨hx, hb, hml, hr, hown, hts, hlk, hnm⟩ := id hC
  have hl : lv_has ls 2 [(0, .ref ad.1), (1, .int x1)] := hl
  refine lv_iload_n hx hb dX2_metresOf_0 rfl (lv_at hl 1 rfl) ?_
  refine callRs hC (k_X2_isRow l g x1) ci_X2_isRow lk_X2_111 ⟨Nat.le_of_ble_eq_true rfl, Nat.le_of_ble_eq_true rfl⟩ hK hE rfl hl.1 rfl (Nat.le_of_ble_eq_true rfl) dX2_metresOf_1 ⟨Nat.zero_le _, Nat.zero_le _⟩ ?_
  refine lv_if_eq (tgt := 16) hx hb dX2_metresOf_4 (by decide) (fun c_1 => ?_) (fun c_1 => ?_)
  · refine lv_bipush (v := (-5)) hx hb dX2_metresOf_16 (by decide) ?_
    exact rd_ret hC dX2_metresOf_18 (Eq.symm (by unfold mX2_metresOfG; rw [if_pos c_1]))
  · refine lv_aload_n hx hb dX2_metresOf_7 rfl (lv_at hl 0 rfl) ?_
    refine gY_metres hC rfl hK hP dX2_metresOf_8 ?_
    refine lv_iload_n hx hb dX2_metresOf_11 rfl (lv_at hl 1 rfl) ?_
    refine lY_metres hC hK hP (in_X2_isRow c_1) dX2_metresOf_12 ?_
    refine lv_goto (tgt := 18) hx hb dX2_metresOf_13 (by decide) ?_
    exact rd_ret hC dX2_metresOf_18 (Eq.symm (by unfold mX2_metresOfG; rw [if_neg c_1]))
def mX2_metresOf (σ : YS) (x1 : Int32) : Int32 := ((Y_metres σ) x1.toNatClampNeg)
theorem ad_X2_metresOf {σ : YS} {x1 : Int32} (h_1 : vp_in x1 4) : mX2_metresOfG σ x1 = mX2_metresOf σ x1 := if_neg (ne_X2_isRow h_1)
theorem k_X2_metresOf (l : Launch) (g : WG) (ad : AY) (σ : YS) (x1 : Int32) (h_1 : vp_in x1 4) : Rd l yX2_metresOf cX2_metresOf 2 (some .int) 1 (Wl g (cY g ad σ) (fun _ => False)) [.ref ad.1, .int x1] (mX2_metresOf σ x1) := (ad_X2_metresOf h_1) ▸ (k_X2_metresOfG l g ad σ x1)
def mX2_standsIn (σ : YS) (x1 : Int32) (x2 : Int32) : Int32 := (if (mX2_fact σ x1 4) = x2 then 1 else 0)
set_option maxHeartbeats 4000000 in
set_option maxRecDepth 100000 in
theorem k_X2_standsIn (l : Launch) (g : WG) (ad : AY) (σ : YS) (x1 : Int32) (x2 : Int32) (h_1 : vp_in x1 20) : Rd l yX2_standsIn cX2_standsIn 3 (some .boolean) 3 (Wl g (cY g ad σ) (fun _ => False)) [.ref ad.1, .int x1, .int x2] (mX2_standsIn σ x1 x2) := by
  refine rd_of (by decide) (Nat.le_of_ble_eq_true rfl) ?_
  intro p e s m args below meth c ls hC hW hl
  obtain ⟨hP, hK, hE⟩ := hW
  obtain ⟨hx, hb, hml, hr, hown, hts, hlk, hnm⟩ := id hC
  have hl : lv_has ls 3 [(0, .ref ad.1), (1, .int x1), (2, .int x2)] := hl
  refine lv_aload_n hx hb dX2_standsIn_0 rfl (lv_at hl 0 rfl) ?_
  refine lv_iload_n hx hb dX2_standsIn_1 rfl (lv_at hl 1 rfl) ?_
  refine lv_iconst (v := 4) hx hb dX2_standsIn_2 (by decide) ?_
  refine callRd hC (k_X2_fact l g ad σ x1 4 h_1 (in_iff.mpr (by decide))) ci_X2_fact lk_X2_47 ⟨Nat.le_of_ble_eq_true rfl, Nat.le_of_ble_eq_true rfl⟩ hP hK hE (q0 := 0) rfl rfl rfl rfl hl.1 rfl (Nat.le_of_ble_eq_true rfl) dX2_standsIn_3 ⟨Nat.zero_le _, Nat.zero_le _⟩ ?_
  refine lv_iload_n hx hb dX2_standsIn_6 rfl (lv_at hl 2 rfl) ?_
  refine lv_icmp_ne (tgt := 14) hx hb dX2_standsIn_7 (by decide) (fun c_1 => ?_) (fun c_1 => ?_)
  · refine lv_iconst (v := 0) hx hb dX2_standsIn_14 (by decide) ?_
    exact rd_zret hC dX2_standsIn_15 rfl (Eq.symm (by unfold mX2_standsIn; rw [if_neg c_1]))
  · refine lv_iconst (v := 1) hx hb dX2_standsIn_10 (by decide) ?_
    refine lv_goto (tgt := 15) hx hb dX2_standsIn_11 (by decide) ?_
    exact rd_zret hC dX2_standsIn_15 rfl (Eq.symm (by unfold mX2_standsIn; rw [if_pos c_1]))
def mX2_metresTaken_L4 (σ : YS) (x1 : Int32) : Nat → Int32 → Int32 → Int32
  | 0, _, _ => 0
  | n + 1, u3, u2 => (if 220 < (u3 + 11) then u2 else (if ((Y_facts σ) (u3 + 4).toNatClampNeg) = x1 then (mX2_metresTaken_L4 σ x1 n (u3 + 11) (u2 + (((Y_facts σ) (u3 + 0).toNatClampNeg) + 1))) else (mX2_metresTaken_L4 σ x1 n (u3 + 11) u2)))
set_option maxHeartbeats 4000000 in
set_option maxRecDepth 100000 in
theorem q_X2_metresTaken_4 {p : Program} {e : Env} {s : State} {m : MethodId} {args : Array Value} {below : List Frame} {meth : Method} {c : Code} (l : Launch) (g : WG) (ad : AY) (σ : YS) (x1 : Int32) (hC : Cx p s m args meth c yX2_metresTaken cX2_metresTaken 4 (some .int)) (hP : va_P g.1 vwCl (cY g ad σ) s.heap) (hK : va_K g.1 vwCl (tysW g) s) (hE : Ex (fun _ => False) s s.heap) {r : Int32} : ∀ (n : Nat) (u3 : Int32) (u2 : Int32) (hi0 : 0 ≤ u3.toInt) (hi1 : u3.toInt ≤ 220) (hm : ((221 : Int) - u3.toInt).toNat < n) (hR : r = mX2_metresTaken_L4 σ x1 n u3 u2) (ls : Array Slot) (hl : lv_has ls 4 [(3, .int u3), (2, .int u2), (0, .ref ad.1), (1, .int x1)]), W p l e (rk 0) s m args below meth c s.heap [] 0 0 (MQ below (vp_Si (fun x => x = r)) args s 0 0 (fun _ => False)) (F0 m 4 ls []) := by
  obtain ⟨hx, hb, hml, hr, hown, hts, hlk, hnm⟩ := id hC
  intro n
  induction n with
  | zero => intro u3 u2 hi0 hi1 hm hR ls hl; exact absurd hm (Nat.not_lt_zero _)
  | succ n ih =>
    intro u3 u2 hi0 hi1 hm hR ls hl
    refine lv_iload_n hx hb dX2_metresTaken_4 rfl (lv_at hl 0 rfl) ?_
    refine lv_bipush (v := 11) hx hb dX2_metresTaken_5 (by decide) ?_
    refine lv_iadd hx hb dX2_metresTaken_7 ?_
    refine lv_aload_n hx hb dX2_metresTaken_8 rfl (lv_at hl 2 rfl) ?_
    refine gY_facts hC rfl hK hP dX2_metresTaken_9 ?_
    refine nY_facts hC hK hP dX2_metresTaken_12 ?_
    refine lv_icmp_gt (tgt := 47) hx hb dX2_metresTaken_13 (by decide) (fun c_1 => ?_) (fun c_1 => ?_)
    · refine lv_iload_n hx hb dX2_metresTaken_47 rfl (lv_at hl 1 rfl) ?_
      exact rd_ret hC dX2_metresTaken_48 (Eq.symm (by rw [hR, mX2_metresTaken_L4, if_pos c_1]))
    · refine lv_aload_n hx hb dX2_metresTaken_16 rfl (lv_at hl 2 rfl) ?_
      refine gY_facts hC rfl hK hP dX2_metresTaken_17 ?_
      refine lv_iload_n hx hb dX2_metresTaken_20 rfl (lv_at hl 0 rfl) ?_
      refine lv_iconst (v := 4) hx hb dX2_metresTaken_21 (by decide) ?_
      refine lv_iadd hx hb dX2_metresTaken_22 ?_
      refine lY_facts hC hK hP (ix_c' (z := 4) rfl (by decide) (in_mt hi0 hi1 c_1) (by decide) (by decide)) dX2_metresTaken_23 ?_
      refine lv_iload_n hx hb dX2_metresTaken_24 rfl (lv_at hl 3 rfl) ?_
      refine lv_icmp_ne (tgt := 41) hx hb dX2_metresTaken_25 (by decide) (fun c_2 => ?_) (fun c_2 => ?_)
      · refine lv_iinc (v := (u3 + 11)) (lv' := [(3, .int (u3 + 11)), (2, .int u2), (0, .ref ad.1), (1, .int x1)]) hx hb dX2_metresTaken_41 hl (k := 0) rfl rfl (by decide) rfl (fun ls hl => ?_)
        refine lv_goto (tgt := 4) hx hb dX2_metresTaken_44 (by decide) ?_
        have e9 := up_add (d := 11) (k := 11) (M := 220) rfl hi0 hi1 (by decide) (by decide)
        have e8 := (in_iff.mp (in_mt hi0 hi1 c_1)).2
        exact ih (u3 + 11) u2 (by rw [e9]; omega) (by rw [e9]; omega) (by rw [e9]; omega) (by rw [hR, mX2_metresTaken_L4, if_neg c_1, if_neg c_2]) _ (lv_sub hl [0, 1, 2, 3] rfl)
      · refine lv_iload_n hx hb dX2_metresTaken_28 rfl (lv_at hl 1 rfl) ?_
        refine lv_aload_n hx hb dX2_metresTaken_29 rfl (lv_at hl 2 rfl) ?_
        refine gY_facts hC rfl hK hP dX2_metresTaken_30 ?_
        refine lv_iload_n hx hb dX2_metresTaken_33 rfl (lv_at hl 0 rfl) ?_
        refine lv_iconst (v := 0) hx hb dX2_metresTaken_34 (by decide) ?_
        refine lv_iadd hx hb dX2_metresTaken_35 ?_
        refine lY_facts hC hK hP (ix_c' (z := 0) rfl (by decide) (in_mt hi0 hi1 c_1) (by decide) (by decide)) dX2_metresTaken_36 ?_
        refine lv_iconst (v := 1) hx hb dX2_metresTaken_37 (by decide) ?_
        refine lv_iadd hx hb dX2_metresTaken_38 ?_
        refine lv_iadd hx hb dX2_metresTaken_39 ?_
        refine lv_istore_n (lv' := [(2, .int (u2 + (((Y_facts σ) (u3 + 0).toNatClampNeg) + 1))), (3, .int u3), (0, .ref ad.1), (1, .int x1)]) hx hb dX2_metresTaken_40 rfl hl (by decide) rfl (fun ls hl => ?_)
        refine lv_iinc (v := (u3 + 11)) (lv' := [(3, .int (u3 + 11)), (2, .int (u2 + (((Y_facts σ) (u3 + 0).toNatClampNeg) + 1))), (0, .ref ad.1), (1, .int x1)]) hx hb dX2_metresTaken_41 hl (k := 1) rfl rfl (by decide) rfl (fun ls hl => ?_)
        refine lv_goto (tgt := 4) hx hb dX2_metresTaken_44 (by decide) ?_
        have e9 := up_add (d := 11) (k := 11) (M := 220) rfl hi0 hi1 (by decide) (by decide)
        have e8 := (in_iff.mp (in_mt hi0 hi1 c_1)).2
        exact ih (u3 + 11) (u2 + (((Y_facts σ) (u3 + 0).toNatClampNeg) + 1)) (by rw [e9]; omega) (by rw [e9]; omega) (by rw [e9]; omega) (by rw [hR, mX2_metresTaken_L4, if_neg c_1, if_pos c_2]) _ (lv_sub hl [0, 1, 2, 3] rfl)
def mX2_metresTaken (σ : YS) (x1 : Int32) : Int32 := (mX2_metresTaken_L4 σ x1 222 0 0)
set_option maxHeartbeats 4000000 in
set_option maxRecDepth 100000 in
theorem k_X2_metresTaken (l : Launch) (g : WG) (ad : AY) (σ : YS) (x1 : Int32) : Rd l yX2_metresTaken cX2_metresTaken 4 (some .int) 0 (Wl g (cY g ad σ) (fun _ => False)) [.ref ad.1, .int x1] (mX2_metresTaken σ x1) := by
  refine rd_of (by decide) (Nat.le_of_ble_eq_true rfl) ?_
  intro p e s m args below meth c ls hC hW hl
  obtain ⟨hP, hK, hE⟩ := hW
  obtain ⟨hx, hb, hml, hr, hown, hts, hlk, hnm⟩ := id hC
  have hl : lv_has ls 4 [(0, .ref ad.1), (1, .int x1)] := hl
  refine lv_iconst (v := 0) hx hb dX2_metresTaken_0 (by decide) ?_
  refine lv_istore_n (lv' := [(2, .int 0), (0, .ref ad.1), (1, .int x1)]) hx hb dX2_metresTaken_1 rfl hl (by decide) rfl (fun ls hl => ?_)
  refine lv_iconst (v := 0) hx hb dX2_metresTaken_2 (by decide) ?_
  refine lv_istore_n (lv' := [(3, .int 0), (2, .int 0), (0, .ref ad.1), (1, .int x1)]) hx hb dX2_metresTaken_3 rfl hl (by decide) rfl (fun ls hl => ?_)
  refine q_X2_metresTaken_4 l g ad σ x1 hC hP hK hE 222 0 0 (by decide) (by decide) (by decide) ?_ _ (lv_sub hl [0, 1, 2, 3] rfl)
  exact by unfold mX2_metresTaken; rfl
def mX2_metresLeft (σ : YS) (x1 : Int32) : Int32 := ((mX2_metresOf σ x1) - (mX2_metresTaken σ x1))
set_option maxHeartbeats 4000000 in
set_option maxRecDepth 100000 in
theorem k_X2_metresLeft (l : Launch) (g : WG) (ad : AY) (σ : YS) (x1 : Int32) (h_1 : vp_in x1 4) : Rd l yX2_metresLeft cX2_metresLeft 2 (some .int) 2 (Wl g (cY g ad σ) (fun _ => False)) [.ref ad.1, .int x1] (mX2_metresLeft σ x1) := by
  refine rd_of (by decide) (Nat.le_of_ble_eq_true rfl) ?_
  intro p e s m args below meth c ls hC hW hl
  obtain ⟨hP, hK, hE⟩ := hW
  obtain ⟨hx, hb, hml, hr, hown, hts, hlk, hnm⟩ := id hC
  have hl : lv_has ls 2 [(0, .ref ad.1), (1, .int x1)] := hl
  refine lv_aload_n hx hb dX2_metresLeft_0 rfl (lv_at hl 0 rfl) ?_
  refine lv_iload_n hx hb dX2_metresLeft_1 rfl (lv_at hl 1 rfl) ?_
  refine callRd hC (k_X2_metresOf l g ad σ x1 h_1) ci_X2_metresOf lk_X2_114 ⟨Nat.le_of_ble_eq_true rfl, Nat.le_of_ble_eq_true rfl⟩ hP hK hE (q0 := 0) rfl rfl rfl rfl hl.1 rfl (Nat.le_of_ble_eq_true rfl) dX2_metresLeft_2 ⟨Nat.zero_le _, Nat.zero_le _⟩ ?_
  refine lv_aload_n hx hb dX2_metresLeft_5 rfl (lv_at hl 0 rfl) ?_
  refine lv_iload_n hx hb dX2_metresLeft_6 rfl (lv_at hl 1 rfl) ?_
  refine callRd hC (k_X2_metresTaken l g ad σ x1) ci_X2_metresTaken lk_X2_117 ⟨Nat.le_of_ble_eq_true rfl, Nat.le_of_ble_eq_true rfl⟩ hP hK hE (q0 := 0) rfl rfl rfl rfl hl.1 rfl (Nat.le_of_ble_eq_true rfl) dX2_metresLeft_7 ⟨Nat.zero_le _, Nat.zero_le _⟩ ?_
  refine lv_isub hx hb dX2_metresLeft_10 ?_
  exact rd_ret hC dX2_metresLeft_11 (Eq.symm (by unfold mX2_metresLeft; rfl))
def mX2_hasRoom (σ : YS) (x1 : Int32) (x2 : Int32) : Int32 := (if (mX2_metresLeft σ x1) < ((mX2_fact σ x2 0) + 1) then 0 else 1)
set_option maxHeartbeats 4000000 in
set_option maxRecDepth 100000 in
theorem k_X2_hasRoom (l : Launch) (g : WG) (ad : AY) (σ : YS) (x1 : Int32) (x2 : Int32) (h_1 : vp_in x1 4) (h_2 : vp_in x2 20) : Rd l yX2_hasRoom cX2_hasRoom 3 (some .boolean) 3 (Wl g (cY g ad σ) (fun _ => False)) [.ref ad.1, .int x1, .int x2] (mX2_hasRoom σ x1 x2) := by
  refine rd_of (by decide) (Nat.le_of_ble_eq_true rfl) ?_
  intro p e s m args below meth c ls hC hW hl
  obtain ⟨hP, hK, hE⟩ := hW
  obtain ⟨hx, hb, hml, hr, hown, hts, hlk, hnm⟩ := id hC
  have hl : lv_has ls 3 [(0, .ref ad.1), (1, .int x1), (2, .int x2)] := hl
  refine lv_aload_n hx hb dX2_hasRoom_0 rfl (lv_at hl 0 rfl) ?_
  refine lv_iload_n hx hb dX2_hasRoom_1 rfl (lv_at hl 2 rfl) ?_
  refine lv_iconst (v := 0) hx hb dX2_hasRoom_2 (by decide) ?_
  refine callRd hC (k_X2_fact l g ad σ x2 0 h_2 (in_iff.mpr (by decide))) ci_X2_fact lk_X2_47 ⟨Nat.le_of_ble_eq_true rfl, Nat.le_of_ble_eq_true rfl⟩ hP hK hE (q0 := 0) rfl rfl rfl rfl hl.1 rfl (Nat.le_of_ble_eq_true rfl) dX2_hasRoom_3 ⟨Nat.zero_le _, Nat.zero_le _⟩ ?_
  refine lv_iconst (v := 1) hx hb dX2_hasRoom_6 (by decide) ?_
  refine lv_iadd hx hb dX2_hasRoom_7 ?_
  refine lv_aload_n hx hb dX2_hasRoom_8 rfl (lv_at hl 0 rfl) ?_
  refine lv_iload_n hx hb dX2_hasRoom_9 rfl (lv_at hl 1 rfl) ?_
  refine callRd hC (k_X2_metresLeft l g ad σ x1 h_1) ci_X2_metresLeft lk_X2_120 ⟨Nat.le_of_ble_eq_true rfl, Nat.le_of_ble_eq_true rfl⟩ hP hK hE (q0 := 0) rfl rfl rfl rfl hl.1 rfl (Nat.le_of_ble_eq_true rfl) dX2_hasRoom_10 ⟨Nat.zero_le _, Nat.zero_le _⟩ ?_
  refine lv_icmp_gt (tgt := 20) hx hb dX2_hasRoom_13 (by decide) (fun c_1 => ?_) (fun c_1 => ?_)
  · refine lv_iconst (v := 0) hx hb dX2_hasRoom_20 (by decide) ?_
    exact rd_zret hC dX2_hasRoom_21 rfl (Eq.symm (by unfold mX2_hasRoom; rw [if_pos c_1]))
  · refine lv_iconst (v := 1) hx hb dX2_hasRoom_16 (by decide) ?_
    refine lv_goto (tgt := 21) hx hb dX2_hasRoom_17 (by decide) ?_
    exact rd_zret hC dX2_hasRoom_21 rfl (Eq.symm (by unfold mX2_hasRoom; rw [if_neg c_1]))
def mX2_boatsIn (σ : YS) (x1 : Int32) : Int32 := (mX2_boatsWith σ 4 x1)
set_option maxHeartbeats 4000000 in
set_option maxRecDepth 100000 in
theorem k_X2_boatsIn (l : Launch) (g : WG) (ad : AY) (σ : YS) (x1 : Int32) : Rd l yX2_boatsIn cX2_boatsIn 2 (some .int) 2 (Wl g (cY g ad σ) (fun _ => False)) [.ref ad.1, .int x1] (mX2_boatsIn σ x1) := by
  refine rd_of (by decide) (Nat.le_of_ble_eq_true rfl) ?_
  intro p e s m args below meth c ls hC hW hl
  obtain ⟨hP, hK, hE⟩ := hW
  obtain ⟨hx, hb, hml, hr, hown, hts, hlk, hnm⟩ := id hC
  have hl : lv_has ls 2 [(0, .ref ad.1), (1, .int x1)] := hl
  refine lv_aload_n hx hb dX2_boatsIn_0 rfl (lv_at hl 0 rfl) ?_
  refine lv_iconst (v := 4) hx hb dX2_boatsIn_1 (by decide) ?_
  refine lv_iload_n hx hb dX2_boatsIn_2 rfl (lv_at hl 1 rfl) ?_
  refine callRd hC (k_X2_boatsWith l g ad σ 4 x1) ci_X2_boatsWith lk_X2_89 ⟨Nat.le_of_ble_eq_true rfl, Nat.le_of_ble_eq_true rfl⟩ hP hK hE (q0 := 0) rfl rfl rfl rfl hl.1 rfl (Nat.le_of_ble_eq_true rfl) dX2_boatsIn_3 ⟨Nat.zero_le _, Nat.zero_le _⟩ ?_
  exact rd_ret hC dX2_boatsIn_6 (Eq.symm (by unfold mX2_boatsIn; rfl))
def mX2_boatAt_L2 (σ : YS) (x1 : Int32) (x2 : Int32) : Nat → Int32 → Int32
  | 0, _ => 0
  | n + 1, u3 => (if 20 ≤ u3 then (-5) else (if (mX2_standsIn σ u3 x1) = 0 then (mX2_boatAt_L2 σ x1 x2 n (u3 + 1)) else (if (mX2_fact σ u3 5) = x2 then u3 else (mX2_boatAt_L2 σ x1 x2 n (u3 + 1)))))
set_option maxHeartbeats 4000000 in
set_option maxRecDepth 100000 in
theorem q_X2_boatAt_2 {p : Program} {e : Env} {s : State} {m : MethodId} {args : Array Value} {below : List Frame} {meth : Method} {c : Code} (l : Launch) (g : WG) (ad : AY) (σ : YS) (x1 : Int32) (x2 : Int32) (hC : Cx p s m args meth c yX2_boatAt cX2_boatAt 4 (some .int)) (hP : va_P g.1 vwCl (cY g ad σ) s.heap) (hK : va_K g.1 vwCl (tysW g) s) (hE : Ex (fun _ => False) s s.heap) {r : Int32} : ∀ (n : Nat) (u3 : Int32) (hi0 : 0 ≤ u3.toInt) (hi1 : u3.toInt ≤ 20) (hm : ((21 : Int) - u3.toInt).toNat < n) (hR : r = mX2_boatAt_L2 σ x1 x2 n u3) (ls : Array Slot) (hl : lv_has ls 4 [(3, .int u3), (0, .ref ad.1), (1, .int x1), (2, .int x2)]), W p l e (rk 4) s m args below meth c s.heap [] 0 0 (MQ below (vp_Si (fun x => x = r)) args s 0 0 (fun _ => False)) (F0 m 2 ls []) := by
  obtain ⟨hx, hb, hml, hr, hown, hts, hlk, hnm⟩ := id hC
  intro n
  induction n with
  | zero => intro u3 hi0 hi1 hm hR ls hl; exact absurd hm (Nat.not_lt_zero _)
  | succ n ih =>
    intro u3 hi0 hi1 hm hR ls hl
    refine lv_iload_n hx hb dX2_boatAt_2 rfl (lv_at hl 0 rfl) ?_
    refine lv_bipush (v := 20) hx hb dX2_boatAt_3 (by decide) ?_
    refine lv_icmp_ge (tgt := 35) hx hb dX2_boatAt_5 (by decide) (fun c_1 => ?_) (fun c_1 => ?_)
    · refine lv_bipush (v := (-5)) hx hb dX2_boatAt_35 (by decide) ?_
      exact rd_ret hC dX2_boatAt_37 (Eq.symm (by rw [hR, mX2_boatAt_L2, if_pos c_1]))
    · refine lv_aload_n hx hb dX2_boatAt_8 rfl (lv_at hl 1 rfl) ?_
      refine lv_iload_n hx hb dX2_boatAt_9 rfl (lv_at hl 0 rfl) ?_
      refine lv_iload_n hx hb dX2_boatAt_10 rfl (lv_at hl 2 rfl) ?_
      refine callRd hC (k_X2_standsIn l g ad σ u3 x1 (in_up (n := 20) rfl hi0 c_1)) ci_X2_standsIn lk_X2_123 ⟨Nat.le_of_ble_eq_true rfl, Nat.le_of_ble_eq_true rfl⟩ hP hK hE (q0 := 0) rfl rfl rfl rfl hl.1 rfl (Nat.le_of_ble_eq_true rfl) dX2_boatAt_11 ⟨Nat.zero_le _, Nat.zero_le _⟩ ?_
      refine lv_if_eq (tgt := 29) hx hb dX2_boatAt_14 (by decide) (fun c_2 => ?_) (fun c_2 => ?_)
      · refine lv_iinc (v := (u3 + 1)) (lv' := [(3, .int (u3 + 1)), (0, .ref ad.1), (1, .int x1), (2, .int x2)]) hx hb dX2_boatAt_29 hl (k := 0) rfl rfl (by decide) rfl (fun ls hl => ?_)
        refine lv_goto (tgt := 2) hx hb dX2_boatAt_32 (by decide) ?_
        have e9 := up_add (d := 1) (k := 1) (M := 20) rfl hi0 hi1 (by decide) (by decide)
        have e8 := nle_ti (k := 20) rfl c_1
        exact ih (u3 + 1) (by rw [e9]; omega) (by rw [e9]; omega) (by rw [e9]; omega) (by rw [hR, mX2_boatAt_L2, if_neg c_1, if_pos c_2]) _ (lv_sub hl [0, 1, 2, 3] rfl)
      · refine lv_aload_n hx hb dX2_boatAt_17 rfl (lv_at hl 1 rfl) ?_
        refine lv_iload_n hx hb dX2_boatAt_18 rfl (lv_at hl 0 rfl) ?_
        refine lv_iconst (v := 5) hx hb dX2_boatAt_19 (by decide) ?_
        refine callRd hC (k_X2_fact l g ad σ u3 5 (in_up (n := 20) rfl hi0 c_1) (in_iff.mpr (by decide))) ci_X2_fact lk_X2_47 ⟨Nat.le_of_ble_eq_true rfl, Nat.le_of_ble_eq_true rfl⟩ hP hK hE (q0 := 0) rfl rfl rfl rfl hl.1 rfl (Nat.le_of_ble_eq_true rfl) dX2_boatAt_20 ⟨Nat.zero_le _, Nat.zero_le _⟩ ?_
        refine lv_iload_n hx hb dX2_boatAt_23 rfl (lv_at hl 3 rfl) ?_
        refine lv_icmp_ne (tgt := 29) hx hb dX2_boatAt_24 (by decide) (fun c_3 => ?_) (fun c_3 => ?_)
        · refine lv_iinc (v := (u3 + 1)) (lv' := [(3, .int (u3 + 1)), (0, .ref ad.1), (1, .int x1), (2, .int x2)]) hx hb dX2_boatAt_29 hl (k := 0) rfl rfl (by decide) rfl (fun ls hl => ?_)
          refine lv_goto (tgt := 2) hx hb dX2_boatAt_32 (by decide) ?_
          have e9 := up_add (d := 1) (k := 1) (M := 20) rfl hi0 hi1 (by decide) (by decide)
          have e8 := nle_ti (k := 20) rfl c_1
          exact ih (u3 + 1) (by rw [e9]; omega) (by rw [e9]; omega) (by rw [e9]; omega) (by rw [hR, mX2_boatAt_L2, if_neg c_1, if_neg c_2, if_neg c_3]) _ (lv_sub hl [0, 1, 2, 3] rfl)
        · refine lv_iload_n hx hb dX2_boatAt_27 rfl (lv_at hl 0 rfl) ?_
          exact rd_ret hC dX2_boatAt_28 (Eq.symm (by rw [hR, mX2_boatAt_L2, if_neg c_1, if_neg c_2, if_pos c_3]))
def mX2_boatAt (σ : YS) (x1 : Int32) (x2 : Int32) : Int32 := (mX2_boatAt_L2 σ x1 x2 22 0)
set_option maxHeartbeats 4000000 in
set_option maxRecDepth 100000 in
theorem k_X2_boatAt (l : Launch) (g : WG) (ad : AY) (σ : YS) (x1 : Int32) (x2 : Int32) : Rd l yX2_boatAt cX2_boatAt 4 (some .int) 4 (Wl g (cY g ad σ) (fun _ => False)) [.ref ad.1, .int x1, .int x2] (mX2_boatAt σ x1 x2) := by
  refine rd_of (by decide) (Nat.le_of_ble_eq_true rfl) ?_
  intro p e s m args below meth c ls hC hW hl
  obtain ⟨hP, hK, hE⟩ := hW
  obtain ⟨hx, hb, hml, hr, hown, hts, hlk, hnm⟩ := id hC
  have hl : lv_has ls 4 [(0, .ref ad.1), (1, .int x1), (2, .int x2)] := hl
  refine lv_iconst (v := 0) hx hb dX2_boatAt_0 (by decide) ?_
  refine lv_istore_n (lv' := [(3, .int 0), (0, .ref ad.1), (1, .int x1), (2, .int x2)]) hx hb dX2_boatAt_1 rfl hl (by decide) rfl (fun ls hl => ?_)
  refine q_X2_boatAt_2 l g ad σ x1 x2 hC hP hK hE 22 0 (by decide) (by decide) (by decide) ?_ _ (lv_sub hl [0, 1, 2, 3] rfl)
  exact by unfold mX2_boatAt; rfl
def mX2_boatsFartherOut (σ : YS) (x1 : Int32) : Int32 := (((mX2_boatsIn σ (mX2_fact σ x1 4)) - 1) - (mX2_fact σ x1 5))
set_option maxHeartbeats 4000000 in
set_option maxRecDepth 100000 in
theorem k_X2_boatsFartherOut (l : Launch) (g : WG) (ad : AY) (σ : YS) (x1 : Int32) (h_1 : vp_in x1 20) : Rd l yX2_boatsFartherOut cX2_boatsFartherOut 2 (some .int) 3 (Wl g (cY g ad σ) (fun _ => False)) [.ref ad.1, .int x1] (mX2_boatsFartherOut σ x1) := by
  refine rd_of (by decide) (Nat.le_of_ble_eq_true rfl) ?_
  intro p e s m args below meth c ls hC hW hl
  obtain ⟨hP, hK, hE⟩ := hW
  obtain ⟨hx, hb, hml, hr, hown, hts, hlk, hnm⟩ := id hC
  have hl : lv_has ls 2 [(0, .ref ad.1), (1, .int x1)] := hl
  refine lv_aload_n hx hb dX2_boatsFartherOut_0 rfl (lv_at hl 0 rfl) ?_
  refine lv_aload_n hx hb dX2_boatsFartherOut_1 rfl (lv_at hl 0 rfl) ?_
  refine lv_iload_n hx hb dX2_boatsFartherOut_2 rfl (lv_at hl 1 rfl) ?_
  refine lv_iconst (v := 4) hx hb dX2_boatsFartherOut_3 (by decide) ?_
  refine callRd hC (k_X2_fact l g ad σ x1 4 h_1 (in_iff.mpr (by decide))) ci_X2_fact lk_X2_47 ⟨Nat.le_of_ble_eq_true rfl, Nat.le_of_ble_eq_true rfl⟩ hP hK hE (q0 := 0) rfl rfl rfl rfl hl.1 rfl (Nat.le_of_ble_eq_true rfl) dX2_boatsFartherOut_4 ⟨Nat.zero_le _, Nat.zero_le _⟩ ?_
  refine callRd hC (k_X2_boatsIn l g ad σ (mX2_fact σ x1 4)) ci_X2_boatsIn lk_X2_126 ⟨Nat.le_of_ble_eq_true rfl, Nat.le_of_ble_eq_true rfl⟩ hP hK hE (q0 := 0) rfl rfl rfl rfl hl.1 rfl (Nat.le_of_ble_eq_true rfl) dX2_boatsFartherOut_7 ⟨Nat.zero_le _, Nat.zero_le _⟩ ?_
  refine lv_iconst (v := 1) hx hb dX2_boatsFartherOut_10 (by decide) ?_
  refine lv_isub hx hb dX2_boatsFartherOut_11 ?_
  refine lv_aload_n hx hb dX2_boatsFartherOut_12 rfl (lv_at hl 0 rfl) ?_
  refine lv_iload_n hx hb dX2_boatsFartherOut_13 rfl (lv_at hl 1 rfl) ?_
  refine lv_iconst (v := 5) hx hb dX2_boatsFartherOut_14 (by decide) ?_
  refine callRd hC (k_X2_fact l g ad σ x1 5 h_1 (in_iff.mpr (by decide))) ci_X2_fact lk_X2_47 ⟨Nat.le_of_ble_eq_true rfl, Nat.le_of_ble_eq_true rfl⟩ hP hK hE (q0 := 0) rfl rfl rfl rfl hl.1 rfl (Nat.le_of_ble_eq_true rfl) dX2_boatsFartherOut_15 ⟨Nat.zero_le _, Nat.zero_le _⟩ ?_
  refine lv_isub hx hb dX2_boatsFartherOut_18 ?_
  exact rd_ret hC dX2_boatsFartherOut_19 (Eq.symm (by unfold mX2_boatsFartherOut; rfl))
def mX2_changeRow (σ : YS) (x1 : Int32) (x2 : Int32) : Int32 × YS := (if (mX2_isRow x1) = 0 then ((-1), σ) else (if (mX3_within x2 10 60) = 0 then ((-2), σ) else (if (mX2_metresTaken σ x1) ≤ x2 then (if ((Y_metres σ) x1.toNatClampNeg) = x2 then ((-5), σ) else (((Y_metres σ) x1.toNatClampNeg), (Y_set_metres σ (upd (Y_metres σ) x1.toNatClampNeg x2)))) else ((-4), σ))))
set_option maxHeartbeats 4000000 in
set_option maxRecDepth 100000 in
theorem k_X2_changeRow (l : Launch) (g : WG) (ad : AY) (σ : YS) (x1 : Int32) (x2 : Int32) : Wr l yX2_changeRow cX2_changeRow 4 (some .int) 1 g (cY g ad σ) (cY g ad (mX2_changeRow σ x1 x2).2) [.ref ad.1, .int x1, .int x2] (mX2_changeRow σ x1 x2).1 := by
  refine wr_of (by decide) (Nat.le_of_ble_eq_true rfl) ?_
  intro p e s m args below meth c ls A hC hAe hP hD hK hE hA hS hl
  obtain ⟨hx, hb, hml, hr, hown, hts, hlk, hnm⟩ := id hC
  have hl : lv_has ls 4 [(0, .ref ad.1), (1, .int x1), (2, .int x2)] := hl
  refine lv_iload_n hx hb dX2_changeRow_0 rfl (lv_at hl 1 rfl) ?_
  refine callRs hC (k_X2_isRow l g x1) ci_X2_isRow lk_X2_111 ⟨Nat.le_of_ble_eq_true rfl, Nat.le_of_ble_eq_true rfl⟩ hK (hE.S hS).none rfl hl.1 rfl (Nat.le_of_ble_eq_true rfl) dX2_changeRow_1 ⟨Nat.zero_le _, Nat.zero_le _⟩ ?_
  refine lv_if_ne (tgt := 9) hx hb dX2_changeRow_4 (by decide) (fun c_1 => ?_) (fun c_1 => ?_)
  · refine lv_iload_n hx hb dX2_changeRow_9 rfl (lv_at hl 2 rfl) ?_
    refine lv_bipush (v := 10) hx hb dX2_changeRow_10 (by decide) ?_
    refine lv_bipush (v := 60) hx hb dX2_changeRow_12 (by decide) ?_
    refine callRn hC (k_X3_within l g x2 10 60) ci_X3_within hE.2.1 ⟨Nat.le_of_ble_eq_true rfl, Nat.le_of_ble_eq_true rfl⟩ hK (hE.S hS).none rfl hl.1 rfl (Nat.le_of_ble_eq_true rfl) dX2_changeRow_14 ⟨Nat.zero_le _, Nat.zero_le _⟩ ?_
    refine lv_if_ne (tgt := 23) hx hb dX2_changeRow_17 (by decide) (fun c_2 => ?_) (fun c_2 => ?_)
    · refine lv_aload_n hx hb dX2_changeRow_23 rfl (lv_at hl 0 rfl) ?_
      refine lv_iload_n hx hb dX2_changeRow_24 rfl (lv_at hl 1 rfl) ?_
      refine callRd hC (k_X2_metresTaken l g ad σ x1) ci_X2_metresTaken lk_X2_117 ⟨Nat.le_of_ble_eq_true rfl, Nat.le_of_ble_eq_true rfl⟩ hP hK (hE.S hS).none (q0 := 0) rfl rfl rfl rfl hl.1 rfl (Nat.le_of_ble_eq_true rfl) dX2_changeRow_25 ⟨Nat.zero_le _, Nat.zero_le _⟩ ?_
      refine lv_iload_n hx hb dX2_changeRow_28 rfl (lv_at hl 2 rfl) ?_
      refine lv_icmp_le (tgt := 35) hx hb dX2_changeRow_29 (by decide) (fun c_3 => ?_) (fun c_3 => ?_)
      · refine lv_aload_n hx hb dX2_changeRow_35 rfl (lv_at hl 0 rfl) ?_
        refine gY_metres hC rfl hK hP dX2_changeRow_36 ?_
        refine lv_iload_n hx hb dX2_changeRow_39 rfl (lv_at hl 1 rfl) ?_
        refine lY_metres hC hK hP (in_X2_isRow c_1) dX2_changeRow_40 ?_
        refine lv_istore_n (lv' := [(3, .int ((Y_metres σ) x1.toNatClampNeg)), (0, .ref ad.1), (1, .int x1), (2, .int x2)]) hx hb dX2_changeRow_41 rfl hl (by decide) rfl (fun ls hl => ?_)
        refine lv_iload_n hx hb dX2_changeRow_42 rfl (lv_at hl 0 rfl) ?_
        refine lv_iload_n hx hb dX2_changeRow_43 rfl (lv_at hl 3 rfl) ?_
        refine lv_icmp_ne (tgt := 50) hx hb dX2_changeRow_44 (by decide) (fun c_4 => ?_) (fun c_4 => ?_)
        · refine lv_aload_n hx hb dX2_changeRow_50 rfl (lv_at hl 1 rfl) ?_
          refine gY_metres hC rfl hK hP dX2_changeRow_51 ?_
          refine lv_iload_n hx hb dX2_changeRow_54 rfl (lv_at hl 2 rfl) ?_
          refine lv_iload_n hx hb dX2_changeRow_55 rfl (lv_at hl 3 rfl) ?_
          refine sY_metres hC hK hP hD hS (in_X2_isRow c_1) dX2_changeRow_56 (fun H locs hP hD hS => ?_)
          refine lv_iload_n hx hb dX2_changeRow_57 rfl (lv_at hl 0 rfl) ?_
          have hm : mX2_changeRow σ x1 x2 = (((Y_metres σ) x1.toNatClampNeg), (Y_set_metres σ (upd (Y_metres σ) x1.toNatClampNeg x2))) := by unfold mX2_changeRow; rw [if_neg c_1, if_neg c_2, if_pos c_3, if_neg c_4]
          exact wr_ret hC hP (hAe ▸ hD) (hAe ▸ hS) dX2_changeRow_58 (by rw [hm]) (by rw [hm])
        · refine lv_bipush (v := (-5)) hx hb dX2_changeRow_47 (by decide) ?_
          have hm : mX2_changeRow σ x1 x2 = ((-5), σ) := by unfold mX2_changeRow; rw [if_neg c_1, if_neg c_2, if_pos c_3, if_pos c_4]
          exact wr_ret hC hP (hAe ▸ hD) (hAe ▸ hS) dX2_changeRow_49 (by rw [hm]) (by rw [hm])
      · refine lv_bipush (v := (-4)) hx hb dX2_changeRow_32 (by decide) ?_
        have hm : mX2_changeRow σ x1 x2 = ((-4), σ) := by unfold mX2_changeRow; rw [if_neg c_1, if_neg c_2, if_neg c_3]
        exact wr_ret hC hP (hAe ▸ hD) (hAe ▸ hS) dX2_changeRow_34 (by rw [hm]) (by rw [hm])
    · refine lv_bipush (v := (-2)) hx hb dX2_changeRow_20 (by decide) ?_
      have hm : mX2_changeRow σ x1 x2 = ((-2), σ) := by unfold mX2_changeRow; rw [if_neg c_1, if_pos c_2]
      exact wr_ret hC hP (hAe ▸ hD) (hAe ▸ hS) dX2_changeRow_22 (by rw [hm]) (by rw [hm])
  · refine lv_iconst (v := (-1)) hx hb dX2_changeRow_7 (by decide) ?_
    have hm : mX2_changeRow σ x1 x2 = ((-1), σ) := by unfold mX2_changeRow; rw [if_pos c_1]
    exact wr_ret hC hP (hAe ▸ hD) (hAe ▸ hS) dX2_changeRow_8 (by rw [hm]) (by rw [hm])
def mX2_tightestRow_L5 (σ : YS) (x1 : Int32) : Nat → Int32 → Int32 → Int32
  | 0, _, _ => 0
  | n + 1, u3, u2 => (if 4 ≤ u3 then u2 else (if (mX2_standsIn σ x1 u3) = 0 then (if (mX2_hasRoom σ u3 x1) = 0 then (mX2_tightestRow_L5 σ x1 n (u3 + 1) u2) else (if u2 = (-5) then (mX2_tightestRow_L5 σ x1 n (u3 + 1) u3) else (if (mX2_metresLeft σ u2) ≤ (mX2_metresLeft σ u3) then (mX2_tightestRow_L5 σ x1 n (u3 + 1) u2) else (mX2_tightestRow_L5 σ x1 n (u3 + 1) u3)))) else (mX2_tightestRow_L5 σ x1 n (u3 + 1) u2)))
set_option maxHeartbeats 4000000 in
set_option maxRecDepth 100000 in
theorem q_X2_tightestRow_5 {p : Program} {e : Env} {s : State} {m : MethodId} {args : Array Value} {below : List Frame} {meth : Method} {c : Code} (l : Launch) (g : WG) (ad : AY) (σ : YS) (x1 : Int32) (h_1 : vp_in x1 20) (hC : Cx p s m args meth c yX2_tightestRow cX2_tightestRow 5 (some .int)) (hP : va_P g.1 vwCl (cY g ad σ) s.heap) (hK : va_K g.1 vwCl (tysW g) s) (hE : Ex (fun _ => False) s s.heap) {r : Int32} : ∀ (n : Nat) (u3 : Int32) (u2 : Int32) (hi0 : 0 ≤ u3.toInt) (hi1 : u3.toInt ≤ 4) (hbst : u2 = -5 ∨ vp_in u2 4) (hm : ((5 : Int) - u3.toInt).toNat < n) (hR : r = mX2_tightestRow_L5 σ x1 n u3 u2) (ls : Array Slot) (hl : lv_has ls 5 [(3, .int u3), (2, .int u2), (0, .ref ad.1), (1, .int x1)]), W p l e (rk 4) s m args below meth c s.heap [] 0 0 (MQ below (vp_Si (fun x => x = r)) args s 0 0 (fun _ => False)) (F0 m 5 ls []) := by
  obtain ⟨hx, hb, hml, hr, hown, hts, hlk, hnm⟩ := id hC
  intro n
  induction n with
  | zero => intro u3 u2 hi0 hi1 hbst hm hR ls hl; exact absurd hm (Nat.not_lt_zero _)
  | succ n ih =>
    intro u3 u2 hi0 hi1 hbst hm hR ls hl
    refine lv_iload_n hx hb dX2_tightestRow_5 rfl (lv_at hl 0 rfl) ?_
    refine lv_iconst (v := 4) hx hb dX2_tightestRow_6 (by decide) ?_
    refine lv_icmp_ge (tgt := 67) hx hb dX2_tightestRow_7 (by decide) (fun c_1 => ?_) (fun c_1 => ?_)
    · refine lv_iload_n hx hb dX2_tightestRow_67 rfl (lv_at hl 1 rfl) ?_
      exact rd_ret hC dX2_tightestRow_68 (Eq.symm (by rw [hR, mX2_tightestRow_L5, if_pos c_1]))
    · refine lv_aload_n hx hb dX2_tightestRow_10 rfl (lv_at hl 2 rfl) ?_
      refine lv_iload_n hx hb dX2_tightestRow_11 rfl (lv_at hl 3 rfl) ?_
      refine lv_iload_n hx hb dX2_tightestRow_12 rfl (lv_at hl 0 rfl) ?_
      refine callRd hC (k_X2_standsIn l g ad σ x1 u3 h_1) ci_X2_standsIn lk_X2_123 ⟨Nat.le_of_ble_eq_true rfl, Nat.le_of_ble_eq_true rfl⟩ hP hK hE (q0 := 0) rfl rfl rfl rfl hl.1 rfl (Nat.le_of_ble_eq_true rfl) dX2_tightestRow_13 ⟨Nat.zero_le _, Nat.zero_le _⟩ ?_
      refine lv_if_ne (tgt := 32) hx hb dX2_tightestRow_16 (by decide) (fun c_2 => ?_) (fun c_2 => ?_)
      · refine lv_iconst (v := 0) hx hb dX2_tightestRow_32 (by decide) ?_
        refine lv_istore (lv' := [(4, .int 0), (3, .int u3), (2, .int u2), (0, .ref ad.1), (1, .int x1)]) hx hb dX2_tightestRow_33 hl (by decide) rfl (fun ls hl => ?_)
        refine lv_iload hx hb dX2_tightestRow_35 (lv_at hl 0 rfl) ?_
        refine lv_if_eq (tgt := 61) hx hb dX2_tightestRow_37 (by decide) (fun c_3 => ?_) (fun c_3 => absurd c_3 (by decide))
        refine lv_iinc (v := (u3 + 1)) (lv' := [(3, .int (u3 + 1)), (4, .int 0), (2, .int u2), (0, .ref ad.1), (1, .int x1)]) hx hb dX2_tightestRow_61 hl (k := 1) rfl rfl (by decide) rfl (fun ls hl => ?_)
        refine lv_goto (tgt := 5) hx hb dX2_tightestRow_64 (by decide) ?_
        have e9 := up_add (d := 1) (k := 1) (M := 4) rfl hi0 hi1 (by decide) (by decide)
        have e8 := nle_ti (k := 4) rfl c_1
        exact ih (u3 + 1) u2 (by rw [e9]; omega) (by rw [e9]; omega) hbst (by rw [e9]; omega) (by rw [hR, mX2_tightestRow_L5, if_neg c_1, if_neg c_2]) _ (lv_sub hl [0, 2, 3, 4] rfl)
      · refine lv_aload_n hx hb dX2_tightestRow_19 rfl (lv_at hl 2 rfl) ?_
        refine lv_iload_n hx hb dX2_tightestRow_20 rfl (lv_at hl 0 rfl) ?_
        refine lv_iload_n hx hb dX2_tightestRow_21 rfl (lv_at hl 3 rfl) ?_
        refine callRd hC (k_X2_hasRoom l g ad σ u3 x1 (in_up (n := 4) rfl hi0 c_1) h_1) ci_X2_hasRoom lk_X2_129 ⟨Nat.le_of_ble_eq_true rfl, Nat.le_of_ble_eq_true rfl⟩ hP hK hE (q0 := 0) rfl rfl rfl rfl hl.1 rfl (Nat.le_of_ble_eq_true rfl) dX2_tightestRow_22 ⟨Nat.zero_le _, Nat.zero_le _⟩ ?_
        refine lv_if_eq (tgt := 32) hx hb dX2_tightestRow_25 (by decide) (fun c_4 => ?_) (fun c_4 => ?_)
        · refine lv_iconst (v := 0) hx hb dX2_tightestRow_32 (by decide) ?_
          refine lv_istore (lv' := [(4, .int 0), (3, .int u3), (2, .int u2), (0, .ref ad.1), (1, .int x1)]) hx hb dX2_tightestRow_33 hl (by decide) rfl (fun ls hl => ?_)
          refine lv_iload hx hb dX2_tightestRow_35 (lv_at hl 0 rfl) ?_
          refine lv_if_eq (tgt := 61) hx hb dX2_tightestRow_37 (by decide) (fun c_5 => ?_) (fun c_5 => absurd c_5 (by decide))
          refine lv_iinc (v := (u3 + 1)) (lv' := [(3, .int (u3 + 1)), (4, .int 0), (2, .int u2), (0, .ref ad.1), (1, .int x1)]) hx hb dX2_tightestRow_61 hl (k := 1) rfl rfl (by decide) rfl (fun ls hl => ?_)
          refine lv_goto (tgt := 5) hx hb dX2_tightestRow_64 (by decide) ?_
          have e9 := up_add (d := 1) (k := 1) (M := 4) rfl hi0 hi1 (by decide) (by decide)
          have e8 := nle_ti (k := 4) rfl c_1
          exact ih (u3 + 1) u2 (by rw [e9]; omega) (by rw [e9]; omega) hbst (by rw [e9]; omega) (by rw [hR, mX2_tightestRow_L5, if_neg c_1, if_pos c_2, if_pos c_4]) _ (lv_sub hl [0, 2, 3, 4] rfl)
        · refine lv_iconst (v := 1) hx hb dX2_tightestRow_28 (by decide) ?_
          refine lv_goto (tgt := 33) hx hb dX2_tightestRow_29 (by decide) ?_
          refine lv_istore (lv' := [(4, .int 1), (3, .int u3), (2, .int u2), (0, .ref ad.1), (1, .int x1)]) hx hb dX2_tightestRow_33 hl (by decide) rfl (fun ls hl => ?_)
          refine lv_iload hx hb dX2_tightestRow_35 (lv_at hl 0 rfl) ?_
          refine lv_if_eq (tgt := 61) hx hb dX2_tightestRow_37 (by decide) (fun c_6 => absurd c_6 (by decide)) (fun c_6 => ?_)
          refine lv_iload_n hx hb dX2_tightestRow_40 rfl (lv_at hl 2 rfl) ?_
          refine lv_bipush (v := (-5)) hx hb dX2_tightestRow_41 (by decide) ?_
          refine lv_icmp_eq (tgt := 59) hx hb dX2_tightestRow_43 (by decide) (fun c_7 => ?_) (fun c_7 => ?_)
          · refine lv_iload_n hx hb dX2_tightestRow_59 rfl (lv_at hl 1 rfl) ?_
            refine lv_istore_n (lv' := [(2, .int u3), (4, .int 1), (3, .int u3), (0, .ref ad.1), (1, .int x1)]) hx hb dX2_tightestRow_60 rfl hl (by decide) rfl (fun ls hl => ?_)
            refine lv_iinc (v := (u3 + 1)) (lv' := [(3, .int (u3 + 1)), (2, .int u3), (4, .int 1), (0, .ref ad.1), (1, .int x1)]) hx hb dX2_tightestRow_61 hl (k := 2) rfl rfl (by decide) rfl (fun ls hl => ?_)
            refine lv_goto (tgt := 5) hx hb dX2_tightestRow_64 (by decide) ?_
            have e9 := up_add (d := 1) (k := 1) (M := 4) rfl hi0 hi1 (by decide) (by decide)
            have e8 := nle_ti (k := 4) rfl c_1
            exact ih (u3 + 1) u3 (by rw [e9]; omega) (by rw [e9]; omega) (Or.inr (in_up (n := 4) rfl hi0 c_1)) (by rw [e9]; omega) (by rw [hR, mX2_tightestRow_L5, if_neg c_1, if_pos c_2, if_neg c_4, if_pos c_7]) _ (lv_sub hl [0, 1, 3, 4] rfl)
          · refine lv_aload_n hx hb dX2_tightestRow_46 rfl (lv_at hl 3 rfl) ?_
            refine lv_iload_n hx hb dX2_tightestRow_47 rfl (lv_at hl 1 rfl) ?_
            refine callRd hC (k_X2_metresLeft l g ad σ u3 (in_up (n := 4) rfl hi0 c_1)) ci_X2_metresLeft lk_X2_120 ⟨Nat.le_of_ble_eq_true rfl, Nat.le_of_ble_eq_true rfl⟩ hP hK hE (q0 := 0) rfl rfl rfl rfl hl.1 rfl (Nat.le_of_ble_eq_true rfl) dX2_tightestRow_48 ⟨Nat.zero_le _, Nat.zero_le _⟩ ?_
            refine lv_aload_n hx hb dX2_tightestRow_51 rfl (lv_at hl 3 rfl) ?_
            refine lv_iload_n hx hb dX2_tightestRow_52 rfl (lv_at hl 2 rfl) ?_
            refine callRd hC (k_X2_metresLeft l g ad σ u2 (hbst.resolve_left c_7)) ci_X2_metresLeft lk_X2_120 ⟨Nat.le_of_ble_eq_true rfl, Nat.le_of_ble_eq_true rfl⟩ hP hK hE (q0 := 0) rfl rfl rfl rfl hl.1 rfl (Nat.le_of_ble_eq_true rfl) dX2_tightestRow_53 ⟨Nat.zero_le _, Nat.zero_le _⟩ ?_
            refine lv_icmp_ge (tgt := 61) hx hb dX2_tightestRow_56 (by decide) (fun c_8 => ?_) (fun c_8 => ?_)
            · refine lv_iinc (v := (u3 + 1)) (lv' := [(3, .int (u3 + 1)), (4, .int 1), (2, .int u2), (0, .ref ad.1), (1, .int x1)]) hx hb dX2_tightestRow_61 hl (k := 1) rfl rfl (by decide) rfl (fun ls hl => ?_)
              refine lv_goto (tgt := 5) hx hb dX2_tightestRow_64 (by decide) ?_
              have e9 := up_add (d := 1) (k := 1) (M := 4) rfl hi0 hi1 (by decide) (by decide)
              have e8 := nle_ti (k := 4) rfl c_1
              exact ih (u3 + 1) u2 (by rw [e9]; omega) (by rw [e9]; omega) hbst (by rw [e9]; omega) (by rw [hR, mX2_tightestRow_L5, if_neg c_1, if_pos c_2, if_neg c_4, if_neg c_7, if_pos c_8]) _ (lv_sub hl [0, 2, 3, 4] rfl)
            · refine lv_iload_n hx hb dX2_tightestRow_59 rfl (lv_at hl 1 rfl) ?_
              refine lv_istore_n (lv' := [(2, .int u3), (4, .int 1), (3, .int u3), (0, .ref ad.1), (1, .int x1)]) hx hb dX2_tightestRow_60 rfl hl (by decide) rfl (fun ls hl => ?_)
              refine lv_iinc (v := (u3 + 1)) (lv' := [(3, .int (u3 + 1)), (2, .int u3), (4, .int 1), (0, .ref ad.1), (1, .int x1)]) hx hb dX2_tightestRow_61 hl (k := 2) rfl rfl (by decide) rfl (fun ls hl => ?_)
              refine lv_goto (tgt := 5) hx hb dX2_tightestRow_64 (by decide) ?_
              have e9 := up_add (d := 1) (k := 1) (M := 4) rfl hi0 hi1 (by decide) (by decide)
              have e8 := nle_ti (k := 4) rfl c_1
              exact ih (u3 + 1) u3 (by rw [e9]; omega) (by rw [e9]; omega) (Or.inr (in_up (n := 4) rfl hi0 c_1)) (by rw [e9]; omega) (by rw [hR, mX2_tightestRow_L5, if_neg c_1, if_pos c_2, if_neg c_4, if_neg c_7, if_neg c_8]) _ (lv_sub hl [0, 1, 3, 4] rfl)
def mX2_tightestRow (σ : YS) (x1 : Int32) : Int32 := (mX2_tightestRow_L5 σ x1 6 0 (-5))
set_option maxHeartbeats 4000000 in
set_option maxRecDepth 100000 in
theorem k_X2_tightestRow (l : Launch) (g : WG) (ad : AY) (σ : YS) (x1 : Int32) (h_1 : vp_in x1 20) : Rd l yX2_tightestRow cX2_tightestRow 5 (some .int) 4 (Wl g (cY g ad σ) (fun _ => False)) [.ref ad.1, .int x1] (mX2_tightestRow σ x1) := by
  refine rd_of (by decide) (Nat.le_of_ble_eq_true rfl) ?_
  intro p e s m args below meth c ls hC hW hl
  obtain ⟨hP, hK, hE⟩ := hW
  obtain ⟨hx, hb, hml, hr, hown, hts, hlk, hnm⟩ := id hC
  have hl : lv_has ls 5 [(0, .ref ad.1), (1, .int x1)] := hl
  refine lv_bipush (v := (-5)) hx hb dX2_tightestRow_0 (by decide) ?_
  refine lv_istore_n (lv' := [(2, .int (-5)), (0, .ref ad.1), (1, .int x1)]) hx hb dX2_tightestRow_2 rfl hl (by decide) rfl (fun ls hl => ?_)
  refine lv_iconst (v := 0) hx hb dX2_tightestRow_3 (by decide) ?_
  refine lv_istore_n (lv' := [(3, .int 0), (2, .int (-5)), (0, .ref ad.1), (1, .int x1)]) hx hb dX2_tightestRow_4 rfl hl (by decide) rfl (fun ls hl => ?_)
  refine q_X2_tightestRow_5 l g ad σ x1 h_1 hC hP hK hE 6 0 (-5) (by decide) (by decide) (Or.inl rfl) (by decide) ?_ _ (lv_sub hl [0, 1, 2, 3] rfl)
  exact by unfold mX2_tightestRow; rfl
def mX2_putAtOuterEnd (σ : YS) (x1 : Int32) (x2 : Int32) : YS := (mX2_note (mX2_note σ x1 5 (mX2_boatsIn σ x2)) x1 4 x2)
set_option maxHeartbeats 4000000 in
set_option maxRecDepth 100000 in
theorem k_X2_putAtOuterEnd (l : Launch) (g : WG) (ad : AY) (σ : YS) (x1 : Int32) (x2 : Int32) (h_1 : vp_in x1 20) : Wv l yX2_putAtOuterEnd cX2_putAtOuterEnd 3 3 g (cY g ad σ) (cY g ad (mX2_putAtOuterEnd σ x1 x2)) [.ref ad.1, .int x1, .int x2] := by
  refine wv_of (by decide) (Nat.le_of_ble_eq_true rfl) ?_
  intro p e s m args below meth c ls A hC hAe hP hD hK hE hA hS hl
  obtain ⟨hx, hb, hml, hr, hown, hts, hlk, hnm⟩ := id hC
  have hl : lv_has ls 3 [(0, .ref ad.1), (1, .int x1), (2, .int x2)] := hl
  refine lv_aload_n hx hb dX2_putAtOuterEnd_0 rfl (lv_at hl 0 rfl) ?_
  refine lv_iload_n hx hb dX2_putAtOuterEnd_1 rfl (lv_at hl 1 rfl) ?_
  refine lv_iconst (v := 5) hx hb dX2_putAtOuterEnd_2 (by decide) ?_
  refine lv_aload_n hx hb dX2_putAtOuterEnd_3 rfl (lv_at hl 0 rfl) ?_
  refine lv_iload_n hx hb dX2_putAtOuterEnd_4 rfl (lv_at hl 2 rfl) ?_
  refine callRd hC (k_X2_boatsIn l g ad σ x2) ci_X2_boatsIn lk_X2_126 ⟨Nat.le_of_ble_eq_true rfl, Nat.le_of_ble_eq_true rfl⟩ hP hK (hE.S hS).none (q0 := 0) rfl rfl rfl rfl hl.1 rfl (Nat.le_of_ble_eq_true rfl) dX2_putAtOuterEnd_5 ⟨Nat.zero_le _, Nat.zero_le _⟩ ?_
  refine callWv hC (k_X2_note l g ad σ x1 5 (mX2_boatsIn σ x2) h_1 (in_iff.mpr (by decide))) ci_X2_note lk_X2_59 ⟨Nat.le_of_ble_eq_true rfl, Nat.le_of_ble_eq_true rfl⟩ hP hD hK hE hS hA (q0 := 0) rfl rfl rfl rfl hl.1 rfl (Nat.le_of_ble_eq_true rfl) dX2_putAtOuterEnd_8 ⟨Nat.zero_le _, Nat.zero_le _⟩ (fun H locs hP _ hD hS _ _ => ?_)
  refine lv_aload_n hx hb dX2_putAtOuterEnd_11 rfl (lv_at hl 0 rfl) ?_
  refine lv_iload_n hx hb dX2_putAtOuterEnd_12 rfl (lv_at hl 1 rfl) ?_
  refine lv_iconst (v := 4) hx hb dX2_putAtOuterEnd_13 (by decide) ?_
  refine lv_iload_n hx hb dX2_putAtOuterEnd_14 rfl (lv_at hl 2 rfl) ?_
  refine callWv hC (k_X2_note l g ad (mX2_note σ x1 5 (mX2_boatsIn σ x2)) x1 4 x2 h_1 (in_iff.mpr (by decide))) ci_X2_note lk_X2_59 ⟨Nat.le_of_ble_eq_true rfl, Nat.le_of_ble_eq_true rfl⟩ hP hD hK hE hS hA (q0 := 0) rfl rfl rfl rfl hl.1 rfl (Nat.le_of_ble_eq_true rfl) dX2_putAtOuterEnd_15 ⟨Nat.zero_le _, Nat.zero_le _⟩ (fun H locs hP _ hD hS _ _ => ?_)
  have hm : mX2_putAtOuterEnd σ x1 x2 = (mX2_note (mX2_note σ x1 5 (mX2_boatsIn σ x2)) x1 4 x2) := by unfold mX2_putAtOuterEnd; rfl
  exact wv_ret hC hP (hAe ▸ hD) (hAe ▸ hS) dX2_putAtOuterEnd_18 (by rw [hm])
def mX2_settingG (σ : YS) (x1 : Int32) : Int32 := (if (mX2_isSetting x1) = 0 then (-5) else ((Y_settings σ) x1.toNatClampNeg))
set_option maxHeartbeats 4000000 in
set_option maxRecDepth 100000 in
theorem k_X2_settingG (l : Launch) (g : WG) (ad : AY) (σ : YS) (x1 : Int32) : Rd l yX2_setting cX2_setting 2 (some .int) 1 (Wl g (cY g ad σ) (fun _ => False)) [.ref ad.1, .int x1] (mX2_settingG σ x1) := by
  refine rd_of (by decide) (Nat.le_of_ble_eq_true rfl) ?_
  intro p e s m args below meth c ls hC hW hl
  obtain ⟨hP, hK, hE⟩ := hW
  obtain ⟨hx, hb, hml, hr, hown, hts, hlk, hnm⟩ := id hC
  have hl : lv_has ls 2 [(0, .ref ad.1), (1, .int x1)] := hl
  refine lv_iload_n hx hb dX2_setting_0 rfl (lv_at hl 1 rfl) ?_
  refine callRs hC (k_X2_isSetting l g x1) ci_X2_isSetting lk_X2_132 ⟨Nat.le_of_ble_eq_true rfl, Nat.le_of_ble_eq_true rfl⟩ hK hE rfl hl.1 rfl (Nat.le_of_ble_eq_true rfl) dX2_setting_1 ⟨Nat.zero_le _, Nat.zero_le _⟩ ?_
  refine lv_if_eq (tgt := 16) hx hb dX2_setting_4 (by decide) (fun c_1 => ?_) (fun c_1 => ?_)
  · refine lv_bipush (v := (-5)) hx hb dX2_setting_16 (by decide) ?_
    exact rd_ret hC dX2_setting_18 (Eq.symm (by unfold mX2_settingG; rw [if_pos c_1]))
  · refine lv_aload_n hx hb dX2_setting_7 rfl (lv_at hl 0 rfl) ?_
    refine gY_settings hC rfl hK hP dX2_setting_8 ?_
    refine lv_iload_n hx hb dX2_setting_11 rfl (lv_at hl 1 rfl) ?_
    refine lY_settings hC hK hP (in_X2_isSetting c_1) dX2_setting_12 ?_
    refine lv_goto (tgt := 18) hx hb dX2_setting_13 (by decide) ?_
    exact rd_ret hC dX2_setting_18 (Eq.symm (by unfold mX2_settingG; rw [if_neg c_1]))
def mX2_setting (σ : YS) (x1 : Int32) : Int32 := ((Y_settings σ) x1.toNatClampNeg)
theorem ad_X2_setting {σ : YS} {x1 : Int32} (h_1 : vp_in x1 3) : mX2_settingG σ x1 = mX2_setting σ x1 := if_neg (ne_X2_isSetting h_1)
theorem k_X2_setting (l : Launch) (g : WG) (ad : AY) (σ : YS) (x1 : Int32) (h_1 : vp_in x1 3) : Rd l yX2_setting cX2_setting 2 (some .int) 1 (Wl g (cY g ad σ) (fun _ => False)) [.ref ad.1, .int x1] (mX2_setting σ x1) := (ad_X2_setting h_1) ▸ (k_X2_settingG l g ad σ x1)
def mX2_changeSetting (σ : YS) (x1 : Int32) (x2 : Int32) : Int32 × YS := (if (mX2_isSetting x1) = 0 then ((-1), σ) else (if (mX3_within x2 (tvL x1.toNatClampNeg) (tvG x1.toNatClampNeg)) = 0 then ((-2), σ) else (if ((Y_settings σ) x1.toNatClampNeg) = x2 then ((-5), σ) else (((Y_settings σ) x1.toNatClampNeg), (Y_set_settings σ (upd (Y_settings σ) x1.toNatClampNeg x2))))))
set_option maxHeartbeats 4000000 in
set_option maxRecDepth 100000 in
theorem k_X2_changeSetting (l : Launch) (g : WG) (ad : AY) (σ : YS) (x1 : Int32) (x2 : Int32) : Wr l yX2_changeSetting cX2_changeSetting 4 (some .int) 1 g (cY g ad σ) (cY g ad (mX2_changeSetting σ x1 x2).2) [.ref ad.1, .int x1, .int x2] (mX2_changeSetting σ x1 x2).1 := by
  refine wr_of (by decide) (Nat.le_of_ble_eq_true rfl) ?_
  intro p e s m args below meth c ls A hC hAe hP hD hK hE hA hS hl
  obtain ⟨hx, hb, hml, hr, hown, hts, hlk, hnm⟩ := id hC
  have hl : lv_has ls 4 [(0, .ref ad.1), (1, .int x1), (2, .int x2)] := hl
  refine lv_iload_n hx hb dX2_changeSetting_0 rfl (lv_at hl 1 rfl) ?_
  refine callRs hC (k_X2_isSetting l g x1) ci_X2_isSetting lk_X2_132 ⟨Nat.le_of_ble_eq_true rfl, Nat.le_of_ble_eq_true rfl⟩ hK (hE.S hS).none rfl hl.1 rfl (Nat.le_of_ble_eq_true rfl) dX2_changeSetting_1 ⟨Nat.zero_le _, Nat.zero_le _⟩ ?_
  refine lv_if_ne (tgt := 9) hx hb dX2_changeSetting_4 (by decide) (fun c_1 => ?_) (fun c_1 => ?_)
  · refine lv_iload_n hx hb dX2_changeSetting_9 rfl (lv_at hl 2 rfl) ?_
    obtain ⟨t_2, hZt_2, hTt_2⟩ := hE.2.2.1
    refine va_gets hx hb hZt_2 hS hown (hts _ fl_X2_135) (fun _ h => h) dX2_changeSetting_10 ?_
    refine lv_iload_n hx hb dX2_changeSetting_13 rfl (lv_at hl 1 rfl) ?_
    refine va_ti (v := .int (tvL x1.toNatClampNeg)) hx hb hTt_2 hS (in_X2_isSetting c_1) rfl dX2_changeSetting_14 ?_
    obtain ⟨t_3, hZt_3, hTt_3⟩ := hE.2.2.2.1
    refine va_gets hx hb hZt_3 hS hown (hts _ fl_X2_138) (fun _ h => h) dX2_changeSetting_15 ?_
    refine lv_iload_n hx hb dX2_changeSetting_18 rfl (lv_at hl 1 rfl) ?_
    refine va_ti (v := .int (tvG x1.toNatClampNeg)) hx hb hTt_3 hS (in_X2_isSetting c_1) rfl dX2_changeSetting_19 ?_
    refine callRn hC (k_X3_within l g x2 (tvL x1.toNatClampNeg) (tvG x1.toNatClampNeg)) ci_X3_within hE.2.1 ⟨Nat.le_of_ble_eq_true rfl, Nat.le_of_ble_eq_true rfl⟩ hK (hE.S hS).none rfl hl.1 rfl (Nat.le_of_ble_eq_true rfl) dX2_changeSetting_20 ⟨Nat.zero_le _, Nat.zero_le _⟩ ?_
    refine lv_if_ne (tgt := 29) hx hb dX2_changeSetting_23 (by decide) (fun c_4 => ?_) (fun c_4 => ?_)
    · refine lv_aload_n hx hb dX2_changeSetting_29 rfl (lv_at hl 0 rfl) ?_
      refine gY_settings hC rfl hK hP dX2_changeSetting_30 ?_
      refine lv_iload_n hx hb dX2_changeSetting_33 rfl (lv_at hl 1 rfl) ?_
      refine lY_settings hC hK hP (in_X2_isSetting c_1) dX2_changeSetting_34 ?_
      refine lv_istore_n (lv' := [(3, .int ((Y_settings σ) x1.toNatClampNeg)), (0, .ref ad.1), (1, .int x1), (2, .int x2)]) hx hb dX2_changeSetting_35 rfl hl (by decide) rfl (fun ls hl => ?_)
      refine lv_iload_n hx hb dX2_changeSetting_36 rfl (lv_at hl 0 rfl) ?_
      refine lv_iload_n hx hb dX2_changeSetting_37 rfl (lv_at hl 3 rfl) ?_
      refine lv_icmp_ne (tgt := 44) hx hb dX2_changeSetting_38 (by decide) (fun c_5 => ?_) (fun c_5 => ?_)
      · refine lv_aload_n hx hb dX2_changeSetting_44 rfl (lv_at hl 1 rfl) ?_
        refine gY_settings hC rfl hK hP dX2_changeSetting_45 ?_
        refine lv_iload_n hx hb dX2_changeSetting_48 rfl (lv_at hl 2 rfl) ?_
        refine lv_iload_n hx hb dX2_changeSetting_49 rfl (lv_at hl 3 rfl) ?_
        refine sY_settings hC hK hP hD hS (in_X2_isSetting c_1) dX2_changeSetting_50 (fun H locs hP hD hS => ?_)
        refine lv_iload_n hx hb dX2_changeSetting_51 rfl (lv_at hl 0 rfl) ?_
        have hm : mX2_changeSetting σ x1 x2 = (((Y_settings σ) x1.toNatClampNeg), (Y_set_settings σ (upd (Y_settings σ) x1.toNatClampNeg x2))) := by unfold mX2_changeSetting; rw [if_neg c_1, if_neg c_4, if_neg c_5]
        exact wr_ret hC hP (hAe ▸ hD) (hAe ▸ hS) dX2_changeSetting_52 (by rw [hm]) (by rw [hm])
      · refine lv_bipush (v := (-5)) hx hb dX2_changeSetting_41 (by decide) ?_
        have hm : mX2_changeSetting σ x1 x2 = ((-5), σ) := by unfold mX2_changeSetting; rw [if_neg c_1, if_neg c_4, if_pos c_5]
        exact wr_ret hC hP (hAe ▸ hD) (hAe ▸ hS) dX2_changeSetting_43 (by rw [hm]) (by rw [hm])
    · refine lv_bipush (v := (-2)) hx hb dX2_changeSetting_26 (by decide) ?_
      have hm : mX2_changeSetting σ x1 x2 = ((-2), σ) := by unfold mX2_changeSetting; rw [if_neg c_1, if_pos c_4]
      exact wr_ret hC hP (hAe ▸ hD) (hAe ▸ hS) dX2_changeSetting_28 (by rw [hm]) (by rw [hm])
  · refine lv_iconst (v := (-1)) hx hb dX2_changeSetting_7 (by decide) ?_
    have hm : mX2_changeSetting σ x1 x2 = ((-1), σ) := by unfold mX2_changeSetting; rw [if_pos c_1]
    exact wr_ret hC hP (hAe ▸ hD) (hAe ▸ hS) dX2_changeSetting_8 (by rw [hm]) (by rw [hm])
def mX2_liftsLeft (σ : YS) : Int32 := (if 0 < (((Y_settings σ) (1 : Int32).toNatClampNeg) - (Y_liftsToday σ)) then (((Y_settings σ) (1 : Int32).toNatClampNeg) - (Y_liftsToday σ)) else 0)
set_option maxHeartbeats 4000000 in
set_option maxRecDepth 100000 in
theorem k_X2_liftsLeft (l : Launch) (g : WG) (ad : AY) (σ : YS) : Rd l yX2_liftsLeft cX2_liftsLeft 1 (some .int) 1 (Wl g (cY g ad σ) (fun _ => False)) [.ref ad.1] (mX2_liftsLeft σ) := by
  refine rd_of (by decide) (Nat.le_of_ble_eq_true rfl) ?_
  intro p e s m args below meth c ls hC hW hl
  obtain ⟨hP, hK, hE⟩ := hW
  obtain ⟨hx, hb, hml, hr, hown, hts, hlk, hnm⟩ := id hC
  have hl : lv_has ls 1 [(0, .ref ad.1)] := hl
  refine lv_iconst (v := 0) hx hb dX2_liftsLeft_0 (by decide) ?_
  refine lv_aload_n hx hb dX2_liftsLeft_1 rfl (lv_at hl 0 rfl) ?_
  refine gY_settings hC rfl hK hP dX2_liftsLeft_2 ?_
  refine lv_iconst (v := 1) hx hb dX2_liftsLeft_5 (by decide) ?_
  refine lY_settings hC hK hP (in_iff.mpr (by decide)) dX2_liftsLeft_6 ?_
  refine lv_aload_n hx hb dX2_liftsLeft_7 rfl (lv_at hl 0 rfl) ?_
  refine gY_liftsToday hC rfl hK hP dX2_liftsLeft_8 ?_
  refine lv_isub hx hb dX2_liftsLeft_11 ?_
  refine va_mmax hx hb (hml.trans hl.1.symm) hown (hts _ lk_X2_141) (hts _ stc_Lib_Math_max_name) (hts _ ini_java_lang_Math) (hts _ cod_max) (Nat.le_of_ble_eq_true rfl) (Nat.le_of_ble_eq_true rfl) (Nat.zero_le _) (Nat.zero_le _) dX2_liftsLeft_12 ?_
  exact rd_ret hC dX2_liftsLeft_15 (Eq.symm (by unfold mX2_liftsLeft; rfl))
