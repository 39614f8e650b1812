def mX2_liftsSoFar (σ : YS) : Int32 := (Y_lifts σ)
set_option maxHeartbeats 4000000 in
set_option maxRecDepth 100000 in
theorem k_X2_liftsSoFar (l : Launch) (g : WG) (ad : AY) (σ : YS) : Rd l yX2_liftsSoFar cX2_liftsSoFar 1 (some .int) 0 (Wl g (cY g ad σ) (fun _ => False)) [.ref ad.1] (mX2_liftsSoFar σ) := by
  refine rd_of (by decide) (Nat.le_of_ble_eq_true rfl) ?_
  intro p e s m args below meth c ls hC hW hl
  obtain ⟨hP, hK, hE⟩ := hW
  obtain ⟨hx, hb, hml, hr, hown, hts, hlk, hnm⟩ := id hC
  have hl : lv_has ls 1 [(0, .ref ad.1)] := hl
  refine lv_aload_n hx hb dX2_liftsSoFar_0 rfl (lv_at hl 0 rfl) ?_
  refine gY_lifts hC rfl hK hP dX2_liftsSoFar_1 ?_
  exact rd_ret hC dX2_liftsSoFar_4 (Eq.symm (by unfold mX2_liftsSoFar; rfl))
def mX2_launchesSoFar (σ : YS) : Int32 := (Y_launches σ)
set_option maxHeartbeats 4000000 in
set_option maxRecDepth 100000 in
theorem k_X2_launchesSoFar (l : Launch) (g : WG) (ad : AY) (σ : YS) : Rd l yX2_launchesSoFar cX2_launchesSoFar 1 (some .int) 0 (Wl g (cY g ad σ) (fun _ => False)) [.ref ad.1] (mX2_launchesSoFar σ) := by
  refine rd_of (by decide) (Nat.le_of_ble_eq_true rfl) ?_
  intro p e s m args below meth c ls hC hW hl
  obtain ⟨hP, hK, hE⟩ := hW
  obtain ⟨hx, hb, hml, hr, hown, hts, hlk, hnm⟩ := id hC
  have hl : lv_has ls 1 [(0, .ref ad.1)] := hl
  refine lv_aload_n hx hb dX2_launchesSoFar_0 rfl (lv_at hl 0 rfl) ?_
  refine gY_launches hC rfl hK hP dX2_launchesSoFar_1 ?_
  exact rd_ret hC dX2_launchesSoFar_4 (Eq.symm (by unfold mX2_launchesSoFar; rfl))
def mX2_takeLift (σ : YS) : YS := (Y_set_lifts (Y_set_liftsToday σ ((Y_liftsToday σ) + 1)) ((Y_lifts (Y_set_liftsToday σ ((Y_liftsToday σ) + 1))) + 1))
set_option maxHeartbeats 4000000 in
set_option maxRecDepth 100000 in
theorem k_X2_takeLift (l : Launch) (g : WG) (ad : AY) (σ : YS) : Wv l yX2_takeLift cX2_takeLift 1 0 g (cY g ad σ) (cY g ad (mX2_takeLift σ)) [.ref ad.1] := by
  refine wv_of (by decide) (Nat.le_of_ble_eq_true rfl) ?_
  intro p e s m args below meth c ls A hC hAe hP hD hK hE hA hS hl
  obtain ⟨hx, hb, hml, hr, hown, hts, hlk, hnm⟩ := id hC
  have hl : lv_has ls 1 [(0, .ref ad.1)] := hl
  refine lv_aload_n hx hb dX2_takeLift_0 rfl (lv_at hl 0 rfl) ?_
  refine lv_dup hx hb dX2_takeLift_1 rfl ?_
  refine gY_liftsToday hC rfl hK hP dX2_takeLift_2 ?_
  refine lv_iconst (v := 1) hx hb dX2_takeLift_5 (by decide) ?_
  refine lv_iadd hx hb dX2_takeLift_6 ?_
  refine pY_liftsToday hC rfl hK hP hD hS dX2_takeLift_7 (fun H locs hP hD hS => ?_)
  refine lv_aload_n hx hb dX2_takeLift_10 rfl (lv_at hl 0 rfl) ?_
  refine lv_dup hx hb dX2_takeLift_11 rfl ?_
  refine gY_lifts hC rfl hK hP dX2_takeLift_12 ?_
  refine lv_iconst (v := 1) hx hb dX2_takeLift_15 (by decide) ?_
  refine lv_iadd hx hb dX2_takeLift_16 ?_
  refine pY_lifts hC rfl hK hP hD hS dX2_takeLift_17 (fun H locs hP hD hS => ?_)
  have hm : mX2_takeLift σ = (Y_set_lifts (Y_set_liftsToday σ ((Y_liftsToday σ) + 1)) ((Y_lifts (Y_set_liftsToday σ ((Y_liftsToday σ) + 1))) + 1)) := by unfold mX2_takeLift; rfl
  exact wv_ret hC hP (hAe ▸ hD) (hAe ▸ hS) dX2_takeLift_20 (by rw [hm])
def mX2_craneBears (σ : YS) (x1 : Int32) : Int32 := (if ((Y_settings σ) (2 : Int32).toNatClampNeg) < (mX2_fact σ x1 2) then 0 else 1)
set_option maxHeartbeats 4000000 in
set_option maxRecDepth 100000 in
theorem k_X2_craneBears (l : Launch) (g : WG) (ad : AY) (σ : YS) (x1 : Int32) (h_1 : vp_in x1 20) : Rd l yX2_craneBears cX2_craneBears 2 (some .boolean) 3 (Wl g (cY g ad σ) (fun _ => False)) [.ref ad.1, .int x1] (mX2_craneBears σ x1) := by
  refine rd_of (by decide) (Nat.le_of_ble_eq_true rfl) ?_
  intro p e s m args below meth c ls hC hW hl
  obtain ⟨hP, hK, hE⟩ := hW
  obtain ⟨hx, hb, hml, hr, hown, hts, hlk, hnm⟩ := id hC
  have hl : lv_has ls 2 [(0, .ref ad.1), (1, .int x1)] := hl
  refine lv_aload_n hx hb dX2_craneBears_0 rfl (lv_at hl 0 rfl) ?_
  refine lv_iload_n hx hb dX2_craneBears_1 rfl (lv_at hl 1 rfl) ?_
  refine lv_iconst (v := 2) hx hb dX2_craneBears_2 (by decide) ?_
  refine callRd hC (k_X2_fact l g ad σ x1 2 h_1 (in_iff.mpr (by decide))) ci_X2_fact lk_X2_47 ⟨Nat.le_of_ble_eq_true rfl, Nat.le_of_ble_eq_true rfl⟩ hP hK hE (q0 := 0) rfl rfl rfl rfl hl.1 rfl (Nat.le_of_ble_eq_true rfl) dX2_craneBears_3 ⟨Nat.zero_le _, Nat.zero_le _⟩ ?_
  refine lv_aload_n hx hb dX2_craneBears_6 rfl (lv_at hl 0 rfl) ?_
  refine gY_settings hC rfl hK hP dX2_craneBears_7 ?_
  refine lv_iconst (v := 2) hx hb dX2_craneBears_10 (by decide) ?_
  refine lY_settings hC hK hP (in_iff.mpr (by decide)) dX2_craneBears_11 ?_
  refine lv_icmp_gt (tgt := 19) hx hb dX2_craneBears_12 (by decide) (fun c_1 => ?_) (fun c_1 => ?_)
  · refine lv_iconst (v := 0) hx hb dX2_craneBears_19 (by decide) ?_
    exact rd_zret hC dX2_craneBears_20 rfl (Eq.symm (by unfold mX2_craneBears; rw [if_pos c_1]))
  · refine lv_iconst (v := 1) hx hb dX2_craneBears_15 (by decide) ?_
    refine lv_goto (tgt := 20) hx hb dX2_craneBears_16 (by decide) ?_
    exact rd_zret hC dX2_craneBears_20 rfl (Eq.symm (by unfold mX2_craneBears; rw [if_neg c_1]))
def mX2_tideOn (σ : YS) (x1 : Int32) : Int32 := (30 + (((Y_settings σ) (0 : Int32).toNatClampNeg) * (if 0 ≤ ((x1 - ((x1 / 14) * 14)) - 7) then ((x1 - ((x1 / 14) * 14)) - 7) else 0 - ((x1 - ((x1 / 14) * 14)) - 7))))
set_option maxHeartbeats 4000000 in
set_option maxRecDepth 100000 in
theorem k_X2_tideOn (l : Launch) (g : WG) (ad : AY) (σ : YS) (x1 : Int32) : Rd l yX2_tideOn cX2_tideOn 2 (some .int) 1 (Wl g (cY g ad σ) (fun _ => False)) [.ref ad.1, .int x1] (mX2_tideOn σ x1) := by
  refine rd_of (by decide) (Nat.le_of_ble_eq_true rfl) ?_
  intro p e s m args below meth c ls hC hW hl
  obtain ⟨hP, hK, hE⟩ := hW
  obtain ⟨hx, hb, hml, hr, hown, hts, hlk, hnm⟩ := id hC
  have hl : lv_has ls 2 [(0, .ref ad.1), (1, .int x1)] := hl
  refine lv_bipush (v := 30) hx hb dX2_tideOn_0 (by decide) ?_
  refine lv_aload_n hx hb dX2_tideOn_2 rfl (lv_at hl 0 rfl) ?_
  refine gY_settings hC rfl hK hP dX2_tideOn_3 ?_
  refine lv_iconst (v := 0) hx hb dX2_tideOn_6 (by decide) ?_
  refine lY_settings hC hK hP (in_iff.mpr (by decide)) dX2_tideOn_7 ?_
  refine lv_iload_n hx hb dX2_tideOn_8 rfl (lv_at hl 1 rfl) ?_
  refine lv_bipush (v := 14) hx hb dX2_tideOn_9 (by decide) ?_
  refine lv_irem hx hb dX2_tideOn_11 (by decide) ?_
  refine lv_bipush (v := 7) hx hb dX2_tideOn_12 (by decide) ?_
  refine lv_isub hx hb dX2_tideOn_14 ?_
  refine va_mabs hx hb (hml.trans hl.1.symm) hown (hts _ lk_X2_183) (hts _ stc_Lib_Math_abs_name) (hts _ ini_java_lang_Math) (hts _ cod_abs) (Nat.le_of_ble_eq_true rfl) (Nat.le_of_ble_eq_true rfl) (Nat.zero_le _) (Nat.zero_le _) dX2_tideOn_15 ?_
  refine lv_imul hx hb dX2_tideOn_18 ?_
  refine lv_iadd hx hb dX2_tideOn_19 ?_
  exact rd_ret hC dX2_tideOn_20 (Eq.symm (by unfold mX2_tideOn; rfl))
def mX2_isDeepEnough (σ : YS) (x1 : Int32) (x2 : Int32) : Int32 := (if (mX2_tideOn σ x2) < (mX2_fact σ x1 1) then 0 else 1)
set_option maxHeartbeats 4000000 in
set_option maxRecDepth 100000 in
theorem k_X2_isDeepEnough (l : Launch) (g : WG) (ad : AY) (σ : YS) (x1 : Int32) (x2 : Int32) (h_1 : vp_in x1 20) : Rd l yX2_isDeepEnough cX2_isDeepEnough 3 (some .boolean) 3 (Wl g (cY g ad σ) (fun _ => False)) [.ref ad.1, .int x1, .int x2] (mX2_isDeepEnough σ x1 x2) := by
  refine rd_of (by decide) (Nat.le_of_ble_eq_true rfl) ?_
  intro p e s m args below meth c ls hC hW hl
  obtain ⟨hP, hK, hE⟩ := hW
  obtain ⟨hx, hb, hml, hr, hown, hts, hlk, hnm⟩ := id hC
  have hl : lv_has ls 3 [(0, .ref ad.1), (1, .int x1), (2, .int x2)] := hl
  refine lv_aload_n hx hb dX2_isDeepEnough_0 rfl (lv_at hl 0 rfl) ?_
  refine lv_iload_n hx hb dX2_isDeepEnough_1 rfl (lv_at hl 1 rfl) ?_
  refine lv_iconst (v := 1) hx hb dX2_isDeepEnough_2 (by decide) ?_
  refine callRd hC (k_X2_fact l g ad σ x1 1 h_1 (in_iff.mpr (by decide))) ci_X2_fact lk_X2_47 ⟨Nat.le_of_ble_eq_true rfl, Nat.le_of_ble_eq_true rfl⟩ hP hK hE (q0 := 0) rfl rfl rfl rfl hl.1 rfl (Nat.le_of_ble_eq_true rfl) dX2_isDeepEnough_3 ⟨Nat.zero_le _, Nat.zero_le _⟩ ?_
  refine lv_aload_n hx hb dX2_isDeepEnough_6 rfl (lv_at hl 0 rfl) ?_
  refine lv_iload_n hx hb dX2_isDeepEnough_7 rfl (lv_at hl 2 rfl) ?_
  refine callRd hC (k_X2_tideOn l g ad σ x2) ci_X2_tideOn lk_X2_146 ⟨Nat.le_of_ble_eq_true rfl, Nat.le_of_ble_eq_true rfl⟩ hP hK hE (q0 := 0) rfl rfl rfl rfl hl.1 rfl (Nat.le_of_ble_eq_true rfl) dX2_isDeepEnough_8 ⟨Nat.zero_le _, Nat.zero_le _⟩ ?_
  refine lv_icmp_gt (tgt := 18) hx hb dX2_isDeepEnough_11 (by decide) (fun c_1 => ?_) (fun c_1 => ?_)
  · refine lv_iconst (v := 0) hx hb dX2_isDeepEnough_18 (by decide) ?_
    exact rd_zret hC dX2_isDeepEnough_19 rfl (Eq.symm (by unfold mX2_isDeepEnough; rw [if_pos c_1]))
  · refine lv_iconst (v := 1) hx hb dX2_isDeepEnough_14 (by decide) ?_
    refine lv_goto (tgt := 19) hx hb dX2_isDeepEnough_15 (by decide) ?_
    exact rd_zret hC dX2_isDeepEnough_19 rfl (Eq.symm (by unfold mX2_isDeepEnough; rw [if_neg c_1]))
def mX2_whyNoLift (σ : YS) (x1 : Int32) (x2 : Int32) : Int32 := (if (mX2_isAshore σ x1) = 0 then (if (mX2_isDeepEnough σ x1 (Y_day σ)) = 0 then 2 else (if (mX2_craneBears σ x1) = 0 then 3 else (if (mX2_cradleFor σ x1) = (-5) then 4 else (if (mX2_hasRoom σ x2 x1) = 0 then 5 else (if (mX2_hasMast σ x1) = 0 then (if (mX2_liftsLeft σ) ≤ 0 then 7 else 0) else (if (mX2_fact σ x1 0) < 10 then (if (mX2_liftsLeft σ) ≤ 0 then 7 else 0) else 6)))))) else 1)
set_option maxHeartbeats 4000000 in
set_option maxRecDepth 100000 in
theorem k_X2_whyNoLift (l : Launch) (g : WG) (ad : AY) (σ : YS) (x1 : Int32) (x2 : Int32) (h_1 : vp_in x1 20) (h_2 : vp_in x2 4) (h_keel : vp_in (mX2_fact σ x1 3) 3) : Rd l yX2_whyNoLift cX2_whyNoLift 3 (some .int) 4 (Wl g (cY g ad σ) (fun _ => False)) [.ref ad.1, .int x1, .int x2] (mX2_whyNoLift σ x1 x2) := by
  refine rd_of (by decide) (Nat.le_of_ble_eq_true rfl) ?_
  intro p e s m args below meth c ls hC hW hl
  obtain ⟨hP, hK, hE⟩ := hW
  obtain ⟨hx, hb, hml, hr, hown, hts, hlk, hnm⟩ := id hC
  have hl : lv_has ls 3 [(0, .ref ad.1), (1, .int x1), (2, .int x2)] := hl
  refine lv_aload_n hx hb dX2_whyNoLift_0 rfl (lv_at hl 0 rfl) ?_
  refine lv_iload_n hx hb dX2_whyNoLift_1 rfl (lv_at hl 1 rfl) ?_
  refine callRd hC (k_X2_isAshore l g ad σ x1 h_1) ci_X2_isAshore lk_X2_80 ⟨Nat.le_of_ble_eq_true rfl, Nat.le_of_ble_eq_true rfl⟩ hP hK hE (q0 := 0) rfl rfl rfl rfl hl.1 rfl (Nat.le_of_ble_eq_true rfl) dX2_whyNoLift_2 ⟨Nat.zero_le _, Nat.zero_le _⟩ ?_
  refine lv_if_eq (tgt := 10) hx hb dX2_whyNoLift_5 (by decide) (fun c_1 => ?_) (fun c_1 => ?_)
  · refine lv_aload_n hx hb dX2_whyNoLift_10 rfl (lv_at hl 0 rfl) ?_
    refine lv_iload_n hx hb dX2_whyNoLift_11 rfl (lv_at hl 1 rfl) ?_
    refine lv_aload_n hx hb dX2_whyNoLift_12 rfl (lv_at hl 0 rfl) ?_
    refine gY_day hC rfl hK hP dX2_whyNoLift_13 ?_
    refine callRd hC (k_X2_isDeepEnough l g ad σ x1 (Y_day σ) h_1) ci_X2_isDeepEnough lk_X2_149 ⟨Nat.le_of_ble_eq_true rfl, Nat.le_of_ble_eq_true rfl⟩ hP hK hE (q0 := 0) rfl rfl rfl rfl hl.1 rfl (Nat.le_of_ble_eq_true rfl) dX2_whyNoLift_16 ⟨Nat.zero_le _, Nat.zero_le _⟩ ?_
    refine lv_if_ne (tgt := 24) hx hb dX2_whyNoLift_19 (by decide) (fun c_2 => ?_) (fun c_2 => ?_)
    · refine lv_aload_n hx hb dX2_whyNoLift_24 rfl (lv_at hl 0 rfl) ?_
      refine lv_iload_n hx hb dX2_whyNoLift_25 rfl (lv_at hl 1 rfl) ?_
      refine callRd hC (k_X2_craneBears l g ad σ x1 h_1) ci_X2_craneBears lk_X2_152 ⟨Nat.le_of_ble_eq_true rfl, Nat.le_of_ble_eq_true rfl⟩ hP hK hE (q0 := 0) rfl rfl rfl rfl hl.1 rfl (Nat.le_of_ble_eq_true rfl) dX2_whyNoLift_26 ⟨Nat.zero_le _, Nat.zero_le _⟩ ?_
      refine lv_if_ne (tgt := 34) hx hb dX2_whyNoLift_29 (by decide) (fun c_3 => ?_) (fun c_3 => ?_)
      · refine lv_aload_n hx hb dX2_whyNoLift_34 rfl (lv_at hl 0 rfl) ?_
        refine lv_iload_n hx hb dX2_whyNoLift_35 rfl (lv_at hl 1 rfl) ?_
        refine callRd hC (k_X2_cradleFor l g ad σ x1 h_1 h_keel) ci_X2_cradleFor lk_X2_155 ⟨Nat.le_of_ble_eq_true rfl, Nat.le_of_ble_eq_true rfl⟩ hP hK hE (q0 := 0) rfl rfl rfl rfl hl.1 rfl (Nat.le_of_ble_eq_true rfl) dX2_whyNoLift_36 ⟨Nat.zero_le _, Nat.zero_le _⟩ ?_
        refine lv_bipush (v := (-5)) hx hb dX2_whyNoLift_39 (by decide) ?_
        refine lv_icmp_ne (tgt := 46) hx hb dX2_whyNoLift_41 (by decide) (fun c_4 => ?_) (fun c_4 => ?_)
        · refine lv_aload_n hx hb dX2_whyNoLift_46 rfl (lv_at hl 0 rfl) ?_
          refine lv_iload_n hx hb dX2_whyNoLift_47 rfl (lv_at hl 2 rfl) ?_
          refine lv_iload_n hx hb dX2_whyNoLift_48 rfl (lv_at hl 1 rfl) ?_
          refine callRd hC (k_X2_hasRoom l g ad σ x2 x1 h_2 h_1) ci_X2_hasRoom lk_X2_129 ⟨Nat.le_of_ble_eq_true rfl, Nat.le_of_ble_eq_true rfl⟩ hP hK hE (q0 := 0) rfl rfl rfl rfl hl.1 rfl (Nat.le_of_ble_eq_true rfl) dX2_whyNoLift_49 ⟨Nat.zero_le _, Nat.zero_le _⟩ ?_
          refine lv_if_ne (tgt := 57) hx hb dX2_whyNoLift_52 (by decide) (fun c_5 => ?_) (fun c_5 => ?_)
          · refine lv_aload_n hx hb dX2_whyNoLift_57 rfl (lv_at hl 0 rfl) ?_
            refine lv_iload_n hx hb dX2_whyNoLift_58 rfl (lv_at hl 1 rfl) ?_
            refine callRd hC (k_X2_hasMast l g ad σ x1 h_1) ci_X2_hasMast lk_X2_83 ⟨Nat.le_of_ble_eq_true rfl, Nat.le_of_ble_eq_true rfl⟩ hP hK hE (q0 := 0) rfl rfl rfl rfl hl.1 rfl (Nat.le_of_ble_eq_true rfl) dX2_whyNoLift_59 ⟨Nat.zero_le _, Nat.zero_le _⟩ ?_
            refine lv_if_eq (tgt := 79) hx hb dX2_whyNoLift_62 (by decide) (fun c_6 => ?_) (fun c_6 => ?_)
            · refine lv_aload_n hx hb dX2_whyNoLift_79 rfl (lv_at hl 0 rfl) ?_
              refine callRd hC (k_X2_liftsLeft l g ad σ) ci_X2_liftsLeft lk_X2_158 ⟨Nat.le_of_ble_eq_true rfl, Nat.le_of_ble_eq_true rfl⟩ hP hK hE (q0 := 0) rfl rfl rfl rfl hl.1 rfl (Nat.le_of_ble_eq_true rfl) dX2_whyNoLift_80 ⟨Nat.zero_le _, Nat.zero_le _⟩ ?_
              refine lv_if_le (tgt := 90) hx hb dX2_whyNoLift_83 (by decide) (fun c_7 => ?_) (fun c_7 => ?_)
              · refine lv_bipush (v := 7) hx hb dX2_whyNoLift_90 (by decide) ?_
                exact rd_ret hC dX2_whyNoLift_92 (Eq.symm (by unfold mX2_whyNoLift; rw [if_pos c_1, if_neg c_2, if_neg c_3, if_neg c_4, if_neg c_5, if_pos c_6, if_pos c_7]))
              · refine lv_iconst (v := 0) hx hb dX2_whyNoLift_86 (by decide) ?_
                refine lv_goto (tgt := 92) hx hb dX2_whyNoLift_87 (by decide) ?_
                exact rd_ret hC dX2_whyNoLift_92 (Eq.symm (by unfold mX2_whyNoLift; rw [if_pos c_1, if_neg c_2, if_neg c_3, if_neg c_4, if_neg c_5, if_pos c_6, if_neg c_7]))
            · refine lv_aload_n hx hb dX2_whyNoLift_65 rfl (lv_at hl 0 rfl) ?_
              refine lv_iload_n hx hb dX2_whyNoLift_66 rfl (lv_at hl 1 rfl) ?_
              refine lv_iconst (v := 0) hx hb dX2_whyNoLift_67 (by decide) ?_
              refine callRd hC (k_X2_fact l g ad σ x1 0 h_1 (in_iff.mpr (by decide))) ci_X2_fact lk_X2_47 ⟨Nat.le_of_ble_eq_true rfl, Nat.le_of_ble_eq_true rfl⟩ hP hK hE (q0 := 0) rfl rfl rfl rfl hl.1 rfl (Nat.le_of_ble_eq_true rfl) dX2_whyNoLift_68 ⟨Nat.zero_le _, Nat.zero_le _⟩ ?_
              refine lv_bipush (v := 10) hx hb dX2_whyNoLift_71 (by decide) ?_
              refine lv_icmp_lt (tgt := 79) hx hb dX2_whyNoLift_73 (by decide) (fun c_8 => ?_) (fun c_8 => ?_)
              · refine lv_aload_n hx hb dX2_whyNoLift_79 rfl (lv_at hl 0 rfl) ?_
                refine callRd hC (k_X2_liftsLeft l g ad σ) ci_X2_liftsLeft lk_X2_158 ⟨Nat.le_of_ble_eq_true rfl, Nat.le_of_ble_eq_true rfl⟩ hP hK hE (q0 := 0) rfl rfl rfl rfl hl.1 rfl (Nat.le_of_ble_eq_true rfl) dX2_whyNoLift_80 ⟨Nat.zero_le _, Nat.zero_le _⟩ ?_
                refine lv_if_le (tgt := 90) hx hb dX2_whyNoLift_83 (by decide) (fun c_9 => ?_) (fun c_9 => ?_)
                · refine lv_bipush (v := 7) hx hb dX2_whyNoLift_90 (by decide) ?_
                  exact rd_ret hC dX2_whyNoLift_92 (Eq.symm (by unfold mX2_whyNoLift; rw [if_pos c_1, if_neg c_2, if_neg c_3, if_neg c_4, if_neg c_5, if_neg c_6, if_pos c_8, if_pos c_9]))
                · refine lv_iconst (v := 0) hx hb dX2_whyNoLift_86 (by decide) ?_
                  refine lv_goto (tgt := 92) hx hb dX2_whyNoLift_87 (by decide) ?_
                  exact rd_ret hC dX2_whyNoLift_92 (Eq.symm (by unfold mX2_whyNoLift; rw [if_pos c_1, if_neg c_2, if_neg c_3, if_neg c_4, if_neg c_5, if_neg c_6, if_pos c_8, if_neg c_9]))
              · refine lv_bipush (v := 6) hx hb dX2_whyNoLift_76 (by decide) ?_
                exact rd_ret hC dX2_whyNoLift_78 (Eq.symm (by unfold mX2_whyNoLift; rw [if_pos c_1, if_neg c_2, if_neg c_3, if_neg c_4, if_neg c_5, if_neg c_6, if_neg c_8]))
          · refine lv_iconst (v := 5) hx hb dX2_whyNoLift_55 (by decide) ?_
            exact rd_ret hC dX2_whyNoLift_56 (Eq.symm (by unfold mX2_whyNoLift; rw [if_pos c_1, if_neg c_2, if_neg c_3, if_neg c_4, if_pos c_5]))
        · refine lv_iconst (v := 4) hx hb dX2_whyNoLift_44 (by decide) ?_
          exact rd_ret hC dX2_whyNoLift_45 (Eq.symm (by unfold mX2_whyNoLift; rw [if_pos c_1, if_neg c_2, if_neg c_3, if_pos c_4]))
      · refine lv_iconst (v := 3) hx hb dX2_whyNoLift_32 (by decide) ?_
        exact rd_ret hC dX2_whyNoLift_33 (Eq.symm (by unfold mX2_whyNoLift; rw [if_pos c_1, if_neg c_2, if_pos c_3]))
    · refine lv_iconst (v := 2) hx hb dX2_whyNoLift_22 (by decide) ?_
      exact rd_ret hC dX2_whyNoLift_23 (Eq.symm (by unfold mX2_whyNoLift; rw [if_pos c_1, if_pos c_2]))
  · refine lv_iconst (v := 1) hx hb dX2_whyNoLift_8 (by decide) ?_
    exact rd_ret hC dX2_whyNoLift_9 (Eq.symm (by unfold mX2_whyNoLift; rw [if_neg c_1]))
def KeelOK (σ : YS) : Prop := ∀ b : Int32, ¬ mX2_knows σ b = 0 → vp_in (mX2_fact σ b 3) 3
def mX2_liftInto (σ : YS) (x1 : Int32) (x2 : Int32) : Int32 × YS := (if (mX2_knows σ x1) = 0 then ((-1), σ) else (if (mX2_isRow x2) = 0 then ((-1), σ) else (if (mX2_whyNoLift σ x1 x2) = 0 then ((mX2_boatsIn (mX2_takeLift (mX2_note (mX2_putAtOuterEnd (mX2_note σ x1 6 (mX2_cradleFor σ x1)) x1 x2) x1 10 ((mX2_fact (mX2_putAtOuterEnd (mX2_note σ x1 6 (mX2_cradleFor σ x1)) x1 x2) x1 10) + 1))) x2), (mX2_takeLift (mX2_note (mX2_putAtOuterEnd (mX2_note σ x1 6 (mX2_cradleFor σ x1)) x1 x2) x1 10 ((mX2_fact (mX2_putAtOuterEnd (mX2_note σ x1 6 (mX2_cradleFor σ x1)) x1 x2) x1 10) + 1)))) else (((-10) - (mX2_whyNoLift σ x1 x2)), σ))))
set_option maxHeartbeats 4000000 in
set_option maxRecDepth 100000 in
theorem k_X2_liftInto (l : Launch) (g : WG) (ad : AY) (σ : YS) (x1 : Int32) (x2 : Int32) (h_keels : KeelOK σ) : Wr l yX2_liftInto cX2_liftInto 4 (some .int) 5 g (cY g ad σ) (cY g ad (mX2_liftInto σ x1 x2).2) [.ref ad.1, .int x1, .int x2] (mX2_liftInto σ x1 x2).1 := by
  refine wr_of (by decide) (Nat.le_of_ble_eq_true rfl) ?_
  intro p e s m args below meth c ls A hC hAe hP hD hK hE hA hS hl
  obtain ⟨hx, hb, hml, hr, hown, hts, hlk, hnm⟩ := id hC
  have hl : lv_has ls 4 [(0, .ref ad.1), (1, .int x1), (2, .int x2)] := hl
  refine lv_aload_n hx hb dX2_liftInto_0 rfl (lv_at hl 0 rfl) ?_
  refine lv_iload_n hx hb dX2_liftInto_1 rfl (lv_at hl 1 rfl) ?_
  refine callRd hC (k_X2_knows l g ad σ x1) ci_X2_knows lk_X2_77 ⟨Nat.le_of_ble_eq_true rfl, Nat.le_of_ble_eq_true rfl⟩ hP hK (hE.S hS).none (q0 := 0) rfl rfl rfl rfl hl.1 rfl (Nat.le_of_ble_eq_true rfl) dX2_liftInto_2 ⟨Nat.zero_le _, Nat.zero_le _⟩ ?_
  refine lv_if_eq (tgt := 15) hx hb dX2_liftInto_5 (by decide) (fun c_1 => ?_) (fun c_1 => ?_)
  · refine lv_iconst (v := (-1)) hx hb dX2_liftInto_15 (by decide) ?_
    have hm : mX2_liftInto σ x1 x2 = ((-1), σ) := by unfold mX2_liftInto; rw [if_pos c_1]
    exact wr_ret hC hP (hAe ▸ hD) (hAe ▸ hS) dX2_liftInto_16 (by rw [hm]) (by rw [hm])
  · refine lv_iload_n hx hb dX2_liftInto_8 rfl (lv_at hl 2 rfl) ?_
    refine callRs hC (k_X2_isRow l g x2) ci_X2_isRow lk_X2_111 ⟨Nat.le_of_ble_eq_true rfl, Nat.le_of_ble_eq_true rfl⟩ hK (hE.S hS).none rfl hl.1 rfl (Nat.le_of_ble_eq_true rfl) dX2_liftInto_9 ⟨Nat.zero_le _, Nat.zero_le _⟩ ?_
    refine lv_if_ne (tgt := 17) hx hb dX2_liftInto_12 (by decide) (fun c_2 => ?_) (fun c_2 => ?_)
    · refine lv_aload_n hx hb dX2_liftInto_17 rfl (lv_at hl 0 rfl) ?_
      refine lv_iload_n hx hb dX2_liftInto_18 rfl (lv_at hl 1 rfl) ?_
      refine lv_iload_n hx hb dX2_liftInto_19 rfl (lv_at hl 2 rfl) ?_
      refine callRd hC (k_X2_whyNoLift l g ad σ x1 x2 (in_X2_knows c_1) (in_X2_isRow c_2) (h_keels x1 c_1)) ci_X2_whyNoLift lk_X2_161 ⟨Nat.le_of_ble_eq_true rfl, Nat.le_of_ble_eq_true rfl⟩ hP hK (hE.S hS).none (q0 := 0) rfl rfl rfl rfl hl.1 rfl (Nat.le_of_ble_eq_true rfl) dX2_liftInto_20 ⟨Nat.zero_le _, Nat.zero_le _⟩ ?_
      refine lv_istore_n (lv' := [(3, .int (mX2_whyNoLift σ x1 x2)), (0, .ref ad.1), (1, .int x1), (2, .int x2)]) hx hb dX2_liftInto_23 rfl hl (by decide) rfl (fun ls hl => ?_)
      refine lv_iload_n hx hb dX2_liftInto_24 rfl (lv_at hl 0 rfl) ?_
      refine lv_if_eq (tgt := 33) hx hb dX2_liftInto_25 (by decide) (fun c_3 => ?_) (fun c_3 => ?_)
      · refine lv_aload_n hx hb dX2_liftInto_33 rfl (lv_at hl 1 rfl) ?_
        refine lv_iload_n hx hb dX2_liftInto_34 rfl (lv_at hl 2 rfl) ?_
        refine lv_bipush (v := 6) hx hb dX2_liftInto_35 (by decide) ?_
        refine lv_aload_n hx hb dX2_liftInto_37 rfl (lv_at hl 1 rfl) ?_
        refine lv_iload_n hx hb dX2_liftInto_38 rfl (lv_at hl 2 rfl) ?_
        refine callRd hC (k_X2_cradleFor l g ad σ x1 (in_X2_knows c_1) (h_keels x1 c_1)) ci_X2_cradleFor lk_X2_155 ⟨Nat.le_of_ble_eq_true rfl, Nat.le_of_ble_eq_true rfl⟩ hP hK (hE.S hS).none (q0 := 0) rfl rfl rfl rfl hl.1 rfl (Nat.le_of_ble_eq_true rfl) dX2_liftInto_39 ⟨Nat.zero_le _, Nat.zero_le _⟩ ?_
        refine callWv hC (k_X2_note l g ad σ x1 6 (mX2_cradleFor σ x1) (in_X2_knows c_1) (in_iff.mpr (by decide))) ci_X2_note lk_X2_59 ⟨Nat.le_of_ble_eq_true rfl, Nat.le_of_ble_eq_true rfl⟩ hP hD hK hE hS hA (q0 := 0) rfl rfl rfl rfl hl.1 rfl (Nat.le_of_ble_eq_true rfl) dX2_liftInto_42 ⟨Nat.zero_le _, Nat.zero_le _⟩ (fun H locs hP _ hD hS _ _ => ?_)
        refine lv_aload_n hx hb dX2_liftInto_45 rfl (lv_at hl 1 rfl) ?_
        refine lv_iload_n hx hb dX2_liftInto_46 rfl (lv_at hl 2 rfl) ?_
        refine lv_iload_n hx hb dX2_liftInto_47 rfl (lv_at hl 3 rfl) ?_
        refine callWv hC (k_X2_putAtOuterEnd l g ad (mX2_note σ x1 6 (mX2_cradleFor σ x1)) x1 x2 (in_X2_knows c_1)) ci_X2_putAtOuterEnd lk_X2_164 ⟨Nat.le_of_ble_eq_true rfl, Nat.le_of_ble_eq_true rfl⟩ hP hD hK hE hS hA (q0 := 0) rfl rfl rfl rfl hl.1 rfl (Nat.le_of_ble_eq_true rfl) dX2_liftInto_48 ⟨Nat.zero_le _, Nat.zero_le _⟩ (fun H locs hP _ hD hS _ _ => ?_)
        refine lv_aload_n hx hb dX2_liftInto_51 rfl (lv_at hl 1 rfl) ?_
        refine lv_iload_n hx hb dX2_liftInto_52 rfl (lv_at hl 2 rfl) ?_
        refine lv_bipush (v := 10) hx hb dX2_liftInto_53 (by decide) ?_
        refine lv_aload_n hx hb dX2_liftInto_55 rfl (lv_at hl 1 rfl) ?_
        refine lv_iload_n hx hb dX2_liftInto_56 rfl (lv_at hl 2 rfl) ?_
        refine lv_bipush (v := 10) hx hb dX2_liftInto_57 (by decide) ?_
        refine callRd hC (k_X2_fact l g ad (mX2_putAtOuterEnd (mX2_note σ x1 6 (mX2_cradleFor σ x1)) x1 x2) x1 10 (in_X2_knows c_1) (in_iff.mpr (by decide))) ci_X2_fact lk_X2_47 ⟨Nat.le_of_ble_eq_true rfl, Nat.le_of_ble_eq_true rfl⟩ hP hK (hE.S hS).none (q0 := 0) rfl rfl rfl rfl hl.1 rfl (Nat.le_of_ble_eq_true rfl) dX2_liftInto_59 ⟨Nat.zero_le _, Nat.zero_le _⟩ ?_
        refine lv_iconst (v := 1) hx hb dX2_liftInto_62 (by decide) ?_
        refine lv_iadd hx hb dX2_liftInto_63 ?_
        refine callWv hC (k_X2_note l g ad (mX2_putAtOuterEnd (mX2_note σ x1 6 (mX2_cradleFor σ x1)) x1 x2) x1 10 ((mX2_fact (mX2_putAtOuterEnd (mX2_note σ x1 6 (mX2_cradleFor σ x1)) x1 x2) x1 10) + 1) (in_X2_knows c_1) (in_iff.mpr (by decide))) ci_X2_note lk_X2_59 ⟨Nat.le_of_ble_eq_true rfl, Nat.le_of_ble_eq_true rfl⟩ hP hD hK hE hS hA (q0 := 0) rfl rfl rfl rfl hl.1 rfl (Nat.le_of_ble_eq_true rfl) dX2_liftInto_64 ⟨Nat.zero_le _, Nat.zero_le _⟩ (fun H locs hP _ hD hS _ _ => ?_)
        refine lv_aload_n hx hb dX2_liftInto_67 rfl (lv_at hl 1 rfl) ?_
        refine callWv hC (k_X2_takeLift l g ad (mX2_note (mX2_putAtOuterEnd (mX2_note σ x1 6 (mX2_cradleFor σ x1)) x1 x2) x1 10 ((mX2_fact (mX2_putAtOuterEnd (mX2_note σ x1 6 (mX2_cradleFor σ x1)) x1 x2) x1 10) + 1))) ci_X2_takeLift lk_X2_168 ⟨Nat.le_of_ble_eq_true rfl, Nat.le_of_ble_eq_true rfl⟩ hP hD hK hE hS hA (q0 := 0) rfl rfl rfl rfl hl.1 rfl (Nat.le_of_ble_eq_true rfl) dX2_liftInto_68 ⟨Nat.zero_le _, Nat.zero_le _⟩ (fun H locs hP _ hD hS _ _ => ?_)
        refine lv_aload_n hx hb dX2_liftInto_71 rfl (lv_at hl 1 rfl) ?_
        refine lv_iload_n hx hb dX2_liftInto_72 rfl (lv_at hl 3 rfl) ?_
        refine callRd hC (k_X2_boatsIn l g ad (mX2_takeLift (mX2_note (mX2_putAtOuterEnd (mX2_note σ x1 6 (mX2_cradleFor σ x1)) x1 x2) x1 10 ((mX2_fact (mX2_putAtOuterEnd (mX2_note σ x1 6 (mX2_cradleFor σ x1)) x1 x2) x1 10) + 1))) x2) ci_X2_boatsIn lk_X2_126 ⟨Nat.le_of_ble_eq_true rfl, Nat.le_of_ble_eq_true rfl⟩ hP hK (hE.S hS).none (q0 := 0) rfl rfl rfl rfl hl.1 rfl (Nat.le_of_ble_eq_true rfl) dX2_liftInto_73 ⟨Nat.zero_le _, Nat.zero_le _⟩ ?_
        have hm : mX2_liftInto σ x1 x2 = ((mX2_boatsIn (mX2_takeLift (mX2_note (mX2_putAtOuterEnd (mX2_note σ x1 6 (mX2_cradleFor σ x1)) x1 x2) x1 10 ((mX2_fact (mX2_putAtOuterEnd (mX2_note σ x1 6 (mX2_cradleFor σ x1)) x1 x2) x1 10) + 1))) x2), (mX2_takeLift (mX2_note (mX2_putAtOuterEnd (mX2_note σ x1 6 (mX2_cradleFor σ x1)) x1 x2) x1 10 ((mX2_fact (mX2_putAtOuterEnd (mX2_note σ x1 6 (mX2_cradleFor σ x1)) x1 x2) x1 10) + 1)))) := by unfold mX2_liftInto; rw [if_neg c_1, if_neg c_2, if_pos c_3]
        exact wr_ret hC hP (hAe ▸ hD) (hAe ▸ hS) dX2_liftInto_76 (by rw [hm]) (by rw [hm])
      · refine lv_bipush (v := (-10)) hx hb dX2_liftInto_28 (by decide) ?_
        refine lv_iload_n hx hb dX2_liftInto_30 rfl (lv_at hl 0 rfl) ?_
        refine lv_isub hx hb dX2_liftInto_31 ?_
        have hm : mX2_liftInto σ x1 x2 = (((-10) - (mX2_whyNoLift σ x1 x2)), σ) := by unfold mX2_liftInto; rw [if_neg c_1, if_neg c_2, if_neg c_3]
        exact wr_ret hC hP (hAe ▸ hD) (hAe ▸ hS) dX2_liftInto_32 (by rw [hm]) (by rw [hm])
    · refine lv_iconst (v := (-1)) hx hb dX2_liftInto_15 (by decide) ?_
      have hm : mX2_liftInto σ x1 x2 = ((-1), σ) := by unfold mX2_liftInto; rw [if_neg c_1, if_pos c_2]
      exact wr_ret hC hP (hAe ▸ hD) (hAe ▸ hS) dX2_liftInto_16 (by rw [hm]) (by rw [hm])
def mX2_whyNoLaunch (σ : YS) (x1 : Int32) : Int32 := (if (mX2_isAshore σ x1) = 0 then 1 else (if (mX2_fact σ x1 8) ≤ 0 then (if (mX2_boatsFartherOut σ x1) ≤ 0 then (if (mX2_isDeepEnough σ x1 (Y_day σ)) = 0 then 4 else (if (mX2_craneBears σ x1) = 0 then 5 else (if (mX2_liftsLeft σ) ≤ 0 then 6 else 0))) else 3) else 2))
set_option maxHeartbeats 4000000 in
set_option maxRecDepth 100000 in
theorem k_X2_whyNoLaunch (l : Launch) (g : WG) (ad : AY) (σ : YS) (x1 : Int32) (h_1 : vp_in x1 20) : Rd l yX2_whyNoLaunch cX2_whyNoLaunch 2 (some .int) 4 (Wl g (cY g ad σ) (fun _ => False)) [.ref ad.1, .int x1] (mX2_whyNoLaunch σ x1) := by
  refine rd_of (by decide) (Nat.le_of_ble_eq_true rfl) ?_
  intro p e s m args below meth c ls hC hW hl
  obtain ⟨hP, hK, hE⟩ := hW
  obtain ⟨hx, hb, hml, hr, hown, hts, hlk, hnm⟩ := id hC
  have hl : lv_has ls 2 [(0, .ref ad.1), (1, .int x1)] := hl
  refine lv_aload_n hx hb dX2_whyNoLaunch_0 rfl (lv_at hl 0 rfl) ?_
  refine lv_iload_n hx hb dX2_whyNoLaunch_1 rfl (lv_at hl 1 rfl) ?_
  refine callRd hC (k_X2_isAshore l g ad σ x1 h_1) ci_X2_isAshore lk_X2_80 ⟨Nat.le_of_ble_eq_true rfl, Nat.le_of_ble_eq_true rfl⟩ hP hK hE (q0 := 0) rfl rfl rfl rfl hl.1 rfl (Nat.le_of_ble_eq_true rfl) dX2_whyNoLaunch_2 ⟨Nat.zero_le _, Nat.zero_le _⟩ ?_
  refine lv_if_ne (tgt := 10) hx hb dX2_whyNoLaunch_5 (by decide) (fun c_1 => ?_) (fun c_1 => ?_)
  · refine lv_aload_n hx hb dX2_whyNoLaunch_10 rfl (lv_at hl 0 rfl) ?_
    refine lv_iload_n hx hb dX2_whyNoLaunch_11 rfl (lv_at hl 1 rfl) ?_
    refine lv_bipush (v := 8) hx hb dX2_whyNoLaunch_12 (by decide) ?_
    refine callRd hC (k_X2_fact l g ad σ x1 8 h_1 (in_iff.mpr (by decide))) ci_X2_fact lk_X2_47 ⟨Nat.le_of_ble_eq_true rfl, Nat.le_of_ble_eq_true rfl⟩ hP hK hE (q0 := 0) rfl rfl rfl rfl hl.1 rfl (Nat.le_of_ble_eq_true rfl) dX2_whyNoLaunch_14 ⟨Nat.zero_le _, Nat.zero_le _⟩ ?_
    refine lv_if_le (tgt := 22) hx hb dX2_whyNoLaunch_17 (by decide) (fun c_2 => ?_) (fun c_2 => ?_)
    · refine lv_aload_n hx hb dX2_whyNoLaunch_22 rfl (lv_at hl 0 rfl) ?_
      refine lv_iload_n hx hb dX2_whyNoLaunch_23 rfl (lv_at hl 1 rfl) ?_
      refine callRd hC (k_X2_boatsFartherOut l g ad σ x1 h_1) ci_X2_boatsFartherOut lk_X2_171 ⟨Nat.le_of_ble_eq_true rfl, Nat.le_of_ble_eq_true rfl⟩ hP hK hE (q0 := 0) rfl rfl rfl rfl hl.1 rfl (Nat.le_of_ble_eq_true rfl) dX2_whyNoLaunch_24 ⟨Nat.zero_le _, Nat.zero_le _⟩ ?_
      refine lv_if_le (tgt := 32) hx hb dX2_whyNoLaunch_27 (by decide) (fun c_3 => ?_) (fun c_3 => ?_)
      · refine lv_aload_n hx hb dX2_whyNoLaunch_32 rfl (lv_at hl 0 rfl) ?_
        refine lv_iload_n hx hb dX2_whyNoLaunch_33 rfl (lv_at hl 1 rfl) ?_
        refine lv_aload_n hx hb dX2_whyNoLaunch_34 rfl (lv_at hl 0 rfl) ?_
        refine gY_day hC rfl hK hP dX2_whyNoLaunch_35 ?_
        refine callRd hC (k_X2_isDeepEnough l g ad σ x1 (Y_day σ) h_1) ci_X2_isDeepEnough lk_X2_149 ⟨Nat.le_of_ble_eq_true rfl, Nat.le_of_ble_eq_true rfl⟩ hP hK hE (q0 := 0) rfl rfl rfl rfl hl.1 rfl (Nat.le_of_ble_eq_true rfl) dX2_whyNoLaunch_38 ⟨Nat.zero_le _, Nat.zero_le _⟩ ?_
        refine lv_if_ne (tgt := 46) hx hb dX2_whyNoLaunch_41 (by decide) (fun c_4 => ?_) (fun c_4 => ?_)
        · refine lv_aload_n hx hb dX2_whyNoLaunch_46 rfl (lv_at hl 0 rfl) ?_
          refine lv_iload_n hx hb dX2_whyNoLaunch_47 rfl (lv_at hl 1 rfl) ?_
          refine callRd hC (k_X2_craneBears l g ad σ x1 h_1) ci_X2_craneBears lk_X2_152 ⟨Nat.le_of_ble_eq_true rfl, Nat.le_of_ble_eq_true rfl⟩ hP hK hE (q0 := 0) rfl rfl rfl rfl hl.1 rfl (Nat.le_of_ble_eq_true rfl) dX2_whyNoLaunch_48 ⟨Nat.zero_le _, Nat.zero_le _⟩ ?_
          refine lv_if_ne (tgt := 56) hx hb dX2_whyNoLaunch_51 (by decide) (fun c_5 => ?_) (fun c_5 => ?_)
          · refine lv_aload_n hx hb dX2_whyNoLaunch_56 rfl (lv_at hl 0 rfl) ?_
            refine callRd hC (k_X2_liftsLeft l g ad σ) ci_X2_liftsLeft lk_X2_158 ⟨Nat.le_of_ble_eq_true rfl, Nat.le_of_ble_eq_true rfl⟩ hP hK hE (q0 := 0) rfl rfl rfl rfl hl.1 rfl (Nat.le_of_ble_eq_true rfl) dX2_whyNoLaunch_57 ⟨Nat.zero_le _, Nat.zero_le _⟩ ?_
            refine lv_if_le (tgt := 67) hx hb dX2_whyNoLaunch_60 (by decide) (fun c_6 => ?_) (fun c_6 => ?_)
            · refine lv_bipush (v := 6) hx hb dX2_whyNoLaunch_67 (by decide) ?_
              exact rd_ret hC dX2_whyNoLaunch_69 (Eq.symm (by unfold mX2_whyNoLaunch; rw [if_neg c_1, if_pos c_2, if_pos c_3, if_neg c_4, if_neg c_5, if_pos c_6]))
            · refine lv_iconst (v := 0) hx hb dX2_whyNoLaunch_63 (by decide) ?_
              refine lv_goto (tgt := 69) hx hb dX2_whyNoLaunch_64 (by decide) ?_
              exact rd_ret hC dX2_whyNoLaunch_69 (Eq.symm (by unfold mX2_whyNoLaunch; rw [if_neg c_1, if_pos c_2, if_pos c_3, if_neg c_4, if_neg c_5, if_neg c_6]))
          · refine lv_iconst (v := 5) hx hb dX2_whyNoLaunch_54 (by decide) ?_
            exact rd_ret hC dX2_whyNoLaunch_55 (Eq.symm (by unfold mX2_whyNoLaunch; rw [if_neg c_1, if_pos c_2, if_pos c_3, if_neg c_4, if_pos c_5]))
        · refine lv_iconst (v := 4) hx hb dX2_whyNoLaunch_44 (by decide) ?_
          exact rd_ret hC dX2_whyNoLaunch_45 (Eq.symm (by unfold mX2_whyNoLaunch; rw [if_neg c_1, if_pos c_2, if_pos c_3, if_pos c_4]))
      · refine lv_iconst (v := 3) hx hb dX2_whyNoLaunch_30 (by decide) ?_
        exact rd_ret hC dX2_whyNoLaunch_31 (Eq.symm (by unfold mX2_whyNoLaunch; rw [if_neg c_1, if_pos c_2, if_neg c_3]))
    · refine lv_iconst (v := 2) hx hb dX2_whyNoLaunch_20 (by decide) ?_
      exact rd_ret hC dX2_whyNoLaunch_21 (Eq.symm (by unfold mX2_whyNoLaunch; rw [if_neg c_1, if_neg c_2]))
  · refine lv_iconst (v := 1) hx hb dX2_whyNoLaunch_8 (by decide) ?_
    exact rd_ret hC dX2_whyNoLaunch_9 (Eq.symm (by unfold mX2_whyNoLaunch; rw [if_pos c_1]))
def mX2_putAfloat (σ : YS) (x1 : Int32) : Int32 × YS := (if (mX2_knows σ x1) = 0 then ((-1), σ) else (if (mX2_whyNoLaunch σ x1) = 0 then ((mX2_fact σ x1 9), (Y_set_launches (mX2_takeLift (mX2_noteAfloat σ x1)) ((Y_launches (mX2_takeLift (mX2_noteAfloat σ x1))) + 1))) else (((-10) - (mX2_whyNoLaunch σ x1)), σ)))
set_option maxHeartbeats 4000000 in
set_option maxRecDepth 100000 in
theorem k_X2_putAfloat (l : Launch) (g : WG) (ad : AY) (σ : YS) (x1 : Int32) : Wr l yX2_putAfloat cX2_putAfloat 4 (some .int) 5 g (cY g ad σ) (cY g ad (mX2_putAfloat σ x1).2) [.ref ad.1, .int x1] (mX2_putAfloat σ x1).1 := by
  refine wr_of (by decide) (Nat.le_of_ble_eq_true rfl) ?_
  intro p e s m args below meth c ls A hC hAe hP hD hK hE hA hS hl
  obtain ⟨hx, hb, hml, hr, hown, hts, hlk, hnm⟩ := id hC
  have hl : lv_has ls 4 [(0, .ref ad.1), (1, .int x1)] := hl
  refine lv_aload_n hx hb dX2_putAfloat_0 rfl (lv_at hl 0 rfl) ?_
  refine lv_iload_n hx hb dX2_putAfloat_1 rfl (lv_at hl 1 rfl) ?_
  refine callRd hC (k_X2_knows l g ad σ x1) ci_X2_knows lk_X2_77 ⟨Nat.le_of_ble_eq_true rfl, Nat.le_of_ble_eq_true rfl⟩ hP hK (hE.S hS).none (q0 := 0) rfl rfl rfl rfl hl.1 rfl (Nat.le_of_ble_eq_true rfl) dX2_putAfloat_2 ⟨Nat.zero_le _, Nat.zero_le _⟩ ?_
  refine lv_if_ne (tgt := 10) hx hb dX2_putAfloat_5 (by decide) (fun c_1 => ?_) (fun c_1 => ?_)
  · refine lv_aload_n hx hb dX2_putAfloat_10 rfl (lv_at hl 0 rfl) ?_
    refine lv_iload_n hx hb dX2_putAfloat_11 rfl (lv_at hl 1 rfl) ?_
    refine callRd hC (k_X2_whyNoLaunch l g ad σ x1 (in_X2_knows c_1)) ci_X2_whyNoLaunch lk_X2_174 ⟨Nat.le_of_ble_eq_true rfl, Nat.le_of_ble_eq_true rfl⟩ hP hK (hE.S hS).none (q0 := 0) rfl rfl rfl rfl hl.1 rfl (Nat.le_of_ble_eq_true rfl) dX2_putAfloat_12 ⟨Nat.zero_le _, Nat.zero_le _⟩ ?_
    refine lv_istore_n (lv' := [(2, .int (mX2_whyNoLaunch σ x1)), (0, .ref ad.1), (1, .int x1)]) hx hb dX2_putAfloat_15 rfl hl (by decide) rfl (fun ls hl => ?_)
    refine lv_iload_n hx hb dX2_putAfloat_16 rfl (lv_at hl 0 rfl) ?_
    refine lv_if_eq (tgt := 25) hx hb dX2_putAfloat_17 (by decide) (fun c_2 => ?_) (fun c_2 => ?_)
    · refine lv_aload_n hx hb dX2_putAfloat_25 rfl (lv_at hl 1 rfl) ?_
      refine lv_iload_n hx hb dX2_putAfloat_26 rfl (lv_at hl 2 rfl) ?_
      refine lv_bipush (v := 9) hx hb dX2_putAfloat_27 (by decide) ?_
      refine callRd hC (k_X2_fact l g ad σ x1 9 (in_X2_knows c_1) (in_iff.mpr (by decide))) ci_X2_fact lk_X2_47 ⟨Nat.le_of_ble_eq_true rfl, Nat.le_of_ble_eq_true rfl⟩ hP hK (hE.S hS).none (q0 := 0) rfl rfl rfl rfl hl.1 rfl (Nat.le_of_ble_eq_true rfl) dX2_putAfloat_29 ⟨Nat.zero_le _, Nat.zero_le _⟩ ?_
      refine lv_istore_n (lv' := [(3, .int (mX2_fact σ x1 9)), (2, .int (mX2_whyNoLaunch σ x1)), (0, .ref ad.1), (1, .int x1)]) hx hb dX2_putAfloat_32 rfl hl (by decide) rfl (fun ls hl => ?_)
      refine lv_aload_n hx hb dX2_putAfloat_33 rfl (lv_at hl 2 rfl) ?_
      refine lv_iload_n hx hb dX2_putAfloat_34 rfl (lv_at hl 3 rfl) ?_
      refine callWv hC (k_X2_noteAfloat l g ad σ x1 (in_X2_knows c_1)) ci_X2_noteAfloat lk_X2_74 ⟨Nat.le_of_ble_eq_true rfl, Nat.le_of_ble_eq_true rfl⟩ hP hD hK hE hS hA (q0 := 0) rfl rfl rfl rfl hl.1 rfl (Nat.le_of_ble_eq_true rfl) dX2_putAfloat_35 ⟨Nat.zero_le _, Nat.zero_le _⟩ (fun H locs hP _ hD hS _ _ => ?_)
      refine lv_aload_n hx hb dX2_putAfloat_38 rfl (lv_at hl 2 rfl) ?_
      refine callWv hC (k_X2_takeLift l g ad (mX2_noteAfloat σ x1)) ci_X2_takeLift lk_X2_168 ⟨Nat.le_of_ble_eq_true rfl, Nat.le_of_ble_eq_true rfl⟩ hP hD hK hE hS hA (q0 := 0) rfl rfl rfl rfl hl.1 rfl (Nat.le_of_ble_eq_true rfl) dX2_putAfloat_39 ⟨Nat.zero_le _, Nat.zero_le _⟩ (fun H locs hP _ hD hS _ _ => ?_)
      refine lv_aload_n hx hb dX2_putAfloat_42 rfl (lv_at hl 2 rfl) ?_
      refine lv_dup hx hb dX2_putAfloat_43 rfl ?_
      refine gY_launches hC rfl hK hP dX2_putAfloat_44 ?_
      refine lv_iconst (v := 1) hx hb dX2_putAfloat_47 (by decide) ?_
      refine lv_iadd hx hb dX2_putAfloat_48 ?_
      refine pY_launches hC rfl hK hP hD hS dX2_putAfloat_49 (fun H locs hP hD hS => ?_)
      refine lv_iload_n hx hb dX2_putAfloat_52 rfl (lv_at hl 0 rfl) ?_
      have hm : mX2_putAfloat σ x1 = ((mX2_fact σ x1 9), (Y_set_launches (mX2_takeLift (mX2_noteAfloat σ x1)) ((Y_launches (mX2_takeLift (mX2_noteAfloat σ x1))) + 1))) := by unfold mX2_putAfloat; rw [if_neg c_1, if_pos c_2]
      exact wr_ret hC hP (hAe ▸ hD) (hAe ▸ hS) dX2_putAfloat_53 (by rw [hm]) (by rw [hm])
    · refine lv_bipush (v := (-10)) hx hb dX2_putAfloat_20 (by decide) ?_
      refine lv_iload_n hx hb dX2_putAfloat_22 rfl (lv_at hl 0 rfl) ?_
      refine lv_isub hx hb dX2_putAfloat_23 ?_
      have hm : mX2_putAfloat σ x1 = (((-10) - (mX2_whyNoLaunch σ x1)), σ) := by unfold mX2_putAfloat; rw [if_neg c_1, if_neg c_2]
      exact wr_ret hC hP (hAe ▸ hD) (hAe ▸ hS) dX2_putAfloat_24 (by rw [hm]) (by rw [hm])
  · refine lv_iconst (v := (-1)) hx hb dX2_putAfloat_8 (by decide) ?_
    have hm : mX2_putAfloat σ x1 = ((-1), σ) := by unfold mX2_putAfloat; rw [if_pos c_1]
    exact wr_ret hC hP (hAe ▸ hD) (hAe ▸ hS) dX2_putAfloat_9 (by rw [hm]) (by rw [hm])
def mX2_firstLaunchDay_L19 (σ : YS) (x1 : Int32) : Nat → Int32 → Int32
  | 0, _ => 0
  | n + 1, u2 => (if 200 < u2 then (-5) else (if 0 < u2 then (if (mX2_isDeepEnough σ x1 ((Y_day σ) + u2)) = 0 then (mX2_firstLaunchDay_L19 σ x1 n (u2 + 1)) else ((Y_day σ) + u2)) else (if (mX2_liftsLeft σ) ≤ 0 then (mX2_firstLaunchDay_L19 σ x1 n (u2 + 1)) else (if (mX2_isDeepEnough σ x1 ((Y_day σ) + u2)) = 0 then (mX2_firstLaunchDay_L19 σ x1 n (u2 + 1)) else ((Y_day σ) + u2)))))
set_option maxHeartbeats 4000000 in
set_option maxRecDepth 100000 in
theorem q_X2_firstLaunchDay_19 {p : Program} {e : Env} {s : State} {m : MethodId} {args : Array Value} {below : List Frame} {meth : Method} {c : Code} (l : Launch) (g : WG) (ad : AY) (σ : YS) (x1 : Int32) (h_1 : vp_in x1 20) (h_work : 0 ≤ (mX2_fact σ x1 8).toInt) (hC : Cx p s m args meth c yX2_firstLaunchDay cX2_firstLaunchDay 4 (some .int)) (hP : va_P g.1 vwCl (cY g ad σ) s.heap) (hK : va_K g.1 vwCl (tysW g) s) (hE : Ex (fun _ => False) s s.heap) {r : Int32} : ∀ (n : Nat) (u2 : Int32) (hi0 : 0 ≤ u2.toInt) (hm : ((201 : Int) - u2.toInt).toNat < n) (hR : r = mX2_firstLaunchDay_L19 σ x1 n u2) (ls : Array Slot) (hl : lv_has ls 4 [(2, .int u2), (0, .ref ad.1), (1, .int x1)]), W p l e (rk 4) s m args below meth c s.heap [] 0 0 (MQ below (vp_Si (fun x => x = r)) args s 0 0 (fun _ => False)) (F0 m 19 ls []) := by
  obtain ⟨hx, hb, hml, hr, hown, hts, hlk, hnm⟩ := id hC
  intro n
  induction n with
  | zero => intro u2 hi0 hm hR ls hl; exact absurd hm (Nat.not_lt_zero _)
  | succ n ih =>
    intro u2 hi0 hm hR ls hl
    refine lv_iload_n hx hb dX2_firstLaunchDay_19 rfl (lv_at hl 0 rfl) ?_
    refine lv_sipush (v := 200) hx hb dX2_firstLaunchDay_20 (by decide) ?_
    refine lv_icmp_gt (tgt := 74) hx hb dX2_firstLaunchDay_23 (by decide) (fun c_2 => ?_) (fun c_2 => ?_)
    · refine lv_bipush (v := (-5)) hx hb dX2_firstLaunchDay_74 (by decide) ?_
      exact rd_ret hC dX2_firstLaunchDay_76 (Eq.symm (by rw [hR, mX2_firstLaunchDay_L19, if_pos c_2]))
    · refine lv_iload_n hx hb dX2_firstLaunchDay_26 rfl (lv_at hl 0 rfl) ?_
      refine lv_if_gt (tgt := 37) hx hb dX2_firstLaunchDay_27 (by decide) (fun c_3 => ?_) (fun c_3 => ?_)
      · refine lv_iconst (v := 1) hx hb dX2_firstLaunchDay_37 (by decide) ?_
        refine lv_goto (tgt := 42) hx hb dX2_firstLaunchDay_38 (by decide) ?_
        refine lv_istore_n (lv' := [(3, .int 1), (2, .int u2), (0, .ref ad.1), (1, .int x1)]) hx hb dX2_firstLaunchDay_42 rfl hl (by decide) rfl (fun ls hl => ?_)
        refine lv_iload_n hx hb dX2_firstLaunchDay_43 rfl (lv_at hl 0 rfl) ?_
        refine lv_if_eq (tgt := 68) hx hb dX2_firstLaunchDay_44 (by decide) (fun c_4 => absurd c_4 (by decide)) (fun c_4 => ?_)
        refine lv_aload_n hx hb dX2_firstLaunchDay_47 rfl (lv_at hl 2 rfl) ?_
        refine lv_iload_n hx hb dX2_firstLaunchDay_48 rfl (lv_at hl 3 rfl) ?_
        refine lv_aload_n hx hb dX2_firstLaunchDay_49 rfl (lv_at hl 2 rfl) ?_
        refine gY_day hC rfl hK hP dX2_firstLaunchDay_50 ?_
        refine lv_iload_n hx hb dX2_firstLaunchDay_53 rfl (lv_at hl 1 rfl) ?_
        refine lv_iadd hx hb dX2_firstLaunchDay_54 ?_
        refine callRd hC (k_X2_isDeepEnough l g ad σ x1 ((Y_day σ) + u2) h_1) ci_X2_isDeepEnough lk_X2_149 ⟨Nat.le_of_ble_eq_true rfl, Nat.le_of_ble_eq_true rfl⟩ hP hK hE (q0 := 0) rfl rfl rfl rfl hl.1 rfl (Nat.le_of_ble_eq_true rfl) dX2_firstLaunchDay_55 ⟨Nat.zero_le _, Nat.zero_le _⟩ ?_
        refine lv_if_eq (tgt := 68) hx hb dX2_firstLaunchDay_58 (by decide) (fun c_5 => ?_) (fun c_5 => ?_)
        · refine lv_iinc (v := (u2 + 1)) (lv' := [(2, .int (u2 + 1)), (3, .int 1), (0, .ref ad.1), (1, .int x1)]) hx hb dX2_firstLaunchDay_68 hl (k := 1) rfl rfl (by decide) rfl (fun ls hl => ?_)
          refine lv_goto (tgt := 19) hx hb dX2_firstLaunchDay_71 (by decide) ?_
          have e8 := nlt_ti (k := 200) rfl c_2
          have e9 := up_add (d := 1) (k := 1) (M := 200) rfl hi0 e8 (by decide) (by decide)
          exact ih (u2 + 1) (by rw [e9]; omega) (by rw [e9]; omega) (by rw [hR, mX2_firstLaunchDay_L19, if_neg c_2, if_pos c_3, if_pos c_5]) _ (lv_sub hl [0, 2, 3] rfl)
        · refine lv_aload_n hx hb dX2_firstLaunchDay_61 rfl (lv_at hl 2 rfl) ?_
          refine gY_day hC rfl hK hP dX2_firstLaunchDay_62 ?_
          refine lv_iload_n hx hb dX2_firstLaunchDay_65 rfl (lv_at hl 1 rfl) ?_
          refine lv_iadd hx hb dX2_firstLaunchDay_66 ?_
          exact rd_ret hC dX2_firstLaunchDay_67 (Eq.symm (by rw [hR, mX2_firstLaunchDay_L19, if_neg c_2, if_pos c_3, if_neg c_5]))
      · refine lv_aload_n hx hb dX2_firstLaunchDay_30 rfl (lv_at hl 1 rfl) ?_
        refine callRd hC (k_X2_liftsLeft l g ad σ) ci_X2_liftsLeft lk_X2_158 ⟨Nat.le_of_ble_eq_true rfl, Nat.le_of_ble_eq_true rfl⟩ hP hK hE (q0 := 0) rfl rfl rfl rfl hl.1 rfl (Nat.le_of_ble_eq_true rfl) dX2_firstLaunchDay_31 ⟨Nat.zero_le _, Nat.zero_le _⟩ ?_
        refine lv_if_le (tgt := 41) hx hb dX2_firstLaunchDay_34 (by decide) (fun c_6 => ?_) (fun c_6 => ?_)
        · refine lv_iconst (v := 0) hx hb dX2_firstLaunchDay_41 (by decide) ?_
          refine lv_istore_n (lv' := [(3, .int 0), (2, .int u2), (0, .ref ad.1), (1, .int x1)]) hx hb dX2_firstLaunchDay_42 rfl hl (by decide) rfl (fun ls hl => ?_)
          refine lv_iload_n hx hb dX2_firstLaunchDay_43 rfl (lv_at hl 0 rfl) ?_
          refine lv_if_eq (tgt := 68) hx hb dX2_firstLaunchDay_44 (by decide) (fun c_7 => ?_) (fun c_7 => absurd c_7 (by decide))
          refine lv_iinc (v := (u2 + 1)) (lv' := [(2, .int (u2 + 1)), (3, .int 0), (0, .ref ad.1), (1, .int x1)]) hx hb dX2_firstLaunchDay_68 hl (k := 1) rfl rfl (by decide) rfl (fun ls hl => ?_)
          refine lv_goto (tgt := 19) hx hb dX2_firstLaunchDay_71 (by decide) ?_
          have e8 := nlt_ti (k := 200) rfl c_2
          have e9 := up_add (d := 1) (k := 1) (M := 200) rfl hi0 e8 (by decide) (by decide)
          exact ih (u2 + 1) (by rw [e9]; omega) (by rw [e9]; omega) (by rw [hR, mX2_firstLaunchDay_L19, if_neg c_2, if_neg c_3, if_pos c_6]) _ (lv_sub hl [0, 2, 3] rfl)
        · refine lv_iconst (v := 1) hx hb dX2_firstLaunchDay_37 (by decide) ?_
          refine lv_goto (tgt := 42) hx hb dX2_firstLaunchDay_38 (by decide) ?_
          refine lv_istore_n (lv' := [(3, .int 1), (2, .int u2), (0, .ref ad.1), (1, .int x1)]) hx hb dX2_firstLaunchDay_42 rfl hl (by decide) rfl (fun ls hl => ?_)
          refine lv_iload_n hx hb dX2_firstLaunchDay_43 rfl (lv_at hl 0 rfl) ?_
          refine lv_if_eq (tgt := 68) hx hb dX2_firstLaunchDay_44 (by decide) (fun c_8 => absurd c_8 (by decide)) (fun c_8 => ?_)
          refine lv_aload_n hx hb dX2_firstLaunchDay_47 rfl (lv_at hl 2 rfl) ?_
          refine lv_iload_n hx hb dX2_firstLaunchDay_48 rfl (lv_at hl 3 rfl) ?_
          refine lv_aload_n hx hb dX2_firstLaunchDay_49 rfl (lv_at hl 2 rfl) ?_
          refine gY_day hC rfl hK hP dX2_firstLaunchDay_50 ?_
          refine lv_iload_n hx hb dX2_firstLaunchDay_53 rfl (lv_at hl 1 rfl) ?_
          refine lv_iadd hx hb dX2_firstLaunchDay_54 ?_
          refine callRd hC (k_X2_isDeepEnough l g ad σ x1 ((Y_day σ) + u2) h_1) ci_X2_isDeepEnough lk_X2_149 ⟨Nat.le_of_ble_eq_true rfl, Nat.le_of_ble_eq_true rfl⟩ hP hK hE (q0 := 0) rfl rfl rfl rfl hl.1 rfl (Nat.le_of_ble_eq_true rfl) dX2_firstLaunchDay_55 ⟨Nat.zero_le _, Nat.zero_le _⟩ ?_
          refine lv_if_eq (tgt := 68) hx hb dX2_firstLaunchDay_58 (by decide) (fun c_9 => ?_) (fun c_9 => ?_)
          · refine lv_iinc (v := (u2 + 1)) (lv' := [(2, .int (u2 + 1)), (3, .int 1), (0, .ref ad.1), (1, .int x1)]) hx hb dX2_firstLaunchDay_68 hl (k := 1) rfl rfl (by decide) rfl (fun ls hl => ?_)
            refine lv_goto (tgt := 19) hx hb dX2_firstLaunchDay_71 (by decide) ?_
            have e8 := nlt_ti (k := 200) rfl c_2
            have e9 := up_add (d := 1) (k := 1) (M := 200) rfl hi0 e8 (by decide) (by decide)
            exact ih (u2 + 1) (by rw [e9]; omega) (by rw [e9]; omega) (by rw [hR, mX2_firstLaunchDay_L19, if_neg c_2, if_neg c_3, if_neg c_6, if_pos c_9]) _ (lv_sub hl [0, 2, 3] rfl)
          · refine lv_aload_n hx hb dX2_firstLaunchDay_61 rfl (lv_at hl 2 rfl) ?_
            refine gY_day hC rfl hK hP dX2_firstLaunchDay_62 ?_
            refine lv_iload_n hx hb dX2_firstLaunchDay_65 rfl (lv_at hl 1 rfl) ?_
            refine lv_iadd hx hb dX2_firstLaunchDay_66 ?_
            exact rd_ret hC dX2_firstLaunchDay_67 (Eq.symm (by rw [hR, mX2_firstLaunchDay_L19, if_neg c_2, if_neg c_3, if_neg c_6, if_neg c_9]))
def mX2_firstLaunchDay (σ : YS) (x1 : Int32) : Int32 := (if (mX2_craneBears σ x1) = 0 then (-5) else (mX2_firstLaunchDay_L19 σ x1 202 (mX2_fact σ x1 8)))
set_option maxHeartbeats 4000000 in
set_option maxRecDepth 100000 in
theorem k_X2_firstLaunchDay (l : Launch) (g : WG) (ad : AY) (σ : YS) (x1 : Int32) (h_1 : vp_in x1 20) (h_work : 0 ≤ (mX2_fact σ x1 8).toInt) : Rd l yX2_firstLaunchDay cX2_firstLaunchDay 4 (some .int) 4 (Wl g (cY g ad σ) (fun _ => False)) [.ref ad.1, .int x1] (mX2_firstLaunchDay σ x1) := by
  refine rd_of (by decide) (Nat.le_of_ble_eq_true rfl) ?_
  intro p e s m args below meth c ls hC hW hl
  obtain ⟨hP, hK, hE⟩ := hW
  obtain ⟨hx, hb, hml, hr, hown, hts, hlk, hnm⟩ := id hC
  have hl : lv_has ls 4 [(0, .ref ad.1), (1, .int x1)] := hl
  refine lv_aload_n hx hb dX2_firstLaunchDay_0 rfl (lv_at hl 0 rfl) ?_
  refine lv_iload_n hx hb dX2_firstLaunchDay_1 rfl (lv_at hl 1 rfl) ?_
  refine callRd hC (k_X2_craneBears l g ad σ x1 h_1) ci_X2_craneBears lk_X2_152 ⟨Nat.le_of_ble_eq_true rfl, Nat.le_of_ble_eq_true rfl⟩ hP hK hE (q0 := 0) rfl rfl rfl rfl hl.1 rfl (Nat.le_of_ble_eq_true rfl) dX2_firstLaunchDay_2 ⟨Nat.zero_le _, Nat.zero_le _⟩ ?_
  refine lv_if_ne (tgt := 11) hx hb dX2_firstLaunchDay_5 (by decide) (fun c_1 => ?_) (fun c_1 => ?_)
  · refine lv_aload_n hx hb dX2_firstLaunchDay_11 rfl (lv_at hl 0 rfl) ?_
    refine lv_iload_n hx hb dX2_firstLaunchDay_12 rfl (lv_at hl 1 rfl) ?_
    refine lv_bipush (v := 8) hx hb dX2_firstLaunchDay_13 (by decide) ?_
    refine callRd hC (k_X2_fact l g ad σ x1 8 h_1 (in_iff.mpr (by decide))) ci_X2_fact lk_X2_47 ⟨Nat.le_of_ble_eq_true rfl, Nat.le_of_ble_eq_true rfl⟩ hP hK hE (q0 := 0) rfl rfl rfl rfl hl.1 rfl (Nat.le_of_ble_eq_true rfl) dX2_firstLaunchDay_15 ⟨Nat.zero_le _, Nat.zero_le _⟩ ?_
    refine lv_istore_n (lv' := [(2, .int (mX2_fact σ x1 8)), (0, .ref ad.1), (1, .int x1)]) hx hb dX2_firstLaunchDay_18 rfl hl (by decide) rfl (fun ls hl => ?_)
    refine q_X2_firstLaunchDay_19 l g ad σ x1 h_1 h_work hC hP hK hE 202 (mX2_fact σ x1 8) h_work (by have := h_work; omega) ?_ _ (lv_sub hl [0, 1, 2] rfl)
    exact by unfold mX2_firstLaunchDay; rw [if_neg c_1]
  · refine lv_bipush (v := (-5)) hx hb dX2_firstLaunchDay_8 (by decide) ?_
    exact rd_ret hC dX2_firstLaunchDay_10 (Eq.symm (by unfold mX2_firstLaunchDay; rw [if_pos c_1]))
def mX2_moveTo (σ : YS) (x1 : Int32) (x2 : Int32) : Int32 × YS := (if (mX2_knows σ x1) = 0 then ((-1), σ) else (if (mX2_isRow x2) = 0 then ((-1), σ) else (if (mX2_isAshore σ x1) = 0 then ((-4), σ) else (if 0 < (mX2_boatsFartherOut σ x1) then ((-4), σ) else (if (mX2_standsIn σ x1 x2) = 0 then (if (mX2_hasRoom σ x2 x1) = 0 then ((-3), σ) else (if (mX2_liftsLeft σ) = 0 then ((-3), σ) else ((mX2_boatsIn (mX2_takeLift (mX2_putAtOuterEnd σ x1 x2)) x2), (mX2_takeLift (mX2_putAtOuterEnd σ x1 x2))))) else ((-4), σ))))))
set_option maxHeartbeats 4000000 in
set_option maxRecDepth 100000 in
theorem k_X2_moveTo (l : Launch) (g : WG) (ad : AY) (σ : YS) (x1 : Int32) (x2 : Int32) : Wr l yX2_moveTo cX2_moveTo 3 (some .int) 4 g (cY g ad σ) (cY g ad (mX2_moveTo σ x1 x2).2) [.ref ad.1, .int x1, .int x2] (mX2_moveTo σ x1 x2).1 := by
  refine wr_of (by decide) (Nat.le_of_ble_eq_true rfl) ?_
  intro p e s m args below meth c ls A hC hAe hP hD hK hE hA hS hl
  obtain ⟨hx, hb, hml, hr, hown, hts, hlk, hnm⟩ := id hC
  have hl : lv_has ls 3 [(0, .ref ad.1), (1, .int x1), (2, .int x2)] := hl
  refine lv_aload_n hx hb dX2_moveTo_0 rfl (lv_at hl 0 rfl) ?_
  refine lv_iload_n hx hb dX2_moveTo_1 rfl (lv_at hl 1 rfl) ?_
  refine callRd hC (k_X2_knows l g ad σ x1) ci_X2_knows lk_X2_77 ⟨Nat.le_of_ble_eq_true rfl, Nat.le_of_ble_eq_true rfl⟩ hP hK (hE.S hS).none (q0 := 0) rfl rfl rfl rfl hl.1 rfl (Nat.le_of_ble_eq_true rfl) dX2_moveTo_2 ⟨Nat.zero_le _, Nat.zero_le _⟩ ?_
  refine lv_if_eq (tgt := 15) hx hb dX2_moveTo_5 (by decide) (fun c_1 => ?_) (fun c_1 => ?_)
  · refine lv_iconst (v := (-1)) hx hb dX2_moveTo_15 (by decide) ?_
    have hm : mX2_moveTo σ x1 x2 = ((-1), σ) := by unfold mX2_moveTo; rw [if_pos c_1]
    exact wr_ret hC hP (hAe ▸ hD) (hAe ▸ hS) dX2_moveTo_16 (by rw [hm]) (by rw [hm])
  · refine lv_iload_n hx hb dX2_moveTo_8 rfl (lv_at hl 2 rfl) ?_
    refine callRs hC (k_X2_isRow l g x2) ci_X2_isRow lk_X2_111 ⟨Nat.le_of_ble_eq_true rfl, Nat.le_of_ble_eq_true rfl⟩ hK (hE.S hS).none rfl hl.1 rfl (Nat.le_of_ble_eq_true rfl) dX2_moveTo_9 ⟨Nat.zero_le _, Nat.zero_le _⟩ ?_
    refine lv_if_ne (tgt := 17) hx hb dX2_moveTo_12 (by decide) (fun c_2 => ?_) (fun c_2 => ?_)
    · refine lv_aload_n hx hb dX2_moveTo_17 rfl (lv_at hl 0 rfl) ?_
      refine lv_iload_n hx hb dX2_moveTo_18 rfl (lv_at hl 1 rfl) ?_
      refine callRd hC (k_X2_isAshore l g ad σ x1 (in_X2_knows c_1)) ci_X2_isAshore lk_X2_80 ⟨Nat.le_of_ble_eq_true rfl, Nat.le_of_ble_eq_true rfl⟩ hP hK (hE.S hS).none (q0 := 0) rfl rfl rfl rfl hl.1 rfl (Nat.le_of_ble_eq_true rfl) dX2_moveTo_19 ⟨Nat.zero_le _, Nat.zero_le _⟩ ?_
      refine lv_if_eq (tgt := 42) hx hb dX2_moveTo_22 (by decide) (fun c_3 => ?_) (fun c_3 => ?_)
      · refine lv_bipush (v := (-4)) hx hb dX2_moveTo_42 (by decide) ?_
        have hm : mX2_moveTo σ x1 x2 = ((-4), σ) := by unfold mX2_moveTo; rw [if_neg c_1, if_neg c_2, if_pos c_3]
        exact wr_ret hC hP (hAe ▸ hD) (hAe ▸ hS) dX2_moveTo_44 (by rw [hm]) (by rw [hm])
      · refine lv_aload_n hx hb dX2_moveTo_25 rfl (lv_at hl 0 rfl) ?_
        refine lv_iload_n hx hb dX2_moveTo_26 rfl (lv_at hl 1 rfl) ?_
        refine callRd hC (k_X2_boatsFartherOut l g ad σ x1 (in_X2_knows c_1)) ci_X2_boatsFartherOut lk_X2_171 ⟨Nat.le_of_ble_eq_true rfl, Nat.le_of_ble_eq_true rfl⟩ hP hK (hE.S hS).none (q0 := 0) rfl rfl rfl rfl hl.1 rfl (Nat.le_of_ble_eq_true rfl) dX2_moveTo_27 ⟨Nat.zero_le _, Nat.zero_le _⟩ ?_
        refine lv_if_gt (tgt := 42) hx hb dX2_moveTo_30 (by decide) (fun c_4 => ?_) (fun c_4 => ?_)
        · refine lv_bipush (v := (-4)) hx hb dX2_moveTo_42 (by decide) ?_
          have hm : mX2_moveTo σ x1 x2 = ((-4), σ) := by unfold mX2_moveTo; rw [if_neg c_1, if_neg c_2, if_neg c_3, if_pos c_4]
          exact wr_ret hC hP (hAe ▸ hD) (hAe ▸ hS) dX2_moveTo_44 (by rw [hm]) (by rw [hm])
        · refine lv_aload_n hx hb dX2_moveTo_33 rfl (lv_at hl 0 rfl) ?_
          refine lv_iload_n hx hb dX2_moveTo_34 rfl (lv_at hl 1 rfl) ?_
          refine lv_iload_n hx hb dX2_moveTo_35 rfl (lv_at hl 2 rfl) ?_
          refine callRd hC (k_X2_standsIn l g ad σ x1 x2 (in_X2_knows c_1)) ci_X2_standsIn lk_X2_123 ⟨Nat.le_of_ble_eq_true rfl, Nat.le_of_ble_eq_true rfl⟩ hP hK (hE.S hS).none (q0 := 0) rfl rfl rfl rfl hl.1 rfl (Nat.le_of_ble_eq_true rfl) dX2_moveTo_36 ⟨Nat.zero_le _, Nat.zero_le _⟩ ?_
          refine lv_if_eq (tgt := 45) hx hb dX2_moveTo_39 (by decide) (fun c_5 => ?_) (fun c_5 => ?_)
          · refine lv_aload_n hx hb dX2_moveTo_45 rfl (lv_at hl 0 rfl) ?_
            refine lv_iload_n hx hb dX2_moveTo_46 rfl (lv_at hl 2 rfl) ?_
            refine lv_iload_n hx hb dX2_moveTo_47 rfl (lv_at hl 1 rfl) ?_
            refine callRd hC (k_X2_hasRoom l g ad σ x2 x1 (in_X2_isRow c_2) (in_X2_knows c_1)) ci_X2_hasRoom lk_X2_129 ⟨Nat.le_of_ble_eq_true rfl, Nat.le_of_ble_eq_true rfl⟩ hP hK (hE.S hS).none (q0 := 0) rfl rfl rfl rfl hl.1 rfl (Nat.le_of_ble_eq_true rfl) dX2_moveTo_48 ⟨Nat.zero_le _, Nat.zero_le _⟩ ?_
            refine lv_if_eq (tgt := 61) hx hb dX2_moveTo_51 (by decide) (fun c_6 => ?_) (fun c_6 => ?_)
            · refine lv_bipush (v := (-3)) hx hb dX2_moveTo_61 (by decide) ?_
              have hm : mX2_moveTo σ x1 x2 = ((-3), σ) := by unfold mX2_moveTo; rw [if_neg c_1, if_neg c_2, if_neg c_3, if_neg c_4, if_pos c_5, if_pos c_6]
              exact wr_ret hC hP (hAe ▸ hD) (hAe ▸ hS) dX2_moveTo_63 (by rw [hm]) (by rw [hm])
            · refine lv_aload_n hx hb dX2_moveTo_54 rfl (lv_at hl 0 rfl) ?_
              refine callRd hC (k_X2_liftsLeft l g ad σ) ci_X2_liftsLeft lk_X2_158 ⟨Nat.le_of_ble_eq_true rfl, Nat.le_of_ble_eq_true rfl⟩ hP hK (hE.S hS).none (q0 := 0) rfl rfl rfl rfl hl.1 rfl (Nat.le_of_ble_eq_true rfl) dX2_moveTo_55 ⟨Nat.zero_le _, Nat.zero_le _⟩ ?_
              refine lv_if_ne (tgt := 64) hx hb dX2_moveTo_58 (by decide) (fun c_7 => ?_) (fun c_7 => ?_)
              · refine lv_aload_n hx hb dX2_moveTo_64 rfl (lv_at hl 0 rfl) ?_
                refine lv_iload_n hx hb dX2_moveTo_65 rfl (lv_at hl 1 rfl) ?_
                refine lv_iload_n hx hb dX2_moveTo_66 rfl (lv_at hl 2 rfl) ?_
                refine callWv hC (k_X2_putAtOuterEnd l g ad σ x1 x2 (in_X2_knows c_1)) ci_X2_putAtOuterEnd lk_X2_164 ⟨Nat.le_of_ble_eq_true rfl, Nat.le_of_ble_eq_true rfl⟩ hP hD hK hE hS hA (q0 := 0) rfl rfl rfl rfl hl.1 rfl (Nat.le_of_ble_eq_true rfl) dX2_moveTo_67 ⟨Nat.zero_le _, Nat.zero_le _⟩ (fun H locs hP _ hD hS _ _ => ?_)
                refine lv_aload_n hx hb dX2_moveTo_70 rfl (lv_at hl 0 rfl) ?_
                refine callWv hC (k_X2_takeLift l g ad (mX2_putAtOuterEnd σ x1 x2)) ci_X2_takeLift lk_X2_168 ⟨Nat.le_of_ble_eq_true rfl, Nat.le_of_ble_eq_true rfl⟩ hP hD hK hE hS hA (q0 := 0) rfl rfl rfl rfl hl.1 rfl (Nat.le_of_ble_eq_true rfl) dX2_moveTo_71 ⟨Nat.zero_le _, Nat.zero_le _⟩ (fun H locs hP _ hD hS _ _ => ?_)
                refine lv_aload_n hx hb dX2_moveTo_74 rfl (lv_at hl 0 rfl) ?_
                refine lv_iload_n hx hb dX2_moveTo_75 rfl (lv_at hl 2 rfl) ?_
                refine callRd hC (k_X2_boatsIn l g ad (mX2_takeLift (mX2_putAtOuterEnd σ x1 x2)) x2) ci_X2_boatsIn lk_X2_126 ⟨Nat.le_of_ble_eq_true rfl, Nat.le_of_ble_eq_true rfl⟩ hP hK (hE.S hS).none (q0 := 0) rfl rfl rfl rfl hl.1 rfl (Nat.le_of_ble_eq_true rfl) dX2_moveTo_76 ⟨Nat.zero_le _, Nat.zero_le _⟩ ?_
                have hm : mX2_moveTo σ x1 x2 = ((mX2_boatsIn (mX2_takeLift (mX2_putAtOuterEnd σ x1 x2)) x2), (mX2_takeLift (mX2_putAtOuterEnd σ x1 x2))) := by unfold mX2_moveTo; rw [if_neg c_1, if_neg c_2, if_neg c_3, if_neg c_4, if_pos c_5, if_neg c_6, if_neg c_7]
                exact wr_ret hC hP (hAe ▸ hD) (hAe ▸ hS) dX2_moveTo_79 (by rw [hm]) (by rw [hm])
              · refine lv_bipush (v := (-3)) hx hb dX2_moveTo_61 (by decide) ?_
                have hm : mX2_moveTo σ x1 x2 = ((-3), σ) := by unfold mX2_moveTo; rw [if_neg c_1, if_neg c_2, if_neg c_3, if_neg c_4, if_pos c_5, if_neg c_6, if_pos c_7]
                exact wr_ret hC hP (hAe ▸ hD) (hAe ▸ hS) dX2_moveTo_63 (by rw [hm]) (by rw [hm])
          · refine lv_bipush (v := (-4)) hx hb dX2_moveTo_42 (by decide) ?_
            have hm : mX2_moveTo σ x1 x2 = ((-4), σ) := by unfold mX2_moveTo; rw [if_neg c_1, if_neg c_2, if_neg c_3, if_neg c_4, if_neg c_5]
            exact wr_ret hC hP (hAe ▸ hD) (hAe ▸ hS) dX2_moveTo_44 (by rw [hm]) (by rw [hm])
    · refine lv_iconst (v := (-1)) hx hb dX2_moveTo_15 (by decide) ?_
      have hm : mX2_moveTo σ x1 x2 = ((-1), σ) := by unfold mX2_moveTo; rw [if_neg c_1, if_pos c_2]
      exact wr_ret hC hP (hAe ▸ hD) (hAe ▸ hS) dX2_moveTo_16 (by rw [hm]) (by rw [hm])
def mX2_mastsIn (σ : YS) (x1 : Int32) : Int32 := (mX2_boatsWith σ 7 x1)
set_option maxHeartbeats 4000000 in
set_option maxRecDepth 100000 in
theorem k_X2_mastsIn (l : Launch) (g : WG) (ad : AY) (σ : YS) (x1 : Int32) : Rd l yX2_mastsIn cX2_mastsIn 2 (some .int) 2 (Wl g (cY g ad σ) (fun _ => False)) [.ref ad.1, .int x1] (mX2_mastsIn σ x1) := by
  refine rd_of (by decide) (Nat.le_of_ble_eq_true rfl) ?_
  intro p e s m args below meth c ls hC hW hl
  obtain ⟨hP, hK, hE⟩ := hW
  obtain ⟨hx, hb, hml, hr, hown, hts, hlk, hnm⟩ := id hC
  have hl : lv_has ls 2 [(0, .ref ad.1), (1, .int x1)] := hl
  refine lv_aload_n hx hb dX2_mastsIn_0 rfl (lv_at hl 0 rfl) ?_
  refine lv_bipush (v := 7) hx hb dX2_mastsIn_1 (by decide) ?_
  refine lv_iload_n hx hb dX2_mastsIn_3 rfl (lv_at hl 1 rfl) ?_
  refine callRd hC (k_X2_boatsWith l g ad σ 7 x1) ci_X2_boatsWith lk_X2_89 ⟨Nat.le_of_ble_eq_true rfl, Nat.le_of_ble_eq_true rfl⟩ hP hK hE (q0 := 0) rfl rfl rfl rfl hl.1 rfl (Nat.le_of_ble_eq_true rfl) dX2_mastsIn_4 ⟨Nat.zero_le _, Nat.zero_le _⟩ ?_
  exact rd_ret hC dX2_mastsIn_7 (Eq.symm (by unfold mX2_mastsIn; rfl))
def mX2_rackFor (σ : YS) (x1 : Int32) : Int32 := (if 12 < (mX2_fact σ x1 0) then (if 6 ≤ (mX2_mastsIn σ 1) then (-5) else 1) else (if 6 ≤ (mX2_mastsIn σ 0) then (if 6 ≤ (mX2_mastsIn σ 1) then (-5) else 1) else 0))
set_option maxHeartbeats 4000000 in
set_option maxRecDepth 100000 in
theorem k_X2_rackFor (l : Launch) (g : WG) (ad : AY) (σ : YS) (x1 : Int32) (h_1 : vp_in x1 20) : Rd l yX2_rackFor cX2_rackFor 3 (some .int) 3 (Wl g (cY g ad σ) (fun _ => False)) [.ref ad.1, .int x1] (mX2_rackFor σ x1) := by
  refine rd_of (by decide) (Nat.le_of_ble_eq_true rfl) ?_
  intro p e s m args below meth c ls hC hW hl
  obtain ⟨hP, hK, hE⟩ := hW
  obtain ⟨hx, hb, hml, hr, hown, hts, hlk, hnm⟩ := id hC
  have hl : lv_has ls 3 [(0, .ref ad.1), (1, .int x1)] := hl
  refine lv_aload_n hx hb dX2_rackFor_0 rfl (lv_at hl 0 rfl) ?_
  refine lv_iload_n hx hb dX2_rackFor_1 rfl (lv_at hl 1 rfl) ?_
  refine lv_iconst (v := 0) hx hb dX2_rackFor_2 (by decide) ?_
  refine callRd hC (k_X2_fact l g ad σ x1 0 h_1 (in_iff.mpr (by decide))) ci_X2_fact lk_X2_47 ⟨Nat.le_of_ble_eq_true rfl, Nat.le_of_ble_eq_true rfl⟩ hP hK hE (q0 := 0) rfl rfl rfl rfl hl.1 rfl (Nat.le_of_ble_eq_true rfl) dX2_rackFor_3 ⟨Nat.zero_le _, Nat.zero_le _⟩ ?_
  refine lv_bipush (v := 12) hx hb dX2_rackFor_6 (by decide) ?_
  refine lv_icmp_gt (tgt := 15) hx hb dX2_rackFor_8 (by decide) (fun c_1 => ?_) (fun c_1 => ?_)
  · refine lv_iconst (v := 0) hx hb dX2_rackFor_15 (by decide) ?_
    refine lv_istore_n (lv' := [(2, .int 0), (0, .ref ad.1), (1, .int x1)]) hx hb dX2_rackFor_16 rfl hl (by decide) rfl (fun ls hl => ?_)
    refine lv_iload_n hx hb dX2_rackFor_17 rfl (lv_at hl 0 rfl) ?_
    refine lv_if_eq (tgt := 33) hx hb dX2_rackFor_18 (by decide) (fun c_2 => ?_) (fun c_2 => absurd c_2 (by decide))
    refine lv_aload_n hx hb dX2_rackFor_33 rfl (lv_at hl 1 rfl) ?_
    refine lv_iconst (v := 1) hx hb dX2_rackFor_34 (by decide) ?_
    refine callRd hC (k_X2_mastsIn l g ad σ 1) ci_X2_mastsIn lk_X2_177 ⟨Nat.le_of_ble_eq_true rfl, Nat.le_of_ble_eq_true rfl⟩ hP hK hE (q0 := 0) rfl rfl rfl rfl hl.1 rfl (Nat.le_of_ble_eq_true rfl) dX2_rackFor_35 ⟨Nat.zero_le _, Nat.zero_le _⟩ ?_
    refine lv_bipush (v := 6) hx hb dX2_rackFor_38 (by decide) ?_
    refine lv_icmp_ge (tgt := 47) hx hb dX2_rackFor_40 (by decide) (fun c_3 => ?_) (fun c_3 => ?_)
    · refine lv_bipush (v := (-5)) hx hb dX2_rackFor_47 (by decide) ?_
      exact rd_ret hC dX2_rackFor_49 (Eq.symm (by unfold mX2_rackFor; rw [if_pos c_1, if_pos c_3]))
    · refine lv_iconst (v := 1) hx hb dX2_rackFor_43 (by decide) ?_
      refine lv_goto (tgt := 49) hx hb dX2_rackFor_44 (by decide) ?_
      exact rd_ret hC dX2_rackFor_49 (Eq.symm (by unfold mX2_rackFor; rw [if_pos c_1, if_neg c_3]))
  · refine lv_iconst (v := 1) hx hb dX2_rackFor_11 (by decide) ?_
    refine lv_goto (tgt := 16) hx hb dX2_rackFor_12 (by decide) ?_
    refine lv_istore_n (lv' := [(2, .int 1), (0, .ref ad.1), (1, .int x1)]) hx hb dX2_rackFor_16 rfl hl (by decide) rfl (fun ls hl => ?_)
    refine lv_iload_n hx hb dX2_rackFor_17 rfl (lv_at hl 0 rfl) ?_
    refine lv_if_eq (tgt := 33) hx hb dX2_rackFor_18 (by decide) (fun c_4 => absurd c_4 (by decide)) (fun c_4 => ?_)
    refine lv_aload_n hx hb dX2_rackFor_21 rfl (lv_at hl 1 rfl) ?_
    refine lv_iconst (v := 0) hx hb dX2_rackFor_22 (by decide) ?_
    refine callRd hC (k_X2_mastsIn l g ad σ 0) ci_X2_mastsIn lk_X2_177 ⟨Nat.le_of_ble_eq_true rfl, Nat.le_of_ble_eq_true rfl⟩ hP hK hE (q0 := 0) rfl rfl rfl rfl hl.1 rfl (Nat.le_of_ble_eq_true rfl) dX2_rackFor_23 ⟨Nat.zero_le _, Nat.zero_le _⟩ ?_
    refine lv_bipush (v := 6) hx hb dX2_rackFor_26 (by decide) ?_
    refine lv_icmp_ge (tgt := 33) hx hb dX2_rackFor_28 (by decide) (fun c_5 => ?_) (fun c_5 => ?_)
    · refine lv_aload_n hx hb dX2_rackFor_33 rfl (lv_at hl 1 rfl) ?_
      refine lv_iconst (v := 1) hx hb dX2_rackFor_34 (by decide) ?_
      refine callRd hC (k_X2_mastsIn l g ad σ 1) ci_X2_mastsIn lk_X2_177 ⟨Nat.le_of_ble_eq_true rfl, Nat.le_of_ble_eq_true rfl⟩ hP hK hE (q0 := 0) rfl rfl rfl rfl hl.1 rfl (Nat.le_of_ble_eq_true rfl) dX2_rackFor_35 ⟨Nat.zero_le _, Nat.zero_le _⟩ ?_
      refine lv_bipush (v := 6) hx hb dX2_rackFor_38 (by decide) ?_
      refine lv_icmp_ge (tgt := 47) hx hb dX2_rackFor_40 (by decide) (fun c_6 => ?_) (fun c_6 => ?_)
      · refine lv_bipush (v := (-5)) hx hb dX2_rackFor_47 (by decide) ?_
        exact rd_ret hC dX2_rackFor_49 (Eq.symm (by unfold mX2_rackFor; rw [if_neg c_1, if_pos c_5, if_pos c_6]))
      · refine lv_iconst (v := 1) hx hb dX2_rackFor_43 (by decide) ?_
        refine lv_goto (tgt := 49) hx hb dX2_rackFor_44 (by decide) ?_
        exact rd_ret hC dX2_rackFor_49 (Eq.symm (by unfold mX2_rackFor; rw [if_neg c_1, if_pos c_5, if_neg c_6]))
    · refine lv_iconst (v := 0) hx hb dX2_rackFor_31 (by decide) ?_
      exact rd_ret hC dX2_rackFor_32 (Eq.symm (by unfold mX2_rackFor; rw [if_neg c_1, if_neg c_5]))
def mX2_takeMastOff (σ : YS) (x1 : Int32) : Int32 × YS := (if (mX2_knows σ x1) = 0 then ((-1), σ) else (if (mX2_isAshore σ x1) = 0 then (if (mX2_hasMast σ x1) = 0 then ((-5), σ) else (if (mX2_rackFor σ x1) = (-5) then ((-3), σ) else ((mX2_rackFor σ x1), (mX2_note σ x1 7 (mX2_rackFor σ x1))))) else ((-4), σ)))
set_option maxHeartbeats 4000000 in
set_option maxRecDepth 100000 in
theorem k_X2_takeMastOff (l : Launch) (g : WG) (ad : AY) (σ : YS) (x1 : Int32) : Wr l yX2_takeMastOff cX2_takeMastOff 3 (some .int) 4 g (cY g ad σ) (cY g ad (mX2_takeMastOff σ x1).2) [.ref ad.1, .int x1] (mX2_takeMastOff σ x1).1 := by
  refine wr_of (by decide) (Nat.le_of_ble_eq_true rfl) ?_
  intro p e s m args below meth c ls A hC hAe hP hD hK hE hA hS hl
  obtain ⟨hx, hb, hml, hr, hown, hts, hlk, hnm⟩ := id hC
  have hl : lv_has ls 3 [(0, .ref ad.1), (1, .int x1)] := hl
  refine lv_aload_n hx hb dX2_takeMastOff_0 rfl (lv_at hl 0 rfl) ?_
  refine lv_iload_n hx hb dX2_takeMastOff_1 rfl (lv_at hl 1 rfl) ?_
  refine callRd hC (k_X2_knows l g ad σ x1) ci_X2_knows lk_X2_77 ⟨Nat.le_of_ble_eq_true rfl, Nat.le_of_ble_eq_true rfl⟩ hP hK (hE.S hS).none (q0 := 0) rfl rfl rfl rfl hl.1 rfl (Nat.le_of_ble_eq_true rfl) dX2_takeMastOff_2 ⟨Nat.zero_le _, Nat.zero_le _⟩ ?_
  refine lv_if_ne (tgt := 10) hx hb dX2_takeMastOff_5 (by decide) (fun c_1 => ?_) (fun c_1 => ?_)
  · refine lv_aload_n hx hb dX2_takeMastOff_10 rfl (lv_at hl 0 rfl) ?_
    refine lv_iload_n hx hb dX2_takeMastOff_11 rfl (lv_at hl 1 rfl) ?_
    refine callRd hC (k_X2_isAshore l g ad σ x1 (in_X2_knows c_1)) ci_X2_isAshore lk_X2_80 ⟨Nat.le_of_ble_eq_true rfl, Nat.le_of_ble_eq_true rfl⟩ hP hK (hE.S hS).none (q0 := 0) rfl rfl rfl rfl hl.1 rfl (Nat.le_of_ble_eq_true rfl) dX2_takeMastOff_12 ⟨Nat.zero_le _, Nat.zero_le _⟩ ?_
    refine lv_if_eq (tgt := 21) hx hb dX2_takeMastOff_15 (by decide) (fun c_2 => ?_) (fun c_2 => ?_)
    · refine lv_aload_n hx hb dX2_takeMastOff_21 rfl (lv_at hl 0 rfl) ?_
      refine lv_iload_n hx hb dX2_takeMastOff_22 rfl (lv_at hl 1 rfl) ?_
      refine callRd hC (k_X2_hasMast l g ad σ x1 (in_X2_knows c_1)) ci_X2_hasMast lk_X2_83 ⟨Nat.le_of_ble_eq_true rfl, Nat.le_of_ble_eq_true rfl⟩ hP hK (hE.S hS).none (q0 := 0) rfl rfl rfl rfl hl.1 rfl (Nat.le_of_ble_eq_true rfl) dX2_takeMastOff_23 ⟨Nat.zero_le _, Nat.zero_le _⟩ ?_
      refine lv_if_ne (tgt := 32) hx hb dX2_takeMastOff_26 (by decide) (fun c_3 => ?_) (fun c_3 => ?_)
      · refine lv_aload_n hx hb dX2_takeMastOff_32 rfl (lv_at hl 0 rfl) ?_
        refine lv_iload_n hx hb dX2_takeMastOff_33 rfl (lv_at hl 1 rfl) ?_
        refine callRd hC (k_X2_rackFor l g ad σ x1 (in_X2_knows c_1)) ci_X2_rackFor lk_X2_180 ⟨Nat.le_of_ble_eq_true rfl, Nat.le_of_ble_eq_true rfl⟩ hP hK (hE.S hS).none (q0 := 0) rfl rfl rfl rfl hl.1 rfl (Nat.le_of_ble_eq_true rfl) dX2_takeMastOff_34 ⟨Nat.zero_le _, Nat.zero_le _⟩ ?_
        refine lv_istore_n (lv' := [(2, .int (mX2_rackFor σ x1)), (0, .ref ad.1), (1, .int x1)]) hx hb dX2_takeMastOff_37 rfl hl (by decide) rfl (fun ls hl => ?_)
        refine lv_iload_n hx hb dX2_takeMastOff_38 rfl (lv_at hl 0 rfl) ?_
        refine lv_bipush (v := (-5)) hx hb dX2_takeMastOff_39 (by decide) ?_
        refine lv_icmp_ne (tgt := 47) hx hb dX2_takeMastOff_41 (by decide) (fun c_4 => ?_) (fun c_4 => ?_)
        · refine lv_aload_n hx hb dX2_takeMastOff_47 rfl (lv_at hl 1 rfl) ?_
          refine lv_iload_n hx hb dX2_takeMastOff_48 rfl (lv_at hl 2 rfl) ?_
          refine lv_bipush (v := 7) hx hb dX2_takeMastOff_49 (by decide) ?_
          refine lv_iload_n hx hb dX2_takeMastOff_51 rfl (lv_at hl 0 rfl) ?_
          refine callWv hC (k_X2_note l g ad σ x1 7 (mX2_rackFor σ x1) (in_X2_knows c_1) (in_iff.mpr (by decide))) ci_X2_note lk_X2_59 ⟨Nat.le_of_ble_eq_true rfl, Nat.le_of_ble_eq_true rfl⟩ hP hD hK hE hS hA (q0 := 0) rfl rfl rfl rfl hl.1 rfl (Nat.le_of_ble_eq_true rfl) dX2_takeMastOff_52 ⟨Nat.zero_le _, Nat.zero_le _⟩ (fun H locs hP _ hD hS _ _ => ?_)
          refine lv_iload_n hx hb dX2_takeMastOff_55 rfl (lv_at hl 0 rfl) ?_
          have hm : mX2_takeMastOff σ x1 = ((mX2_rackFor σ x1), (mX2_note σ x1 7 (mX2_rackFor σ x1))) := by unfold mX2_takeMastOff; rw [if_neg c_1, if_pos c_2, if_neg c_3, if_neg c_4]
          exact wr_ret hC hP (hAe ▸ hD) (hAe ▸ hS) dX2_takeMastOff_56 (by rw [hm]) (by rw [hm])
        · refine lv_bipush (v := (-3)) hx hb dX2_takeMastOff_44 (by decide) ?_
          have hm : mX2_takeMastOff σ x1 = ((-3), σ) := by unfold mX2_takeMastOff; rw [if_neg c_1, if_pos c_2, if_neg c_3, if_pos c_4]
          exact wr_ret hC hP (hAe ▸ hD) (hAe ▸ hS) dX2_takeMastOff_46 (by rw [hm]) (by rw [hm])
      · refine lv_bipush (v := (-5)) hx hb dX2_takeMastOff_29 (by decide) ?_
        have hm : mX2_takeMastOff σ x1 = ((-5), σ) := by unfold mX2_takeMastOff; rw [if_neg c_1, if_pos c_2, if_pos c_3]
        exact wr_ret hC hP (hAe ▸ hD) (hAe ▸ hS) dX2_takeMastOff_31 (by rw [hm]) (by rw [hm])
    · refine lv_bipush (v := (-4)) hx hb dX2_takeMastOff_18 (by decide) ?_
      have hm : mX2_takeMastOff σ x1 = ((-4), σ) := by unfold mX2_takeMastOff; rw [if_neg c_1, if_neg c_2]
      exact wr_ret hC hP (hAe ▸ hD) (hAe ▸ hS) dX2_takeMastOff_20 (by rw [hm]) (by rw [hm])
  · refine lv_iconst (v := (-1)) hx hb dX2_takeMastOff_8 (by decide) ?_
    have hm : mX2_takeMastOff σ x1 = ((-1), σ) := by unfold mX2_takeMastOff; rw [if_pos c_1]
    exact wr_ret hC hP (hAe ▸ hD) (hAe ▸ hS) dX2_takeMastOff_9 (by rw [hm]) (by rw [hm])
def mX2_putMastUp (σ : YS) (x1 : Int32) : Int32 × YS := (if (mX2_knows σ x1) = 0 then ((-1), σ) else (if (mX2_isAshore σ x1) = 0 then ((mX2_fact σ x1 7), (mX2_note σ x1 7 (-5))) else ((-4), σ)))
set_option maxHeartbeats 4000000 in
set_option maxRecDepth 100000 in
theorem k_X2_putMastUp (l : Launch) (g : WG) (ad : AY) (σ : YS) (x1 : Int32) : Wr l yX2_putMastUp cX2_putMastUp 3 (some .int) 4 g (cY g ad σ) (cY g ad (mX2_putMastUp σ x1).2) [.ref ad.1, .int x1] (mX2_putMastUp σ x1).1 := by
  refine wr_of (by decide) (Nat.le_of_ble_eq_true rfl) ?_
  intro p e s m args below meth c ls A hC hAe hP hD hK hE hA hS hl
  obtain ⟨hx, hb, hml, hr, hown, hts, hlk, hnm⟩ := id hC
  have hl : lv_has ls 3 [(0, .ref ad.1), (1, .int x1)] := hl
  refine lv_aload_n hx hb dX2_putMastUp_0 rfl (lv_at hl 0 rfl) ?_
  refine lv_iload_n hx hb dX2_putMastUp_1 rfl (lv_at hl 1 rfl) ?_
  refine callRd hC (k_X2_knows l g ad σ x1) ci_X2_knows lk_X2_77 ⟨Nat.le_of_ble_eq_true rfl, Nat.le_of_ble_eq_true rfl⟩ hP hK (hE.S hS).none (q0 := 0) rfl rfl rfl rfl hl.1 rfl (Nat.le_of_ble_eq_true rfl) dX2_putMastUp_2 ⟨Nat.zero_le _, Nat.zero_le _⟩ ?_
  refine lv_if_ne (tgt := 10) hx hb dX2_putMastUp_5 (by decide) (fun c_1 => ?_) (fun c_1 => ?_)
  · refine lv_aload_n hx hb dX2_putMastUp_10 rfl (lv_at hl 0 rfl) ?_
    refine lv_iload_n hx hb dX2_putMastUp_11 rfl (lv_at hl 1 rfl) ?_
    refine callRd hC (k_X2_isAshore l g ad σ x1 (in_X2_knows c_1)) ci_X2_isAshore lk_X2_80 ⟨Nat.le_of_ble_eq_true rfl, Nat.le_of_ble_eq_true rfl⟩ hP hK (hE.S hS).none (q0 := 0) rfl rfl rfl rfl hl.1 rfl (Nat.le_of_ble_eq_true rfl) dX2_putMastUp_12 ⟨Nat.zero_le _, Nat.zero_le _⟩ ?_
    refine lv_if_eq (tgt := 21) hx hb dX2_putMastUp_15 (by decide) (fun c_2 => ?_) (fun c_2 => ?_)
    · refine lv_aload_n hx hb dX2_putMastUp_21 rfl (lv_at hl 0 rfl) ?_
      refine lv_iload_n hx hb dX2_putMastUp_22 rfl (lv_at hl 1 rfl) ?_
      refine lv_bipush (v := 7) hx hb dX2_putMastUp_23 (by decide) ?_
      refine callRd hC (k_X2_fact l g ad σ x1 7 (in_X2_knows c_1) (in_iff.mpr (by decide))) ci_X2_fact lk_X2_47 ⟨Nat.le_of_ble_eq_true rfl, Nat.le_of_ble_eq_true rfl⟩ hP hK (hE.S hS).none (q0 := 0) rfl rfl rfl rfl hl.1 rfl (Nat.le_of_ble_eq_true rfl) dX2_putMastUp_25 ⟨Nat.zero_le _, Nat.zero_le _⟩ ?_
      refine lv_istore_n (lv' := [(2, .int (mX2_fact σ x1 7)), (0, .ref ad.1), (1, .int x1)]) hx hb dX2_putMastUp_28 rfl hl (by decide) rfl (fun ls hl => ?_)
      refine lv_aload_n hx hb dX2_putMastUp_29 rfl (lv_at hl 1 rfl) ?_
      refine lv_iload_n hx hb dX2_putMastUp_30 rfl (lv_at hl 2 rfl) ?_
      refine lv_bipush (v := 7) hx hb dX2_putMastUp_31 (by decide) ?_
      refine lv_bipush (v := (-5)) hx hb dX2_putMastUp_33 (by decide) ?_
      refine callWv hC (k_X2_note l g ad σ x1 7 (-5) (in_X2_knows c_1) (in_iff.mpr (by decide))) ci_X2_note lk_X2_59 ⟨Nat.le_of_ble_eq_true rfl, Nat.le_of_ble_eq_true rfl⟩ hP hD hK hE hS hA (q0 := 0) rfl rfl rfl rfl hl.1 rfl (Nat.le_of_ble_eq_true rfl) dX2_putMastUp_35 ⟨Nat.zero_le _, Nat.zero_le _⟩ (fun H locs hP _ hD hS _ _ => ?_)
      refine lv_iload_n hx hb dX2_putMastUp_38 rfl (lv_at hl 0 rfl) ?_
      have hm : mX2_putMastUp σ x1 = ((mX2_fact σ x1 7), (mX2_note σ x1 7 (-5))) := by unfold mX2_putMastUp; rw [if_neg c_1, if_pos c_2]
      exact wr_ret hC hP (hAe ▸ hD) (hAe ▸ hS) dX2_putMastUp_39 (by rw [hm]) (by rw [hm])
    · refine lv_bipush (v := (-4)) hx hb dX2_putMastUp_18 (by decide) ?_
      have hm : mX2_putMastUp σ x1 = ((-4), σ) := by unfold mX2_putMastUp; rw [if_neg c_1, if_neg c_2]
      exact wr_ret hC hP (hAe ▸ hD) (hAe ▸ hS) dX2_putMastUp_20 (by rw [hm]) (by rw [hm])
  · refine lv_iconst (v := (-1)) hx hb dX2_putMastUp_8 (by decide) ?_
    have hm : mX2_putMastUp σ x1 = ((-1), σ) := by unfold mX2_putMastUp; rw [if_pos c_1]
    exact wr_ret hC hP (hAe ▸ hD) (hAe ▸ hS) dX2_putMastUp_9 (by rw [hm]) (by rw [hm])
def mX2_orderWork (σ : YS) (x1 : Int32) (x2 : Int32) : Int32 × YS := (if (mX2_knows σ x1) = 0 then ((-1), σ) else (if (mX3_within x2 1 99) = 0 then ((-2), σ) else (if ((mX2_fact σ x1 8) + x2) ≤ 99 then (((mX2_fact σ x1 8) + x2), (mX2_note σ x1 8 ((mX2_fact σ x1 8) + x2))) else ((-3), σ))))
set_option maxHeartbeats 4000000 in
set_option maxRecDepth 100000 in
theorem k_X2_orderWork (l : Launch) (g : WG) (ad : AY) (σ : YS) (x1 : Int32) (x2 : Int32) : Wr l yX2_orderWork cX2_orderWork 4 (some .int) 4 g (cY g ad σ) (cY g ad (mX2_orderWork σ x1 x2).2) [.ref ad.1, .int x1, .int x2] (mX2_orderWork σ x1 x2).1 := by
  refine wr_of (by decide) (Nat.le_of_ble_eq_true rfl) ?_
  intro p e s m args below meth c ls A hC hAe hP hD hK hE hA hS hl
  obtain ⟨hx, hb, hml, hr, hown, hts, hlk, hnm⟩ := id hC
  have hl : lv_has ls 4 [(0, .ref ad.1), (1, .int x1), (2, .int x2)] := hl
  refine lv_aload_n hx hb dX2_orderWork_0 rfl (lv_at hl 0 rfl) ?_
  refine lv_iload_n hx hb dX2_orderWork_1 rfl (lv_at hl 1 rfl) ?_
  refine callRd hC (k_X2_knows l g ad σ x1) ci_X2_knows lk_X2_77 ⟨Nat.le_of_ble_eq_true rfl, Nat.le_of_ble_eq_true rfl⟩ hP hK (hE.S hS).none (q0 := 0) rfl rfl rfl rfl hl.1 rfl (Nat.le_of_ble_eq_true rfl) dX2_orderWork_2 ⟨Nat.zero_le _, Nat.zero_le _⟩ ?_
  refine lv_if_ne (tgt := 10) hx hb dX2_orderWork_5 (by decide) (fun c_1 => ?_) (fun c_1 => ?_)
  · refine lv_iload_n hx hb dX2_orderWork_10 rfl (lv_at hl 2 rfl) ?_
    refine lv_iconst (v := 1) hx hb dX2_orderWork_11 (by decide) ?_
    refine lv_bipush (v := 99) hx hb dX2_orderWork_12 (by decide) ?_
    refine callRn hC (k_X3_within l g x2 1 99) ci_X3_within hE.2.1 ⟨Nat.le_of_ble_eq_true rfl, Nat.le_of_ble_eq_true rfl⟩ hK (hE.S hS).none rfl hl.1 rfl (Nat.le_of_ble_eq_true rfl) dX2_orderWork_14 ⟨Nat.zero_le _, Nat.zero_le _⟩ ?_
    refine lv_if_ne (tgt := 23) hx hb dX2_orderWork_17 (by decide) (fun c_2 => ?_) (fun c_2 => ?_)
    · refine lv_aload_n hx hb dX2_orderWork_23 rfl (lv_at hl 0 rfl) ?_
      refine lv_iload_n hx hb dX2_orderWork_24 rfl (lv_at hl 1 rfl) ?_
      refine lv_bipush (v := 8) hx hb dX2_orderWork_25 (by decide) ?_
      refine callRd hC (k_X2_fact l g ad σ x1 8 (in_X2_knows c_1) (in_iff.mpr (by decide))) ci_X2_fact lk_X2_47 ⟨Nat.le_of_ble_eq_true rfl, Nat.le_of_ble_eq_true rfl⟩ hP hK (hE.S hS).none (q0 := 0) rfl rfl rfl rfl hl.1 rfl (Nat.le_of_ble_eq_true rfl) dX2_orderWork_27 ⟨Nat.zero_le _, Nat.zero_le _⟩ ?_
      refine lv_iload_n hx hb dX2_orderWork_30 rfl (lv_at hl 2 rfl) ?_
      refine lv_iadd hx hb dX2_orderWork_31 ?_
      refine lv_istore_n (lv' := [(3, .int ((mX2_fact σ x1 8) + x2)), (0, .ref ad.1), (1, .int x1), (2, .int x2)]) hx hb dX2_orderWork_32 rfl hl (by decide) rfl (fun ls hl => ?_)
      refine lv_iload_n hx hb dX2_orderWork_33 rfl (lv_at hl 0 rfl) ?_
      refine lv_bipush (v := 99) hx hb dX2_orderWork_34 (by decide) ?_
      refine lv_icmp_le (tgt := 42) hx hb dX2_orderWork_36 (by decide) (fun c_3 => ?_) (fun c_3 => ?_)
      · refine lv_aload_n hx hb dX2_orderWork_42 rfl (lv_at hl 1 rfl) ?_
        refine lv_iload_n hx hb dX2_orderWork_43 rfl (lv_at hl 2 rfl) ?_
        refine lv_bipush (v := 8) hx hb dX2_orderWork_44 (by decide) ?_
        refine lv_iload_n hx hb dX2_orderWork_46 rfl (lv_at hl 0 rfl) ?_
        refine callWv hC (k_X2_note l g ad σ x1 8 ((mX2_fact σ x1 8) + x2) (in_X2_knows c_1) (in_iff.mpr (by decide))) ci_X2_note lk_X2_59 ⟨Nat.le_of_ble_eq_true rfl, Nat.le_of_ble_eq_true rfl⟩ hP hD hK hE hS hA (q0 := 0) rfl rfl rfl rfl hl.1 rfl (Nat.le_of_ble_eq_true rfl) dX2_orderWork_47 ⟨Nat.zero_le _, Nat.zero_le _⟩ (fun H locs hP _ hD hS _ _ => ?_)
        refine lv_iload_n hx hb dX2_orderWork_50 rfl (lv_at hl 0 rfl) ?_
        have hm : mX2_orderWork σ x1 x2 = (((mX2_fact σ x1 8) + x2), (mX2_note σ x1 8 ((mX2_fact σ x1 8) + x2))) := by unfold mX2_orderWork; rw [if_neg c_1, if_neg c_2, if_pos c_3]
        exact wr_ret hC hP (hAe ▸ hD) (hAe ▸ hS) dX2_orderWork_51 (by rw [hm]) (by rw [hm])
      · refine lv_bipush (v := (-3)) hx hb dX2_orderWork_39 (by decide) ?_
        have hm : mX2_orderWork σ x1 x2 = ((-3), σ) := by unfold mX2_orderWork; rw [if_neg c_1, if_neg c_2, if_neg c_3]
        exact wr_ret hC hP (hAe ▸ hD) (hAe ▸ hS) dX2_orderWork_41 (by rw [hm]) (by rw [hm])
    · refine lv_bipush (v := (-2)) hx hb dX2_orderWork_20 (by decide) ?_
      have hm : mX2_orderWork σ x1 x2 = ((-2), σ) := by unfold mX2_orderWork; rw [if_neg c_1, if_pos c_2]
      exact wr_ret hC hP (hAe ▸ hD) (hAe ▸ hS) dX2_orderWork_22 (by rw [hm]) (by rw [hm])
  · refine lv_iconst (v := (-1)) hx hb dX2_orderWork_8 (by decide) ?_
    have hm : mX2_orderWork σ x1 x2 = ((-1), σ) := by unfold mX2_orderWork; rw [if_pos c_1]
    exact wr_ret hC hP (hAe ▸ hD) (hAe ▸ hS) dX2_orderWork_9 (by rw [hm]) (by rw [hm])
def mX2_boatsWithWork_L4 (σ : YS) : Nat → Int32 → Int32 → Int32
  | 0, _, _ => 0
  | n + 1, u2, u1 => (if 20 ≤ u2 then u1 else (if (mX2_fact σ u2 8) ≤ 0 then (mX2_boatsWithWork_L4 σ n (u2 + 1) u1) else (mX2_boatsWithWork_L4 σ n (u2 + 1) (u1 + 1))))
set_option maxHeartbeats 4000000 in
set_option maxRecDepth 100000 in
theorem q_X2_boatsWithWork_4 {p : Program} {e : Env} {s : State} {m : MethodId} {args : Array Value} {below : List Frame} {meth : Method} {c : Code} (l : Launch) (g : WG) (ad : AY) (σ : YS) (hC : Cx p s m args meth c yX2_boatsWithWork cX2_boatsWithWork 3 (some .int)) (hP : va_P g.1 vwCl (cY g ad σ) s.heap) (hK : va_K g.1 vwCl (tysW g) s) (hE : Ex (fun _ => False) s s.heap) {r : Int32} : ∀ (n : Nat) (u2 : Int32) (u1 : Int32) (hi0 : 0 ≤ u2.toInt) (hi1 : u2.toInt ≤ 20) (hm : ((21 : Int) - u2.toInt).toNat < n) (hR : r = mX2_boatsWithWork_L4 σ n u2 u1) (ls : Array Slot) (hl : lv_has ls 3 [(2, .int u2), (1, .int u1), (0, .ref ad.1)]), W p l e (rk 3) s m args below meth c s.heap [] 0 0 (MQ below (vp_Si (fun x => x = r)) args s 0 0 (fun _ => False)) (F0 m 4 ls []) := by
  obtain ⟨hx, hb, hml, hr, hown, hts, hlk, hnm⟩ := id hC
  intro n
  induction n with
  | zero => intro u2 u1 hi0 hi1 hm hR ls hl; exact absurd hm (Nat.not_lt_zero _)
  | succ n ih =>
    intro u2 u1 hi0 hi1 hm hR ls hl
    refine lv_iload_n hx hb dX2_boatsWithWork_4 rfl (lv_at hl 0 rfl) ?_
    refine lv_bipush (v := 20) hx hb dX2_boatsWithWork_5 (by decide) ?_
    refine lv_icmp_ge (tgt := 29) hx hb dX2_boatsWithWork_7 (by decide) (fun c_1 => ?_) (fun c_1 => ?_)
    · refine lv_iload_n hx hb dX2_boatsWithWork_29 rfl (lv_at hl 1 rfl) ?_
      exact rd_ret hC dX2_boatsWithWork_30 (Eq.symm (by rw [hR, mX2_boatsWithWork_L4, if_pos c_1]))
    · refine lv_aload_n hx hb dX2_boatsWithWork_10 rfl (lv_at hl 2 rfl) ?_
      refine lv_iload_n hx hb dX2_boatsWithWork_11 rfl (lv_at hl 0 rfl) ?_
      refine lv_bipush (v := 8) hx hb dX2_boatsWithWork_12 (by decide) ?_
      refine callRd hC (k_X2_fact l g ad σ u2 8 (in_up (n := 20) rfl hi0 c_1) (in_iff.mpr (by decide))) ci_X2_fact lk_X2_47 ⟨Nat.le_of_ble_eq_true rfl, Nat.le_of_ble_eq_true rfl⟩ hP hK hE (q0 := 0) rfl rfl rfl rfl hl.1 rfl (Nat.le_of_ble_eq_true rfl) dX2_boatsWithWork_14 ⟨Nat.zero_le _, Nat.zero_le _⟩ ?_
      refine lv_if_le (tgt := 23) hx hb dX2_boatsWithWork_17 (by decide) (fun c_2 => ?_) (fun c_2 => ?_)
      · refine lv_iinc (v := (u2 + 1)) (lv' := [(2, .int (u2 + 1)), (1, .int u1), (0, .ref ad.1)]) hx hb dX2_boatsWithWork_23 hl (k := 0) rfl rfl (by decide) rfl (fun ls hl => ?_)
        refine lv_goto (tgt := 4) hx hb dX2_boatsWithWork_26 (by decide) ?_
        have e9 := up_add (d := 1) (k := 1) (M := 20) rfl hi0 hi1 (by decide) (by decide)
        have e8 := nle_ti (k := 20) rfl c_1
        exact ih (u2 + 1) u1 (by rw [e9]; omega) (by rw [e9]; omega) (by rw [e9]; omega) (by rw [hR, mX2_boatsWithWork_L4, if_neg c_1, if_pos c_2]) _ (lv_sub hl [0, 1, 2] rfl)
      · refine lv_iinc (v := (u1 + 1)) (lv' := [(1, .int (u1 + 1)), (2, .int u2), (0, .ref ad.1)]) hx hb dX2_boatsWithWork_20 hl (k := 1) rfl rfl (by decide) rfl (fun ls hl => ?_)
        refine lv_iinc (v := (u2 + 1)) (lv' := [(2, .int (u2 + 1)), (1, .int (u1 + 1)), (0, .ref ad.1)]) hx hb dX2_boatsWithWork_23 hl (k := 1) rfl rfl (by decide) rfl (fun ls hl => ?_)
        refine lv_goto (tgt := 4) hx hb dX2_boatsWithWork_26 (by decide) ?_
        have e9 := up_add (d := 1) (k := 1) (M := 20) rfl hi0 hi1 (by decide) (by decide)
        have e8 := nle_ti (k := 20) rfl c_1
        exact ih (u2 + 1) (u1 + 1) (by rw [e9]; omega) (by rw [e9]; omega) (by rw [e9]; omega) (by rw [hR, mX2_boatsWithWork_L4, if_neg c_1, if_neg c_2]) _ (lv_sub hl [0, 1, 2] rfl)
def mX2_boatsWithWork (σ : YS) : Int32 := (mX2_boatsWithWork_L4 σ 22 0 0)
set_option maxHeartbeats 4000000 in
set_option maxRecDepth 100000 in
theorem k_X2_boatsWithWork (l : Launch) (g : WG) (ad : AY) (σ : YS) : Rd l yX2_boatsWithWork cX2_boatsWithWork 3 (some .int) 3 (Wl g (cY g ad σ) (fun _ => False)) [.ref ad.1] (mX2_boatsWithWork σ) := by
  refine rd_of (by decide) (Nat.le_of_ble_eq_true rfl) ?_
  intro p e s m args below meth c ls hC hW hl
  obtain ⟨hP, hK, hE⟩ := hW
  obtain ⟨hx, hb, hml, hr, hown, hts, hlk, hnm⟩ := id hC
  have hl : lv_has ls 3 [(0, .ref ad.1)] := hl
  refine lv_iconst (v := 0) hx hb dX2_boatsWithWork_0 (by decide) ?_
  refine lv_istore_n (lv' := [(1, .int 0), (0, .ref ad.1)]) hx hb dX2_boatsWithWork_1 rfl hl (by decide) rfl (fun ls hl => ?_)
  refine lv_iconst (v := 0) hx hb dX2_boatsWithWork_2 (by decide) ?_
  refine lv_istore_n (lv' := [(2, .int 0), (1, .int 0), (0, .ref ad.1)]) hx hb dX2_boatsWithWork_3 rfl hl (by decide) rfl (fun ls hl => ?_)
  refine q_X2_boatsWithWork_4 l g ad σ hC hP hK hE 22 0 0 (by decide) (by decide) (by decide) ?_ _ (lv_sub hl [0, 1, 2] rfl)
  exact by unfold mX2_boatsWithWork; rfl
def mX2_today (σ : YS) : Int32 := (Y_day σ)
set_option maxHeartbeats 4000000 in
set_option maxRecDepth 100000 in
theorem k_X2_today (l : Launch) (g : WG) (ad : AY) (σ : YS) : Rd l yX2_today cX2_today 1 (some .int) 0 (Wl g (cY g ad σ) (fun _ => False)) [.ref ad.1] (mX2_today σ) := by
  refine rd_of (by decide) (Nat.le_of_ble_eq_true rfl) ?_
  intro p e s m args below meth c ls hC hW hl
  obtain ⟨hP, hK, hE⟩ := hW
  obtain ⟨hx, hb, hml, hr, hown, hts, hlk, hnm⟩ := id hC
  have hl : lv_has ls 1 [(0, .ref ad.1)] := hl
  refine lv_aload_n hx hb dX2_today_0 rfl (lv_at hl 0 rfl) ?_
  refine gY_day hC rfl hK hP dX2_today_1 ?_
  exact rd_ret hC dX2_today_4 (Eq.symm (by unfold mX2_today; rfl))
def mX2_letPass_L45 (x1 : Int32) : Nat → YS → Int32 → Int32 × YS
  | 0, σ, _ => (0, σ)
  | n + 1, σ, u2 => (if 20 ≤ u2 then ((mX2_tideOn σ (Y_day σ)), σ) else (if (mX2_isAshore σ u2) = 0 then (mX2_letPass_L45 x1 n σ (u2 + 1)) else (mX2_letPass_L45 x1 n (mX2_note (mX2_note σ u2 9 ((mX2_fact σ u2 9) + x1)) u2 8 (if 0 < ((mX2_fact (mX2_note σ u2 9 ((mX2_fact σ u2 9) + x1)) u2 8) - x1) then ((mX2_fact (mX2_note σ u2 9 ((mX2_fact σ u2 9) + x1)) u2 8) - x1) else 0)) (u2 + 1))))
set_option maxHeartbeats 4000000 in
set_option maxRecDepth 100000 in
theorem q_X2_letPass_45 {p : Program} {e : Env} {s : State} {m : MethodId} {args : Array Value} {below : List Frame} {meth : Method} {c : Code} (l : Launch) (g : WG) (ad : AY) (x1 : Int32) (hC : Cx p s m args meth c yX2_letPass cX2_letPass 3 (some .int)) (hK : va_K g.1 vwCl (tysW g) s) {A : Nat → Prop} {ws0 : va_W} (hE : Ex A s s.heap) (hA : ∀ q : Nat, s.heap.size ≤ q → A q) (hAe : A = va_A ws0 s.heap.size) {r : Int32 × YS} : ∀ (n : Nat) (σ : YS) (H : Heap) (locs : List Loc) (hP : va_P g.1 vwCl (cY g ad σ) H) (hD : va_D A (cY g ad σ)) (hS : va_S A s.heap H locs) (u2 : Int32) (hi0 : 0 ≤ u2.toInt) (hi1 : u2.toInt ≤ 20) (hm : ((21 : Int) - u2.toInt).toNat < n) (hR : r = mX2_letPass_L45 x1 n σ u2) (ls : Array Slot) (hl : lv_has ls 3 [(2, .int u2), (0, .ref ad.1), (1, .int x1)]), W p l e (rk 4) s m args below meth c H locs 0 0 (MQ below (va_Qi (fun x _ => x = r.1) (Bw g ws0 (cY g ad r.2) s.heap.size) (va_A ws0 s.heap.size)) args s 0 0 (va_A ws0 s.heap.size)) (F0 m 45 ls []) := by
  obtain ⟨hx, hb, hml, hr, hown, hts, hlk, hnm⟩ := id hC
  intro n
  induction n with
  | zero => intro σ H locs hP hD hS u2 hi0 hi1 hm hR ls hl; exact absurd hm (Nat.not_lt_zero _)
  | succ n ih =>
    intro σ H locs hP hD hS u2 hi0 hi1 hm hR ls hl
    refine lv_iload_n hx hb dX2_letPass_45 rfl (lv_at hl 0 rfl) ?_
    refine lv_bipush (v := 20) hx hb dX2_letPass_46 (by decide) ?_
    refine lv_icmp_ge (tgt := 101) hx hb dX2_letPass_48 (by decide) (fun c_3 => ?_) (fun c_3 => ?_)
    · refine lv_aload_n hx hb dX2_letPass_101 rfl (lv_at hl 1 rfl) ?_
      refine lv_aload_n hx hb dX2_letPass_102 rfl (lv_at hl 1 rfl) ?_
      refine gY_day hC rfl hK hP dX2_letPass_103 ?_
      refine callRd hC (k_X2_tideOn l g ad σ (Y_day σ)) ci_X2_tideOn lk_X2_146 ⟨Nat.le_of_ble_eq_true rfl, Nat.le_of_ble_eq_true rfl⟩ hP hK (hE.S hS).none (q0 := 0) rfl rfl rfl rfl hl.1 rfl (Nat.le_of_ble_eq_true rfl) dX2_letPass_106 ⟨Nat.zero_le _, Nat.zero_le _⟩ ?_
      have hm : r = ((mX2_tideOn σ (Y_day σ)), σ) := by rw [hR, mX2_letPass_L45, if_pos c_3]
      exact wr_ret hC hP (hAe ▸ hD) (hAe ▸ hS) dX2_letPass_109 (by rw [hm]) (by rw [hm])
    · refine lv_aload_n hx hb dX2_letPass_51 rfl (lv_at hl 1 rfl) ?_
      refine lv_iload_n hx hb dX2_letPass_52 rfl (lv_at hl 0 rfl) ?_
      refine callRd hC (k_X2_isAshore l g ad σ u2 (in_up (n := 20) rfl hi0 c_3)) ci_X2_isAshore lk_X2_80 ⟨Nat.le_of_ble_eq_true rfl, Nat.le_of_ble_eq_true rfl⟩ hP hK (hE.S hS).none (q0 := 0) rfl rfl rfl rfl hl.1 rfl (Nat.le_of_ble_eq_true rfl) dX2_letPass_53 ⟨Nat.zero_le _, Nat.zero_le _⟩ ?_
      refine lv_if_eq (tgt := 95) hx hb dX2_letPass_56 (by decide) (fun c_4 => ?_) (fun c_4 => ?_)
      · refine lv_iinc (v := (u2 + 1)) (lv' := [(2, .int (u2 + 1)), (0, .ref ad.1), (1, .int x1)]) hx hb dX2_letPass_95 hl (k := 0) rfl rfl (by decide) rfl (fun ls hl => ?_)
        refine lv_goto (tgt := 45) hx hb dX2_letPass_98 (by decide) ?_
        have e9 := up_add (d := 1) (k := 1) (M := 20) rfl hi0 hi1 (by decide) (by decide)
        have e8 := nle_ti (k := 20) rfl c_3
        exact ih σ _ _ hP hD hS (u2 + 1) (by rw [e9]; omega) (by rw [e9]; omega) (by rw [e9]; omega) (by rw [hR, mX2_letPass_L45, if_neg c_3, if_pos c_4]) _ (lv_sub hl [0, 1, 2] rfl)
      · refine lv_aload_n hx hb dX2_letPass_59 rfl (lv_at hl 1 rfl) ?_
        refine lv_iload_n hx hb dX2_letPass_60 rfl (lv_at hl 0 rfl) ?_
        refine lv_bipush (v := 9) hx hb dX2_letPass_61 (by decide) ?_
        refine lv_aload_n hx hb dX2_letPass_63 rfl (lv_at hl 1 rfl) ?_
        refine lv_iload_n hx hb dX2_letPass_64 rfl (lv_at hl 0 rfl) ?_
        refine lv_bipush (v := 9) hx hb dX2_letPass_65 (by decide) ?_
        refine callRd hC (k_X2_fact l g ad σ u2 9 (in_up (n := 20) rfl hi0 c_3) (in_iff.mpr (by decide))) ci_X2_fact lk_X2_47 ⟨Nat.le_of_ble_eq_true rfl, Nat.le_of_ble_eq_true rfl⟩ hP hK (hE.S hS).none (q0 := 0) rfl rfl rfl rfl hl.1 rfl (Nat.le_of_ble_eq_true rfl) dX2_letPass_67 ⟨Nat.zero_le _, Nat.zero_le _⟩ ?_
        refine lv_iload_n hx hb dX2_letPass_70 rfl (lv_at hl 2 rfl) ?_
        refine lv_iadd hx hb dX2_letPass_71 ?_
        refine callWv hC (k_X2_note l g ad σ u2 9 ((mX2_fact σ u2 9) + x1) (in_up (n := 20) rfl hi0 c_3) (in_iff.mpr (by decide))) ci_X2_note lk_X2_59 ⟨Nat.le_of_ble_eq_true rfl, Nat.le_of_ble_eq_true rfl⟩ hP hD hK hE hS hA (q0 := 0) rfl rfl rfl rfl hl.1 rfl (Nat.le_of_ble_eq_true rfl) dX2_letPass_72 ⟨Nat.zero_le _, Nat.zero_le _⟩ (fun H locs hP _ hD hS _ _ => ?_)
        refine lv_aload_n hx hb dX2_letPass_75 rfl (lv_at hl 1 rfl) ?_
        refine lv_iload_n hx hb dX2_letPass_76 rfl (lv_at hl 0 rfl) ?_
        refine lv_bipush (v := 8) hx hb dX2_letPass_77 (by decide) ?_
        refine lv_iconst (v := 0) hx hb dX2_letPass_79 (by decide) ?_
        refine lv_aload_n hx hb dX2_letPass_80 rfl (lv_at hl 1 rfl) ?_
        refine lv_iload_n hx hb dX2_letPass_81 rfl (lv_at hl 0 rfl) ?_
        refine lv_bipush (v := 8) hx hb dX2_letPass_82 (by decide) ?_
        refine callRd hC (k_X2_fact l g ad (mX2_note σ u2 9 ((mX2_fact σ u2 9) + x1)) u2 8 (in_up (n := 20) rfl hi0 c_3) (in_iff.mpr (by decide))) ci_X2_fact lk_X2_47 ⟨Nat.le_of_ble_eq_true rfl, Nat.le_of_ble_eq_true rfl⟩ hP hK (hE.S hS).none (q0 := 0) rfl rfl rfl rfl hl.1 rfl (Nat.le_of_ble_eq_true rfl) dX2_letPass_84 ⟨Nat.zero_le _, Nat.zero_le _⟩ ?_
        refine lv_iload_n hx hb dX2_letPass_87 rfl (lv_at hl 2 rfl) ?_
        refine lv_isub hx hb dX2_letPass_88 ?_
        refine va_mmax hx hb (hml.trans hl.1.symm) hown (hts _ lk_X2_141) (hts _ stc_Lib_Math_max_name) (hts _ ini_java_lang_Math) (hts _ cod_max) (Nat.le_of_ble_eq_true rfl) (Nat.le_of_ble_eq_true rfl) (Nat.zero_le _) (Nat.zero_le _) dX2_letPass_89 ?_
        refine callWv hC (k_X2_note l g ad (mX2_note σ u2 9 ((mX2_fact σ u2 9) + x1)) u2 8 (if 0 < ((mX2_fact (mX2_note σ u2 9 ((mX2_fact σ u2 9) + x1)) u2 8) - x1) then ((mX2_fact (mX2_note σ u2 9 ((mX2_fact σ u2 9) + x1)) u2 8) - x1) else 0) (in_up (n := 20) rfl hi0 c_3) (in_iff.mpr (by decide))) ci_X2_note lk_X2_59 ⟨Nat.le_of_ble_eq_true rfl, Nat.le_of_ble_eq_true rfl⟩ hP hD hK hE hS hA (q0 := 0) rfl rfl rfl rfl hl.1 rfl (Nat.le_of_ble_eq_true rfl) dX2_letPass_92 ⟨Nat.zero_le _, Nat.zero_le _⟩ (fun H locs hP _ hD hS _ _ => ?_)
        refine lv_iinc (v := (u2 + 1)) (lv' := [(2, .int (u2 + 1)), (0, .ref ad.1), (1, .int x1)]) hx hb dX2_letPass_95 hl (k := 0) rfl rfl (by decide) rfl (fun ls hl => ?_)
        refine lv_goto (tgt := 45) hx hb dX2_letPass_98 (by decide) ?_
        have e9 := up_add (d := 1) (k := 1) (M := 20) rfl hi0 hi1 (by decide) (by decide)
        have e8 := nle_ti (k := 20) rfl c_3
        exact ih (mX2_note (mX2_note σ u2 9 ((mX2_fact σ u2 9) + x1)) u2 8 (if 0 < ((mX2_fact (mX2_note σ u2 9 ((mX2_fact σ u2 9) + x1)) u2 8) - x1) then ((mX2_fact (mX2_note σ u2 9 ((mX2_fact σ u2 9) + x1)) u2 8) - x1) else 0)) _ _ hP hD hS (u2 + 1) (by rw [e9]; omega) (by rw [e9]; omega) (by rw [e9]; omega) (by rw [hR, mX2_letPass_L45, if_neg c_3, if_neg c_4]) _ (lv_sub hl [0, 1, 2] rfl)
def mX2_letPass (σ : YS) (x1 : Int32) : Int32 × YS := (if (mX3_within x1 1 99) = 0 then ((-2), σ) else (if ((Y_day σ) + x1) ≤ 9999 then (mX2_letPass_L45 x1 22 (Y_set_liftsToday (Y_set_day σ ((Y_day σ) + x1)) 0) 0) else ((-3), σ)))
set_option maxHeartbeats 4000000 in
set_option maxRecDepth 100000 in
theorem k_X2_letPass (l : Launch) (g : WG) (ad : AY) (σ : YS) (x1 : Int32) : Wr l yX2_letPass cX2_letPass 3 (some .int) 4 g (cY g ad σ) (cY g ad (mX2_letPass σ x1).2) [.ref ad.1, .int x1] (mX2_letPass σ x1).1 := by
  refine wr_of (by decide) (Nat.le_of_ble_eq_true rfl) ?_
  intro p e s m args below meth c ls A hC hAe hP hD hK hE hA hS hl
  obtain ⟨hx, hb, hml, hr, hown, hts, hlk, hnm⟩ := id hC
  have hl : lv_has ls 3 [(0, .ref ad.1), (1, .int x1)] := hl
  refine lv_iload_n hx hb dX2_letPass_0 rfl (lv_at hl 1 rfl) ?_
  refine lv_iconst (v := 1) hx hb dX2_letPass_1 (by decide) ?_
  refine lv_bipush (v := 99) hx hb dX2_letPass_2 (by decide) ?_
  refine callRn hC (k_X3_within l g x1 1 99) ci_X3_within hE.2.1 ⟨Nat.le_of_ble_eq_true rfl, Nat.le_of_ble_eq_true rfl⟩ hK (hE.S hS).none rfl hl.1 rfl (Nat.le_of_ble_eq_true rfl) dX2_letPass_4 ⟨Nat.zero_le _, Nat.zero_le _⟩ ?_
  refine lv_if_ne (tgt := 13) hx hb dX2_letPass_7 (by decide) (fun c_1 => ?_) (fun c_1 => ?_)
  · refine lv_aload_n hx hb dX2_letPass_13 rfl (lv_at hl 0 rfl) ?_
    refine gY_day hC rfl hK hP dX2_letPass_14 ?_
    refine lv_iload_n hx hb dX2_letPass_17 rfl (lv_at hl 1 rfl) ?_
    refine lv_iadd hx hb dX2_letPass_18 ?_
    refine lv_sipush (v := 9999) hx hb dX2_letPass_19 (by decide) ?_
    refine lv_icmp_le (tgt := 28) hx hb dX2_letPass_22 (by decide) (fun c_2 => ?_) (fun c_2 => ?_)
    · refine lv_aload_n hx hb dX2_letPass_28 rfl (lv_at hl 0 rfl) ?_
      refine lv_dup hx hb dX2_letPass_29 rfl ?_
      refine gY_day hC rfl hK hP dX2_letPass_30 ?_
      refine lv_iload_n hx hb dX2_letPass_33 rfl (lv_at hl 1 rfl) ?_
      refine lv_iadd hx hb dX2_letPass_34 ?_
      refine pY_day hC rfl hK hP hD hS dX2_letPass_35 (fun H locs hP hD hS => ?_)
      refine lv_aload_n hx hb dX2_letPass_38 rfl (lv_at hl 0 rfl) ?_
      refine lv_iconst (v := 0) hx hb dX2_letPass_39 (by decide) ?_
      refine pY_liftsToday hC rfl hK hP hD hS dX2_letPass_40 (fun H locs hP hD hS => ?_)
      refine lv_iconst (v := 0) hx hb dX2_letPass_43 (by decide) ?_
      refine lv_istore_n (lv' := [(2, .int 0), (0, .ref ad.1), (1, .int x1)]) hx hb dX2_letPass_44 rfl hl (by decide) rfl (fun ls hl => ?_)
      refine q_X2_letPass_45 l g ad x1 hC hK hE hA hAe 22 (Y_set_liftsToday (Y_set_day σ ((Y_day σ) + x1)) 0) _ _ hP hD hS 0 (by decide) (by decide) (by decide) ?_ _ (lv_sub hl [0, 1, 2] rfl)
      exact by unfold mX2_letPass; rw [if_neg c_1, if_pos c_2]
    · refine lv_bipush (v := (-3)) hx hb dX2_letPass_25 (by decide) ?_
      have hm : mX2_letPass σ x1 = ((-3), σ) := by unfold mX2_letPass; rw [if_neg c_1, if_neg c_2]
      exact wr_ret hC hP (hAe ▸ hD) (hAe ▸ hS) dX2_letPass_27 (by rw [hm]) (by rw [hm])
  · refine lv_bipush (v := (-2)) hx hb dX2_letPass_10 (by decide) ?_
    have hm : mX2_letPass σ x1 = ((-2), σ) := by unfold mX2_letPass; rw [if_pos c_1]
    exact wr_ret hC hP (hAe ▸ hD) (hAe ▸ hS) dX2_letPass_12 (by rw [hm]) (by rw [hm])
