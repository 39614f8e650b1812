def mX3_come (ω : WS) (x1 : Int32) (x2 : Int32) (x3 : Int32) (x4 : Int32) : Int32 × WS := ((mX0_settle (mX0_prepare (W_hist ω) (W_yard ω)) (mX2_addBoat (W_yard ω) x1 x2 x3 x4).1).1, ((mX2_addBoat (W_yard ω) x1 x2 x3 x4).2, (W_snap ω), (mX0_settle (mX0_prepare (W_hist ω) (W_yard ω)) (mX2_addBoat (W_yard ω) x1 x2 x3 x4).1).2, (W_plan ω), (W_has ω), (W_num ω), (W_err ω)))
set_option maxHeartbeats 4000000 in
set_option maxRecDepth 100000 in
theorem k_X3_come (l : Launch) (g : WG) (ad : AW) (ω : WS) (x1 : Int32) (x2 : Int32) (x3 : Int32) (x4 : Int32) (h_hok : HOK (W_hist ω)) : Wr l yX3_come cX3_come 5 (some .int) 6 g (cW g ad ω) (cW g ad (mX3_come ω x1 x2 x3 x4).2) [.ref ad.1, .int x1, .int x2, .int x3, .int x4] (mX3_come ω x1 x2 x3 x4).1 := by
  refine wr_of (by decide) (Nat.le_of_ble_eq_true rfl) ?_
  intro p e s m args below meth c ls A hC hAe hP hD hK hE hA hS hl
  obtain ⟨hx, hb, hml, hr, hown, hts, hlk, hnm⟩ := id hC
  have hl : lv_has ls 5 [(0, .ref ad.1), (1, .int x1), (2, .int x2), (3, .int x3), (4, .int x4)] := hl
  refine lv_aload_n hx hb dX3_come_0 rfl (lv_at hl 0 rfl) ?_
  refine gt_X3_history hC rfl hK hP 0 rfl rfl dX3_come_1 ?_
  refine lv_aload_n hx hb dX3_come_4 rfl (lv_at hl 0 rfl) ?_
  refine gt_X3_yard hC rfl hK hP 0 rfl rfl dX3_come_5 ?_
  refine callWv34 hC (k_X0_prepare l g ad.2.2.2.1 ad.2.1 (W_hist ω) (W_yard ω) h_hok) ci_X0_prepare lk_X3_44 ⟨Nat.le_of_ble_eq_true rfl, Nat.le_of_ble_eq_true rfl⟩ hP hD hK hE hS hA (q0 := 5) rfl rfl rfl rfl hl.1 rfl (Nat.le_of_ble_eq_true rfl) dX3_come_8 ⟨Nat.zero_le _, Nat.zero_le _⟩ (fun H locs hP hD hS => ?_)
  refine lv_aload_n hx hb dX3_come_11 rfl (lv_at hl 0 rfl) ?_
  refine gt_X3_history hC rfl hK hP 0 rfl rfl dX3_come_12 ?_
  refine lv_aload_n hx hb dX3_come_15 rfl (lv_at hl 0 rfl) ?_
  refine gt_X3_yard hC rfl hK hP 0 rfl rfl dX3_come_16 ?_
  refine lv_iload_n hx hb dX3_come_19 rfl (lv_at hl 1 rfl) ?_
  refine lv_iload_n hx hb dX3_come_20 rfl (lv_at hl 2 rfl) ?_
  refine lv_iload_n hx hb dX3_come_21 rfl (lv_at hl 3 rfl) ?_
  refine lv_iload hx hb dX3_come_22 (lv_at hl 4 rfl) ?_
  refine callWr3 hC (k_X2_addBoat l g ad.2.1 (W_yard ω) x1 x2 x3 x4) ci_X2_addBoat lk_X3_48 ⟨Nat.le_of_ble_eq_true rfl, Nat.le_of_ble_eq_true rfl⟩ hP hD hK hE hS hA (q0 := 0) rfl rfl rfl rfl hl.1 rfl (Nat.le_of_ble_eq_true rfl) dX3_come_24 ⟨Nat.zero_le _, Nat.zero_le _⟩ (fun H locs hP hD hS => ?_)
  refine callSettle hC lk_X3_52 ⟨Nat.le_of_ble_eq_true rfl, Nat.le_of_ble_eq_true rfl⟩ hP hD hK hE hS hA hl.1 (Nat.le_of_ble_eq_true rfl) dX3_come_27 ⟨Nat.zero_le _, Nat.zero_le _⟩ (fun H locs hP hD hS => ?_)
  have hm : mX3_come ω x1 x2 x3 x4 = ((mX0_settle (mX0_prepare (W_hist ω) (W_yard ω)) (mX2_addBoat (W_yard ω) x1 x2 x3 x4).1).1, ((mX2_addBoat (W_yard ω) x1 x2 x3 x4).2, (W_snap ω), (mX0_settle (mX0_prepare (W_hist ω) (W_yard ω)) (mX2_addBoat (W_yard ω) x1 x2 x3 x4).1).2, (W_plan ω), (W_has ω), (W_num ω), (W_err ω))) := by unfold mX3_come; rfl
  exact wr_ret hC hP (hAe ▸ hD) (hAe ▸ hS) dX3_come_30 (by rw [hm]) (by rw [hm])
def mX3_goAway (ω : WS) (x1 : Int32) : Int32 × WS := ((mX0_settle (mX0_prepare (W_hist ω) (W_yard ω)) (mX2_removeBoat (W_yard ω) x1).1).1, ((mX2_removeBoat (W_yard ω) x1).2, (W_snap ω), (mX0_settle (mX0_prepare (W_hist ω) (W_yard ω)) (mX2_removeBoat (W_yard ω) x1).1).2, (W_plan ω), (W_has ω), (W_num ω), (W_err ω)))
set_option maxHeartbeats 4000000 in
set_option maxRecDepth 100000 in
theorem k_X3_goAway (l : Launch) (g : WG) (ad : AW) (ω : WS) (x1 : Int32) (h_hok : HOK (W_hist ω)) : Wr l yX3_goAway cX3_goAway 2 (some .int) 5 g (cW g ad ω) (cW g ad (mX3_goAway ω x1).2) [.ref ad.1, .int x1] (mX3_goAway ω x1).1 := by
  refine wr_of (by decide) (Nat.le_of_ble_eq_true rfl) ?_
  intro p e s m args below meth c ls A hC hAe hP hD hK hE hA hS hl
  obtain ⟨hx, hb, hml, hr, hown, hts, hlk, hnm⟩ := id hC
  have hl : lv_has ls 2 [(0, .ref ad.1), (1, .int x1)] := hl
  refine lv_aload_n hx hb dX3_goAway_0 rfl (lv_at hl 0 rfl) ?_
  refine gt_X3_history hC rfl hK hP 0 rfl rfl dX3_goAway_1 ?_
  refine lv_aload_n hx hb dX3_goAway_4 rfl (lv_at hl 0 rfl) ?_
  refine gt_X3_yard hC rfl hK hP 0 rfl rfl dX3_goAway_5 ?_
  refine callWv34 hC (k_X0_prepare l g ad.2.2.2.1 ad.2.1 (W_hist ω) (W_yard ω) h_hok) ci_X0_prepare lk_X3_44 ⟨Nat.le_of_ble_eq_true rfl, Nat.le_of_ble_eq_true rfl⟩ hP hD hK hE hS hA (q0 := 5) rfl rfl rfl rfl hl.1 rfl (Nat.le_of_ble_eq_true rfl) dX3_goAway_8 ⟨Nat.zero_le _, Nat.zero_le _⟩ (fun H locs hP hD hS => ?_)
  refine lv_aload_n hx hb dX3_goAway_11 rfl (lv_at hl 0 rfl) ?_
  refine gt_X3_history hC rfl hK hP 0 rfl rfl dX3_goAway_12 ?_
  refine lv_aload_n hx hb dX3_goAway_15 rfl (lv_at hl 0 rfl) ?_
  refine gt_X3_yard hC rfl hK hP 0 rfl rfl dX3_goAway_16 ?_
  refine lv_iload_n hx hb dX3_goAway_19 rfl (lv_at hl 1 rfl) ?_
  refine callWr3 hC (k_X2_removeBoat l g ad.2.1 (W_yard ω) x1) ci_X2_removeBoat lk_X3_56 ⟨Nat.le_of_ble_eq_true rfl, Nat.le_of_ble_eq_true rfl⟩ hP hD hK hE hS hA (q0 := 0) rfl rfl rfl rfl hl.1 rfl (Nat.le_of_ble_eq_true rfl) dX3_goAway_20 ⟨Nat.zero_le _, Nat.zero_le _⟩ (fun H locs hP hD hS => ?_)
  refine callSettle hC lk_X3_52 ⟨Nat.le_of_ble_eq_true rfl, Nat.le_of_ble_eq_true rfl⟩ hP hD hK hE hS hA hl.1 (Nat.le_of_ble_eq_true rfl) dX3_goAway_23 ⟨Nat.zero_le _, Nat.zero_le _⟩ (fun H locs hP hD hS => ?_)
  have hm : mX3_goAway ω x1 = ((mX0_settle (mX0_prepare (W_hist ω) (W_yard ω)) (mX2_removeBoat (W_yard ω) x1).1).1, ((mX2_removeBoat (W_yard ω) x1).2, (W_snap ω), (mX0_settle (mX0_prepare (W_hist ω) (W_yard ω)) (mX2_removeBoat (W_yard ω) x1).1).2, (W_plan ω), (W_has ω), (W_num ω), (W_err ω))) := by unfold mX3_goAway; rfl
  exact wr_ret hC hP (hAe ▸ hD) (hAe ▸ hS) dX3_goAway_26 (by rw [hm]) (by rw [hm])
def mX3_setCradles (ω : WS) (x1 : Int32) (x2 : Int32) : Int32 × WS := ((mX0_settle (mX0_prepare (W_hist ω) (W_yard ω)) (mX2_changeCradles (W_yard ω) x1 x2).1).1, ((mX2_changeCradles (W_yard ω) x1 x2).2, (W_snap ω), (mX0_settle (mX0_prepare (W_hist ω) (W_yard ω)) (mX2_changeCradles (W_yard ω) x1 x2).1).2, (W_plan ω), (W_has ω), (W_num ω), (W_err ω)))
set_option maxHeartbeats 4000000 in
set_option maxRecDepth 100000 in
theorem k_X3_setCradles (l : Launch) (g : WG) (ad : AW) (ω : WS) (x1 : Int32) (x2 : Int32) (h_hok : HOK (W_hist ω)) : Wr l yX3_setCradles cX3_setCradles 3 (some .int) 4 g (cW g ad ω) (cW g ad (mX3_setCradles ω x1 x2).2) [.ref ad.1, .int x1, .int x2] (mX3_setCradles ω x1 x2).1 := by
  refine wr_of (by decide) (Nat.le_of_ble_eq_true rfl) ?_
  intro p e s m args below meth c ls A hC hAe hP hD hK hE hA hS hl
  obtain ⟨hx, hb, hml, hr, hown, hts, hlk, hnm⟩ := id hC
  have hl : lv_has ls 3 [(0, .ref ad.1), (1, .int x1), (2, .int x2)] := hl
  refine lv_aload_n hx hb dX3_setCradles_0 rfl (lv_at hl 0 rfl) ?_
  refine gt_X3_history hC rfl hK hP 0 rfl rfl dX3_setCradles_1 ?_
  refine lv_aload_n hx hb dX3_setCradles_4 rfl (lv_at hl 0 rfl) ?_
  refine gt_X3_yard hC rfl hK hP 0 rfl rfl dX3_setCradles_5 ?_
  refine callWv34 hC (k_X0_prepare l g ad.2.2.2.1 ad.2.1 (W_hist ω) (W_yard ω) h_hok) ci_X0_prepare lk_X3_44 ⟨Nat.le_of_ble_eq_true rfl, Nat.le_of_ble_eq_true rfl⟩ hP hD hK hE hS hA (q0 := 5) rfl rfl rfl rfl hl.1 rfl (Nat.le_of_ble_eq_true rfl) dX3_setCradles_8 ⟨Nat.zero_le _, Nat.zero_le _⟩ (fun H locs hP hD hS => ?_)
  refine lv_aload_n hx hb dX3_setCradles_11 rfl (lv_at hl 0 rfl) ?_
  refine gt_X3_history hC rfl hK hP 0 rfl rfl dX3_setCradles_12 ?_
  refine lv_aload_n hx hb dX3_setCradles_15 rfl (lv_at hl 0 rfl) ?_
  refine gt_X3_yard hC rfl hK hP 0 rfl rfl dX3_setCradles_16 ?_
  refine lv_iload_n hx hb dX3_setCradles_19 rfl (lv_at hl 1 rfl) ?_
  refine lv_iload_n hx hb dX3_setCradles_20 rfl (lv_at hl 2 rfl) ?_
  refine callWr3 hC (k_X2_changeCradles l g ad.2.1 (W_yard ω) x1 x2) ci_X2_changeCradles lk_X3_59 ⟨Nat.le_of_ble_eq_true rfl, Nat.le_of_ble_eq_true rfl⟩ hP hD hK hE hS hA (q0 := 0) rfl rfl rfl rfl hl.1 rfl (Nat.le_of_ble_eq_true rfl) dX3_setCradles_21 ⟨Nat.zero_le _, Nat.zero_le _⟩ (fun H locs hP hD hS => ?_)
  refine callSettle hC lk_X3_52 ⟨Nat.le_of_ble_eq_true rfl, Nat.le_of_ble_eq_true rfl⟩ hP hD hK hE hS hA hl.1 (Nat.le_of_ble_eq_true rfl) dX3_setCradles_24 ⟨Nat.zero_le _, Nat.zero_le _⟩ (fun H locs hP hD hS => ?_)
  have hm : mX3_setCradles ω x1 x2 = ((mX0_settle (mX0_prepare (W_hist ω) (W_yard ω)) (mX2_changeCradles (W_yard ω) x1 x2).1).1, ((mX2_changeCradles (W_yard ω) x1 x2).2, (W_snap ω), (mX0_settle (mX0_prepare (W_hist ω) (W_yard ω)) (mX2_changeCradles (W_yard ω) x1 x2).1).2, (W_plan ω), (W_has ω), (W_num ω), (W_err ω))) := by unfold mX3_setCradles; rfl
  exact wr_ret hC hP (hAe ▸ hD) (hAe ▸ hS) dX3_setCradles_27 (by rw [hm]) (by rw [hm])
def mX3_setRow (ω : WS) (x1 : Int32) (x2 : Int32) : Int32 × WS := ((mX0_settle (mX0_prepare (W_hist ω) (W_yard ω)) (mX2_changeRow (W_yard ω) x1 x2).1).1, ((mX2_changeRow (W_yard ω) x1 x2).2, (W_snap ω), (mX0_settle (mX0_prepare (W_hist ω) (W_yard ω)) (mX2_changeRow (W_yard ω) x1 x2).1).2, (W_plan ω), (W_has ω), (W_num ω), (W_err ω)))
set_option maxHeartbeats 4000000 in
set_option maxRecDepth 100000 in
theorem k_X3_setRow (l : Launch) (g : WG) (ad : AW) (ω : WS) (x1 : Int32) (x2 : Int32) (h_hok : HOK (W_hist ω)) : Wr l yX3_setRow cX3_setRow 3 (some .int) 3 g (cW g ad ω) (cW g ad (mX3_setRow ω x1 x2).2) [.ref ad.1, .int x1, .int x2] (mX3_setRow ω x1 x2).1 := by
  refine wr_of (by decide) (Nat.le_of_ble_eq_true rfl) ?_
  intro p e s m args below meth c ls A hC hAe hP hD hK hE hA hS hl
  obtain ⟨hx, hb, hml, hr, hown, hts, hlk, hnm⟩ := id hC
  have hl : lv_has ls 3 [(0, .ref ad.1), (1, .int x1), (2, .int x2)] := hl
  refine lv_aload_n hx hb dX3_setRow_0 rfl (lv_at hl 0 rfl) ?_
  refine gt_X3_history hC rfl hK hP 0 rfl rfl dX3_setRow_1 ?_
  refine lv_aload_n hx hb dX3_setRow_4 rfl (lv_at hl 0 rfl) ?_
  refine gt_X3_yard hC rfl hK hP 0 rfl rfl dX3_setRow_5 ?_
  refine callWv34 hC (k_X0_prepare l g ad.2.2.2.1 ad.2.1 (W_hist ω) (W_yard ω) h_hok) ci_X0_prepare lk_X3_44 ⟨Nat.le_of_ble_eq_true rfl, Nat.le_of_ble_eq_true rfl⟩ hP hD hK hE hS hA (q0 := 5) rfl rfl rfl rfl hl.1 rfl (Nat.le_of_ble_eq_true rfl) dX3_setRow_8 ⟨Nat.zero_le _, Nat.zero_le _⟩ (fun H locs hP hD hS => ?_)
  refine lv_aload_n hx hb dX3_setRow_11 rfl (lv_at hl 0 rfl) ?_
  refine gt_X3_history hC rfl hK hP 0 rfl rfl dX3_setRow_12 ?_
  refine lv_aload_n hx hb dX3_setRow_15 rfl (lv_at hl 0 rfl) ?_
  refine gt_X3_yard hC rfl hK hP 0 rfl rfl dX3_setRow_16 ?_
  refine lv_iload_n hx hb dX3_setRow_19 rfl (lv_at hl 1 rfl) ?_
  refine lv_iload_n hx hb dX3_setRow_20 rfl (lv_at hl 2 rfl) ?_
  refine callWr3 hC (k_X2_changeRow l g ad.2.1 (W_yard ω) x1 x2) ci_X2_changeRow lk_X3_63 ⟨Nat.le_of_ble_eq_true rfl, Nat.le_of_ble_eq_true rfl⟩ hP hD hK hE hS hA (q0 := 0) rfl rfl rfl rfl hl.1 rfl (Nat.le_of_ble_eq_true rfl) dX3_setRow_21 ⟨Nat.zero_le _, Nat.zero_le _⟩ (fun H locs hP hD hS => ?_)
  refine callSettle hC lk_X3_52 ⟨Nat.le_of_ble_eq_true rfl, Nat.le_of_ble_eq_true rfl⟩ hP hD hK hE hS hA hl.1 (Nat.le_of_ble_eq_true rfl) dX3_setRow_24 ⟨Nat.zero_le _, Nat.zero_le _⟩ (fun H locs hP hD hS => ?_)
  have hm : mX3_setRow ω x1 x2 = ((mX0_settle (mX0_prepare (W_hist ω) (W_yard ω)) (mX2_changeRow (W_yard ω) x1 x2).1).1, ((mX2_changeRow (W_yard ω) x1 x2).2, (W_snap ω), (mX0_settle (mX0_prepare (W_hist ω) (W_yard ω)) (mX2_changeRow (W_yard ω) x1 x2).1).2, (W_plan ω), (W_has ω), (W_num ω), (W_err ω))) := by unfold mX3_setRow; rfl
  exact wr_ret hC hP (hAe ▸ hD) (hAe ▸ hS) dX3_setRow_27 (by rw [hm]) (by rw [hm])
def mX3_set (ω : WS) (x1 : Int32) (x2 : Int32) : Int32 × WS := ((mX0_settle (mX0_prepare (W_hist ω) (W_yard ω)) (mX2_changeSetting (W_yard ω) x1 x2).1).1, ((mX2_changeSetting (W_yard ω) x1 x2).2, (W_snap ω), (mX0_settle (mX0_prepare (W_hist ω) (W_yard ω)) (mX2_changeSetting (W_yard ω) x1 x2).1).2, (W_plan ω), (W_has ω), (W_num ω), (W_err ω)))
set_option maxHeartbeats 4000000 in
set_option maxRecDepth 100000 in
theorem k_X3_set (l : Launch) (g : WG) (ad : AW) (ω : WS) (x1 : Int32) (x2 : Int32) (h_hok : HOK (W_hist ω)) : Wr l yX3_set cX3_set 3 (some .int) 3 g (cW g ad ω) (cW g ad (mX3_set ω x1 x2).2) [.ref ad.1, .int x1, .int x2] (mX3_set ω x1 x2).1 := by
  refine wr_of (by decide) (Nat.le_of_ble_eq_true rfl) ?_
  intro p e s m args below meth c ls A hC hAe hP hD hK hE hA hS hl
  obtain ⟨hx, hb, hml, hr, hown, hts, hlk, hnm⟩ := id hC
  have hl : lv_has ls 3 [(0, .ref ad.1), (1, .int x1), (2, .int x2)] := hl
  refine lv_aload_n hx hb dX3_set_0 rfl (lv_at hl 0 rfl) ?_
  refine gt_X3_history hC rfl hK hP 0 rfl rfl dX3_set_1 ?_
  refine lv_aload_n hx hb dX3_set_4 rfl (lv_at hl 0 rfl) ?_
  refine gt_X3_yard hC rfl hK hP 0 rfl rfl dX3_set_5 ?_
  refine callWv34 hC (k_X0_prepare l g ad.2.2.2.1 ad.2.1 (W_hist ω) (W_yard ω) h_hok) ci_X0_prepare lk_X3_44 ⟨Nat.le_of_ble_eq_true rfl, Nat.le_of_ble_eq_true rfl⟩ hP hD hK hE hS hA (q0 := 5) rfl rfl rfl rfl hl.1 rfl (Nat.le_of_ble_eq_true rfl) dX3_set_8 ⟨Nat.zero_le _, Nat.zero_le _⟩ (fun H locs hP hD hS => ?_)
  refine lv_aload_n hx hb dX3_set_11 rfl (lv_at hl 0 rfl) ?_
  refine gt_X3_history hC rfl hK hP 0 rfl rfl dX3_set_12 ?_
  refine lv_aload_n hx hb dX3_set_15 rfl (lv_at hl 0 rfl) ?_
  refine gt_X3_yard hC rfl hK hP 0 rfl rfl dX3_set_16 ?_
  refine lv_iload_n hx hb dX3_set_19 rfl (lv_at hl 1 rfl) ?_
  refine lv_iload_n hx hb dX3_set_20 rfl (lv_at hl 2 rfl) ?_
  refine callWr3 hC (k_X2_changeSetting l g ad.2.1 (W_yard ω) x1 x2) ci_X2_changeSetting lk_X3_66 ⟨Nat.le_of_ble_eq_true rfl, Nat.le_of_ble_eq_true rfl⟩ hP hD hK hE hS hA (q0 := 0) rfl rfl rfl rfl hl.1 rfl (Nat.le_of_ble_eq_true rfl) dX3_set_21 ⟨Nat.zero_le _, Nat.zero_le _⟩ (fun H locs hP hD hS => ?_)
  refine callSettle hC lk_X3_52 ⟨Nat.le_of_ble_eq_true rfl, Nat.le_of_ble_eq_true rfl⟩ hP hD hK hE hS hA hl.1 (Nat.le_of_ble_eq_true rfl) dX3_set_24 ⟨Nat.zero_le _, Nat.zero_le _⟩ (fun H locs hP hD hS => ?_)
  have hm : mX3_set ω x1 x2 = ((mX0_settle (mX0_prepare (W_hist ω) (W_yard ω)) (mX2_changeSetting (W_yard ω) x1 x2).1).1, ((mX2_changeSetting (W_yard ω) x1 x2).2, (W_snap ω), (mX0_settle (mX0_prepare (W_hist ω) (W_yard ω)) (mX2_changeSetting (W_yard ω) x1 x2).1).2, (W_plan ω), (W_has ω), (W_num ω), (W_err ω))) := by unfold mX3_set; rfl
  exact wr_ret hC hP (hAe ▸ hD) (hAe ▸ hS) dX3_set_27 (by rw [hm]) (by rw [hm])
def mX3_lift (ω : WS) (x1 : Int32) (x2 : Int32) : Int32 × WS := ((mX0_settle (mX0_prepare (W_hist ω) (W_yard ω)) (mX2_liftInto (W_yard ω) x1 x2).1).1, ((mX2_liftInto (W_yard ω) x1 x2).2, (W_snap ω), (mX0_settle (mX0_prepare (W_hist ω) (W_yard ω)) (mX2_liftInto (W_yard ω) x1 x2).1).2, (W_plan ω), (W_has ω), (W_num ω), (W_err ω)))
set_option maxHeartbeats 4000000 in
set_option maxRecDepth 100000 in
theorem k_X3_lift (l : Launch) (g : WG) (ad : AW) (ω : WS) (x1 : Int32) (x2 : Int32) (h_hok : HOK (W_hist ω)) (h_keels : KeelOK (W_yard ω)) : Wr l yX3_lift cX3_lift 3 (some .int) 6 g (cW g ad ω) (cW g ad (mX3_lift ω x1 x2).2) [.ref ad.1, .int x1, .int x2] (mX3_lift ω x1 x2).1 := by
  refine wr_of (by decide) (Nat.le_of_ble_eq_true rfl) ?_
  intro p e s m args below meth c ls A hC hAe hP hD hK hE hA hS hl
  obtain ⟨hx, hb, hml, hr, hown, hts, hlk, hnm⟩ := id hC
  have hl : lv_has ls 3 [(0, .ref ad.1), (1, .int x1), (2, .int x2)] := hl
  refine lv_aload_n hx hb dX3_lift_0 rfl (lv_at hl 0 rfl) ?_
  refine gt_X3_history hC rfl hK hP 0 rfl rfl dX3_lift_1 ?_
  refine lv_aload_n hx hb dX3_lift_4 rfl (lv_at hl 0 rfl) ?_
  refine gt_X3_yard hC rfl hK hP 0 rfl rfl dX3_lift_5 ?_
  refine callWv34 hC (k_X0_prepare l g ad.2.2.2.1 ad.2.1 (W_hist ω) (W_yard ω) h_hok) ci_X0_prepare lk_X3_44 ⟨Nat.le_of_ble_eq_true rfl, Nat.le_of_ble_eq_true rfl⟩ hP hD hK hE hS hA (q0 := 5) rfl rfl rfl rfl hl.1 rfl (Nat.le_of_ble_eq_true rfl) dX3_lift_8 ⟨Nat.zero_le _, Nat.zero_le _⟩ (fun H locs hP hD hS => ?_)
  refine lv_aload_n hx hb dX3_lift_11 rfl (lv_at hl 0 rfl) ?_
  refine gt_X3_history hC rfl hK hP 0 rfl rfl dX3_lift_12 ?_
  refine lv_aload_n hx hb dX3_lift_15 rfl (lv_at hl 0 rfl) ?_
  refine gt_X3_yard hC rfl hK hP 0 rfl rfl dX3_lift_16 ?_
  refine lv_iload_n hx hb dX3_lift_19 rfl (lv_at hl 1 rfl) ?_
  refine lv_iload_n hx hb dX3_lift_20 rfl (lv_at hl 2 rfl) ?_
  refine callWr3 hC (k_X2_liftInto l g ad.2.1 (W_yard ω) x1 x2 h_keels) ci_X2_liftInto lk_X3_69 ⟨Nat.le_of_ble_eq_true rfl, Nat.le_of_ble_eq_true rfl⟩ hP hD hK hE hS hA (q0 := 0) rfl rfl rfl rfl hl.1 rfl (Nat.le_of_ble_eq_true rfl) dX3_lift_21 ⟨Nat.zero_le _, Nat.zero_le _⟩ (fun H locs hP hD hS => ?_)
  refine callSettle hC lk_X3_52 ⟨Nat.le_of_ble_eq_true rfl, Nat.le_of_ble_eq_true rfl⟩ hP hD hK hE hS hA hl.1 (Nat.le_of_ble_eq_true rfl) dX3_lift_24 ⟨Nat.zero_le _, Nat.zero_le _⟩ (fun H locs hP hD hS => ?_)
  have hm : mX3_lift ω x1 x2 = ((mX0_settle (mX0_prepare (W_hist ω) (W_yard ω)) (mX2_liftInto (W_yard ω) x1 x2).1).1, ((mX2_liftInto (W_yard ω) x1 x2).2, (W_snap ω), (mX0_settle (mX0_prepare (W_hist ω) (W_yard ω)) (mX2_liftInto (W_yard ω) x1 x2).1).2, (W_plan ω), (W_has ω), (W_num ω), (W_err ω))) := by unfold mX3_lift; rfl
  exact wr_ret hC hP (hAe ▸ hD) (hAe ▸ hS) dX3_lift_27 (by rw [hm]) (by rw [hm])
def mX3_launch (ω : WS) (x1 : Int32) : Int32 × WS := ((mX0_settle (mX0_prepare (W_hist ω) (W_yard ω)) (mX2_putAfloat (W_yard ω) x1).1).1, ((mX2_putAfloat (W_yard ω) x1).2, (W_snap ω), (mX0_settle (mX0_prepare (W_hist ω) (W_yard ω)) (mX2_putAfloat (W_yard ω) x1).1).2, (W_plan ω), (W_has ω), (W_num ω), (W_err ω)))
set_option maxHeartbeats 4000000 in
set_option maxRecDepth 100000 in
theorem k_X3_launch (l : Launch) (g : WG) (ad : AW) (ω : WS) (x1 : Int32) (h_hok : HOK (W_hist ω)) : Wr l yX3_launch cX3_launch 2 (some .int) 6 g (cW g ad ω) (cW g ad (mX3_launch ω x1).2) [.ref ad.1, .int x1] (mX3_launch ω x1).1 := by
  refine wr_of (by decide) (Nat.le_of_ble_eq_true rfl) ?_
  intro p e s m args below meth c ls A hC hAe hP hD hK hE hA hS hl
  obtain ⟨hx, hb, hml, hr, hown, hts, hlk, hnm⟩ := id hC
  have hl : lv_has ls 2 [(0, .ref ad.1), (1, .int x1)] := hl
  refine lv_aload_n hx hb dX3_launch_0 rfl (lv_at hl 0 rfl) ?_
  refine gt_X3_history hC rfl hK hP 0 rfl rfl dX3_launch_1 ?_
  refine lv_aload_n hx hb dX3_launch_4 rfl (lv_at hl 0 rfl) ?_
  refine gt_X3_yard hC rfl hK hP 0 rfl rfl dX3_launch_5 ?_
  refine callWv34 hC (k_X0_prepare l g ad.2.2.2.1 ad.2.1 (W_hist ω) (W_yard ω) h_hok) ci_X0_prepare lk_X3_44 ⟨Nat.le_of_ble_eq_true rfl, Nat.le_of_ble_eq_true rfl⟩ hP hD hK hE hS hA (q0 := 5) rfl rfl rfl rfl hl.1 rfl (Nat.le_of_ble_eq_true rfl) dX3_launch_8 ⟨Nat.zero_le _, Nat.zero_le _⟩ (fun H locs hP hD hS => ?_)
  refine lv_aload_n hx hb dX3_launch_11 rfl (lv_at hl 0 rfl) ?_
  refine gt_X3_history hC rfl hK hP 0 rfl rfl dX3_launch_12 ?_
  refine lv_aload_n hx hb dX3_launch_15 rfl (lv_at hl 0 rfl) ?_
  refine gt_X3_yard hC rfl hK hP 0 rfl rfl dX3_launch_16 ?_
  refine lv_iload_n hx hb dX3_launch_19 rfl (lv_at hl 1 rfl) ?_
  refine callWr3 hC (k_X2_putAfloat l g ad.2.1 (W_yard ω) x1) ci_X2_putAfloat lk_X3_72 ⟨Nat.le_of_ble_eq_true rfl, Nat.le_of_ble_eq_true rfl⟩ hP hD hK hE hS hA (q0 := 0) rfl rfl rfl rfl hl.1 rfl (Nat.le_of_ble_eq_true rfl) dX3_launch_20 ⟨Nat.zero_le _, Nat.zero_le _⟩ (fun H locs hP hD hS => ?_)
  refine callSettle hC lk_X3_52 ⟨Nat.le_of_ble_eq_true rfl, Nat.le_of_ble_eq_true rfl⟩ hP hD hK hE hS hA hl.1 (Nat.le_of_ble_eq_true rfl) dX3_launch_23 ⟨Nat.zero_le _, Nat.zero_le _⟩ (fun H locs hP hD hS => ?_)
  have hm : mX3_launch ω x1 = ((mX0_settle (mX0_prepare (W_hist ω) (W_yard ω)) (mX2_putAfloat (W_yard ω) x1).1).1, ((mX2_putAfloat (W_yard ω) x1).2, (W_snap ω), (mX0_settle (mX0_prepare (W_hist ω) (W_yard ω)) (mX2_putAfloat (W_yard ω) x1).1).2, (W_plan ω), (W_has ω), (W_num ω), (W_err ω))) := by unfold mX3_launch; rfl
  exact wr_ret hC hP (hAe ▸ hD) (hAe ▸ hS) dX3_launch_26 (by rw [hm]) (by rw [hm])
def mX3_move (ω : WS) (x1 : Int32) (x2 : Int32) : Int32 × WS := ((mX0_settle (mX0_prepare (W_hist ω) (W_yard ω)) (mX2_moveTo (W_yard ω) x1 x2).1).1, ((mX2_moveTo (W_yard ω) x1 x2).2, (W_snap ω), (mX0_settle (mX0_prepare (W_hist ω) (W_yard ω)) (mX2_moveTo (W_yard ω) x1 x2).1).2, (W_plan ω), (W_has ω), (W_num ω), (W_err ω)))
set_option maxHeartbeats 4000000 in
set_option maxRecDepth 100000 in
theorem k_X3_move (l : Launch) (g : WG) (ad : AW) (ω : WS) (x1 : Int32) (x2 : Int32) (h_hok : HOK (W_hist ω)) : Wr l yX3_move cX3_move 3 (some .int) 5 g (cW g ad ω) (cW g ad (mX3_move ω x1 x2).2) [.ref ad.1, .int x1, .int x2] (mX3_move ω x1 x2).1 := by
  refine wr_of (by decide) (Nat.le_of_ble_eq_true rfl) ?_
  intro p e s m args below meth c ls A hC hAe hP hD hK hE hA hS hl
  obtain ⟨hx, hb, hml, hr, hown, hts, hlk, hnm⟩ := id hC
  have hl : lv_has ls 3 [(0, .ref ad.1), (1, .int x1), (2, .int x2)] := hl
  refine lv_aload_n hx hb dX3_move_0 rfl (lv_at hl 0 rfl) ?_
  refine gt_X3_history hC rfl hK hP 0 rfl rfl dX3_move_1 ?_
  refine lv_aload_n hx hb dX3_move_4 rfl (lv_at hl 0 rfl) ?_
  refine gt_X3_yard hC rfl hK hP 0 rfl rfl dX3_move_5 ?_
  refine callWv34 hC (k_X0_prepare l g ad.2.2.2.1 ad.2.1 (W_hist ω) (W_yard ω) h_hok) ci_X0_prepare lk_X3_44 ⟨Nat.le_of_ble_eq_true rfl, Nat.le_of_ble_eq_true rfl⟩ hP hD hK hE hS hA (q0 := 5) rfl rfl rfl rfl hl.1 rfl (Nat.le_of_ble_eq_true rfl) dX3_move_8 ⟨Nat.zero_le _, Nat.zero_le _⟩ (fun H locs hP hD hS => ?_)
  refine lv_aload_n hx hb dX3_move_11 rfl (lv_at hl 0 rfl) ?_
  refine gt_X3_history hC rfl hK hP 0 rfl rfl dX3_move_12 ?_
  refine lv_aload_n hx hb dX3_move_15 rfl (lv_at hl 0 rfl) ?_
  refine gt_X3_yard hC rfl hK hP 0 rfl rfl dX3_move_16 ?_
  refine lv_iload_n hx hb dX3_move_19 rfl (lv_at hl 1 rfl) ?_
  refine lv_iload_n hx hb dX3_move_20 rfl (lv_at hl 2 rfl) ?_
  refine callWr3 hC (k_X2_moveTo l g ad.2.1 (W_yard ω) x1 x2) ci_X2_moveTo lk_X3_75 ⟨Nat.le_of_ble_eq_true rfl, Nat.le_of_ble_eq_true rfl⟩ hP hD hK hE hS hA (q0 := 0) rfl rfl rfl rfl hl.1 rfl (Nat.le_of_ble_eq_true rfl) dX3_move_21 ⟨Nat.zero_le _, Nat.zero_le _⟩ (fun H locs hP hD hS => ?_)
  refine callSettle hC lk_X3_52 ⟨Nat.le_of_ble_eq_true rfl, Nat.le_of_ble_eq_true rfl⟩ hP hD hK hE hS hA hl.1 (Nat.le_of_ble_eq_true rfl) dX3_move_24 ⟨Nat.zero_le _, Nat.zero_le _⟩ (fun H locs hP hD hS => ?_)
  have hm : mX3_move ω x1 x2 = ((mX0_settle (mX0_prepare (W_hist ω) (W_yard ω)) (mX2_moveTo (W_yard ω) x1 x2).1).1, ((mX2_moveTo (W_yard ω) x1 x2).2, (W_snap ω), (mX0_settle (mX0_prepare (W_hist ω) (W_yard ω)) (mX2_moveTo (W_yard ω) x1 x2).1).2, (W_plan ω), (W_has ω), (W_num ω), (W_err ω))) := by unfold mX3_move; rfl
  exact wr_ret hC hP (hAe ▸ hD) (hAe ▸ hS) dX3_move_27 (by rw [hm]) (by rw [hm])
def mX3_mast (ω : WS) (x1 : Int32) (x2 : Int32) : Int32 × WS := (if x2 = 0 then ((mX0_settle (mX0_prepare (W_hist ω) (W_yard ω)) (mX2_takeMastOff (W_yard ω) x1).1).1, ((mX2_takeMastOff (W_yard ω) x1).2, (W_snap ω), (mX0_settle (mX0_prepare (W_hist ω) (W_yard ω)) (mX2_takeMastOff (W_yard ω) x1).1).2, (W_plan ω), (W_has ω), (W_num ω), (W_err ω))) else ((mX0_settle (mX0_prepare (W_hist ω) (W_yard ω)) (mX2_putMastUp (W_yard ω) x1).1).1, ((mX2_putMastUp (W_yard ω) x1).2, (W_snap ω), (mX0_settle (mX0_prepare (W_hist ω) (W_yard ω)) (mX2_putMastUp (W_yard ω) x1).1).2, (W_plan ω), (W_has ω), (W_num ω), (W_err ω))))
set_option maxHeartbeats 4000000 in
set_option maxRecDepth 100000 in
theorem k_X3_mast (l : Launch) (g : WG) (ad : AW) (ω : WS) (x1 : Int32) (x2 : Int32) (h_hok : HOK (W_hist ω)) : Wr l yX3_mast cX3_mast 3 (some .int) 5 g (cW g ad ω) (cW g ad (mX3_mast ω x1 x2).2) [.ref ad.1, .int x1, .int x2] (mX3_mast ω x1 x2).1 := by
  refine wr_of (by decide) (Nat.le_of_ble_eq_true rfl) ?_
  intro p e s m args below meth c ls A hC hAe hP hD hK hE hA hS hl
  obtain ⟨hx, hb, hml, hr, hown, hts, hlk, hnm⟩ := id hC
  have hl : lv_has ls 3 [(0, .ref ad.1), (1, .int x1), (2, .int x2)] := hl
  refine lv_aload_n hx hb dX3_mast_0 rfl (lv_at hl 0 rfl) ?_
  refine gt_X3_history hC rfl hK hP 0 rfl rfl dX3_mast_1 ?_
  refine lv_aload_n hx hb dX3_mast_4 rfl (lv_at hl 0 rfl) ?_
  refine gt_X3_yard hC rfl hK hP 0 rfl rfl dX3_mast_5 ?_
  refine callWv34 hC (k_X0_prepare l g ad.2.2.2.1 ad.2.1 (W_hist ω) (W_yard ω) h_hok) ci_X0_prepare lk_X3_44 ⟨Nat.le_of_ble_eq_true rfl, Nat.le_of_ble_eq_true rfl⟩ hP hD hK hE hS hA (q0 := 5) rfl rfl rfl rfl hl.1 rfl (Nat.le_of_ble_eq_true rfl) dX3_mast_8 ⟨Nat.zero_le _, Nat.zero_le _⟩ (fun H locs hP hD hS => ?_)
  refine lv_aload_n hx hb dX3_mast_11 rfl (lv_at hl 0 rfl) ?_
  refine gt_X3_history hC rfl hK hP 0 rfl rfl dX3_mast_12 ?_
  refine lv_iload_n hx hb dX3_mast_15 rfl (lv_at hl 2 rfl) ?_
  refine lv_if_eq (tgt := 30) hx hb dX3_mast_16 (by decide) (fun c_1 => ?_) (fun c_1 => ?_)
  · refine lv_aload_n hx hb dX3_mast_30 rfl (lv_at hl 0 rfl) ?_
    refine gt_X3_yard hC rfl hK hP 0 rfl rfl dX3_mast_31 ?_
    refine lv_iload_n hx hb dX3_mast_34 rfl (lv_at hl 1 rfl) ?_
    refine callWr3 hC (k_X2_takeMastOff l g ad.2.1 (W_yard ω) x1) ci_X2_takeMastOff lk_X3_81 ⟨Nat.le_of_ble_eq_true rfl, Nat.le_of_ble_eq_true rfl⟩ hP hD hK hE hS hA (q0 := 0) rfl rfl rfl rfl hl.1 rfl (Nat.le_of_ble_eq_true rfl) dX3_mast_35 ⟨Nat.zero_le _, Nat.zero_le _⟩ (fun H locs hP hD hS => ?_)
    refine callSettle hC lk_X3_52 ⟨Nat.le_of_ble_eq_true rfl, Nat.le_of_ble_eq_true rfl⟩ hP hD hK hE hS hA hl.1 (Nat.le_of_ble_eq_true rfl) dX3_mast_38 ⟨Nat.zero_le _, Nat.zero_le _⟩ (fun H locs hP hD hS => ?_)
    have hm : mX3_mast ω x1 x2 = ((mX0_settle (mX0_prepare (W_hist ω) (W_yard ω)) (mX2_takeMastOff (W_yard ω) x1).1).1, ((mX2_takeMastOff (W_yard ω) x1).2, (W_snap ω), (mX0_settle (mX0_prepare (W_hist ω) (W_yard ω)) (mX2_takeMastOff (W_yard ω) x1).1).2, (W_plan ω), (W_has ω), (W_num ω), (W_err ω))) := by unfold mX3_mast; rw [if_pos c_1]
    exact wr_ret hC hP (hAe ▸ hD) (hAe ▸ hS) dX3_mast_41 (by rw [hm]) (by rw [hm])
  · refine lv_aload_n hx hb dX3_mast_19 rfl (lv_at hl 0 rfl) ?_
    refine gt_X3_yard hC rfl hK hP 0 rfl rfl dX3_mast_20 ?_
    refine lv_iload_n hx hb dX3_mast_23 rfl (lv_at hl 1 rfl) ?_
    refine callWr3 hC (k_X2_putMastUp l g ad.2.1 (W_yard ω) x1) ci_X2_putMastUp lk_X3_78 ⟨Nat.le_of_ble_eq_true rfl, Nat.le_of_ble_eq_true rfl⟩ hP hD hK hE hS hA (q0 := 0) rfl rfl rfl rfl hl.1 rfl (Nat.le_of_ble_eq_true rfl) dX3_mast_24 ⟨Nat.zero_le _, Nat.zero_le _⟩ (fun H locs hP hD hS => ?_)
    refine lv_goto (tgt := 38) hx hb dX3_mast_27 (by decide) ?_
    refine callSettle hC lk_X3_52 ⟨Nat.le_of_ble_eq_true rfl, Nat.le_of_ble_eq_true rfl⟩ hP hD hK hE hS hA hl.1 (Nat.le_of_ble_eq_true rfl) dX3_mast_38 ⟨Nat.zero_le _, Nat.zero_le _⟩ (fun H locs hP hD hS => ?_)
    have hm : mX3_mast ω x1 x2 = ((mX0_settle (mX0_prepare (W_hist ω) (W_yard ω)) (mX2_putMastUp (W_yard ω) x1).1).1, ((mX2_putMastUp (W_yard ω) x1).2, (W_snap ω), (mX0_settle (mX0_prepare (W_hist ω) (W_yard ω)) (mX2_putMastUp (W_yard ω) x1).1).2, (W_plan ω), (W_has ω), (W_num ω), (W_err ω))) := by unfold mX3_mast; rw [if_neg c_1]
    exact wr_ret hC hP (hAe ▸ hD) (hAe ▸ hS) dX3_mast_41 (by rw [hm]) (by rw [hm])
def mX3_work (ω : WS) (x1 : Int32) (x2 : Int32) : Int32 × WS := ((mX0_settle (mX0_prepare (W_hist ω) (W_yard ω)) (mX2_orderWork (W_yard ω) x1 x2).1).1, ((mX2_orderWork (W_yard ω) x1 x2).2, (W_snap ω), (mX0_settle (mX0_prepare (W_hist ω) (W_yard ω)) (mX2_orderWork (W_yard ω) x1 x2).1).2, (W_plan ω), (W_has ω), (W_num ω), (W_err ω)))
set_option maxHeartbeats 4000000 in
set_option maxRecDepth 100000 in
theorem k_X3_work (l : Launch) (g : WG) (ad : AW) (ω : WS) (x1 : Int32) (x2 : Int32) (h_hok : HOK (W_hist ω)) : Wr l yX3_work cX3_work 3 (some .int) 5 g (cW g ad ω) (cW g ad (mX3_work ω x1 x2).2) [.ref ad.1, .int x1, .int x2] (mX3_work ω x1 x2).1 := by
  refine wr_of (by decide) (Nat.le_of_ble_eq_true rfl) ?_
  intro p e s m args below meth c ls A hC hAe hP hD hK hE hA hS hl
  obtain ⟨hx, hb, hml, hr, hown, hts, hlk, hnm⟩ := id hC
  have hl : lv_has ls 3 [(0, .ref ad.1), (1, .int x1), (2, .int x2)] := hl
  refine lv_aload_n hx hb dX3_work_0 rfl (lv_at hl 0 rfl) ?_
  refine gt_X3_history hC rfl hK hP 0 rfl rfl dX3_work_1 ?_
  refine lv_aload_n hx hb dX3_work_4 rfl (lv_at hl 0 rfl) ?_
  refine gt_X3_yard hC rfl hK hP 0 rfl rfl dX3_work_5 ?_
  refine callWv34 hC (k_X0_prepare l g ad.2.2.2.1 ad.2.1 (W_hist ω) (W_yard ω) h_hok) ci_X0_prepare lk_X3_44 ⟨Nat.le_of_ble_eq_true rfl, Nat.le_of_ble_eq_true rfl⟩ hP hD hK hE hS hA (q0 := 5) rfl rfl rfl rfl hl.1 rfl (Nat.le_of_ble_eq_true rfl) dX3_work_8 ⟨Nat.zero_le _, Nat.zero_le _⟩ (fun H locs hP hD hS => ?_)
  refine lv_aload_n hx hb dX3_work_11 rfl (lv_at hl 0 rfl) ?_
  refine gt_X3_history hC rfl hK hP 0 rfl rfl dX3_work_12 ?_
  refine lv_aload_n hx hb dX3_work_15 rfl (lv_at hl 0 rfl) ?_
  refine gt_X3_yard hC rfl hK hP 0 rfl rfl dX3_work_16 ?_
  refine lv_iload_n hx hb dX3_work_19 rfl (lv_at hl 1 rfl) ?_
  refine lv_iload_n hx hb dX3_work_20 rfl (lv_at hl 2 rfl) ?_
  refine callWr3 hC (k_X2_orderWork l g ad.2.1 (W_yard ω) x1 x2) ci_X2_orderWork lk_X3_84 ⟨Nat.le_of_ble_eq_true rfl, Nat.le_of_ble_eq_true rfl⟩ hP hD hK hE hS hA (q0 := 0) rfl rfl rfl rfl hl.1 rfl (Nat.le_of_ble_eq_true rfl) dX3_work_21 ⟨Nat.zero_le _, Nat.zero_le _⟩ (fun H locs hP hD hS => ?_)
  refine callSettle hC lk_X3_52 ⟨Nat.le_of_ble_eq_true rfl, Nat.le_of_ble_eq_true rfl⟩ hP hD hK hE hS hA hl.1 (Nat.le_of_ble_eq_true rfl) dX3_work_24 ⟨Nat.zero_le _, Nat.zero_le _⟩ (fun H locs hP hD hS => ?_)
  have hm : mX3_work ω x1 x2 = ((mX0_settle (mX0_prepare (W_hist ω) (W_yard ω)) (mX2_orderWork (W_yard ω) x1 x2).1).1, ((mX2_orderWork (W_yard ω) x1 x2).2, (W_snap ω), (mX0_settle (mX0_prepare (W_hist ω) (W_yard ω)) (mX2_orderWork (W_yard ω) x1 x2).1).2, (W_plan ω), (W_has ω), (W_num ω), (W_err ω))) := by unfold mX3_work; rfl
  exact wr_ret hC hP (hAe ▸ hD) (hAe ▸ hS) dX3_work_27 (by rw [hm]) (by rw [hm])
def mX3_pass (ω : WS) (x1 : Int32) : Int32 × WS := ((mX0_settle (mX0_prepare (W_hist ω) (W_yard ω)) (mX2_letPass (W_yard ω) x1).1).1, ((mX2_letPass (W_yard ω) x1).2, (W_snap ω), (mX0_settle (mX0_prepare (W_hist ω) (W_yard ω)) (mX2_letPass (W_yard ω) x1).1).2, (W_plan ω), (W_has ω), (W_num ω), (W_err ω)))
set_option maxHeartbeats 4000000 in
set_option maxRecDepth 100000 in
theorem k_X3_pass (l : Launch) (g : WG) (ad : AW) (ω : WS) (x1 : Int32) (h_hok : HOK (W_hist ω)) : Wr l yX3_pass cX3_pass 2 (some .int) 5 g (cW g ad ω) (cW g ad (mX3_pass ω x1).2) [.ref ad.1, .int x1] (mX3_pass ω x1).1 := by
  refine wr_of (by decide) (Nat.le_of_ble_eq_true rfl) ?_
  intro p e s m args below meth c ls A hC hAe hP hD hK hE hA hS hl
  obtain ⟨hx, hb, hml, hr, hown, hts, hlk, hnm⟩ := id hC
  have hl : lv_has ls 2 [(0, .ref ad.1), (1, .int x1)] := hl
  refine lv_aload_n hx hb dX3_pass_0 rfl (lv_at hl 0 rfl) ?_
  refine gt_X3_history hC rfl hK hP 0 rfl rfl dX3_pass_1 ?_
  refine lv_aload_n hx hb dX3_pass_4 rfl (lv_at hl 0 rfl) ?_
  refine gt_X3_yard hC rfl hK hP 0 rfl rfl dX3_pass_5 ?_
  refine callWv34 hC (k_X0_prepare l g ad.2.2.2.1 ad.2.1 (W_hist ω) (W_yard ω) h_hok) ci_X0_prepare lk_X3_44 ⟨Nat.le_of_ble_eq_true rfl, Nat.le_of_ble_eq_true rfl⟩ hP hD hK hE hS hA (q0 := 5) rfl rfl rfl rfl hl.1 rfl (Nat.le_of_ble_eq_true rfl) dX3_pass_8 ⟨Nat.zero_le _, Nat.zero_le _⟩ (fun H locs hP hD hS => ?_)
  refine lv_aload_n hx hb dX3_pass_11 rfl (lv_at hl 0 rfl) ?_
  refine gt_X3_history hC rfl hK hP 0 rfl rfl dX3_pass_12 ?_
  refine lv_aload_n hx hb dX3_pass_15 rfl (lv_at hl 0 rfl) ?_
  refine gt_X3_yard hC rfl hK hP 0 rfl rfl dX3_pass_16 ?_
  refine lv_iload_n hx hb dX3_pass_19 rfl (lv_at hl 1 rfl) ?_
  refine callWr3 hC (k_X2_letPass l g ad.2.1 (W_yard ω) x1) ci_X2_letPass lk_X3_87 ⟨Nat.le_of_ble_eq_true rfl, Nat.le_of_ble_eq_true rfl⟩ hP hD hK hE hS hA (q0 := 0) rfl rfl rfl rfl hl.1 rfl (Nat.le_of_ble_eq_true rfl) dX3_pass_20 ⟨Nat.zero_le _, Nat.zero_le _⟩ (fun H locs hP hD hS => ?_)
  refine callSettle hC lk_X3_52 ⟨Nat.le_of_ble_eq_true rfl, Nat.le_of_ble_eq_true rfl⟩ hP hD hK hE hS hA hl.1 (Nat.le_of_ble_eq_true rfl) dX3_pass_23 ⟨Nat.zero_le _, Nat.zero_le _⟩ (fun H locs hP hD hS => ?_)
  have hm : mX3_pass ω x1 = ((mX0_settle (mX0_prepare (W_hist ω) (W_yard ω)) (mX2_letPass (W_yard ω) x1).1).1, ((mX2_letPass (W_yard ω) x1).2, (W_snap ω), (mX0_settle (mX0_prepare (W_hist ω) (W_yard ω)) (mX2_letPass (W_yard ω) x1).1).2, (W_plan ω), (W_has ω), (W_num ω), (W_err ω))) := by unfold mX3_pass; rfl
  exact wr_ret hC hP (hAe ▸ hD) (hAe ▸ hS) dX3_pass_26 (by rw [hm]) (by rw [hm])
def mX3_stopped (ω : WS) (x1 : Int32) : Int32 := (if x1 = 0 then (W_num ω) else (if x1 = 1 then (W_err ω) else (-2)))
set_option maxHeartbeats 4000000 in
set_option maxRecDepth 100000 in
theorem k_X3_stopped (l : Launch) (g : WG) (ad : AW) (ω : WS) (x1 : Int32) : Rd l yX3_stopped cX3_stopped 2 (some .int) 0 (Wl g (cW g ad ω) (fun _ => False)) [.ref ad.1, .int x1] (mX3_stopped ω x1) := by
  refine rd_of (by decide) (Nat.le_of_ble_eq_true rfl) ?_
  intro p e s m args below meth c ls hC hW hl
  obtain ⟨hP, hK, hE⟩ := hW
  obtain ⟨hx, hb, hml, hr, hown, hts, hlk, hnm⟩ := id hC
  have hl : lv_has ls 2 [(0, .ref ad.1), (1, .int x1)] := hl
  refine lv_iload_n hx hb dX3_stopped_0 rfl (lv_at hl 1 rfl) ?_
  refine lv_if_ne (tgt := 9) hx hb dX3_stopped_1 (by decide) (fun c_1 => ?_) (fun c_1 => ?_)
  · refine lv_iload_n hx hb dX3_stopped_9 rfl (lv_at hl 1 rfl) ?_
    refine lv_iconst (v := 1) hx hb dX3_stopped_10 (by decide) ?_
    refine lv_icmp_ne (tgt := 19) hx hb dX3_stopped_11 (by decide) (fun c_2 => ?_) (fun c_2 => ?_)
    · refine lv_bipush (v := (-2)) hx hb dX3_stopped_19 (by decide) ?_
      exact rd_ret hC dX3_stopped_21 (Eq.symm (by unfold mX3_stopped; rw [if_neg c_1, if_neg c_2]))
    · refine lv_aload_n hx hb dX3_stopped_14 rfl (lv_at hl 0 rfl) ?_
      refine gt_X3_stopError hC rfl hK hP 0 rfl rfl dX3_stopped_15 ?_
      exact rd_ret hC dX3_stopped_18 (Eq.symm (by unfold mX3_stopped; rw [if_neg c_1, if_pos c_2]))
  · refine lv_aload_n hx hb dX3_stopped_4 rfl (lv_at hl 0 rfl) ?_
    refine gt_X3_stopNumber hC rfl hK hP 0 rfl rfl dX3_stopped_5 ?_
    exact rd_ret hC dX3_stopped_8 (Eq.symm (by unfold mX3_stopped; rw [if_pos c_1]))
def mX3_undo (ω : WS) : Int32 × WS := ((mX0_stepBack (W_hist ω) (W_yard ω)).1, ((mX0_stepBack (W_hist ω) (W_yard ω)).2.1, (W_snap ω), (mX0_stepBack (W_hist ω) (W_yard ω)).2.2, (W_plan ω), (W_has ω), (W_num ω), (W_err ω)))
set_option maxHeartbeats 4000000 in
set_option maxRecDepth 100000 in
theorem k_X3_undo (l : Launch) (g : WG) (ad : AW) (ω : WS) (h_hok : HOK (W_hist ω)) : Wr l yX3_undo cX3_undo 1 (some .int) 4 g (cW g ad ω) (cW g ad (mX3_undo ω).2) [.ref ad.1] (mX3_undo ω).1 := by
  refine wr_of (by decide) (Nat.le_of_ble_eq_true rfl) ?_
  intro p e s m args below meth c ls A hC hAe hP hD hK hE hA hS hl
  obtain ⟨hx, hb, hml, hr, hown, hts, hlk, hnm⟩ := id hC
  have hl : lv_has ls 1 [(0, .ref ad.1)] := hl
  refine lv_aload_n hx hb dX3_undo_0 rfl (lv_at hl 0 rfl) ?_
  refine gt_X3_history hC rfl hK hP 0 rfl rfl dX3_undo_1 ?_
  refine lv_aload_n hx hb dX3_undo_4 rfl (lv_at hl 0 rfl) ?_
  refine gt_X3_yard hC rfl hK hP 0 rfl rfl dX3_undo_5 ?_
  refine callWr34 hC (k_X0_stepBack l g ad.2.2.2.1 ad.2.1 (W_hist ω) (W_yard ω) h_hok) ci_X0_stepBack lk_X3_121 ⟨Nat.le_of_ble_eq_true rfl, Nat.le_of_ble_eq_true rfl⟩ hP hD hK hE hS hA (q0 := 5) rfl rfl rfl rfl hl.1 rfl (Nat.le_of_ble_eq_true rfl) dX3_undo_8 ⟨Nat.zero_le _, Nat.zero_le _⟩ (fun H locs hP hD hS => ?_)
  have hm : mX3_undo ω = ((mX0_stepBack (W_hist ω) (W_yard ω)).1, ((mX0_stepBack (W_hist ω) (W_yard ω)).2.1, (W_snap ω), (mX0_stepBack (W_hist ω) (W_yard ω)).2.2, (W_plan ω), (W_has ω), (W_num ω), (W_err ω))) := by unfold mX3_undo; rfl
  exact wr_ret hC hP (hAe ▸ hD) (hAe ▸ hS) dX3_undo_11 (by rw [hm]) (by rw [hm])
def mX3_restore (ω : WS) : Int32 × WS := (if (W_has ω) = 0 then ((-5), ω) else ((mX0_settle (mX0_prepare (W_hist ω) (W_yard ω)) (mX2_boats (W_snap ω))).1, ((W_snap ω), (W_snap ω), (mX0_settle (mX0_prepare (W_hist ω) (W_yard ω)) (mX2_boats (W_snap ω))).2, (W_plan ω), (W_has ω), (W_num ω), (W_err ω))))
set_option maxHeartbeats 4000000 in
set_option maxRecDepth 100000 in
theorem k_X3_restore (l : Launch) (g : WG) (ad : AW) (ω : WS) (h_hok : HOK (W_hist ω)) : Wr l yX3_restore cX3_restore 1 (some .int) 3 g (cW g ad ω) (cW g ad (mX3_restore ω).2) [.ref ad.1] (mX3_restore ω).1 := by
  refine wr_of (by decide) (Nat.le_of_ble_eq_true rfl) ?_
  intro p e s m args below meth c ls A hC hAe hP hD hK hE hA hS hl
  obtain ⟨hx, hb, hml, hr, hown, hts, hlk, hnm⟩ := id hC
  have hl : lv_has ls 1 [(0, .ref ad.1)] := hl
  refine lv_aload_n hx hb dX3_restore_0 rfl (lv_at hl 0 rfl) ?_
  refine gt_X3_hasSnapshot hC rfl hK hP 0 rfl rfl dX3_restore_1 ?_
  refine lv_if_ne (tgt := 10) hx hb dX3_restore_4 (by decide) (fun c_1 => ?_) (fun c_1 => ?_)
  · refine lv_aload_n hx hb dX3_restore_10 rfl (lv_at hl 0 rfl) ?_
    refine gt_X3_history hC rfl hK hP 0 rfl rfl dX3_restore_11 ?_
    refine lv_aload_n hx hb dX3_restore_14 rfl (lv_at hl 0 rfl) ?_
    refine gt_X3_yard hC rfl hK hP 0 rfl rfl dX3_restore_15 ?_
    refine callWv34 hC (k_X0_prepare l g ad.2.2.2.1 ad.2.1 (W_hist ω) (W_yard ω) h_hok) ci_X0_prepare lk_X3_44 ⟨Nat.le_of_ble_eq_true rfl, Nat.le_of_ble_eq_true rfl⟩ hP hD hK hE hS hA (q0 := 5) rfl rfl rfl rfl hl.1 rfl (Nat.le_of_ble_eq_true rfl) dX3_restore_18 ⟨Nat.zero_le _, Nat.zero_le _⟩ (fun H locs hP hD hS => ?_)
    refine lv_aload_n hx hb dX3_restore_21 rfl (lv_at hl 0 rfl) ?_
    refine gt_X3_yard hC rfl hK hP 0 rfl rfl dX3_restore_22 ?_
    refine lv_aload_n hx hb dX3_restore_25 rfl (lv_at hl 0 rfl) ?_
    refine gt_X3_snapshot hC rfl hK hP 0 rfl rfl dX3_restore_26 ?_
    refine callWv23 hC (k_X2_copyFrom' l g ad.2.1 ad.2.2.1 (W_yard ω) (W_snap ω)) ci_X2_copyFrom lk_X3_125 ⟨Nat.le_of_ble_eq_true rfl, Nat.le_of_ble_eq_true rfl⟩ hP hD hK hE hS hA (q0 := 5) rfl rfl rfl rfl hl.1 rfl (Nat.le_of_ble_eq_true rfl) dX3_restore_29 ⟨Nat.zero_le _, Nat.zero_le _⟩ (fun H locs hP hD hS => ?_)
    refine lv_aload_n hx hb dX3_restore_32 rfl (lv_at hl 0 rfl) ?_
    refine gt_X3_history hC rfl hK hP 0 rfl rfl dX3_restore_33 ?_
    refine lv_aload_n hx hb dX3_restore_36 rfl (lv_at hl 0 rfl) ?_
    refine gt_X3_yard hC rfl hK hP 0 rfl rfl dX3_restore_37 ?_
    refine callRd hC (k_X2_boats l g ad.2.1 (W_snap ω)) ci_X2_boats lk_X3_128 ⟨Nat.le_of_ble_eq_true rfl, Nat.le_of_ble_eq_true rfl⟩ (P5_3 hP) hK (hE.S hS).none (q0 := 0) rfl rfl rfl rfl hl.1 rfl (Nat.le_of_ble_eq_true rfl) dX3_restore_40 ⟨Nat.zero_le _, Nat.zero_le _⟩ ?_
    refine callSettle hC lk_X3_52 ⟨Nat.le_of_ble_eq_true rfl, Nat.le_of_ble_eq_true rfl⟩ hP hD hK hE hS hA hl.1 (Nat.le_of_ble_eq_true rfl) dX3_restore_43 ⟨Nat.zero_le _, Nat.zero_le _⟩ (fun H locs hP hD hS => ?_)
    have hm : mX3_restore ω = ((mX0_settle (mX0_prepare (W_hist ω) (W_yard ω)) (mX2_boats (W_snap ω))).1, ((W_snap ω), (W_snap ω), (mX0_settle (mX0_prepare (W_hist ω) (W_yard ω)) (mX2_boats (W_snap ω))).2, (W_plan ω), (W_has ω), (W_num ω), (W_err ω))) := by unfold mX3_restore; rw [if_neg c_1]
    exact wr_ret hC hP (hAe ▸ hD) (hAe ▸ hS) dX3_restore_46 (by rw [hm]) (by rw [hm])
  · refine lv_bipush (v := (-5)) hx hb dX3_restore_7 (by decide) ?_
    have hm : mX3_restore ω = ((-5), ω) := by unfold mX3_restore; rw [if_pos c_1]
    exact wr_ret hC hP (hAe ▸ hD) (hAe ▸ hS) dX3_restore_9 (by rw [hm]) (by rw [hm])
def mX3_boat (ω : WS) (x1 : Int32) (x2 : Int32) : Int32 := (if (mX2_knows (W_yard ω) x1) = 0 then (-1) else (if (mX2_isFact x2) = 0 then (-2) else (mX2_fact (W_yard ω) x1 x2)))
set_option maxHeartbeats 4000000 in
set_option maxRecDepth 100000 in
theorem k_X3_boat (l : Launch) (g : WG) (ad : AW) (ω : WS) (x1 : Int32) (x2 : Int32) : Rd l yX3_boat cX3_boat 3 (some .int) 4 (Wl g (cW g ad ω) (fun _ => False)) [.ref ad.1, .int x1, .int x2] (mX3_boat ω x1 x2) := by
  refine rd_of (by decide) (Nat.le_of_ble_eq_true rfl) ?_
  intro p e s m args below meth c ls hC hW hl
  obtain ⟨hP, hK, hE⟩ := hW
  obtain ⟨hx, hb, hml, hr, hown, hts, hlk, hnm⟩ := id hC
  have hl : lv_has ls 3 [(0, .ref ad.1), (1, .int x1), (2, .int x2)] := hl
  refine lv_aload_n hx hb dX3_boat_0 rfl (lv_at hl 0 rfl) ?_
  refine gt_X3_yard hC rfl hK hP 0 rfl rfl dX3_boat_1 ?_
  refine lv_iload_n hx hb dX3_boat_4 rfl (lv_at hl 1 rfl) ?_
  refine callRd hC (k_X2_knows l g ad.2.1 (W_yard ω) x1) ci_X2_knows lk_X3_131 ⟨Nat.le_of_ble_eq_true rfl, Nat.le_of_ble_eq_true rfl⟩ (P5_3 hP) hK hE (q0 := 0) rfl rfl rfl rfl hl.1 rfl (Nat.le_of_ble_eq_true rfl) dX3_boat_5 ⟨Nat.zero_le _, Nat.zero_le _⟩ ?_
  refine lv_if_ne (tgt := 13) hx hb dX3_boat_8 (by decide) (fun c_1 => ?_) (fun c_1 => ?_)
  · refine lv_iload_n hx hb dX3_boat_13 rfl (lv_at hl 2 rfl) ?_
    refine callRs hC (k_X2_isFact l g x2) ci_X2_isFact lk_X3_135 ⟨Nat.le_of_ble_eq_true rfl, Nat.le_of_ble_eq_true rfl⟩ hK hE rfl hl.1 rfl (Nat.le_of_ble_eq_true rfl) dX3_boat_14 ⟨Nat.zero_le _, Nat.zero_le _⟩ ?_
    refine lv_if_eq (tgt := 32) hx hb dX3_boat_17 (by decide) (fun c_2 => ?_) (fun c_2 => ?_)
    · refine lv_bipush (v := (-2)) hx hb dX3_boat_32 (by decide) ?_
      exact rd_ret hC dX3_boat_34 (Eq.symm (by unfold mX3_boat; rw [if_neg c_1, if_pos c_2]))
    · refine lv_aload_n hx hb dX3_boat_20 rfl (lv_at hl 0 rfl) ?_
      refine gt_X3_yard hC rfl hK hP 0 rfl rfl dX3_boat_21 ?_
      refine lv_iload_n hx hb dX3_boat_24 rfl (lv_at hl 1 rfl) ?_
      refine lv_iload_n hx hb dX3_boat_25 rfl (lv_at hl 2 rfl) ?_
      refine callRd hC (k_X2_fact l g ad.2.1 (W_yard ω) x1 x2 (in_X2_knows c_1) (in_X2_isFact c_2)) ci_X2_fact lk_X3_138 ⟨Nat.le_of_ble_eq_true rfl, Nat.le_of_ble_eq_true rfl⟩ (P5_3 hP) hK hE (q0 := 0) rfl rfl rfl rfl hl.1 rfl (Nat.le_of_ble_eq_true rfl) dX3_boat_26 ⟨Nat.zero_le _, Nat.zero_le _⟩ ?_
      refine lv_goto (tgt := 34) hx hb dX3_boat_29 (by decide) ?_
      exact rd_ret hC dX3_boat_34 (Eq.symm (by unfold mX3_boat; rw [if_neg c_1, if_neg c_2]))
  · refine lv_iconst (v := (-1)) hx hb dX3_boat_11 (by decide) ?_
    exact rd_ret hC dX3_boat_12 (Eq.symm (by unfold mX3_boat; rw [if_pos c_1]))
def mX3_row (ω : WS) (x1 : Int32) (x2 : Int32) : Int32 := (if (mX2_isRow x1) = 0 then (-1) else (if x2 = 0 then (mX2_metresOf (W_yard ω) x1) else (if x2 = 1 then (mX2_metresTaken (W_yard ω) x1) else (if x2 = 2 then (mX2_boatsIn (W_yard ω) x1) else (if x2 = 3 then (mX2_boatAt (W_yard ω) x1 ((mX2_boatsIn (W_yard ω) x1) - 1)) else (-2))))))
set_option maxHeartbeats 4000000 in
set_option maxRecDepth 100000 in
theorem k_X3_row (l : Launch) (g : WG) (ad : AW) (ω : WS) (x1 : Int32) (x2 : Int32) : Rd l yX3_row cX3_row 3 (some .int) 5 (Wl g (cW g ad ω) (fun _ => False)) [.ref ad.1, .int x1, .int x2] (mX3_row ω x1 x2) := by
  refine rd_of (by decide) (Nat.le_of_ble_eq_true rfl) ?_
  intro p e s m args below meth c ls hC hW hl
  obtain ⟨hP, hK, hE⟩ := hW
  obtain ⟨hx, hb, hml, hr, hown, hts, hlk, hnm⟩ := id hC
  have hl : lv_has ls 3 [(0, .ref ad.1), (1, .int x1), (2, .int x2)] := hl
  refine lv_iload_n hx hb dX3_row_0 rfl (lv_at hl 1 rfl) ?_
  refine callRs hC (k_X2_isRow l g x1) ci_X2_isRow lk_X3_141 ⟨Nat.le_of_ble_eq_true rfl, Nat.le_of_ble_eq_true rfl⟩ hK hE rfl hl.1 rfl (Nat.le_of_ble_eq_true rfl) dX3_row_1 ⟨Nat.zero_le _, Nat.zero_le _⟩ ?_
  refine lv_if_ne (tgt := 9) hx hb dX3_row_4 (by decide) (fun c_1 => ?_) (fun c_1 => ?_)
  · refine lv_iload_n hx hb dX3_row_9 rfl (lv_at hl 2 rfl) ?_
    by_cases c_2 : x2 = 0
    · refine lv_tableIn (tgt := 40) (off := 30) hx hb dX3_row_10 (by rw [c_2]; decide) (by rw [c_2]; decide) (by rw [c_2]; rfl) (by decide) ?_
      refine lv_aload_n hx hb dX3_row_40 rfl (lv_at hl 0 rfl) ?_
      refine gt_X3_yard hC rfl hK hP 0 rfl rfl dX3_row_41 ?_
      refine lv_iload_n hx hb dX3_row_44 rfl (lv_at hl 1 rfl) ?_
      refine callRd hC (k_X2_metresOf l g ad.2.1 (W_yard ω) x1 (in_X2_isRow c_1)) ci_X2_metresOf lk_X3_144 ⟨Nat.le_of_ble_eq_true rfl, Nat.le_of_ble_eq_true rfl⟩ (P5_3 hP) hK hE (q0 := 0) rfl rfl rfl rfl hl.1 rfl (Nat.le_of_ble_eq_true rfl) dX3_row_45 ⟨Nat.zero_le _, Nat.zero_le _⟩ ?_
      exact rd_ret hC dX3_row_48 (Eq.symm (by unfold mX3_row; rw [if_neg c_1, if_pos c_2]))
    · by_cases c_3 : x2 = 1
      · refine lv_tableIn (tgt := 49) (off := 39) hx hb dX3_row_10 (by rw [c_3]; decide) (by rw [c_3]; decide) (by rw [c_3]; rfl) (by decide) ?_
        refine lv_aload_n hx hb dX3_row_49 rfl (lv_at hl 0 rfl) ?_
        refine gt_X3_yard hC rfl hK hP 0 rfl rfl dX3_row_50 ?_
        refine lv_iload_n hx hb dX3_row_53 rfl (lv_at hl 1 rfl) ?_
        refine callRd hC (k_X2_metresTaken l g ad.2.1 (W_yard ω) x1) ci_X2_metresTaken lk_X3_147 ⟨Nat.le_of_ble_eq_true rfl, Nat.le_of_ble_eq_true rfl⟩ (P5_3 hP) hK hE (q0 := 0) rfl rfl rfl rfl hl.1 rfl (Nat.le_of_ble_eq_true rfl) dX3_row_54 ⟨Nat.zero_le _, Nat.zero_le _⟩ ?_
        exact rd_ret hC dX3_row_57 (Eq.symm (by unfold mX3_row; rw [if_neg c_1, if_neg c_2, if_pos c_3]))
      · by_cases c_4 : x2 = 2
        · refine lv_tableIn (tgt := 58) (off := 48) hx hb dX3_row_10 (by rw [c_4]; decide) (by rw [c_4]; decide) (by rw [c_4]; rfl) (by decide) ?_
          refine lv_aload_n hx hb dX3_row_58 rfl (lv_at hl 0 rfl) ?_
          refine gt_X3_yard hC rfl hK hP 0 rfl rfl dX3_row_59 ?_
          refine lv_iload_n hx hb dX3_row_62 rfl (lv_at hl 1 rfl) ?_
          refine callRd hC (k_X2_boatsIn l g ad.2.1 (W_yard ω) x1) ci_X2_boatsIn lk_X3_150 ⟨Nat.le_of_ble_eq_true rfl, Nat.le_of_ble_eq_true rfl⟩ (P5_3 hP) hK hE (q0 := 0) rfl rfl rfl rfl hl.1 rfl (Nat.le_of_ble_eq_true rfl) dX3_row_63 ⟨Nat.zero_le _, Nat.zero_le _⟩ ?_
          exact rd_ret hC dX3_row_66 (Eq.symm (by unfold mX3_row; rw [if_neg c_1, if_neg c_2, if_neg c_3, if_pos c_4]))
        · by_cases c_5 : x2 = 3
          · refine lv_tableIn (tgt := 67) (off := 57) hx hb dX3_row_10 (by rw [c_5]; decide) (by rw [c_5]; decide) (by rw [c_5]; rfl) (by decide) ?_
            refine lv_aload_n hx hb dX3_row_67 rfl (lv_at hl 0 rfl) ?_
            refine gt_X3_yard hC rfl hK hP 0 rfl rfl dX3_row_68 ?_
            refine lv_iload_n hx hb dX3_row_71 rfl (lv_at hl 1 rfl) ?_
            refine lv_aload_n hx hb dX3_row_72 rfl (lv_at hl 0 rfl) ?_
            refine gt_X3_yard hC rfl hK hP 0 rfl rfl dX3_row_73 ?_
            refine lv_iload_n hx hb dX3_row_76 rfl (lv_at hl 1 rfl) ?_
            refine callRd hC (k_X2_boatsIn l g ad.2.1 (W_yard ω) x1) ci_X2_boatsIn lk_X3_150 ⟨Nat.le_of_ble_eq_true rfl, Nat.le_of_ble_eq_true rfl⟩ (P5_3 hP) hK hE (q0 := 0) rfl rfl rfl rfl hl.1 rfl (Nat.le_of_ble_eq_true rfl) dX3_row_77 ⟨Nat.zero_le _, Nat.zero_le _⟩ ?_
            refine lv_iconst (v := 1) hx hb dX3_row_80 (by decide) ?_
            refine lv_isub hx hb dX3_row_81 ?_
            refine callRd hC (k_X2_boatAt l g ad.2.1 (W_yard ω) x1 ((mX2_boatsIn (W_yard ω) x1) - 1)) ci_X2_boatAt lk_X3_153 ⟨Nat.le_of_ble_eq_true rfl, Nat.le_of_ble_eq_true rfl⟩ (P5_3 hP) hK hE (q0 := 0) rfl rfl rfl rfl hl.1 rfl (Nat.le_of_ble_eq_true rfl) dX3_row_82 ⟨Nat.zero_le _, Nat.zero_le _⟩ ?_
            exact rd_ret hC dX3_row_85 (Eq.symm (by unfold mX3_row; rw [if_neg c_1, if_neg c_2, if_neg c_3, if_neg c_4, if_pos c_5]))
          · refine lv_tableOut (tgt := 86) hx hb dX3_row_10 (by have zc_2 := lv_neT c_2 (a := 0) rfl; have zc_3 := lv_neT c_3 (a := 1) rfl; have zc_4 := lv_neT c_4 (a := 2) rfl; have zc_5 := lv_neT c_5 (a := 3) rfl; omega) (by decide) ?_
            refine lv_bipush (v := (-2)) hx hb dX3_row_86 (by decide) ?_
            exact rd_ret hC dX3_row_88 (Eq.symm (by unfold mX3_row; rw [if_neg c_1, if_neg c_2, if_neg c_3, if_neg c_4, if_neg c_5]))
  · refine lv_iconst (v := (-1)) hx hb dX3_row_7 (by decide) ?_
    exact rd_ret hC dX3_row_8 (Eq.symm (by unfold mX3_row; rw [if_pos c_1]))
def mX3_stands (ω : WS) (x1 : Int32) (x2 : Int32) : Int32 := (if (mX2_isRow x1) = 0 then (-1) else (if 0 ≤ x2 then (mX2_boatAt (W_yard ω) x1 x2) else (-2)))
set_option maxHeartbeats 4000000 in
set_option maxRecDepth 100000 in
theorem k_X3_stands (l : Launch) (g : WG) (ad : AW) (ω : WS) (x1 : Int32) (x2 : Int32) : Rd l yX3_stands cX3_stands 3 (some .int) 5 (Wl g (cW g ad ω) (fun _ => False)) [.ref ad.1, .int x1, .int x2] (mX3_stands ω x1 x2) := by
  refine rd_of (by decide) (Nat.le_of_ble_eq_true rfl) ?_
  intro p e s m args below meth c ls hC hW hl
  obtain ⟨hP, hK, hE⟩ := hW
  obtain ⟨hx, hb, hml, hr, hown, hts, hlk, hnm⟩ := id hC
  have hl : lv_has ls 3 [(0, .ref ad.1), (1, .int x1), (2, .int x2)] := hl
  refine lv_iload_n hx hb dX3_stands_0 rfl (lv_at hl 1 rfl) ?_
  refine callRs hC (k_X2_isRow l g x1) ci_X2_isRow lk_X3_141 ⟨Nat.le_of_ble_eq_true rfl, Nat.le_of_ble_eq_true rfl⟩ hK hE rfl hl.1 rfl (Nat.le_of_ble_eq_true rfl) dX3_stands_1 ⟨Nat.zero_le _, Nat.zero_le _⟩ ?_
  refine lv_if_ne (tgt := 9) hx hb dX3_stands_4 (by decide) (fun c_1 => ?_) (fun c_1 => ?_)
  · refine lv_iload_n hx hb dX3_stands_9 rfl (lv_at hl 2 rfl) ?_
    refine lv_if_ge (tgt := 18) hx hb dX3_stands_10 (by decide) (fun c_2 => ?_) (fun c_2 => ?_)
    · refine lv_aload_n hx hb dX3_stands_18 rfl (lv_at hl 0 rfl) ?_
      refine gt_X3_yard hC rfl hK hP 0 rfl rfl dX3_stands_19 ?_
      refine lv_iload_n hx hb dX3_stands_22 rfl (lv_at hl 1 rfl) ?_
      refine lv_iload_n hx hb dX3_stands_23 rfl (lv_at hl 2 rfl) ?_
      refine callRd hC (k_X2_boatAt l g ad.2.1 (W_yard ω) x1 x2) ci_X2_boatAt lk_X3_153 ⟨Nat.le_of_ble_eq_true rfl, Nat.le_of_ble_eq_true rfl⟩ (P5_3 hP) hK hE (q0 := 0) rfl rfl rfl rfl hl.1 rfl (Nat.le_of_ble_eq_true rfl) dX3_stands_24 ⟨Nat.zero_le _, Nat.zero_le _⟩ ?_
      exact rd_ret hC dX3_stands_27 (Eq.symm (by unfold mX3_stands; rw [if_neg c_1, if_pos c_2]))
    · refine lv_bipush (v := (-2)) hx hb dX3_stands_13 (by decide) ?_
      refine lv_goto (tgt := 27) hx hb dX3_stands_15 (by decide) ?_
      exact rd_ret hC dX3_stands_27 (Eq.symm (by unfold mX3_stands; rw [if_neg c_1, if_neg c_2]))
  · refine lv_iconst (v := (-1)) hx hb dX3_stands_7 (by decide) ?_
    exact rd_ret hC dX3_stands_8 (Eq.symm (by unfold mX3_stands; rw [if_pos c_1]))
def mX3_cradle (ω : WS) (x1 : Int32) (x2 : Int32) : Int32 := (if (mX2_isKind x1) = 0 then (-1) else (if x2 = 0 then (mX2_cradlesOf (W_yard ω) x1) else (if x2 = 1 then (mX2_cradlesTaken (W_yard ω) x1) else (if x2 = 2 then (mX2_bears x1) else (-2)))))
set_option maxHeartbeats 4000000 in
set_option maxRecDepth 100000 in
theorem k_X3_cradle (l : Launch) (g : WG) (ad : AW) (ω : WS) (x1 : Int32) (x2 : Int32) : Rd l yX3_cradle cX3_cradle 3 (some .int) 3 (Wl g (cW g ad ω) (fun _ => False)) [.ref ad.1, .int x1, .int x2] (mX3_cradle ω x1 x2) := by
  refine rd_of (by decide) (Nat.le_of_ble_eq_true rfl) ?_
  intro p e s m args below meth c ls hC hW hl
  obtain ⟨hP, hK, hE⟩ := hW
  obtain ⟨hx, hb, hml, hr, hown, hts, hlk, hnm⟩ := id hC
  have hl : lv_has ls 3 [(0, .ref ad.1), (1, .int x1), (2, .int x2)] := hl
  refine lv_iload_n hx hb dX3_cradle_0 rfl (lv_at hl 1 rfl) ?_
  refine callRs hC (k_X2_isKind l g x1) ci_X2_isKind lk_X3_156 ⟨Nat.le_of_ble_eq_true rfl, Nat.le_of_ble_eq_true rfl⟩ hK hE rfl hl.1 rfl (Nat.le_of_ble_eq_true rfl) dX3_cradle_1 ⟨Nat.zero_le _, Nat.zero_le _⟩ ?_
  refine lv_if_ne (tgt := 9) hx hb dX3_cradle_4 (by decide) (fun c_1 => ?_) (fun c_1 => ?_)
  · refine lv_iload_n hx hb dX3_cradle_9 rfl (lv_at hl 2 rfl) ?_
    by_cases c_2 : x2 = 0
    · refine lv_tableIn (tgt := 36) (off := 26) hx hb dX3_cradle_10 (by rw [c_2]; decide) (by rw [c_2]; decide) (by rw [c_2]; rfl) (by decide) ?_
      refine lv_aload_n hx hb dX3_cradle_36 rfl (lv_at hl 0 rfl) ?_
      refine gt_X3_yard hC rfl hK hP 0 rfl rfl dX3_cradle_37 ?_
      refine lv_iload_n hx hb dX3_cradle_40 rfl (lv_at hl 1 rfl) ?_
      refine callRd hC (k_X2_cradlesOf l g ad.2.1 (W_yard ω) x1 (in_X2_isKind c_1)) ci_X2_cradlesOf lk_X3_159 ⟨Nat.le_of_ble_eq_true rfl, Nat.le_of_ble_eq_true rfl⟩ (P5_3 hP) hK hE (q0 := 0) rfl rfl rfl rfl hl.1 rfl (Nat.le_of_ble_eq_true rfl) dX3_cradle_41 ⟨Nat.zero_le _, Nat.zero_le _⟩ ?_
      exact rd_ret hC dX3_cradle_44 (Eq.symm (by unfold mX3_cradle; rw [if_neg c_1, if_pos c_2]))
    · by_cases c_3 : x2 = 1
      · refine lv_tableIn (tgt := 45) (off := 35) hx hb dX3_cradle_10 (by rw [c_3]; decide) (by rw [c_3]; decide) (by rw [c_3]; rfl) (by decide) ?_
        refine lv_aload_n hx hb dX3_cradle_45 rfl (lv_at hl 0 rfl) ?_
        refine gt_X3_yard hC rfl hK hP 0 rfl rfl dX3_cradle_46 ?_
        refine lv_iload_n hx hb dX3_cradle_49 rfl (lv_at hl 1 rfl) ?_
        refine callRd hC (k_X2_cradlesTaken l g ad.2.1 (W_yard ω) x1) ci_X2_cradlesTaken lk_X3_162 ⟨Nat.le_of_ble_eq_true rfl, Nat.le_of_ble_eq_true rfl⟩ (P5_3 hP) hK hE (q0 := 0) rfl rfl rfl rfl hl.1 rfl (Nat.le_of_ble_eq_true rfl) dX3_cradle_50 ⟨Nat.zero_le _, Nat.zero_le _⟩ ?_
        exact rd_ret hC dX3_cradle_53 (Eq.symm (by unfold mX3_cradle; rw [if_neg c_1, if_neg c_2, if_pos c_3]))
      · by_cases c_4 : x2 = 2
        · refine lv_tableIn (tgt := 54) (off := 44) hx hb dX3_cradle_10 (by rw [c_4]; decide) (by rw [c_4]; decide) (by rw [c_4]; rfl) (by decide) ?_
          refine lv_iload_n hx hb dX3_cradle_54 rfl (lv_at hl 1 rfl) ?_
          refine callRs hC (k_X2_bears l g x1 (in_X2_isKind c_1)) ci_X2_bears lk_X3_165 ⟨Nat.le_of_ble_eq_true rfl, Nat.le_of_ble_eq_true rfl⟩ hK hE rfl hl.1 rfl (Nat.le_of_ble_eq_true rfl) dX3_cradle_55 ⟨Nat.zero_le _, Nat.zero_le _⟩ ?_
          exact rd_ret hC dX3_cradle_58 (Eq.symm (by unfold mX3_cradle; rw [if_neg c_1, if_neg c_2, if_neg c_3, if_pos c_4]))
        · refine lv_tableOut (tgt := 59) hx hb dX3_cradle_10 (by have zc_2 := lv_neT c_2 (a := 0) rfl; have zc_3 := lv_neT c_3 (a := 1) rfl; have zc_4 := lv_neT c_4 (a := 2) rfl; omega) (by decide) ?_
          refine lv_bipush (v := (-2)) hx hb dX3_cradle_59 (by decide) ?_
          exact rd_ret hC dX3_cradle_61 (Eq.symm (by unfold mX3_cradle; rw [if_neg c_1, if_neg c_2, if_neg c_3, if_neg c_4]))
  · refine lv_iconst (v := (-1)) hx hb dX3_cradle_7 (by decide) ?_
    exact rd_ret hC dX3_cradle_8 (Eq.symm (by unfold mX3_cradle; rw [if_pos c_1]))
def mX3_tide (ω : WS) (x1 : Int32) : Int32 := (if (mX3_within x1 0 9999) = 0 then (-2) else (mX2_tideOn (W_yard ω) x1))
set_option maxHeartbeats 4000000 in
set_option maxRecDepth 100000 in
theorem k_X3_tide (l : Launch) (g : WG) (ad : AW) (ω : WS) (x1 : Int32) : Rd l yX3_tide cX3_tide 2 (some .int) 2 (Wl g (cW g ad ω) (fun _ => False)) [.ref ad.1, .int x1] (mX3_tide ω x1) := by
  refine rd_of (by decide) (Nat.le_of_ble_eq_true rfl) ?_
  intro p e s m args below meth c ls hC hW hl
  obtain ⟨hP, hK, hE⟩ := hW
  obtain ⟨hx, hb, hml, hr, hown, hts, hlk, hnm⟩ := id hC
  have hl : lv_has ls 2 [(0, .ref ad.1), (1, .int x1)] := hl
  refine lv_iload_n hx hb dX3_tide_0 rfl (lv_at hl 1 rfl) ?_
  refine lv_iconst (v := 0) hx hb dX3_tide_1 (by decide) ?_
  refine lv_sipush (v := 9999) hx hb dX3_tide_2 (by decide) ?_
  refine callRs hC (k_X3_within l g x1 0 9999) ci_X3_within lk_X3_168 ⟨Nat.le_of_ble_eq_true rfl, Nat.le_of_ble_eq_true rfl⟩ hK hE rfl hl.1 rfl (Nat.le_of_ble_eq_true rfl) dX3_tide_5 ⟨Nat.zero_le _, Nat.zero_le _⟩ ?_
  refine lv_if_eq (tgt := 22) hx hb dX3_tide_8 (by decide) (fun c_1 => ?_) (fun c_1 => ?_)
  · refine lv_bipush (v := (-2)) hx hb dX3_tide_22 (by decide) ?_
    exact rd_ret hC dX3_tide_24 (Eq.symm (by unfold mX3_tide; rw [if_pos c_1]))
  · refine lv_aload_n hx hb dX3_tide_11 rfl (lv_at hl 0 rfl) ?_
    refine gt_X3_yard hC rfl hK hP 0 rfl rfl dX3_tide_12 ?_
    refine lv_iload_n hx hb dX3_tide_15 rfl (lv_at hl 1 rfl) ?_
    refine callRd hC (k_X2_tideOn l g ad.2.1 (W_yard ω) x1) ci_X2_tideOn lk_X3_172 ⟨Nat.le_of_ble_eq_true rfl, Nat.le_of_ble_eq_true rfl⟩ (P5_3 hP) hK hE (q0 := 0) rfl rfl rfl rfl hl.1 rfl (Nat.le_of_ble_eq_true rfl) dX3_tide_16 ⟨Nat.zero_le _, Nat.zero_le _⟩ ?_
    refine lv_goto (tgt := 24) hx hb dX3_tide_19 (by decide) ?_
    exact rd_ret hC dX3_tide_24 (Eq.symm (by unfold mX3_tide; rw [if_neg c_1]))
def mX3_liftReason (ω : WS) (x1 : Int32) (x2 : Int32) : Int32 := (if (mX2_knows (W_yard ω) x1) = 0 then (-1) else (if (mX2_isRow x2) = 0 then (-1) else (mX2_whyNoLift (W_yard ω) x1 x2)))
set_option maxHeartbeats 4000000 in
set_option maxRecDepth 100000 in
theorem k_X3_liftReason (l : Launch) (g : WG) (ad : AW) (ω : WS) (x1 : Int32) (x2 : Int32) (h_keels : KeelOK (W_yard ω)) : Rd l yX3_liftReason cX3_liftReason 3 (some .int) 5 (Wl g (cW g ad ω) (fun _ => False)) [.ref ad.1, .int x1, .int x2] (mX3_liftReason ω x1 x2) := by
  refine rd_of (by decide) (Nat.le_of_ble_eq_true rfl) ?_
  intro p e s m args below meth c ls hC hW hl
  obtain ⟨hP, hK, hE⟩ := hW
  obtain ⟨hx, hb, hml, hr, hown, hts, hlk, hnm⟩ := id hC
  have hl : lv_has ls 3 [(0, .ref ad.1), (1, .int x1), (2, .int x2)] := hl
  refine lv_aload_n hx hb dX3_liftReason_0 rfl (lv_at hl 0 rfl) ?_
  refine gt_X3_yard hC rfl hK hP 0 rfl rfl dX3_liftReason_1 ?_
  refine lv_iload_n hx hb dX3_liftReason_4 rfl (lv_at hl 1 rfl) ?_
  refine callRd hC (k_X2_knows l g ad.2.1 (W_yard ω) x1) ci_X2_knows lk_X3_131 ⟨Nat.le_of_ble_eq_true rfl, Nat.le_of_ble_eq_true rfl⟩ (P5_3 hP) hK hE (q0 := 0) rfl rfl rfl rfl hl.1 rfl (Nat.le_of_ble_eq_true rfl) dX3_liftReason_5 ⟨Nat.zero_le _, Nat.zero_le _⟩ ?_
  refine lv_if_eq (tgt := 30) hx hb dX3_liftReason_8 (by decide) (fun c_1 => ?_) (fun c_1 => ?_)
  · refine lv_iconst (v := (-1)) hx hb dX3_liftReason_30 (by decide) ?_
    exact rd_ret hC dX3_liftReason_31 (Eq.symm (by unfold mX3_liftReason; rw [if_pos c_1]))
  · refine lv_iload_n hx hb dX3_liftReason_11 rfl (lv_at hl 2 rfl) ?_
    refine callRs hC (k_X2_isRow l g x2) ci_X2_isRow lk_X3_141 ⟨Nat.le_of_ble_eq_true rfl, Nat.le_of_ble_eq_true rfl⟩ hK hE rfl hl.1 rfl (Nat.le_of_ble_eq_true rfl) dX3_liftReason_12 ⟨Nat.zero_le _, Nat.zero_le _⟩ ?_
    refine lv_if_eq (tgt := 30) hx hb dX3_liftReason_15 (by decide) (fun c_2 => ?_) (fun c_2 => ?_)
    · refine lv_iconst (v := (-1)) hx hb dX3_liftReason_30 (by decide) ?_
      exact rd_ret hC dX3_liftReason_31 (Eq.symm (by unfold mX3_liftReason; rw [if_neg c_1, if_pos c_2]))
    · refine lv_aload_n hx hb dX3_liftReason_18 rfl (lv_at hl 0 rfl) ?_
      refine gt_X3_yard hC rfl hK hP 0 rfl rfl dX3_liftReason_19 ?_
      refine lv_iload_n hx hb dX3_liftReason_22 rfl (lv_at hl 1 rfl) ?_
      refine lv_iload_n hx hb dX3_liftReason_23 rfl (lv_at hl 2 rfl) ?_
      refine callRd hC (k_X2_whyNoLift l g ad.2.1 (W_yard ω) x1 x2 (in_X2_knows c_1) (in_X2_isRow c_2) (h_keels x1 c_1)) ci_X2_whyNoLift lk_X3_175 ⟨Nat.le_of_ble_eq_true rfl, Nat.le_of_ble_eq_true rfl⟩ (P5_3 hP) hK hE (q0 := 0) rfl rfl rfl rfl hl.1 rfl (Nat.le_of_ble_eq_true rfl) dX3_liftReason_24 ⟨Nat.zero_le _, Nat.zero_le _⟩ ?_
      refine lv_goto (tgt := 31) hx hb dX3_liftReason_27 (by decide) ?_
      exact rd_ret hC dX3_liftReason_31 (Eq.symm (by unfold mX3_liftReason; rw [if_neg c_1, if_neg c_2]))
def mX3_launchReason (ω : WS) (x1 : Int32) : Int32 := (if (mX2_knows (W_yard ω) x1) = 0 then (-1) else (mX2_whyNoLaunch (W_yard ω) x1))
set_option maxHeartbeats 4000000 in
set_option maxRecDepth 100000 in
theorem k_X3_launchReason (l : Launch) (g : WG) (ad : AW) (ω : WS) (x1 : Int32) : Rd l yX3_launchReason cX3_launchReason 2 (some .int) 5 (Wl g (cW g ad ω) (fun _ => False)) [.ref ad.1, .int x1] (mX3_launchReason ω x1) := by
  refine rd_of (by decide) (Nat.le_of_ble_eq_true rfl) ?_
  intro p e s m args below meth c ls hC hW hl
  obtain ⟨hP, hK, hE⟩ := hW
  obtain ⟨hx, hb, hml, hr, hown, hts, hlk, hnm⟩ := id hC
  have hl : lv_has ls 2 [(0, .ref ad.1), (1, .int x1)] := hl
  refine lv_aload_n hx hb dX3_launchReason_0 rfl (lv_at hl 0 rfl) ?_
  refine gt_X3_yard hC rfl hK hP 0 rfl rfl dX3_launchReason_1 ?_
  refine lv_iload_n hx hb dX3_launchReason_4 rfl (lv_at hl 1 rfl) ?_
  refine callRd hC (k_X2_knows l g ad.2.1 (W_yard ω) x1) ci_X2_knows lk_X3_131 ⟨Nat.le_of_ble_eq_true rfl, Nat.le_of_ble_eq_true rfl⟩ (P5_3 hP) hK hE (q0 := 0) rfl rfl rfl rfl hl.1 rfl (Nat.le_of_ble_eq_true rfl) dX3_launchReason_5 ⟨Nat.zero_le _, Nat.zero_le _⟩ ?_
  refine lv_if_eq (tgt := 22) hx hb dX3_launchReason_8 (by decide) (fun c_1 => ?_) (fun c_1 => ?_)
  · refine lv_iconst (v := (-1)) hx hb dX3_launchReason_22 (by decide) ?_
    exact rd_ret hC dX3_launchReason_23 (Eq.symm (by unfold mX3_launchReason; rw [if_pos c_1]))
  · refine lv_aload_n hx hb dX3_launchReason_11 rfl (lv_at hl 0 rfl) ?_
    refine gt_X3_yard hC rfl hK hP 0 rfl rfl dX3_launchReason_12 ?_
    refine lv_iload_n hx hb dX3_launchReason_15 rfl (lv_at hl 1 rfl) ?_
    refine callRd hC (k_X2_whyNoLaunch l g ad.2.1 (W_yard ω) x1 (in_X2_knows c_1)) ci_X2_whyNoLaunch lk_X3_178 ⟨Nat.le_of_ble_eq_true rfl, Nat.le_of_ble_eq_true rfl⟩ (P5_3 hP) hK hE (q0 := 0) rfl rfl rfl rfl hl.1 rfl (Nat.le_of_ble_eq_true rfl) dX3_launchReason_16 ⟨Nat.zero_le _, Nat.zero_le _⟩ ?_
    refine lv_goto (tgt := 23) hx hb dX3_launchReason_19 (by decide) ?_
    exact rd_ret hC dX3_launchReason_23 (Eq.symm (by unfold mX3_launchReason; rw [if_neg c_1]))
def mX3_blockers (ω : WS) (x1 : Int32) : Int32 := (if (mX2_knows (W_yard ω) x1) = 0 then (-1) else (if (mX2_isAshore (W_yard ω) x1) = 0 then (-5) else (mX2_boatsFartherOut (W_yard ω) x1)))
set_option maxHeartbeats 4000000 in
set_option maxRecDepth 100000 in
theorem k_X3_blockers (l : Launch) (g : WG) (ad : AW) (ω : WS) (x1 : Int32) : Rd l yX3_blockers cX3_blockers 2 (some .int) 4 (Wl g (cW g ad ω) (fun _ => False)) [.ref ad.1, .int x1] (mX3_blockers ω x1) := by
  refine rd_of (by decide) (Nat.le_of_ble_eq_true rfl) ?_
  intro p e s m args below meth c ls hC hW hl
  obtain ⟨hP, hK, hE⟩ := hW
  obtain ⟨hx, hb, hml, hr, hown, hts, hlk, hnm⟩ := id hC
  have hl : lv_has ls 2 [(0, .ref ad.1), (1, .int x1)] := hl
  refine lv_aload_n hx hb dX3_blockers_0 rfl (lv_at hl 0 rfl) ?_
  refine gt_X3_yard hC rfl hK hP 0 rfl rfl dX3_blockers_1 ?_
  refine lv_iload_n hx hb dX3_blockers_4 rfl (lv_at hl 1 rfl) ?_
  refine callRd hC (k_X2_knows l g ad.2.1 (W_yard ω) x1) ci_X2_knows lk_X3_131 ⟨Nat.le_of_ble_eq_true rfl, Nat.le_of_ble_eq_true rfl⟩ (P5_3 hP) hK hE (q0 := 0) rfl rfl rfl rfl hl.1 rfl (Nat.le_of_ble_eq_true rfl) dX3_blockers_5 ⟨Nat.zero_le _, Nat.zero_le _⟩ ?_
  refine lv_if_ne (tgt := 13) hx hb dX3_blockers_8 (by decide) (fun c_1 => ?_) (fun c_1 => ?_)
  · refine lv_aload_n hx hb dX3_blockers_13 rfl (lv_at hl 0 rfl) ?_
    refine gt_X3_yard hC rfl hK hP 0 rfl rfl dX3_blockers_14 ?_
    refine lv_iload_n hx hb dX3_blockers_17 rfl (lv_at hl 1 rfl) ?_
    refine callRd hC (k_X2_isAshore l g ad.2.1 (W_yard ω) x1 (in_X2_knows c_1)) ci_X2_isAshore lk_X3_181 ⟨Nat.le_of_ble_eq_true rfl, Nat.le_of_ble_eq_true rfl⟩ (P5_3 hP) hK hE (q0 := 0) rfl rfl rfl rfl hl.1 rfl (Nat.le_of_ble_eq_true rfl) dX3_blockers_18 ⟨Nat.zero_le _, Nat.zero_le _⟩ ?_
    refine lv_if_eq (tgt := 35) hx hb dX3_blockers_21 (by decide) (fun c_2 => ?_) (fun c_2 => ?_)
    · refine lv_bipush (v := (-5)) hx hb dX3_blockers_35 (by decide) ?_
      exact rd_ret hC dX3_blockers_37 (Eq.symm (by unfold mX3_blockers; rw [if_neg c_1, if_pos c_2]))
    · refine lv_aload_n hx hb dX3_blockers_24 rfl (lv_at hl 0 rfl) ?_
      refine gt_X3_yard hC rfl hK hP 0 rfl rfl dX3_blockers_25 ?_
      refine lv_iload_n hx hb dX3_blockers_28 rfl (lv_at hl 1 rfl) ?_
      refine callRd hC (k_X2_boatsFartherOut l g ad.2.1 (W_yard ω) x1 (in_X2_knows c_1)) ci_X2_boatsFartherOut lk_X3_184 ⟨Nat.le_of_ble_eq_true rfl, Nat.le_of_ble_eq_true rfl⟩ (P5_3 hP) hK hE (q0 := 0) rfl rfl rfl rfl hl.1 rfl (Nat.le_of_ble_eq_true rfl) dX3_blockers_29 ⟨Nat.zero_le _, Nat.zero_le _⟩ ?_
      refine lv_goto (tgt := 37) hx hb dX3_blockers_32 (by decide) ?_
      exact rd_ret hC dX3_blockers_37 (Eq.symm (by unfold mX3_blockers; rw [if_neg c_1, if_neg c_2]))
  · refine lv_iconst (v := (-1)) hx hb dX3_blockers_11 (by decide) ?_
    exact rd_ret hC dX3_blockers_12 (Eq.symm (by unfold mX3_blockers; rw [if_pos c_1]))
def WorkOK (σ : YS) : Prop := ∀ b : Int32, ¬ mX2_knows σ b = 0 → 0 ≤ (mX2_fact σ b 8).toInt
def mX3_launchDay (ω : WS) (x1 : Int32) : Int32 := (if (mX2_knows (W_yard ω) x1) = 0 then (-1) else (if (mX2_isAshore (W_yard ω) x1) = 0 then (-5) else (mX2_firstLaunchDay (W_yard ω) x1)))
set_option maxHeartbeats 4000000 in
set_option maxRecDepth 100000 in
theorem k_X3_launchDay (l : Launch) (g : WG) (ad : AW) (ω : WS) (x1 : Int32) (h_works : WorkOK (W_yard ω)) : Rd l yX3_launchDay cX3_launchDay 2 (some .int) 5 (Wl g (cW g ad ω) (fun _ => False)) [.ref ad.1, .int x1] (mX3_launchDay ω x1) := by
  refine rd_of (by decide) (Nat.le_of_ble_eq_true rfl) ?_
  intro p e s m args below meth c ls hC hW hl
  obtain ⟨hP, hK, hE⟩ := hW
  obtain ⟨hx, hb, hml, hr, hown, hts, hlk, hnm⟩ := id hC
  have hl : lv_has ls 2 [(0, .ref ad.1), (1, .int x1)] := hl
  refine lv_aload_n hx hb dX3_launchDay_0 rfl (lv_at hl 0 rfl) ?_
  refine gt_X3_yard hC rfl hK hP 0 rfl rfl dX3_launchDay_1 ?_
  refine lv_iload_n hx hb dX3_launchDay_4 rfl (lv_at hl 1 rfl) ?_
  refine callRd hC (k_X2_knows l g ad.2.1 (W_yard ω) x1) ci_X2_knows lk_X3_131 ⟨Nat.le_of_ble_eq_true rfl, Nat.le_of_ble_eq_true rfl⟩ (P5_3 hP) hK hE (q0 := 0) rfl rfl rfl rfl hl.1 rfl (Nat.le_of_ble_eq_true rfl) dX3_launchDay_5 ⟨Nat.zero_le _, Nat.zero_le _⟩ ?_
  refine lv_if_ne (tgt := 13) hx hb dX3_launchDay_8 (by decide) (fun c_1 => ?_) (fun c_1 => ?_)
  · refine lv_aload_n hx hb dX3_launchDay_13 rfl (lv_at hl 0 rfl) ?_
    refine gt_X3_yard hC rfl hK hP 0 rfl rfl dX3_launchDay_14 ?_
    refine lv_iload_n hx hb dX3_launchDay_17 rfl (lv_at hl 1 rfl) ?_
    refine callRd hC (k_X2_isAshore l g ad.2.1 (W_yard ω) x1 (in_X2_knows c_1)) ci_X2_isAshore lk_X3_181 ⟨Nat.le_of_ble_eq_true rfl, Nat.le_of_ble_eq_true rfl⟩ (P5_3 hP) hK hE (q0 := 0) rfl rfl rfl rfl hl.1 rfl (Nat.le_of_ble_eq_true rfl) dX3_launchDay_18 ⟨Nat.zero_le _, Nat.zero_le _⟩ ?_
    refine lv_if_eq (tgt := 35) hx hb dX3_launchDay_21 (by decide) (fun c_2 => ?_) (fun c_2 => ?_)
    · refine lv_bipush (v := (-5)) hx hb dX3_launchDay_35 (by decide) ?_
      exact rd_ret hC dX3_launchDay_37 (Eq.symm (by unfold mX3_launchDay; rw [if_neg c_1, if_pos c_2]))
    · refine lv_aload_n hx hb dX3_launchDay_24 rfl (lv_at hl 0 rfl) ?_
      refine gt_X3_yard hC rfl hK hP 0 rfl rfl dX3_launchDay_25 ?_
      refine lv_iload_n hx hb dX3_launchDay_28 rfl (lv_at hl 1 rfl) ?_
      refine callRd hC (k_X2_firstLaunchDay l g ad.2.1 (W_yard ω) x1 (in_X2_knows c_1) (h_works x1 c_1)) ci_X2_firstLaunchDay lk_X3_187 ⟨Nat.le_of_ble_eq_true rfl, Nat.le_of_ble_eq_true rfl⟩ (P5_3 hP) hK hE (q0 := 0) rfl rfl rfl rfl hl.1 rfl (Nat.le_of_ble_eq_true rfl) dX3_launchDay_29 ⟨Nat.zero_le _, Nat.zero_le _⟩ ?_
      refine lv_goto (tgt := 37) hx hb dX3_launchDay_32 (by decide) ?_
      exact rd_ret hC dX3_launchDay_37 (Eq.symm (by unfold mX3_launchDay; rw [if_neg c_1, if_neg c_2]))
  · refine lv_iconst (v := (-1)) hx hb dX3_launchDay_11 (by decide) ?_
    exact rd_ret hC dX3_launchDay_12 (Eq.symm (by unfold mX3_launchDay; rw [if_pos c_1]))
def mX3_bestRow (ω : WS) (x1 : Int32) : Int32 := (if (mX2_knows (W_yard ω) x1) = 0 then (-1) else (mX2_tightestRow (W_yard ω) x1))
set_option maxHeartbeats 4000000 in
set_option maxRecDepth 100000 in
theorem k_X3_bestRow (l : Launch) (g : WG) (ad : AW) (ω : WS) (x1 : Int32) : Rd l yX3_bestRow cX3_bestRow 2 (some .int) 5 (Wl g (cW g ad ω) (fun _ => False)) [.ref ad.1, .int x1] (mX3_bestRow ω x1) := by
  refine rd_of (by decide) (Nat.le_of_ble_eq_true rfl) ?_
  intro p e s m args below meth c ls hC hW hl
  obtain ⟨hP, hK, hE⟩ := hW
  obtain ⟨hx, hb, hml, hr, hown, hts, hlk, hnm⟩ := id hC
  have hl : lv_has ls 2 [(0, .ref ad.1), (1, .int x1)] := hl
  refine lv_aload_n hx hb dX3_bestRow_0 rfl (lv_at hl 0 rfl) ?_
  refine gt_X3_yard hC rfl hK hP 0 rfl rfl dX3_bestRow_1 ?_
  refine lv_iload_n hx hb dX3_bestRow_4 rfl (lv_at hl 1 rfl) ?_
  refine callRd hC (k_X2_knows l g ad.2.1 (W_yard ω) x1) ci_X2_knows lk_X3_131 ⟨Nat.le_of_ble_eq_true rfl, Nat.le_of_ble_eq_true rfl⟩ (P5_3 hP) hK hE (q0 := 0) rfl rfl rfl rfl hl.1 rfl (Nat.le_of_ble_eq_true rfl) dX3_bestRow_5 ⟨Nat.zero_le _, Nat.zero_le _⟩ ?_
  refine lv_if_eq (tgt := 22) hx hb dX3_bestRow_8 (by decide) (fun c_1 => ?_) (fun c_1 => ?_)
  · refine lv_iconst (v := (-1)) hx hb dX3_bestRow_22 (by decide) ?_
    exact rd_ret hC dX3_bestRow_23 (Eq.symm (by unfold mX3_bestRow; rw [if_pos c_1]))
  · refine lv_aload_n hx hb dX3_bestRow_11 rfl (lv_at hl 0 rfl) ?_
    refine gt_X3_yard hC rfl hK hP 0 rfl rfl dX3_bestRow_12 ?_
    refine lv_iload_n hx hb dX3_bestRow_15 rfl (lv_at hl 1 rfl) ?_
    refine callRd hC (k_X2_tightestRow l g ad.2.1 (W_yard ω) x1 (in_X2_knows c_1)) ci_X2_tightestRow lk_X3_190 ⟨Nat.le_of_ble_eq_true rfl, Nat.le_of_ble_eq_true rfl⟩ (P5_3 hP) hK hE (q0 := 0) rfl rfl rfl rfl hl.1 rfl (Nat.le_of_ble_eq_true rfl) dX3_bestRow_16 ⟨Nat.zero_le _, Nat.zero_le _⟩ ?_
    refine lv_goto (tgt := 23) hx hb dX3_bestRow_19 (by decide) ?_
    exact rd_ret hC dX3_bestRow_23 (Eq.symm (by unfold mX3_bestRow; rw [if_neg c_1]))
def mX3_count (ω : WS) (x1 : Int32) : Int32 := (if x1 = 0 then (mX2_today (W_yard ω)) else (if x1 = 1 then (mX2_tideOn (W_yard ω) (mX2_today (W_yard ω))) else (if x1 = 2 then (mX2_liftsLeft (W_yard ω)) else (if x1 = 3 then (mX2_boats (W_yard ω)) else (if x1 = 4 then (mX2_boatsAshore (W_yard ω)) else (if x1 = 5 then (mX2_boatsWithWork (W_yard ω)) else (if x1 = 6 then (mX2_liftsSoFar (W_yard ω)) else (if x1 = 7 then (mX2_launchesSoFar (W_yard ω)) else (if x1 = 8 then (mX2_mastsIn (W_yard ω) 0) else (if x1 = 9 then (mX2_mastsIn (W_yard ω) 1) else (if x1 = 10 then (mX2_setting (W_yard ω) 0) else (if x1 = 11 then (mX2_setting (W_yard ω) 1) else (if x1 = 12 then (mX2_setting (W_yard ω) 2) else (if x1 = 13 then (mX0_states (W_hist ω)) else (if x1 = 14 then (mX1_length (W_plan ω)) else (-2))))))))))))))))
set_option maxHeartbeats 4000000 in
set_option maxRecDepth 100000 in
theorem k_X3_count (l : Launch) (g : WG) (ad : AW) (ω : WS) (x1 : Int32) : Rd l yX3_count cX3_count 2 (some .int) 4 (Wl g (cW g ad ω) (fun _ => False)) [.ref ad.1, .int x1] (mX3_count ω x1) := by
  refine rd_of (by decide) (Nat.le_of_ble_eq_true rfl) ?_
  intro p e s m args below meth c ls hC hW hl
  obtain ⟨hP, hK, hE⟩ := hW
  obtain ⟨hx, hb, hml, hr, hown, hts, hlk, hnm⟩ := id hC
  have hl : lv_has ls 2 [(0, .ref ad.1), (1, .int x1)] := hl
  refine lv_iload_n hx hb dX3_count_0 rfl (lv_at hl 1 rfl) ?_
  by_cases c_1 : x1 = 0
  · refine lv_tableIn (tgt := 76) (off := 75) hx hb dX3_count_1 (by rw [c_1]; decide) (by rw [c_1]; decide) (by rw [c_1]; rfl) (by decide) ?_
    refine lv_aload_n hx hb dX3_count_76 rfl (lv_at hl 0 rfl) ?_
    refine gt_X3_yard hC rfl hK hP 0 rfl rfl dX3_count_77 ?_
    refine callRd hC (k_X2_today l g ad.2.1 (W_yard ω)) ci_X2_today lk_X3_193 ⟨Nat.le_of_ble_eq_true rfl, Nat.le_of_ble_eq_true rfl⟩ (P5_3 hP) hK hE (q0 := 0) rfl rfl rfl rfl hl.1 rfl (Nat.le_of_ble_eq_true rfl) dX3_count_80 ⟨Nat.zero_le _, Nat.zero_le _⟩ ?_
    exact rd_ret hC dX3_count_83 (Eq.symm (by unfold mX3_count; rw [if_pos c_1]))
  · by_cases c_2 : x1 = 1
    · refine lv_tableIn (tgt := 84) (off := 83) hx hb dX3_count_1 (by rw [c_2]; decide) (by rw [c_2]; decide) (by rw [c_2]; rfl) (by decide) ?_
      refine lv_aload_n hx hb dX3_count_84 rfl (lv_at hl 0 rfl) ?_
      refine gt_X3_yard hC rfl hK hP 0 rfl rfl dX3_count_85 ?_
      refine lv_aload_n hx hb dX3_count_88 rfl (lv_at hl 0 rfl) ?_
      refine gt_X3_yard hC rfl hK hP 0 rfl rfl dX3_count_89 ?_
      refine callRd hC (k_X2_today l g ad.2.1 (W_yard ω)) ci_X2_today lk_X3_193 ⟨Nat.le_of_ble_eq_true rfl, Nat.le_of_ble_eq_true rfl⟩ (P5_3 hP) hK hE (q0 := 0) rfl rfl rfl rfl hl.1 rfl (Nat.le_of_ble_eq_true rfl) dX3_count_92 ⟨Nat.zero_le _, Nat.zero_le _⟩ ?_
      refine callRd hC (k_X2_tideOn l g ad.2.1 (W_yard ω) (mX2_today (W_yard ω))) ci_X2_tideOn lk_X3_172 ⟨Nat.le_of_ble_eq_true rfl, Nat.le_of_ble_eq_true rfl⟩ (P5_3 hP) hK hE (q0 := 0) rfl rfl rfl rfl hl.1 rfl (Nat.le_of_ble_eq_true rfl) dX3_count_95 ⟨Nat.zero_le _, Nat.zero_le _⟩ ?_
      exact rd_ret hC dX3_count_98 (Eq.symm (by unfold mX3_count; rw [if_neg c_1, if_pos c_2]))
    · by_cases c_3 : x1 = 2
      · refine lv_tableIn (tgt := 99) (off := 98) hx hb dX3_count_1 (by rw [c_3]; decide) (by rw [c_3]; decide) (by rw [c_3]; rfl) (by decide) ?_
        refine lv_aload_n hx hb dX3_count_99 rfl (lv_at hl 0 rfl) ?_
        refine gt_X3_yard hC rfl hK hP 0 rfl rfl dX3_count_100 ?_
        refine callRd hC (k_X2_liftsLeft l g ad.2.1 (W_yard ω)) ci_X2_liftsLeft lk_X3_196 ⟨Nat.le_of_ble_eq_true rfl, Nat.le_of_ble_eq_true rfl⟩ (P5_3 hP) hK hE (q0 := 0) rfl rfl rfl rfl hl.1 rfl (Nat.le_of_ble_eq_true rfl) dX3_count_103 ⟨Nat.zero_le _, Nat.zero_le _⟩ ?_
        exact rd_ret hC dX3_count_106 (Eq.symm (by unfold mX3_count; rw [if_neg c_1, if_neg c_2, if_pos c_3]))
      · by_cases c_4 : x1 = 3
        · refine lv_tableIn (tgt := 107) (off := 106) hx hb dX3_count_1 (by rw [c_4]; decide) (by rw [c_4]; decide) (by rw [c_4]; rfl) (by decide) ?_
          refine lv_aload_n hx hb dX3_count_107 rfl (lv_at hl 0 rfl) ?_
          refine gt_X3_yard hC rfl hK hP 0 rfl rfl dX3_count_108 ?_
          refine callRd hC (k_X2_boats l g ad.2.1 (W_yard ω)) ci_X2_boats lk_X3_128 ⟨Nat.le_of_ble_eq_true rfl, Nat.le_of_ble_eq_true rfl⟩ (P5_3 hP) hK hE (q0 := 0) rfl rfl rfl rfl hl.1 rfl (Nat.le_of_ble_eq_true rfl) dX3_count_111 ⟨Nat.zero_le _, Nat.zero_le _⟩ ?_
          exact rd_ret hC dX3_count_114 (Eq.symm (by unfold mX3_count; rw [if_neg c_1, if_neg c_2, if_neg c_3, if_pos c_4]))
        · by_cases c_5 : x1 = 4
          · refine lv_tableIn (tgt := 115) (off := 114) hx hb dX3_count_1 (by rw [c_5]; decide) (by rw [c_5]; decide) (by rw [c_5]; rfl) (by decide) ?_
            refine lv_aload_n hx hb dX3_count_115 rfl (lv_at hl 0 rfl) ?_
            refine gt_X3_yard hC rfl hK hP 0 rfl rfl dX3_count_116 ?_
            refine callRd hC (k_X2_boatsAshore l g ad.2.1 (W_yard ω)) ci_X2_boatsAshore lk_X3_199 ⟨Nat.le_of_ble_eq_true rfl, Nat.le_of_ble_eq_true rfl⟩ (P5_3 hP) hK hE (q0 := 0) rfl rfl rfl rfl hl.1 rfl (Nat.le_of_ble_eq_true rfl) dX3_count_119 ⟨Nat.zero_le _, Nat.zero_le _⟩ ?_
            exact rd_ret hC dX3_count_122 (Eq.symm (by unfold mX3_count; rw [if_neg c_1, if_neg c_2, if_neg c_3, if_neg c_4, if_pos c_5]))
          · by_cases c_6 : x1 = 5
            · refine lv_tableIn (tgt := 123) (off := 122) hx hb dX3_count_1 (by rw [c_6]; decide) (by rw [c_6]; decide) (by rw [c_6]; rfl) (by decide) ?_
              refine lv_aload_n hx hb dX3_count_123 rfl (lv_at hl 0 rfl) ?_
              refine gt_X3_yard hC rfl hK hP 0 rfl rfl dX3_count_124 ?_
              refine callRd hC (k_X2_boatsWithWork l g ad.2.1 (W_yard ω)) ci_X2_boatsWithWork lk_X3_202 ⟨Nat.le_of_ble_eq_true rfl, Nat.le_of_ble_eq_true rfl⟩ (P5_3 hP) hK hE (q0 := 0) rfl rfl rfl rfl hl.1 rfl (Nat.le_of_ble_eq_true rfl) dX3_count_127 ⟨Nat.zero_le _, Nat.zero_le _⟩ ?_
              exact rd_ret hC dX3_count_130 (Eq.symm (by unfold mX3_count; rw [if_neg c_1, if_neg c_2, if_neg c_3, if_neg c_4, if_neg c_5, if_pos c_6]))
            · by_cases c_7 : x1 = 6
              · refine lv_tableIn (tgt := 131) (off := 130) hx hb dX3_count_1 (by rw [c_7]; decide) (by rw [c_7]; decide) (by rw [c_7]; rfl) (by decide) ?_
                refine lv_aload_n hx hb dX3_count_131 rfl (lv_at hl 0 rfl) ?_
                refine gt_X3_yard hC rfl hK hP 0 rfl rfl dX3_count_132 ?_
                refine callRd hC (k_X2_liftsSoFar l g ad.2.1 (W_yard ω)) ci_X2_liftsSoFar lk_X3_205 ⟨Nat.le_of_ble_eq_true rfl, Nat.le_of_ble_eq_true rfl⟩ (P5_3 hP) hK hE (q0 := 0) rfl rfl rfl rfl hl.1 rfl (Nat.le_of_ble_eq_true rfl) dX3_count_135 ⟨Nat.zero_le _, Nat.zero_le _⟩ ?_
                exact rd_ret hC dX3_count_138 (Eq.symm (by unfold mX3_count; rw [if_neg c_1, if_neg c_2, if_neg c_3, if_neg c_4, if_neg c_5, if_neg c_6, if_pos c_7]))
              · by_cases c_8 : x1 = 7
                · refine lv_tableIn (tgt := 139) (off := 138) hx hb dX3_count_1 (by rw [c_8]; decide) (by rw [c_8]; decide) (by rw [c_8]; rfl) (by decide) ?_
                  refine lv_aload_n hx hb dX3_count_139 rfl (lv_at hl 0 rfl) ?_
                  refine gt_X3_yard hC rfl hK hP 0 rfl rfl dX3_count_140 ?_
                  refine callRd hC (k_X2_launchesSoFar l g ad.2.1 (W_yard ω)) ci_X2_launchesSoFar lk_X3_208 ⟨Nat.le_of_ble_eq_true rfl, Nat.le_of_ble_eq_true rfl⟩ (P5_3 hP) hK hE (q0 := 0) rfl rfl rfl rfl hl.1 rfl (Nat.le_of_ble_eq_true rfl) dX3_count_143 ⟨Nat.zero_le _, Nat.zero_le _⟩ ?_
                  exact rd_ret hC dX3_count_146 (Eq.symm (by unfold mX3_count; rw [if_neg c_1, if_neg c_2, if_neg c_3, if_neg c_4, if_neg c_5, if_neg c_6, if_neg c_7, if_pos c_8]))
                · by_cases c_9 : x1 = 8
                  · refine lv_tableIn (tgt := 147) (off := 146) hx hb dX3_count_1 (by rw [c_9]; decide) (by rw [c_9]; decide) (by rw [c_9]; rfl) (by decide) ?_
                    refine lv_aload_n hx hb dX3_count_147 rfl (lv_at hl 0 rfl) ?_
                    refine gt_X3_yard hC rfl hK hP 0 rfl rfl dX3_count_148 ?_
                    refine lv_iconst (v := 0) hx hb dX3_count_151 (by decide) ?_
                    refine callRd hC (k_X2_mastsIn l g ad.2.1 (W_yard ω) 0) ci_X2_mastsIn lk_X3_211 ⟨Nat.le_of_ble_eq_true rfl, Nat.le_of_ble_eq_true rfl⟩ (P5_3 hP) hK hE (q0 := 0) rfl rfl rfl rfl hl.1 rfl (Nat.le_of_ble_eq_true rfl) dX3_count_152 ⟨Nat.zero_le _, Nat.zero_le _⟩ ?_
                    exact rd_ret hC dX3_count_155 (Eq.symm (by unfold mX3_count; rw [if_neg c_1, if_neg c_2, if_neg c_3, if_neg c_4, if_neg c_5, if_neg c_6, if_neg c_7, if_neg c_8, if_pos c_9]))
                  · by_cases c_10 : x1 = 9
                    · refine lv_tableIn (tgt := 156) (off := 155) hx hb dX3_count_1 (by rw [c_10]; decide) (by rw [c_10]; decide) (by rw [c_10]; rfl) (by decide) ?_
                      refine lv_aload_n hx hb dX3_count_156 rfl (lv_at hl 0 rfl) ?_
                      refine gt_X3_yard hC rfl hK hP 0 rfl rfl dX3_count_157 ?_
                      refine lv_iconst (v := 1) hx hb dX3_count_160 (by decide) ?_
                      refine callRd hC (k_X2_mastsIn l g ad.2.1 (W_yard ω) 1) ci_X2_mastsIn lk_X3_211 ⟨Nat.le_of_ble_eq_true rfl, Nat.le_of_ble_eq_true rfl⟩ (P5_3 hP) hK hE (q0 := 0) rfl rfl rfl rfl hl.1 rfl (Nat.le_of_ble_eq_true rfl) dX3_count_161 ⟨Nat.zero_le _, Nat.zero_le _⟩ ?_
                      exact rd_ret hC dX3_count_164 (Eq.symm (by unfold mX3_count; rw [if_neg c_1, if_neg c_2, if_neg c_3, if_neg c_4, if_neg c_5, if_neg c_6, if_neg c_7, if_neg c_8, if_neg c_9, if_pos c_10]))
                    · by_cases c_11 : x1 = 10
                      · refine lv_tableIn (tgt := 165) (off := 164) hx hb dX3_count_1 (by rw [c_11]; decide) (by rw [c_11]; decide) (by rw [c_11]; rfl) (by decide) ?_
                        refine lv_aload_n hx hb dX3_count_165 rfl (lv_at hl 0 rfl) ?_
                        refine gt_X3_yard hC rfl hK hP 0 rfl rfl dX3_count_166 ?_
                        refine lv_iconst (v := 0) hx hb dX3_count_169 (by decide) ?_
                        refine callRd hC (k_X2_setting l g ad.2.1 (W_yard ω) 0 (in_iff.mpr (by decide))) ci_X2_setting lk_X3_214 ⟨Nat.le_of_ble_eq_true rfl, Nat.le_of_ble_eq_true rfl⟩ (P5_3 hP) hK hE (q0 := 0) rfl rfl rfl rfl hl.1 rfl (Nat.le_of_ble_eq_true rfl) dX3_count_170 ⟨Nat.zero_le _, Nat.zero_le _⟩ ?_
                        exact rd_ret hC dX3_count_173 (Eq.symm (by unfold mX3_count; rw [if_neg c_1, if_neg c_2, if_neg c_3, if_neg c_4, if_neg c_5, if_neg c_6, if_neg c_7, if_neg c_8, if_neg c_9, if_neg c_10, if_pos c_11]))
                      · by_cases c_12 : x1 = 11
                        · refine lv_tableIn (tgt := 174) (off := 173) hx hb dX3_count_1 (by rw [c_12]; decide) (by rw [c_12]; decide) (by rw [c_12]; rfl) (by decide) ?_
                          refine lv_aload_n hx hb dX3_count_174 rfl (lv_at hl 0 rfl) ?_
                          refine gt_X3_yard hC rfl hK hP 0 rfl rfl dX3_count_175 ?_
                          refine lv_iconst (v := 1) hx hb dX3_count_178 (by decide) ?_
                          refine callRd hC (k_X2_setting l g ad.2.1 (W_yard ω) 1 (in_iff.mpr (by decide))) ci_X2_setting lk_X3_214 ⟨Nat.le_of_ble_eq_true rfl, Nat.le_of_ble_eq_true rfl⟩ (P5_3 hP) hK hE (q0 := 0) rfl rfl rfl rfl hl.1 rfl (Nat.le_of_ble_eq_true rfl) dX3_count_179 ⟨Nat.zero_le _, Nat.zero_le _⟩ ?_
                          exact rd_ret hC dX3_count_182 (Eq.symm (by unfold mX3_count; rw [if_neg c_1, if_neg c_2, if_neg c_3, if_neg c_4, if_neg c_5, if_neg c_6, if_neg c_7, if_neg c_8, if_neg c_9, if_neg c_10, if_neg c_11, if_pos c_12]))
                        · by_cases c_13 : x1 = 12
                          · refine lv_tableIn (tgt := 183) (off := 182) hx hb dX3_count_1 (by rw [c_13]; decide) (by rw [c_13]; decide) (by rw [c_13]; rfl) (by decide) ?_
                            refine lv_aload_n hx hb dX3_count_183 rfl (lv_at hl 0 rfl) ?_
                            refine gt_X3_yard hC rfl hK hP 0 rfl rfl dX3_count_184 ?_
                            refine lv_iconst (v := 2) hx hb dX3_count_187 (by decide) ?_
                            refine callRd hC (k_X2_setting l g ad.2.1 (W_yard ω) 2 (in_iff.mpr (by decide))) ci_X2_setting lk_X3_214 ⟨Nat.le_of_ble_eq_true rfl, Nat.le_of_ble_eq_true rfl⟩ (P5_3 hP) hK hE (q0 := 0) rfl rfl rfl rfl hl.1 rfl (Nat.le_of_ble_eq_true rfl) dX3_count_188 ⟨Nat.zero_le _, Nat.zero_le _⟩ ?_
                            exact rd_ret hC dX3_count_191 (Eq.symm (by unfold mX3_count; rw [if_neg c_1, if_neg c_2, if_neg c_3, if_neg c_4, if_neg c_5, if_neg c_6, if_neg c_7, if_neg c_8, if_neg c_9, if_neg c_10, if_neg c_11, if_neg c_12, if_pos c_13]))
                          · by_cases c_14 : x1 = 13
                            · refine lv_tableIn (tgt := 192) (off := 191) hx hb dX3_count_1 (by rw [c_14]; decide) (by rw [c_14]; decide) (by rw [c_14]; rfl) (by decide) ?_
                              refine lv_aload_n hx hb dX3_count_192 rfl (lv_at hl 0 rfl) ?_
                              refine gt_X3_history hC rfl hK hP 0 rfl rfl dX3_count_193 ?_
                              refine callRd hC (k_X0_states l g ad.2.2.2.1 (W_hist ω)) ci_X0_states lk_X3_217 ⟨Nat.le_of_ble_eq_true rfl, Nat.le_of_ble_eq_true rfl⟩ (P_left (P5_4 hP)) hK hE (q0 := 0) rfl rfl rfl rfl hl.1 rfl (Nat.le_of_ble_eq_true rfl) dX3_count_196 ⟨Nat.zero_le _, Nat.zero_le _⟩ ?_
                              exact rd_ret hC dX3_count_199 (Eq.symm (by unfold mX3_count; rw [if_neg c_1, if_neg c_2, if_neg c_3, if_neg c_4, if_neg c_5, if_neg c_6, if_neg c_7, if_neg c_8, if_neg c_9, if_neg c_10, if_neg c_11, if_neg c_12, if_neg c_13, if_pos c_14]))
                            · by_cases c_15 : x1 = 14
                              · refine lv_tableIn (tgt := 200) (off := 199) hx hb dX3_count_1 (by rw [c_15]; decide) (by rw [c_15]; decide) (by rw [c_15]; rfl) (by decide) ?_
                                refine lv_aload_n hx hb dX3_count_200 rfl (lv_at hl 0 rfl) ?_
                                refine gt_X3_plan hC rfl hK hP 0 rfl rfl dX3_count_201 ?_
                                refine callRd hC (k_X1_length l g ad.2.2.2.2 (W_plan ω)) ci_X1_length lk_X3_220 ⟨Nat.le_of_ble_eq_true rfl, Nat.le_of_ble_eq_true rfl⟩ (P5_5 hP) hK hE (q0 := 0) rfl rfl rfl rfl hl.1 rfl (Nat.le_of_ble_eq_true rfl) dX3_count_204 ⟨Nat.zero_le _, Nat.zero_le _⟩ ?_
                                exact rd_ret hC dX3_count_207 (Eq.symm (by unfold mX3_count; rw [if_neg c_1, if_neg c_2, if_neg c_3, if_neg c_4, if_neg c_5, if_neg c_6, if_neg c_7, if_neg c_8, if_neg c_9, if_neg c_10, if_neg c_11, if_neg c_12, if_neg c_13, if_neg c_14, if_pos c_15]))
                              · refine lv_tableOut (tgt := 208) hx hb dX3_count_1 (by have zc_1 := lv_neT c_1 (a := 0) rfl; have zc_2 := lv_neT c_2 (a := 1) rfl; have zc_3 := lv_neT c_3 (a := 2) rfl; have zc_4 := lv_neT c_4 (a := 3) rfl; have zc_5 := lv_neT c_5 (a := 4) rfl; have zc_6 := lv_neT c_6 (a := 5) rfl; have zc_7 := lv_neT c_7 (a := 6) rfl; have zc_8 := lv_neT c_8 (a := 7) rfl; have zc_9 := lv_neT c_9 (a := 8) rfl; have zc_10 := lv_neT c_10 (a := 9) rfl; have zc_11 := lv_neT c_11 (a := 10) rfl; have zc_12 := lv_neT c_12 (a := 11) rfl; have zc_13 := lv_neT c_13 (a := 12) rfl; have zc_14 := lv_neT c_14 (a := 13) rfl; have zc_15 := lv_neT c_15 (a := 14) rfl; omega) (by decide) ?_
                                refine lv_bipush (v := (-2)) hx hb dX3_count_208 (by decide) ?_
                                exact rd_ret hC dX3_count_210 (Eq.symm (by unfold mX3_count; rw [if_neg c_1, if_neg c_2, if_neg c_3, if_neg c_4, if_neg c_5, if_neg c_6, if_neg c_7, if_neg c_8, if_neg c_9, if_neg c_10, if_neg c_11, if_neg c_12, if_neg c_13, if_neg c_14, if_neg c_15]))
