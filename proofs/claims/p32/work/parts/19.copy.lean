/-! copyFrom: the arrays' cells are as the other's -/
theorem cpy_cell (c : ClassId) (n : Nat) (f h : Nat → Int32) : vp_cell c (n, .inl (va_cpy f h 0 0 n)) = vp_cell c (n, .inl f) := by
  rw [vp_cell_i, vp_cell_i]
  unfold arrV
  congr 1
  congr 1
  funext j
  have hj := j.isLt
  show Value.int (if 0 ≤ j.val ∧ j.val < 0 + n then f (0 + (j.val - 0)) else h j.val) = Value.int (f j.val)
  rw [if_pos ⟨Nat.zero_le _, by omega⟩, Nat.zero_add, Nat.sub_zero]
theorem P_cell {D : va_G} {cl : List vw_C} {ws : va_W} {H : Heap} {k a : Nat} {c : ClassId} {x x' : vp_A} (hP : va_P D cl ws H) (h : ws[k]? = some (a, .inl (c, x))) (e : vp_cell c x = vp_cell c x') : va_P D cl (ws.set k (a, .inl (c, x'))) H := by
  intro j q hj
  by_cases hk : j = k
  · subst hk
    have hl := (List.getElem?_eq_some_iff.mp h).1
    rw [List.getElem?_set_self hl] at hj
    cases hj
    have q := hP j _ h
    exact (show H[a]? = some (vp_cell c x) from q).trans (congrArg some e)
  · rw [List.getElem?_set_ne (Ne.symm hk)] at hj
    exact hP j q hj
set_option maxHeartbeats 4000000 in
set_option maxRecDepth 100000 in
theorem k_X2_copyFrom (l : Launch) (g : WG) (ad ad2 : AY) (σ τ : YS) : Wv l yX2_copyFrom cX2_copyFrom 2 1 g (cY g ad σ ++ cY g ad2 τ) (cY g ad τ ++ cY g ad2 τ) [.ref ad.1, .ref ad2.1] := by
  refine wv_of (by decide) (Nat.le_of_ble_eq_true rfl) ?_
  intro p e s m args below meth c ls A hC hAe hP hD hK hE hA hS hl
  obtain ⟨hx, hb, hml, hr, hown, hts, hlk, hnm⟩ := id hC
  have hl : lv_has ls 2 [(0, .ref ad.1), (1, .ref ad2.1)] := hl
  refine lv_aload_n hx hb dX2_copyFrom_0 rfl (lv_at hl 1 rfl) ?_
  refine gt_X2_facts hC rfl hK hP 5 rfl rfl dX2_copyFrom_1 ?_
  refine lv_iconst (v := 0) hx hb dX2_copyFrom_4 (by decide) ?_
  refine lv_aload_n hx hb dX2_copyFrom_5 rfl (lv_at hl 0 rfl) ?_
  refine gt_X2_facts hC rfl hK hP 0 rfl rfl dX2_copyFrom_6 ?_
  refine lv_iconst (v := 0) hx hb dX2_copyFrom_9 (by decide) ?_
  refine lv_sipush (v := 220) hx hb dX2_copyFrom_10 (by decide) ?_
  refine va_copyi hx hb (hml.trans hl.1.symm) hown (hts _ lk_X2_41) (hts _ nat_arraycopy) (hts _ stc_arraycopyName) (hts _ ini_java_lang_System) hK hP hD hS 6 1 0 0 rfl rfl rfl rfl rfl (by decide) (by decide) (by decide) (by decide) (by decide) (fun _ _ => rfl) (Nat.le_of_ble_eq_true rfl) (Nat.le_of_ble_eq_true rfl) dX2_copyFrom_13 (fun H locs hP hD hS => ?_)
  have hP : va_P g.1 vwCl (([(ad.1, .inr (2, [.ref ad.2.1, .ref ad.2.2.1, .ref ad.2.2.2.1, .ref ad.2.2.2.2, .int (Y_day σ), .int (Y_liftsToday σ), .int (Y_lifts σ), .int (Y_launches σ)])), (ad.2.1, .inl (g.2.1, 220, .inl (va_cpy (Y_facts τ) (Y_facts σ) 0 0 220))), (ad.2.2.1, .inl (g.2.1, 3, .inl (Y_cradles σ))), (ad.2.2.2.1, .inl (g.2.1, 4, .inl (Y_metres σ))), (ad.2.2.2.2, .inl (g.2.1, 3, .inl (Y_settings σ)))] ++ cY g ad2 τ)) H := hP
  have hP := P_cell hP (k := 1) rfl (cpy_cell g.2.1 220 (Y_facts τ) (Y_facts σ))
  have hP : va_P g.1 vwCl (([(ad.1, .inr (2, [.ref ad.2.1, .ref ad.2.2.1, .ref ad.2.2.2.1, .ref ad.2.2.2.2, .int (Y_day σ), .int (Y_liftsToday σ), .int (Y_lifts σ), .int (Y_launches σ)])), (ad.2.1, .inl (g.2.1, 220, .inl (Y_facts τ))), (ad.2.2.1, .inl (g.2.1, 3, .inl (Y_cradles σ))), (ad.2.2.2.1, .inl (g.2.1, 4, .inl (Y_metres σ))), (ad.2.2.2.2, .inl (g.2.1, 3, .inl (Y_settings σ)))] ++ cY g ad2 τ)) H := hP
  have hD : va_D A (([(ad.1, .inr (2, [.ref ad.2.1, .ref ad.2.2.1, .ref ad.2.2.2.1, .ref ad.2.2.2.2, .int (Y_day σ), .int (Y_liftsToday σ), .int (Y_lifts σ), .int (Y_launches σ)])), (ad.2.1, .inl (g.2.1, 220, .inl (Y_facts τ))), (ad.2.2.1, .inl (g.2.1, 3, .inl (Y_cradles σ))), (ad.2.2.2.1, .inl (g.2.1, 4, .inl (Y_metres σ))), (ad.2.2.2.2, .inl (g.2.1, 3, .inl (Y_settings σ)))] ++ cY g ad2 τ)) := hD.set (p := 1) (e := .inl (g.2.1, 220, .inl (Y_facts τ))) rfl
  refine lv_aload_n hx hb dX2_copyFrom_16 rfl (lv_at hl 1 rfl) ?_
  refine gt_X2_cradles hC rfl hK hP 5 rfl rfl dX2_copyFrom_17 ?_
  refine lv_iconst (v := 0) hx hb dX2_copyFrom_20 (by decide) ?_
  refine lv_aload_n hx hb dX2_copyFrom_21 rfl (lv_at hl 0 rfl) ?_
  refine gt_X2_cradles hC rfl hK hP 0 rfl rfl dX2_copyFrom_22 ?_
  refine lv_iconst (v := 0) hx hb dX2_copyFrom_25 (by decide) ?_
  refine lv_iconst (v := 3) hx hb dX2_copyFrom_26 (by decide) ?_
  refine va_copyi hx hb (hml.trans hl.1.symm) hown (hts _ lk_X2_41) (hts _ nat_arraycopy) (hts _ stc_arraycopyName) (hts _ ini_java_lang_System) hK hP hD hS 7 2 0 0 rfl rfl rfl rfl rfl (by decide) (by decide) (by decide) (by decide) (by decide) (fun _ _ => rfl) (Nat.le_of_ble_eq_true rfl) (Nat.le_of_ble_eq_true rfl) dX2_copyFrom_27 (fun H locs hP hD hS => ?_)
  have hP : va_P g.1 vwCl (([(ad.1, .inr (2, [.ref ad.2.1, .ref ad.2.2.1, .ref ad.2.2.2.1, .ref ad.2.2.2.2, .int (Y_day σ), .int (Y_liftsToday σ), .int (Y_lifts σ), .int (Y_launches σ)])), (ad.2.1, .inl (g.2.1, 220, .inl (Y_facts τ))), (ad.2.2.1, .inl (g.2.1, 3, .inl (va_cpy (Y_cradles τ) (Y_cradles σ) 0 0 3))), (ad.2.2.2.1, .inl (g.2.1, 4, .inl (Y_metres σ))), (ad.2.2.2.2, .inl (g.2.1, 3, .inl (Y_settings σ)))] ++ cY g ad2 τ)) H := hP
  have hP := P_cell hP (k := 2) rfl (cpy_cell g.2.1 3 (Y_cradles τ) (Y_cradles σ))
  have hP : va_P g.1 vwCl (([(ad.1, .inr (2, [.ref ad.2.1, .ref ad.2.2.1, .ref ad.2.2.2.1, .ref ad.2.2.2.2, .int (Y_day σ), .int (Y_liftsToday σ), .int (Y_lifts σ), .int (Y_launches σ)])), (ad.2.1, .inl (g.2.1, 220, .inl (Y_facts τ))), (ad.2.2.1, .inl (g.2.1, 3, .inl (Y_cradles τ))), (ad.2.2.2.1, .inl (g.2.1, 4, .inl (Y_metres σ))), (ad.2.2.2.2, .inl (g.2.1, 3, .inl (Y_settings σ)))] ++ cY g ad2 τ)) H := hP
  have hD : va_D A (([(ad.1, .inr (2, [.ref ad.2.1, .ref ad.2.2.1, .ref ad.2.2.2.1, .ref ad.2.2.2.2, .int (Y_day σ), .int (Y_liftsToday σ), .int (Y_lifts σ), .int (Y_launches σ)])), (ad.2.1, .inl (g.2.1, 220, .inl (Y_facts τ))), (ad.2.2.1, .inl (g.2.1, 3, .inl (Y_cradles τ))), (ad.2.2.2.1, .inl (g.2.1, 4, .inl (Y_metres σ))), (ad.2.2.2.2, .inl (g.2.1, 3, .inl (Y_settings σ)))] ++ cY g ad2 τ)) := hD.set (p := 2) (e := .inl (g.2.1, 3, .inl (Y_cradles τ))) rfl
  refine lv_aload_n hx hb dX2_copyFrom_30 rfl (lv_at hl 1 rfl) ?_
  refine gt_X2_metres hC rfl hK hP 5 rfl rfl dX2_copyFrom_31 ?_
  refine lv_iconst (v := 0) hx hb dX2_copyFrom_34 (by decide) ?_
  refine lv_aload_n hx hb dX2_copyFrom_35 rfl (lv_at hl 0 rfl) ?_
  refine gt_X2_metres hC rfl hK hP 0 rfl rfl dX2_copyFrom_36 ?_
  refine lv_iconst (v := 0) hx hb dX2_copyFrom_39 (by decide) ?_
  refine lv_iconst (v := 4) hx hb dX2_copyFrom_40 (by decide) ?_
  refine va_copyi hx hb (hml.trans hl.1.symm) hown (hts _ lk_X2_41) (hts _ nat_arraycopy) (hts _ stc_arraycopyName) (hts _ ini_java_lang_System) hK hP hD hS 8 3 0 0 rfl rfl rfl rfl rfl (by decide) (by decide) (by decide) (by decide) (by decide) (fun _ _ => rfl) (Nat.le_of_ble_eq_true rfl) (Nat.le_of_ble_eq_true rfl) dX2_copyFrom_41 (fun H locs hP hD hS => ?_)
  have hP : va_P g.1 vwCl (([(ad.1, .inr (2, [.ref ad.2.1, .ref ad.2.2.1, .ref ad.2.2.2.1, .ref ad.2.2.2.2, .int (Y_day σ), .int (Y_liftsToday σ), .int (Y_lifts σ), .int (Y_launches σ)])), (ad.2.1, .inl (g.2.1, 220, .inl (Y_facts τ))), (ad.2.2.1, .inl (g.2.1, 3, .inl (Y_cradles τ))), (ad.2.2.2.1, .inl (g.2.1, 4, .inl (va_cpy (Y_metres τ) (Y_metres σ) 0 0 4))), (ad.2.2.2.2, .inl (g.2.1, 3, .inl (Y_settings σ)))] ++ cY g ad2 τ)) H := hP
  have hP := P_cell hP (k := 3) rfl (cpy_cell g.2.1 4 (Y_metres τ) (Y_metres σ))
  have hP : va_P g.1 vwCl (([(ad.1, .inr (2, [.ref ad.2.1, .ref ad.2.2.1, .ref ad.2.2.2.1, .ref ad.2.2.2.2, .int (Y_day σ), .int (Y_liftsToday σ), .int (Y_lifts σ), .int (Y_launches σ)])), (ad.2.1, .inl (g.2.1, 220, .inl (Y_facts τ))), (ad.2.2.1, .inl (g.2.1, 3, .inl (Y_cradles τ))), (ad.2.2.2.1, .inl (g.2.1, 4, .inl (Y_metres τ))), (ad.2.2.2.2, .inl (g.2.1, 3, .inl (Y_settings σ)))] ++ cY g ad2 τ)) H := hP
  have hD : va_D A (([(ad.1, .inr (2, [.ref ad.2.1, .ref ad.2.2.1, .ref ad.2.2.2.1, .ref ad.2.2.2.2, .int (Y_day σ), .int (Y_liftsToday σ), .int (Y_lifts σ), .int (Y_launches σ)])), (ad.2.1, .inl (g.2.1, 220, .inl (Y_facts τ))), (ad.2.2.1, .inl (g.2.1, 3, .inl (Y_cradles τ))), (ad.2.2.2.1, .inl (g.2.1, 4, .inl (Y_metres τ))), (ad.2.2.2.2, .inl (g.2.1, 3, .inl (Y_settings σ)))] ++ cY g ad2 τ)) := hD.set (p := 3) (e := .inl (g.2.1, 4, .inl (Y_metres τ))) rfl
  refine lv_aload_n hx hb dX2_copyFrom_44 rfl (lv_at hl 1 rfl) ?_
  refine gt_X2_settings hC rfl hK hP 5 rfl rfl dX2_copyFrom_45 ?_
  refine lv_iconst (v := 0) hx hb dX2_copyFrom_48 (by decide) ?_
  refine lv_aload_n hx hb dX2_copyFrom_49 rfl (lv_at hl 0 rfl) ?_
  refine gt_X2_settings hC rfl hK hP 0 rfl rfl dX2_copyFrom_50 ?_
  refine lv_iconst (v := 0) hx hb dX2_copyFrom_53 (by decide) ?_
  refine lv_iconst (v := 3) hx hb dX2_copyFrom_54 (by decide) ?_
  refine va_copyi hx hb (hml.trans hl.1.symm) hown (hts _ lk_X2_41) (hts _ nat_arraycopy) (hts _ stc_arraycopyName) (hts _ ini_java_lang_System) hK hP hD hS 9 4 0 0 rfl rfl rfl rfl rfl (by decide) (by decide) (by decide) (by decide) (by decide) (fun _ _ => rfl) (Nat.le_of_ble_eq_true rfl) (Nat.le_of_ble_eq_true rfl) dX2_copyFrom_55 (fun H locs hP hD hS => ?_)
  have hP : va_P g.1 vwCl (([(ad.1, .inr (2, [.ref ad.2.1, .ref ad.2.2.1, .ref ad.2.2.2.1, .ref ad.2.2.2.2, .int (Y_day σ), .int (Y_liftsToday σ), .int (Y_lifts σ), .int (Y_launches σ)])), (ad.2.1, .inl (g.2.1, 220, .inl (Y_facts τ))), (ad.2.2.1, .inl (g.2.1, 3, .inl (Y_cradles τ))), (ad.2.2.2.1, .inl (g.2.1, 4, .inl (Y_metres τ))), (ad.2.2.2.2, .inl (g.2.1, 3, .inl (va_cpy (Y_settings τ) (Y_settings σ) 0 0 3)))] ++ cY g ad2 τ)) H := hP
  have hP := P_cell hP (k := 4) rfl (cpy_cell g.2.1 3 (Y_settings τ) (Y_settings σ))
  have hP : va_P g.1 vwCl (([(ad.1, .inr (2, [.ref ad.2.1, .ref ad.2.2.1, .ref ad.2.2.2.1, .ref ad.2.2.2.2, .int (Y_day σ), .int (Y_liftsToday σ), .int (Y_lifts σ), .int (Y_launches σ)])), (ad.2.1, .inl (g.2.1, 220, .inl (Y_facts τ))), (ad.2.2.1, .inl (g.2.1, 3, .inl (Y_cradles τ))), (ad.2.2.2.1, .inl (g.2.1, 4, .inl (Y_metres τ))), (ad.2.2.2.2, .inl (g.2.1, 3, .inl (Y_settings τ)))] ++ cY g ad2 τ)) H := hP
  have hD : va_D A (([(ad.1, .inr (2, [.ref ad.2.1, .ref ad.2.2.1, .ref ad.2.2.2.1, .ref ad.2.2.2.2, .int (Y_day σ), .int (Y_liftsToday σ), .int (Y_lifts σ), .int (Y_launches σ)])), (ad.2.1, .inl (g.2.1, 220, .inl (Y_facts τ))), (ad.2.2.1, .inl (g.2.1, 3, .inl (Y_cradles τ))), (ad.2.2.2.1, .inl (g.2.1, 4, .inl (Y_metres τ))), (ad.2.2.2.2, .inl (g.2.1, 3, .inl (Y_settings τ)))] ++ cY g ad2 τ)) := hD.set (p := 4) (e := .inl (g.2.1, 3, .inl (Y_settings τ))) rfl
  refine lv_aload_n hx hb dX2_copyFrom_58 rfl (lv_at hl 0 rfl) ?_
  refine lv_aload_n hx hb dX2_copyFrom_59 rfl (lv_at hl 1 rfl) ?_
  refine gt_X2_day hC rfl hK hP 5 rfl rfl dX2_copyFrom_60 ?_
  refine pt_X2_day hC rfl hK hP hD hS 0 rfl (Nat.le_of_ble_eq_true rfl) dX2_copyFrom_63 (fun H locs hP hD hS => ?_)
  have hP : va_P g.1 vwCl (([(ad.1, .inr (2, [.ref ad.2.1, .ref ad.2.2.1, .ref ad.2.2.2.1, .ref ad.2.2.2.2, .int (Y_day τ), .int (Y_liftsToday σ), .int (Y_lifts σ), .int (Y_launches σ)])), (ad.2.1, .inl (g.2.1, 220, .inl (Y_facts τ))), (ad.2.2.1, .inl (g.2.1, 3, .inl (Y_cradles τ))), (ad.2.2.2.1, .inl (g.2.1, 4, .inl (Y_metres τ))), (ad.2.2.2.2, .inl (g.2.1, 3, .inl (Y_settings τ)))] ++ cY g ad2 τ)) H := hP
  have hD : va_D A (([(ad.1, .inr (2, [.ref ad.2.1, .ref ad.2.2.1, .ref ad.2.2.2.1, .ref ad.2.2.2.2, .int (Y_day τ), .int (Y_liftsToday σ), .int (Y_lifts σ), .int (Y_launches σ)])), (ad.2.1, .inl (g.2.1, 220, .inl (Y_facts τ))), (ad.2.2.1, .inl (g.2.1, 3, .inl (Y_cradles τ))), (ad.2.2.2.1, .inl (g.2.1, 4, .inl (Y_metres τ))), (ad.2.2.2.2, .inl (g.2.1, 3, .inl (Y_settings τ)))] ++ cY g ad2 τ)) := hD
  refine lv_aload_n hx hb dX2_copyFrom_66 rfl (lv_at hl 0 rfl) ?_
  refine lv_aload_n hx hb dX2_copyFrom_67 rfl (lv_at hl 1 rfl) ?_
  refine gt_X2_liftsToday hC rfl hK hP 5 rfl rfl dX2_copyFrom_68 ?_
  refine pt_X2_liftsToday hC rfl hK hP hD hS 0 rfl (Nat.le_of_ble_eq_true rfl) dX2_copyFrom_71 (fun H locs hP hD hS => ?_)
  have hP : va_P g.1 vwCl (([(ad.1, .inr (2, [.ref ad.2.1, .ref ad.2.2.1, .ref ad.2.2.2.1, .ref ad.2.2.2.2, .int (Y_day τ), .int (Y_liftsToday τ), .int (Y_lifts σ), .int (Y_launches σ)])), (ad.2.1, .inl (g.2.1, 220, .inl (Y_facts τ))), (ad.2.2.1, .inl (g.2.1, 3, .inl (Y_cradles τ))), (ad.2.2.2.1, .inl (g.2.1, 4, .inl (Y_metres τ))), (ad.2.2.2.2, .inl (g.2.1, 3, .inl (Y_settings τ)))] ++ cY g ad2 τ)) H := hP
  have hD : va_D A (([(ad.1, .inr (2, [.ref ad.2.1, .ref ad.2.2.1, .ref ad.2.2.2.1, .ref ad.2.2.2.2, .int (Y_day τ), .int (Y_liftsToday τ), .int (Y_lifts σ), .int (Y_launches σ)])), (ad.2.1, .inl (g.2.1, 220, .inl (Y_facts τ))), (ad.2.2.1, .inl (g.2.1, 3, .inl (Y_cradles τ))), (ad.2.2.2.1, .inl (g.2.1, 4, .inl (Y_metres τ))), (ad.2.2.2.2, .inl (g.2.1, 3, .inl (Y_settings τ)))] ++ cY g ad2 τ)) := hD
  refine lv_aload_n hx hb dX2_copyFrom_74 rfl (lv_at hl 0 rfl) ?_
  refine lv_aload_n hx hb dX2_copyFrom_75 rfl (lv_at hl 1 rfl) ?_
  refine gt_X2_lifts hC rfl hK hP 5 rfl rfl dX2_copyFrom_76 ?_
  refine pt_X2_lifts hC rfl hK hP hD hS 0 rfl (Nat.le_of_ble_eq_true rfl) dX2_copyFrom_79 (fun H locs hP hD hS => ?_)
  have hP : va_P g.1 vwCl (([(ad.1, .inr (2, [.ref ad.2.1, .ref ad.2.2.1, .ref ad.2.2.2.1, .ref ad.2.2.2.2, .int (Y_day τ), .int (Y_liftsToday τ), .int (Y_lifts τ), .int (Y_launches σ)])), (ad.2.1, .inl (g.2.1, 220, .inl (Y_facts τ))), (ad.2.2.1, .inl (g.2.1, 3, .inl (Y_cradles τ))), (ad.2.2.2.1, .inl (g.2.1, 4, .inl (Y_metres τ))), (ad.2.2.2.2, .inl (g.2.1, 3, .inl (Y_settings τ)))] ++ cY g ad2 τ)) H := hP
  have hD : va_D A (([(ad.1, .inr (2, [.ref ad.2.1, .ref ad.2.2.1, .ref ad.2.2.2.1, .ref ad.2.2.2.2, .int (Y_day τ), .int (Y_liftsToday τ), .int (Y_lifts τ), .int (Y_launches σ)])), (ad.2.1, .inl (g.2.1, 220, .inl (Y_facts τ))), (ad.2.2.1, .inl (g.2.1, 3, .inl (Y_cradles τ))), (ad.2.2.2.1, .inl (g.2.1, 4, .inl (Y_metres τ))), (ad.2.2.2.2, .inl (g.2.1, 3, .inl (Y_settings τ)))] ++ cY g ad2 τ)) := hD
  refine lv_aload_n hx hb dX2_copyFrom_82 rfl (lv_at hl 0 rfl) ?_
  refine lv_aload_n hx hb dX2_copyFrom_83 rfl (lv_at hl 1 rfl) ?_
  refine gt_X2_launches hC rfl hK hP 5 rfl rfl dX2_copyFrom_84 ?_
  refine pt_X2_launches hC rfl hK hP hD hS 0 rfl (Nat.le_of_ble_eq_true rfl) dX2_copyFrom_87 (fun H locs hP hD hS => ?_)
  have hP : va_P g.1 vwCl (([(ad.1, .inr (2, [.ref ad.2.1, .ref ad.2.2.1, .ref ad.2.2.2.1, .ref ad.2.2.2.2, .int (Y_day τ), .int (Y_liftsToday τ), .int (Y_lifts τ), .int (Y_launches τ)])), (ad.2.1, .inl (g.2.1, 220, .inl (Y_facts τ))), (ad.2.2.1, .inl (g.2.1, 3, .inl (Y_cradles τ))), (ad.2.2.2.1, .inl (g.2.1, 4, .inl (Y_metres τ))), (ad.2.2.2.2, .inl (g.2.1, 3, .inl (Y_settings τ)))] ++ cY g ad2 τ)) H := hP
  have hD : va_D A (([(ad.1, .inr (2, [.ref ad.2.1, .ref ad.2.2.1, .ref ad.2.2.2.1, .ref ad.2.2.2.2, .int (Y_day τ), .int (Y_liftsToday τ), .int (Y_lifts τ), .int (Y_launches τ)])), (ad.2.1, .inl (g.2.1, 220, .inl (Y_facts τ))), (ad.2.2.1, .inl (g.2.1, 3, .inl (Y_cradles τ))), (ad.2.2.2.1, .inl (g.2.1, 4, .inl (Y_metres τ))), (ad.2.2.2.2, .inl (g.2.1, 3, .inl (Y_settings τ)))] ++ cY g ad2 τ)) := hD
  exact wv_ret hC hP (hAe ▸ hD) (hAe ▸ hS) dX2_copyFrom_90 rfl
set_option maxHeartbeats 4000000 in
set_option maxRecDepth 100000 in
theorem k_X2_copyFrom' (l : Launch) (g : WG) (ad ad2 : AY) (σ τ : YS) : Wv l yX2_copyFrom cX2_copyFrom 2 1 g (cY g ad2 τ ++ cY g ad σ) (cY g ad2 τ ++ cY g ad τ) [.ref ad.1, .ref ad2.1] := by
  refine wv_of (by decide) (Nat.le_of_ble_eq_true rfl) ?_
  intro p e s m args below meth c ls A hC hAe hP hD hK hE hA hS hl
  obtain ⟨hx, hb, hml, hr, hown, hts, hlk, hnm⟩ := id hC
  have hl : lv_has ls 2 [(0, .ref ad.1), (1, .ref ad2.1)] := hl
  refine lv_aload_n hx hb dX2_copyFrom_0 rfl (lv_at hl 1 rfl) ?_
  refine gt_X2_facts hC rfl hK hP 0 rfl rfl dX2_copyFrom_1 ?_
  refine lv_iconst (v := 0) hx hb dX2_copyFrom_4 (by decide) ?_
  refine lv_aload_n hx hb dX2_copyFrom_5 rfl (lv_at hl 0 rfl) ?_
  refine gt_X2_facts hC rfl hK hP 5 rfl rfl dX2_copyFrom_6 ?_
  refine lv_iconst (v := 0) hx hb dX2_copyFrom_9 (by decide) ?_
  refine lv_sipush (v := 220) hx hb dX2_copyFrom_10 (by decide) ?_
  refine va_copyi hx hb (hml.trans hl.1.symm) hown (hts _ lk_X2_41) (hts _ nat_arraycopy) (hts _ stc_arraycopyName) (hts _ ini_java_lang_System) hK hP hD hS 1 6 0 0 rfl rfl rfl rfl rfl (by decide) (by decide) (by decide) (by decide) (by decide) (fun _ _ => rfl) (Nat.le_of_ble_eq_true rfl) (Nat.le_of_ble_eq_true rfl) dX2_copyFrom_13 (fun H locs hP hD hS => ?_)
  have hP : va_P g.1 vwCl ((cY g ad2 τ ++ [(ad.1, .inr (2, [.ref ad.2.1, .ref ad.2.2.1, .ref ad.2.2.2.1, .ref ad.2.2.2.2, .int (Y_day σ), .int (Y_liftsToday σ), .int (Y_lifts σ), .int (Y_launches σ)])), (ad.2.1, .inl (g.2.1, 220, .inl (va_cpy (Y_facts τ) (Y_facts σ) 0 0 220))), (ad.2.2.1, .inl (g.2.1, 3, .inl (Y_cradles σ))), (ad.2.2.2.1, .inl (g.2.1, 4, .inl (Y_metres σ))), (ad.2.2.2.2, .inl (g.2.1, 3, .inl (Y_settings σ)))])) H := hP
  have hP := P_cell hP (k := 6) rfl (cpy_cell g.2.1 220 (Y_facts τ) (Y_facts σ))
  have hP : va_P g.1 vwCl ((cY g ad2 τ ++ [(ad.1, .inr (2, [.ref ad.2.1, .ref ad.2.2.1, .ref ad.2.2.2.1, .ref ad.2.2.2.2, .int (Y_day σ), .int (Y_liftsToday σ), .int (Y_lifts σ), .int (Y_launches σ)])), (ad.2.1, .inl (g.2.1, 220, .inl (Y_facts τ))), (ad.2.2.1, .inl (g.2.1, 3, .inl (Y_cradles σ))), (ad.2.2.2.1, .inl (g.2.1, 4, .inl (Y_metres σ))), (ad.2.2.2.2, .inl (g.2.1, 3, .inl (Y_settings σ)))])) H := hP
  have hD : va_D A ((cY g ad2 τ ++ [(ad.1, .inr (2, [.ref ad.2.1, .ref ad.2.2.1, .ref ad.2.2.2.1, .ref ad.2.2.2.2, .int (Y_day σ), .int (Y_liftsToday σ), .int (Y_lifts σ), .int (Y_launches σ)])), (ad.2.1, .inl (g.2.1, 220, .inl (Y_facts τ))), (ad.2.2.1, .inl (g.2.1, 3, .inl (Y_cradles σ))), (ad.2.2.2.1, .inl (g.2.1, 4, .inl (Y_metres σ))), (ad.2.2.2.2, .inl (g.2.1, 3, .inl (Y_settings σ)))])) := hD.set (p := 6) (e := .inl (g.2.1, 220, .inl (Y_facts τ))) rfl
  refine lv_aload_n hx hb dX2_copyFrom_16 rfl (lv_at hl 1 rfl) ?_
  refine gt_X2_cradles hC rfl hK hP 0 rfl rfl dX2_copyFrom_17 ?_
  refine lv_iconst (v := 0) hx hb dX2_copyFrom_20 (by decide) ?_
  refine lv_aload_n hx hb dX2_copyFrom_21 rfl (lv_at hl 0 rfl) ?_
  refine gt_X2_cradles hC rfl hK hP 5 rfl rfl dX2_copyFrom_22 ?_
  refine lv_iconst (v := 0) hx hb dX2_copyFrom_25 (by decide) ?_
  refine lv_iconst (v := 3) hx hb dX2_copyFrom_26 (by decide) ?_
  refine va_copyi hx hb (hml.trans hl.1.symm) hown (hts _ lk_X2_41) (hts _ nat_arraycopy) (hts _ stc_arraycopyName) (hts _ ini_java_lang_System) hK hP hD hS 2 7 0 0 rfl rfl rfl rfl rfl (by decide) (by decide) (by decide) (by decide) (by decide) (fun _ _ => rfl) (Nat.le_of_ble_eq_true rfl) (Nat.le_of_ble_eq_true rfl) dX2_copyFrom_27 (fun H locs hP hD hS => ?_)
  have hP : va_P g.1 vwCl ((cY g ad2 τ ++ [(ad.1, .inr (2, [.ref ad.2.1, .ref ad.2.2.1, .ref ad.2.2.2.1, .ref ad.2.2.2.2, .int (Y_day σ), .int (Y_liftsToday σ), .int (Y_lifts σ), .int (Y_launches σ)])), (ad.2.1, .inl (g.2.1, 220, .inl (Y_facts τ))), (ad.2.2.1, .inl (g.2.1, 3, .inl (va_cpy (Y_cradles τ) (Y_cradles σ) 0 0 3))), (ad.2.2.2.1, .inl (g.2.1, 4, .inl (Y_metres σ))), (ad.2.2.2.2, .inl (g.2.1, 3, .inl (Y_settings σ)))])) H := hP
  have hP := P_cell hP (k := 7) rfl (cpy_cell g.2.1 3 (Y_cradles τ) (Y_cradles σ))
  have hP : va_P g.1 vwCl ((cY g ad2 τ ++ [(ad.1, .inr (2, [.ref ad.2.1, .ref ad.2.2.1, .ref ad.2.2.2.1, .ref ad.2.2.2.2, .int (Y_day σ), .int (Y_liftsToday σ), .int (Y_lifts σ), .int (Y_launches σ)])), (ad.2.1, .inl (g.2.1, 220, .inl (Y_facts τ))), (ad.2.2.1, .inl (g.2.1, 3, .inl (Y_cradles τ))), (ad.2.2.2.1, .inl (g.2.1, 4, .inl (Y_metres σ))), (ad.2.2.2.2, .inl (g.2.1, 3, .inl (Y_settings σ)))])) H := hP
  have hD : va_D A ((cY g ad2 τ ++ [(ad.1, .inr (2, [.ref ad.2.1, .ref ad.2.2.1, .ref ad.2.2.2.1, .ref ad.2.2.2.2, .int (Y_day σ), .int (Y_liftsToday σ), .int (Y_lifts σ), .int (Y_launches σ)])), (ad.2.1, .inl (g.2.1, 220, .inl (Y_facts τ))), (ad.2.2.1, .inl (g.2.1, 3, .inl (Y_cradles τ))), (ad.2.2.2.1, .inl (g.2.1, 4, .inl (Y_metres σ))), (ad.2.2.2.2, .inl (g.2.1, 3, .inl (Y_settings σ)))])) := hD.set (p := 7) (e := .inl (g.2.1, 3, .inl (Y_cradles τ))) rfl
  refine lv_aload_n hx hb dX2_copyFrom_30 rfl (lv_at hl 1 rfl) ?_
  refine gt_X2_metres hC rfl hK hP 0 rfl rfl dX2_copyFrom_31 ?_
  refine lv_iconst (v := 0) hx hb dX2_copyFrom_34 (by decide) ?_
  refine lv_aload_n hx hb dX2_copyFrom_35 rfl (lv_at hl 0 rfl) ?_
  refine gt_X2_metres hC rfl hK hP 5 rfl rfl dX2_copyFrom_36 ?_
  refine lv_iconst (v := 0) hx hb dX2_copyFrom_39 (by decide) ?_
  refine lv_iconst (v := 4) hx hb dX2_copyFrom_40 (by decide) ?_
  refine va_copyi hx hb (hml.trans hl.1.symm) hown (hts _ lk_X2_41) (hts _ nat_arraycopy) (hts _ stc_arraycopyName) (hts _ ini_java_lang_System) hK hP hD hS 3 8 0 0 rfl rfl rfl rfl rfl (by decide) (by decide) (by decide) (by decide) (by decide) (fun _ _ => rfl) (Nat.le_of_ble_eq_true rfl) (Nat.le_of_ble_eq_true rfl) dX2_copyFrom_41 (fun H locs hP hD hS => ?_)
  have hP : va_P g.1 vwCl ((cY g ad2 τ ++ [(ad.1, .inr (2, [.ref ad.2.1, .ref ad.2.2.1, .ref ad.2.2.2.1, .ref ad.2.2.2.2, .int (Y_day σ), .int (Y_liftsToday σ), .int (Y_lifts σ), .int (Y_launches σ)])), (ad.2.1, .inl (g.2.1, 220, .inl (Y_facts τ))), (ad.2.2.1, .inl (g.2.1, 3, .inl (Y_cradles τ))), (ad.2.2.2.1, .inl (g.2.1, 4, .inl (va_cpy (Y_metres τ) (Y_metres σ) 0 0 4))), (ad.2.2.2.2, .inl (g.2.1, 3, .inl (Y_settings σ)))])) H := hP
  have hP := P_cell hP (k := 8) rfl (cpy_cell g.2.1 4 (Y_metres τ) (Y_metres σ))
  have hP : va_P g.1 vwCl ((cY g ad2 τ ++ [(ad.1, .inr (2, [.ref ad.2.1, .ref ad.2.2.1, .ref ad.2.2.2.1, .ref ad.2.2.2.2, .int (Y_day σ), .int (Y_liftsToday σ), .int (Y_lifts σ), .int (Y_launches σ)])), (ad.2.1, .inl (g.2.1, 220, .inl (Y_facts τ))), (ad.2.2.1, .inl (g.2.1, 3, .inl (Y_cradles τ))), (ad.2.2.2.1, .inl (g.2.1, 4, .inl (Y_metres τ))), (ad.2.2.2.2, .inl (g.2.1, 3, .inl (Y_settings σ)))])) H := hP
  have hD : va_D A ((cY g ad2 τ ++ [(ad.1, .inr (2, [.ref ad.2.1, .ref ad.2.2.1, .ref ad.2.2.2.1, .ref ad.2.2.2.2, .int (Y_day σ), .int (Y_liftsToday σ), .int (Y_lifts σ), .int (Y_launches σ)])), (ad.2.1, .inl (g.2.1, 220, .inl (Y_facts τ))), (ad.2.2.1, .inl (g.2.1, 3, .inl (Y_cradles τ))), (ad.2.2.2.1, .inl (g.2.1, 4, .inl (Y_metres τ))), (ad.2.2.2.2, .inl (g.2.1, 3, .inl (Y_settings σ)))])) := hD.set (p := 8) (e := .inl (g.2.1, 4, .inl (Y_metres τ))) rfl
  refine lv_aload_n hx hb dX2_copyFrom_44 rfl (lv_at hl 1 rfl) ?_
  refine gt_X2_settings hC rfl hK hP 0 rfl rfl dX2_copyFrom_45 ?_
  refine lv_iconst (v := 0) hx hb dX2_copyFrom_48 (by decide) ?_
  refine lv_aload_n hx hb dX2_copyFrom_49 rfl (lv_at hl 0 rfl) ?_
  refine gt_X2_settings hC rfl hK hP 5 rfl rfl dX2_copyFrom_50 ?_
  refine lv_iconst (v := 0) hx hb dX2_copyFrom_53 (by decide) ?_
  refine lv_iconst (v := 3) hx hb dX2_copyFrom_54 (by decide) ?_
  refine va_copyi hx hb (hml.trans hl.1.symm) hown (hts _ lk_X2_41) (hts _ nat_arraycopy) (hts _ stc_arraycopyName) (hts _ ini_java_lang_System) hK hP hD hS 4 9 0 0 rfl rfl rfl rfl rfl (by decide) (by decide) (by decide) (by decide) (by decide) (fun _ _ => rfl) (Nat.le_of_ble_eq_true rfl) (Nat.le_of_ble_eq_true rfl) dX2_copyFrom_55 (fun H locs hP hD hS => ?_)
  have hP : va_P g.1 vwCl ((cY g ad2 τ ++ [(ad.1, .inr (2, [.ref ad.2.1, .ref ad.2.2.1, .ref ad.2.2.2.1, .ref ad.2.2.2.2, .int (Y_day σ), .int (Y_liftsToday σ), .int (Y_lifts σ), .int (Y_launches σ)])), (ad.2.1, .inl (g.2.1, 220, .inl (Y_facts τ))), (ad.2.2.1, .inl (g.2.1, 3, .inl (Y_cradles τ))), (ad.2.2.2.1, .inl (g.2.1, 4, .inl (Y_metres τ))), (ad.2.2.2.2, .inl (g.2.1, 3, .inl (va_cpy (Y_settings τ) (Y_settings σ) 0 0 3)))])) H := hP
  have hP := P_cell hP (k := 9) rfl (cpy_cell g.2.1 3 (Y_settings τ) (Y_settings σ))
  have hP : va_P g.1 vwCl ((cY g ad2 τ ++ [(ad.1, .inr (2, [.ref ad.2.1, .ref ad.2.2.1, .ref ad.2.2.2.1, .ref ad.2.2.2.2, .int (Y_day σ), .int (Y_liftsToday σ), .int (Y_lifts σ), .int (Y_launches σ)])), (ad.2.1, .inl (g.2.1, 220, .inl (Y_facts τ))), (ad.2.2.1, .inl (g.2.1, 3, .inl (Y_cradles τ))), (ad.2.2.2.1, .inl (g.2.1, 4, .inl (Y_metres τ))), (ad.2.2.2.2, .inl (g.2.1, 3, .inl (Y_settings τ)))])) H := hP
  have hD : va_D A ((cY g ad2 τ ++ [(ad.1, .inr (2, [.ref ad.2.1, .ref ad.2.2.1, .ref ad.2.2.2.1, .ref ad.2.2.2.2, .int (Y_day σ), .int (Y_liftsToday σ), .int (Y_lifts σ), .int (Y_launches σ)])), (ad.2.1, .inl (g.2.1, 220, .inl (Y_facts τ))), (ad.2.2.1, .inl (g.2.1, 3, .inl (Y_cradles τ))), (ad.2.2.2.1, .inl (g.2.1, 4, .inl (Y_metres τ))), (ad.2.2.2.2, .inl (g.2.1, 3, .inl (Y_settings τ)))])) := hD.set (p := 9) (e := .inl (g.2.1, 3, .inl (Y_settings τ))) rfl
  refine lv_aload_n hx hb dX2_copyFrom_58 rfl (lv_at hl 0 rfl) ?_
  refine lv_aload_n hx hb dX2_copyFrom_59 rfl (lv_at hl 1 rfl) ?_
  refine gt_X2_day hC rfl hK hP 0 rfl rfl dX2_copyFrom_60 ?_
  refine pt_X2_day hC rfl hK hP hD hS 5 rfl (Nat.le_of_ble_eq_true rfl) dX2_copyFrom_63 (fun H locs hP hD hS => ?_)
  have hP : va_P g.1 vwCl ((cY g ad2 τ ++ [(ad.1, .inr (2, [.ref ad.2.1, .ref ad.2.2.1, .ref ad.2.2.2.1, .ref ad.2.2.2.2, .int (Y_day τ), .int (Y_liftsToday σ), .int (Y_lifts σ), .int (Y_launches σ)])), (ad.2.1, .inl (g.2.1, 220, .inl (Y_facts τ))), (ad.2.2.1, .inl (g.2.1, 3, .inl (Y_cradles τ))), (ad.2.2.2.1, .inl (g.2.1, 4, .inl (Y_metres τ))), (ad.2.2.2.2, .inl (g.2.1, 3, .inl (Y_settings τ)))])) H := hP
  have hD : va_D A ((cY g ad2 τ ++ [(ad.1, .inr (2, [.ref ad.2.1, .ref ad.2.2.1, .ref ad.2.2.2.1, .ref ad.2.2.2.2, .int (Y_day τ), .int (Y_liftsToday σ), .int (Y_lifts σ), .int (Y_launches σ)])), (ad.2.1, .inl (g.2.1, 220, .inl (Y_facts τ))), (ad.2.2.1, .inl (g.2.1, 3, .inl (Y_cradles τ))), (ad.2.2.2.1, .inl (g.2.1, 4, .inl (Y_metres τ))), (ad.2.2.2.2, .inl (g.2.1, 3, .inl (Y_settings τ)))])) := hD
  refine lv_aload_n hx hb dX2_copyFrom_66 rfl (lv_at hl 0 rfl) ?_
  refine lv_aload_n hx hb dX2_copyFrom_67 rfl (lv_at hl 1 rfl) ?_
  refine gt_X2_liftsToday hC rfl hK hP 0 rfl rfl dX2_copyFrom_68 ?_
  refine pt_X2_liftsToday hC rfl hK hP hD hS 5 rfl (Nat.le_of_ble_eq_true rfl) dX2_copyFrom_71 (fun H locs hP hD hS => ?_)
  have hP : va_P g.1 vwCl ((cY g ad2 τ ++ [(ad.1, .inr (2, [.ref ad.2.1, .ref ad.2.2.1, .ref ad.2.2.2.1, .ref ad.2.2.2.2, .int (Y_day τ), .int (Y_liftsToday τ), .int (Y_lifts σ), .int (Y_launches σ)])), (ad.2.1, .inl (g.2.1, 220, .inl (Y_facts τ))), (ad.2.2.1, .inl (g.2.1, 3, .inl (Y_cradles τ))), (ad.2.2.2.1, .inl (g.2.1, 4, .inl (Y_metres τ))), (ad.2.2.2.2, .inl (g.2.1, 3, .inl (Y_settings τ)))])) H := hP
  have hD : va_D A ((cY g ad2 τ ++ [(ad.1, .inr (2, [.ref ad.2.1, .ref ad.2.2.1, .ref ad.2.2.2.1, .ref ad.2.2.2.2, .int (Y_day τ), .int (Y_liftsToday τ), .int (Y_lifts σ), .int (Y_launches σ)])), (ad.2.1, .inl (g.2.1, 220, .inl (Y_facts τ))), (ad.2.2.1, .inl (g.2.1, 3, .inl (Y_cradles τ))), (ad.2.2.2.1, .inl (g.2.1, 4, .inl (Y_metres τ))), (ad.2.2.2.2, .inl (g.2.1, 3, .inl (Y_settings τ)))])) := hD
  refine lv_aload_n hx hb dX2_copyFrom_74 rfl (lv_at hl 0 rfl) ?_
  refine lv_aload_n hx hb dX2_copyFrom_75 rfl (lv_at hl 1 rfl) ?_
  refine gt_X2_lifts hC rfl hK hP 0 rfl rfl dX2_copyFrom_76 ?_
  refine pt_X2_lifts hC rfl hK hP hD hS 5 rfl (Nat.le_of_ble_eq_true rfl) dX2_copyFrom_79 (fun H locs hP hD hS => ?_)
  have hP : va_P g.1 vwCl ((cY g ad2 τ ++ [(ad.1, .inr (2, [.ref ad.2.1, .ref ad.2.2.1, .ref ad.2.2.2.1, .ref ad.2.2.2.2, .int (Y_day τ), .int (Y_liftsToday τ), .int (Y_lifts τ), .int (Y_launches σ)])), (ad.2.1, .inl (g.2.1, 220, .inl (Y_facts τ))), (ad.2.2.1, .inl (g.2.1, 3, .inl (Y_cradles τ))), (ad.2.2.2.1, .inl (g.2.1, 4, .inl (Y_metres τ))), (ad.2.2.2.2, .inl (g.2.1, 3, .inl (Y_settings τ)))])) H := hP
  have hD : va_D A ((cY g ad2 τ ++ [(ad.1, .inr (2, [.ref ad.2.1, .ref ad.2.2.1, .ref ad.2.2.2.1, .ref ad.2.2.2.2, .int (Y_day τ), .int (Y_liftsToday τ), .int (Y_lifts τ), .int (Y_launches σ)])), (ad.2.1, .inl (g.2.1, 220, .inl (Y_facts τ))), (ad.2.2.1, .inl (g.2.1, 3, .inl (Y_cradles τ))), (ad.2.2.2.1, .inl (g.2.1, 4, .inl (Y_metres τ))), (ad.2.2.2.2, .inl (g.2.1, 3, .inl (Y_settings τ)))])) := hD
  refine lv_aload_n hx hb dX2_copyFrom_82 rfl (lv_at hl 0 rfl) ?_
  refine lv_aload_n hx hb dX2_copyFrom_83 rfl (lv_at hl 1 rfl) ?_
  refine gt_X2_launches hC rfl hK hP 0 rfl rfl dX2_copyFrom_84 ?_
  refine pt_X2_launches hC rfl hK hP hD hS 5 rfl (Nat.le_of_ble_eq_true rfl) dX2_copyFrom_87 (fun H locs hP hD hS => ?_)
  have hP : va_P g.1 vwCl ((cY g ad2 τ ++ [(ad.1, .inr (2, [.ref ad.2.1, .ref ad.2.2.1, .ref ad.2.2.2.1, .ref ad.2.2.2.2, .int (Y_day τ), .int (Y_liftsToday τ), .int (Y_lifts τ), .int (Y_launches τ)])), (ad.2.1, .inl (g.2.1, 220, .inl (Y_facts τ))), (ad.2.2.1, .inl (g.2.1, 3, .inl (Y_cradles τ))), (ad.2.2.2.1, .inl (g.2.1, 4, .inl (Y_metres τ))), (ad.2.2.2.2, .inl (g.2.1, 3, .inl (Y_settings τ)))])) H := hP
  have hD : va_D A ((cY g ad2 τ ++ [(ad.1, .inr (2, [.ref ad.2.1, .ref ad.2.2.1, .ref ad.2.2.2.1, .ref ad.2.2.2.2, .int (Y_day τ), .int (Y_liftsToday τ), .int (Y_lifts τ), .int (Y_launches τ)])), (ad.2.1, .inl (g.2.1, 220, .inl (Y_facts τ))), (ad.2.2.1, .inl (g.2.1, 3, .inl (Y_cradles τ))), (ad.2.2.2.1, .inl (g.2.1, 4, .inl (Y_metres τ))), (ad.2.2.2.2, .inl (g.2.1, 3, .inl (Y_settings τ)))])) := hD
  exact wv_ret hC hP (hAe ▸ hD) (hAe ▸ hS) dX2_copyFrom_90 rfl
