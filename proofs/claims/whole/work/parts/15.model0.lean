def mX4_in (x1 : Int32) (x2 : Int32) (x3 : Int32) : Int32 := (if x1 < x2 then 0 else (if x3 < x1 then 0 else 1))
theorem in_in4 {x hi : Int32} {k : Nat} (hk : hi.toInt = k) (c : ¬ mX4_in x 0 hi = 0) : vp_in x (k + 1) := by
  unfold mX4_in at c
  rw [in_iff]
  split at c
  · exact absurd rfl c
  · split at c
    · exact absurd rfl c
    · rename_i h1 h2
      rw [lt_ti] at h1 h2
      have : (0 : Int32).toInt = 0 := rfl
      omega
theorem bz_X4_in {x lo hi : Int32} : narrow .boolean (.int (mX4_in x lo hi)) = .int (mX4_in x lo hi) := by
  unfold mX4_in
  split
  · rfl
  · split <;> rfl
set_option maxHeartbeats 4000000 in
set_option maxRecDepth 100000 in
theorem k_X4_in (l : Launch) (g : WG) (x1 : Int32) (x2 : Int32) (x3 : Int32) : Rd l yX4_in cX4_in 3 (some .boolean) 0 (Wl g [] (fun _ => False)) [.int x1, .int x2, .int x3] (mX4_in x1 x2 x3) := by
  refine rd_of (by decide) (Nat.le_of_ble_eq_true rfl) ?_
  intro p e s m args below meth c ls hC hW hl
  obtain ⟨hP, hK, hE⟩ := hW
  obtain ⟨hx, hb, hml, hr, hown, hts, hlk, hnm⟩ := id hC
  have hl : lv_has ls 3 [(0, .int x1), (1, .int x2), (2, .int x3)] := hl
  refine lv_iload_n hx hb dX4_in_0 rfl (lv_at hl 0 rfl) ?_
  refine lv_iload_n hx hb dX4_in_1 rfl (lv_at hl 1 rfl) ?_
  refine lv_icmp_lt (tgt := 14) hx hb dX4_in_2 (by decide) (fun c_1 => ?_) (fun c_1 => ?_)
  · refine lv_iconst (v := 0) hx hb dX4_in_14 (by decide) ?_
    exact rd_zret hC dX4_in_15 rfl (Eq.symm (by unfold mX4_in; rw [if_pos c_1]))
  · refine lv_iload_n hx hb dX4_in_5 rfl (lv_at hl 0 rfl) ?_
    refine lv_iload_n hx hb dX4_in_6 rfl (lv_at hl 2 rfl) ?_
    refine lv_icmp_gt (tgt := 14) hx hb dX4_in_7 (by decide) (fun c_2 => ?_) (fun c_2 => ?_)
    · refine lv_iconst (v := 0) hx hb dX4_in_14 (by decide) ?_
      exact rd_zret hC dX4_in_15 rfl (Eq.symm (by unfold mX4_in; rw [if_neg c_1, if_pos c_2]))
    · refine lv_iconst (v := 1) hx hb dX4_in_10 (by decide) ?_
      refine lv_goto (tgt := 15) hx hb dX4_in_11 (by decide) ?_
      exact rd_zret hC dX4_in_15 rfl (Eq.symm (by unfold mX4_in; rw [if_neg c_1, if_neg c_2]))
def mX4_of (σ : MS) (x1 : Int32) (x2 : Int32) : Int32 := ((M_z σ) ((15 + (12 * x1)) + x2).toNatClampNeg)
set_option maxHeartbeats 4000000 in
set_option maxRecDepth 100000 in
theorem k_X4_of (l : Launch) (g : WG) (ad : AM) (σ : MS) (x1 : Int32) (x2 : Int32) (h_1 : vp_in x1 20) (h_2 : vp_in x2 12) : Rd l yX4_of cX4_of 3 (some .int) 0 (Wl g (cM g ad σ) (fun _ => False)) [.ref ad.1, .int x1, .int x2] (mX4_of σ x1 x2) := by
  refine rd_of (by decide) (Nat.le_of_ble_eq_true rfl) ?_
  intro p e s m args below meth c ls hC hW hl
  obtain ⟨hP, hK, hE⟩ := hW
  obtain ⟨hx, hb, hml, hr, hown, hts, hlk, hnm⟩ := id hC
  have hl : lv_has ls 3 [(0, .ref ad.1), (1, .int x1), (2, .int x2)] := hl
  refine lv_aload_n hx hb dX4_of_0 rfl (lv_at hl 0 rfl) ?_
  refine gM_z hC rfl hK hP dX4_of_1 ?_
  refine lv_bipush (v := 15) hx hb dX4_of_4 (by decide) ?_
  refine lv_bipush (v := 12) hx hb dX4_of_6 (by decide) ?_
  refine lv_iload_n hx hb dX4_of_8 rfl (lv_at hl 1 rfl) ?_
  refine lv_imul hx hb dX4_of_9 ?_
  refine lv_iadd hx hb dX4_of_10 ?_
  refine lv_iload_n hx hb dX4_of_11 rfl (lv_at hl 2 rfl) ?_
  refine lv_iadd hx hb dX4_of_12 ?_
  refine lM_z hC hK hP (ix_12 h_1 h_2) dX4_of_13 ?_
  exact rd_ret hC dX4_of_14 (Eq.symm (by unfold mX4_of; rfl))
def mX4_put (σ : MS) (x1 : Int32) (x2 : Int32) (x3 : Int32) : MS := (M_set_z σ (upd (M_z σ) ((15 + (12 * x1)) + x2).toNatClampNeg x3))
set_option maxHeartbeats 4000000 in
set_option maxRecDepth 100000 in
theorem k_X4_put (l : Launch) (g : WG) (ad : AM) (σ : MS) (x1 : Int32) (x2 : Int32) (x3 : Int32) (h_1 : vp_in x1 20) (h_2 : vp_in x2 12) : Wv l yX4_put cX4_put 4 0 g (cM g ad σ) (cM g ad (mX4_put σ x1 x2 x3)) [.ref ad.1, .int x1, .int x2, .int x3] := by
  refine wv_of (by decide) (Nat.le_of_ble_eq_true rfl) ?_
  intro p e s m args below meth c ls A hC hAe hP hD hK hE hA hS hl
  obtain ⟨hx, hb, hml, hr, hown, hts, hlk, hnm⟩ := id hC
  have hl : lv_has ls 4 [(0, .ref ad.1), (1, .int x1), (2, .int x2), (3, .int x3)] := hl
  refine lv_aload_n hx hb dX4_put_0 rfl (lv_at hl 0 rfl) ?_
  refine gM_z hC rfl hK hP dX4_put_1 ?_
  refine lv_bipush (v := 15) hx hb dX4_put_4 (by decide) ?_
  refine lv_bipush (v := 12) hx hb dX4_put_6 (by decide) ?_
  refine lv_iload_n hx hb dX4_put_8 rfl (lv_at hl 1 rfl) ?_
  refine lv_imul hx hb dX4_put_9 ?_
  refine lv_iadd hx hb dX4_put_10 ?_
  refine lv_iload_n hx hb dX4_put_11 rfl (lv_at hl 2 rfl) ?_
  refine lv_iadd hx hb dX4_put_12 ?_
  refine lv_iload_n hx hb dX4_put_13 rfl (lv_at hl 3 rfl) ?_
  refine sM_z hC hK hP hD hS (ix_12 h_1 h_2) dX4_put_14 (fun H locs hP hD hS => ?_)
  have hm : mX4_put σ x1 x2 x3 = (M_set_z σ (upd (M_z σ) ((15 + (12 * x1)) + x2).toNatClampNeg x3)) := by unfold mX4_put; rfl
  exact wv_ret hC hP (hAe ▸ hD) (hAe ▸ hS) dX4_put_15 (by rw [hm])
def mX4_isBoat (σ : MS) (x1 : Int32) : Int32 := (if (mX4_in x1 0 19) = 0 then 0 else (if (mX4_of σ x1 0) = 1 then 1 else 0))
theorem in_X4_isBoat {σ : MS} {x : Int32} (c : ¬ mX4_isBoat σ x = 0) : vp_in x 20 := by
  unfold mX4_isBoat at c
  split at c
  · exact absurd rfl c
  · rename_i h
    exact in_in4 (k := 19) rfl h
set_option maxHeartbeats 4000000 in
set_option maxRecDepth 100000 in
theorem k_X4_isBoat (l : Launch) (g : WG) (ad : AM) (σ : MS) (x1 : Int32) : Rd l yX4_isBoat cX4_isBoat 2 (some .boolean) 1 (Wl g (cM g ad σ) (fun _ => False)) [.ref ad.1, .int x1] (mX4_isBoat σ x1) := by
  refine rd_of (by decide) (Nat.le_of_ble_eq_true rfl) ?_
  intro p e s m args below meth c ls hC hW hl
  obtain ⟨hP, hK, hE⟩ := hW
  obtain ⟨hx, hb, hml, hr, hown, hts, hlk, hnm⟩ := id hC
  have hl : lv_has ls 2 [(0, .ref ad.1), (1, .int x1)] := hl
  refine lv_iload_n hx hb dX4_isBoat_0 rfl (lv_at hl 1 rfl) ?_
  refine lv_iconst (v := 0) hx hb dX4_isBoat_1 (by decide) ?_
  refine lv_bipush (v := 19) hx hb dX4_isBoat_2 (by decide) ?_
  refine callRs hC (k_X4_in l g x1 0 19) ci_X4_in lk_X4_32 ⟨Nat.le_of_ble_eq_true rfl, Nat.le_of_ble_eq_true rfl⟩ hK hE rfl hl.1 rfl (Nat.le_of_ble_eq_true rfl) dX4_isBoat_4 ⟨Nat.zero_le _, Nat.zero_le _⟩ ?_
  refine lv_if_eq (tgt := 24) hx hb dX4_isBoat_7 (by decide) (fun c_1 => ?_) (fun c_1 => ?_)
  · refine lv_iconst (v := 0) hx hb dX4_isBoat_24 (by decide) ?_
    exact rd_zret hC dX4_isBoat_25 rfl (Eq.symm (by unfold mX4_isBoat; rw [if_pos c_1]))
  · refine lv_aload_n hx hb dX4_isBoat_10 rfl (lv_at hl 0 rfl) ?_
    refine lv_iload_n hx hb dX4_isBoat_11 rfl (lv_at hl 1 rfl) ?_
    refine lv_iconst (v := 0) hx hb dX4_isBoat_12 (by decide) ?_
    refine callRd hC (k_X4_of l g ad σ x1 0 (in_in4 (k := 19) rfl c_1) (in_iff.mpr (by decide))) ci_X4_of lk_X4_36 ⟨Nat.le_of_ble_eq_true rfl, Nat.le_of_ble_eq_true rfl⟩ hP hK hE (q0 := 0) rfl rfl rfl rfl hl.1 rfl (Nat.le_of_ble_eq_true rfl) dX4_isBoat_13 ⟨Nat.zero_le _, Nat.zero_le _⟩ ?_
    refine lv_iconst (v := 1) hx hb dX4_isBoat_16 (by decide) ?_
    refine lv_icmp_ne (tgt := 24) hx hb dX4_isBoat_17 (by decide) (fun c_2 => ?_) (fun c_2 => ?_)
    · refine lv_iconst (v := 0) hx hb dX4_isBoat_24 (by decide) ?_
      exact rd_zret hC dX4_isBoat_25 rfl (Eq.symm (by unfold mX4_isBoat; rw [if_neg c_1, if_neg c_2]))
    · refine lv_iconst (v := 1) hx hb dX4_isBoat_20 (by decide) ?_
      refine lv_goto (tgt := 25) hx hb dX4_isBoat_21 (by decide) ?_
      exact rd_zret hC dX4_isBoat_25 rfl (Eq.symm (by unfold mX4_isBoat; rw [if_neg c_1, if_pos c_2]))
def mX4_isRow (x1 : Int32) : Int32 := (mX4_in x1 0 3)
theorem in_X4_isRow {x : Int32} (c : ¬ mX4_isRow x = 0) : vp_in x 4 := in_in4 (k := 3) rfl c
set_option maxHeartbeats 4000000 in
set_option maxRecDepth 100000 in
theorem k_X4_isRow (l : Launch) (g : WG) (x1 : Int32) : Rd l yX4_isRow cX4_isRow 1 (some .boolean) 1 (Wl g [] (fun _ => False)) [.int x1] (mX4_isRow x1) := by
  refine rd_of (by decide) (Nat.le_of_ble_eq_true rfl) ?_
  intro p e s m args below meth c ls hC hW hl
  obtain ⟨hP, hK, hE⟩ := hW
  obtain ⟨hx, hb, hml, hr, hown, hts, hlk, hnm⟩ := id hC
  have hl : lv_has ls 1 [(0, .int x1)] := hl
  refine lv_iload_n hx hb dX4_isRow_0 rfl (lv_at hl 0 rfl) ?_
  refine lv_iconst (v := 0) hx hb dX4_isRow_1 (by decide) ?_
  refine lv_iconst (v := 3) hx hb dX4_isRow_2 (by decide) ?_
  refine callRs hC (k_X4_in l g x1 0 3) ci_X4_in lk_X4_32 ⟨Nat.le_of_ble_eq_true rfl, Nat.le_of_ble_eq_true rfl⟩ hK hE rfl hl.1 rfl (Nat.le_of_ble_eq_true rfl) dX4_isRow_3 ⟨Nat.zero_le _, Nat.zero_le _⟩ ?_
  exact rd_zret hC dX4_isRow_6 (bz_X4_in ..) (Eq.symm (by unfold mX4_isRow; rfl))
def mX4_isKind (x1 : Int32) : Int32 := (mX4_in x1 0 2)
theorem in_X4_isKind {x : Int32} (c : ¬ mX4_isKind x = 0) : vp_in x 3 := in_in4 (k := 2) rfl c
set_option maxHeartbeats 4000000 in
set_option maxRecDepth 100000 in
theorem k_X4_isKind (l : Launch) (g : WG) (x1 : Int32) : Rd l yX4_isKind cX4_isKind 1 (some .boolean) 1 (Wl g [] (fun _ => False)) [.int x1] (mX4_isKind x1) := by
  refine rd_of (by decide) (Nat.le_of_ble_eq_true rfl) ?_
  intro p e s m args below meth c ls hC hW hl
  obtain ⟨hP, hK, hE⟩ := hW
  obtain ⟨hx, hb, hml, hr, hown, hts, hlk, hnm⟩ := id hC
  have hl : lv_has ls 1 [(0, .int x1)] := hl
  refine lv_iload_n hx hb dX4_isKind_0 rfl (lv_at hl 0 rfl) ?_
  refine lv_iconst (v := 0) hx hb dX4_isKind_1 (by decide) ?_
  refine lv_iconst (v := 2) hx hb dX4_isKind_2 (by decide) ?_
  refine callRs hC (k_X4_in l g x1 0 2) ci_X4_in lk_X4_32 ⟨Nat.le_of_ble_eq_true rfl, Nat.le_of_ble_eq_true rfl⟩ hK hE rfl hl.1 rfl (Nat.le_of_ble_eq_true rfl) dX4_isKind_3 ⟨Nat.zero_le _, Nat.zero_le _⟩ ?_
  exact rd_zret hC dX4_isKind_6 (bz_X4_in ..) (Eq.symm (by unfold mX4_isKind; rfl))
def mX4_isAshore (σ : MS) (x1 : Int32) : Int32 := (if (mX4_of σ x1 5) < 0 then 0 else 1)
set_option maxHeartbeats 4000000 in
set_option maxRecDepth 100000 in
theorem k_X4_isAshore (l : Launch) (g : WG) (ad : AM) (σ : MS) (x1 : Int32) (h_1 : vp_in x1 20) : Rd l yX4_isAshore cX4_isAshore 2 (some .boolean) 1 (Wl g (cM g ad σ) (fun _ => False)) [.ref ad.1, .int x1] (mX4_isAshore σ x1) := by
  refine rd_of (by decide) (Nat.le_of_ble_eq_true rfl) ?_
  intro p e s m args below meth c ls hC hW hl
  obtain ⟨hP, hK, hE⟩ := hW
  obtain ⟨hx, hb, hml, hr, hown, hts, hlk, hnm⟩ := id hC
  have hl : lv_has ls 2 [(0, .ref ad.1), (1, .int x1)] := hl
  refine lv_aload_n hx hb dX4_isAshore_0 rfl (lv_at hl 0 rfl) ?_
  refine lv_iload_n hx hb dX4_isAshore_1 rfl (lv_at hl 1 rfl) ?_
  refine lv_iconst (v := 5) hx hb dX4_isAshore_2 (by decide) ?_
  refine callRd hC (k_X4_of l g ad σ x1 5 h_1 (in_iff.mpr (by decide))) ci_X4_of lk_X4_36 ⟨Nat.le_of_ble_eq_true rfl, Nat.le_of_ble_eq_true rfl⟩ hP hK hE (q0 := 0) rfl rfl rfl rfl hl.1 rfl (Nat.le_of_ble_eq_true rfl) dX4_isAshore_3 ⟨Nat.zero_le _, Nat.zero_le _⟩ ?_
  refine lv_if_lt (tgt := 13) hx hb dX4_isAshore_6 (by decide) (fun c_1 => ?_) (fun c_1 => ?_)
  · refine lv_iconst (v := 0) hx hb dX4_isAshore_13 (by decide) ?_
    exact rd_zret hC dX4_isAshore_14 rfl (Eq.symm (by unfold mX4_isAshore; rw [if_pos c_1]))
  · refine lv_iconst (v := 1) hx hb dX4_isAshore_9 (by decide) ?_
    refine lv_goto (tgt := 14) hx hb dX4_isAshore_10 (by decide) ?_
    exact rd_zret hC dX4_isAshore_14 rfl (Eq.symm (by unfold mX4_isAshore; rw [if_neg c_1]))
def mX4_isIn (σ : MS) (x1 : Int32) (x2 : Int32) : Int32 := (if (mX4_of σ x1 0) = 1 then (if (mX4_of σ x1 5) = x2 then 1 else 0) else 0)
set_option maxHeartbeats 4000000 in
set_option maxRecDepth 100000 in
theorem k_X4_isIn (l : Launch) (g : WG) (ad : AM) (σ : MS) (x1 : Int32) (x2 : Int32) (h_1 : vp_in x1 20) : Rd l yX4_isIn cX4_isIn 3 (some .boolean) 1 (Wl g (cM g ad σ) (fun _ => False)) [.ref ad.1, .int x1, .int x2] (mX4_isIn σ x1 x2) := by
  refine rd_of (by decide) (Nat.le_of_ble_eq_true rfl) ?_
  intro p e s m args below meth c ls hC hW hl
  obtain ⟨hP, hK, hE⟩ := hW
  obtain ⟨hx, hb, hml, hr, hown, hts, hlk, hnm⟩ := id hC
  have hl : lv_has ls 3 [(0, .ref ad.1), (1, .int x1), (2, .int x2)] := hl
  refine lv_aload_n hx hb dX4_isIn_0 rfl (lv_at hl 0 rfl) ?_
  refine lv_iload_n hx hb dX4_isIn_1 rfl (lv_at hl 1 rfl) ?_
  refine lv_iconst (v := 0) hx hb dX4_isIn_2 (by decide) ?_
  refine callRd hC (k_X4_of l g ad σ x1 0 h_1 (in_iff.mpr (by decide))) ci_X4_of lk_X4_36 ⟨Nat.le_of_ble_eq_true rfl, Nat.le_of_ble_eq_true rfl⟩ hP hK hE (q0 := 0) rfl rfl rfl rfl hl.1 rfl (Nat.le_of_ble_eq_true rfl) dX4_isIn_3 ⟨Nat.zero_le _, Nat.zero_le _⟩ ?_
  refine lv_iconst (v := 1) hx hb dX4_isIn_6 (by decide) ?_
  refine lv_icmp_ne (tgt := 24) hx hb dX4_isIn_7 (by decide) (fun c_1 => ?_) (fun c_1 => ?_)
  · refine lv_iconst (v := 0) hx hb dX4_isIn_24 (by decide) ?_
    exact rd_zret hC dX4_isIn_25 rfl (Eq.symm (by unfold mX4_isIn; rw [if_neg c_1]))
  · refine lv_aload_n hx hb dX4_isIn_10 rfl (lv_at hl 0 rfl) ?_
    refine lv_iload_n hx hb dX4_isIn_11 rfl (lv_at hl 1 rfl) ?_
    refine lv_iconst (v := 5) hx hb dX4_isIn_12 (by decide) ?_
    refine callRd hC (k_X4_of l g ad σ x1 5 h_1 (in_iff.mpr (by decide))) ci_X4_of lk_X4_36 ⟨Nat.le_of_ble_eq_true rfl, Nat.le_of_ble_eq_true rfl⟩ hP hK hE (q0 := 0) rfl rfl rfl rfl hl.1 rfl (Nat.le_of_ble_eq_true rfl) dX4_isIn_13 ⟨Nat.zero_le _, Nat.zero_le _⟩ ?_
    refine lv_iload_n hx hb dX4_isIn_16 rfl (lv_at hl 2 rfl) ?_
    refine lv_icmp_ne (tgt := 24) hx hb dX4_isIn_17 (by decide) (fun c_2 => ?_) (fun c_2 => ?_)
    · refine lv_iconst (v := 0) hx hb dX4_isIn_24 (by decide) ?_
      exact rd_zret hC dX4_isIn_25 rfl (Eq.symm (by unfold mX4_isIn; rw [if_pos c_1, if_neg c_2]))
    · refine lv_iconst (v := 1) hx hb dX4_isIn_20 (by decide) ?_
      refine lv_goto (tgt := 25) hx hb dX4_isIn_21 (by decide) ?_
      exact rd_zret hC dX4_isIn_25 rfl (Eq.symm (by unfold mX4_isIn; rw [if_pos c_1, if_pos c_2]))
def mX4_tideAt (σ : MS) (x1 : Int32) : Int32 := (if 0 ≤ ((x1 - ((x1 / 14) * 14)) - 7) then (30 + (((M_z σ) (2 : Int32).toNatClampNeg) * ((x1 - ((x1 / 14) * 14)) - 7))) else (30 + (((M_z σ) (2 : Int32).toNatClampNeg) * (-((x1 - ((x1 / 14) * 14)) - 7)))))
set_option maxHeartbeats 4000000 in
set_option maxRecDepth 100000 in
theorem k_X4_tideAt (l : Launch) (g : WG) (ad : AM) (σ : MS) (x1 : Int32) : Rd l yX4_tideAt cX4_tideAt 3 (some .int) 0 (Wl g (cM g ad σ) (fun _ => False)) [.ref ad.1, .int x1] (mX4_tideAt σ x1) := by
  refine rd_of (by decide) (Nat.le_of_ble_eq_true rfl) ?_
  intro p e s m args below meth c ls hC hW hl
  obtain ⟨hP, hK, hE⟩ := hW
  obtain ⟨hx, hb, hml, hr, hown, hts, hlk, hnm⟩ := id hC
  have hl : lv_has ls 3 [(0, .ref ad.1), (1, .int x1)] := hl
  refine lv_iload_n hx hb dX4_tideAt_0 rfl (lv_at hl 1 rfl) ?_
  refine lv_bipush (v := 14) hx hb dX4_tideAt_1 (by decide) ?_
  refine lv_irem hx hb dX4_tideAt_3 (by decide) ?_
  refine lv_bipush (v := 7) hx hb dX4_tideAt_4 (by decide) ?_
  refine lv_isub hx hb dX4_tideAt_6 ?_
  refine lv_istore_n (lv' := [(2, .int ((x1 - ((x1 / 14) * 14)) - 7)), (0, .ref ad.1), (1, .int x1)]) hx hb dX4_tideAt_7 rfl hl (by decide) rfl (fun ls hl => ?_)
  refine lv_bipush (v := 30) hx hb dX4_tideAt_8 (by decide) ?_
  refine lv_aload_n hx hb dX4_tideAt_10 rfl (lv_at hl 1 rfl) ?_
  refine gM_z hC rfl hK hP dX4_tideAt_11 ?_
  refine lv_iconst (v := 2) hx hb dX4_tideAt_14 (by decide) ?_
  refine lM_z hC hK hP (in_iff.mpr (by decide)) dX4_tideAt_15 ?_
  refine lv_iload_n hx hb dX4_tideAt_16 rfl (lv_at hl 0 rfl) ?_
  refine lv_if_ge (tgt := 25) hx hb dX4_tideAt_17 (by decide) (fun c_1 => ?_) (fun c_1 => ?_)
  · refine lv_iload_n hx hb dX4_tideAt_25 rfl (lv_at hl 0 rfl) ?_
    refine lv_imul hx hb dX4_tideAt_26 ?_
    refine lv_iadd hx hb dX4_tideAt_27 ?_
    exact rd_ret hC dX4_tideAt_28 (Eq.symm (by unfold mX4_tideAt; rw [if_pos c_1]))
  · refine lv_iload_n hx hb dX4_tideAt_20 rfl (lv_at hl 0 rfl) ?_
    refine lv_ineg hx hb dX4_tideAt_21 ?_
    refine lv_goto (tgt := 26) hx hb dX4_tideAt_22 (by decide) ?_
    refine lv_imul hx hb dX4_tideAt_26 ?_
    refine lv_iadd hx hb dX4_tideAt_27 ?_
    exact rd_ret hC dX4_tideAt_28 (Eq.symm (by unfold mX4_tideAt; rw [if_neg c_1]))
def mX4_liftsLeft (σ : MS) : Int32 := (if ((M_z σ) (3 : Int32).toNatClampNeg) ≤ ((M_z σ) (1 : Int32).toNatClampNeg) then 0 else (((M_z σ) (3 : Int32).toNatClampNeg) - ((M_z σ) (1 : Int32).toNatClampNeg)))
set_option maxHeartbeats 4000000 in
set_option maxRecDepth 100000 in
theorem k_X4_liftsLeft (l : Launch) (g : WG) (ad : AM) (σ : MS) : Rd l yX4_liftsLeft cX4_liftsLeft 1 (some .int) 0 (Wl g (cM g ad σ) (fun _ => False)) [.ref ad.1] (mX4_liftsLeft σ) := by
  refine rd_of (by decide) (Nat.le_of_ble_eq_true rfl) ?_
  intro p e s m args below meth c ls hC hW hl
  obtain ⟨hP, hK, hE⟩ := hW
  obtain ⟨hx, hb, hml, hr, hown, hts, hlk, hnm⟩ := id hC
  have hl : lv_has ls 1 [(0, .ref ad.1)] := hl
  refine lv_aload_n hx hb dX4_liftsLeft_0 rfl (lv_at hl 0 rfl) ?_
  refine gM_z hC rfl hK hP dX4_liftsLeft_1 ?_
  refine lv_iconst (v := 1) hx hb dX4_liftsLeft_4 (by decide) ?_
  refine lM_z hC hK hP (in_iff.mpr (by decide)) dX4_liftsLeft_5 ?_
  refine lv_aload_n hx hb dX4_liftsLeft_6 rfl (lv_at hl 0 rfl) ?_
  refine gM_z hC rfl hK hP dX4_liftsLeft_7 ?_
  refine lv_iconst (v := 3) hx hb dX4_liftsLeft_10 (by decide) ?_
  refine lM_z hC hK hP (in_iff.mpr (by decide)) dX4_liftsLeft_11 ?_
  refine lv_icmp_ge (tgt := 31) hx hb dX4_liftsLeft_12 (by decide) (fun c_1 => ?_) (fun c_1 => ?_)
  · refine lv_iconst (v := 0) hx hb dX4_liftsLeft_31 (by decide) ?_
    exact rd_ret hC dX4_liftsLeft_32 (Eq.symm (by unfold mX4_liftsLeft; rw [if_pos c_1]))
  · refine lv_aload_n hx hb dX4_liftsLeft_15 rfl (lv_at hl 0 rfl) ?_
    refine gM_z hC rfl hK hP dX4_liftsLeft_16 ?_
    refine lv_iconst (v := 3) hx hb dX4_liftsLeft_19 (by decide) ?_
    refine lM_z hC hK hP (in_iff.mpr (by decide)) dX4_liftsLeft_20 ?_
    refine lv_aload_n hx hb dX4_liftsLeft_21 rfl (lv_at hl 0 rfl) ?_
    refine gM_z hC rfl hK hP dX4_liftsLeft_22 ?_
    refine lv_iconst (v := 1) hx hb dX4_liftsLeft_25 (by decide) ?_
    refine lM_z hC hK hP (in_iff.mpr (by decide)) dX4_liftsLeft_26 ?_
    refine lv_isub hx hb dX4_liftsLeft_27 ?_
    refine lv_goto (tgt := 32) hx hb dX4_liftsLeft_28 (by decide) ?_
    exact rd_ret hC dX4_liftsLeft_32 (Eq.symm (by unfold mX4_liftsLeft; rw [if_neg c_1]))
def mX4_bears (x1 : Int32) : Int32 := (if x1 = 0 then 30 else (if x1 = 1 then 12 else 20))
set_option maxHeartbeats 4000000 in
set_option maxRecDepth 100000 in
theorem k_X4_bears (l : Launch) (g : WG) (x1 : Int32) : Rd l yX4_bears cX4_bears 1 (some .int) 0 (Wl g [] (fun _ => False)) [.int x1] (mX4_bears x1) := by
  refine rd_of (by decide) (Nat.le_of_ble_eq_true rfl) ?_
  intro p e s m args below meth c ls hC hW hl
  obtain ⟨hP, hK, hE⟩ := hW
  obtain ⟨hx, hb, hml, hr, hown, hts, hlk, hnm⟩ := id hC
  have hl : lv_has ls 1 [(0, .int x1)] := hl
  refine lv_iload_n hx hb dX4_bears_0 rfl (lv_at hl 0 rfl) ?_
  refine lv_if_ne (tgt := 9) hx hb dX4_bears_1 (by decide) (fun c_1 => ?_) (fun c_1 => ?_)
  · refine lv_iload_n hx hb dX4_bears_9 rfl (lv_at hl 0 rfl) ?_
    refine lv_iconst (v := 1) hx hb dX4_bears_10 (by decide) ?_
    refine lv_icmp_ne (tgt := 19) hx hb dX4_bears_11 (by decide) (fun c_2 => ?_) (fun c_2 => ?_)
    · refine lv_bipush (v := 20) hx hb dX4_bears_19 (by decide) ?_
      exact rd_ret hC dX4_bears_21 (Eq.symm (by unfold mX4_bears; rw [if_neg c_1, if_neg c_2]))
    · refine lv_bipush (v := 12) hx hb dX4_bears_14 (by decide) ?_
      refine lv_goto (tgt := 21) hx hb dX4_bears_16 (by decide) ?_
      exact rd_ret hC dX4_bears_21 (Eq.symm (by unfold mX4_bears; rw [if_neg c_1, if_pos c_2]))
  · refine lv_bipush (v := 30) hx hb dX4_bears_4 (by decide) ?_
    refine lv_goto (tgt := 21) hx hb dX4_bears_6 (by decide) ?_
    exact rd_ret hC dX4_bears_21 (Eq.symm (by unfold mX4_bears; rw [if_pos c_1]))
def mX4_taken_L4 (σ : MS) (x1 : Int32) : Nat → Int32 → Int32 → Int32
  | 0, _, _ => 0
  | n + 1, u3, u2 => (if 20 ≤ u3 then u2 else (if (mX4_of σ u3 0) = 1 then (if (mX4_isAshore σ u3) = 0 then (mX4_taken_L4 σ x1 n (u3 + 1) (u2 + 0)) else (if (mX4_of σ u3 6) = x1 then (mX4_taken_L4 σ x1 n (u3 + 1) (u2 + 1)) else (mX4_taken_L4 σ x1 n (u3 + 1) (u2 + 0)))) else (mX4_taken_L4 σ x1 n (u3 + 1) (u2 + 0))))
set_option maxHeartbeats 4000000 in
set_option maxRecDepth 100000 in
theorem q_X4_taken_4 {p : Program} {e : Env} {s : State} {m : MethodId} {args : Array Value} {below : List Frame} {meth : Method} {c : Code} (l : Launch) (g : WG) (ad : AM) (σ : MS) (x1 : Int32) (hC : Cx p s m args meth c yX4_taken cX4_taken 4 (some .int)) (hP : va_P g.1 vwCl (cM g ad σ) s.heap) (hK : va_K g.1 vwCl (tysW g) s) (hE : Ex (fun _ => False) s s.heap) {r : Int32} : ∀ (n : Nat) (u3 : Int32) (u2 : Int32) (hi0 : 0 ≤ u3.toInt) (hi1 : u3.toInt ≤ 20) (hm : ((21 : Int) - u3.toInt).toNat < n) (hR : r = mX4_taken_L4 σ x1 n u3 u2) (ls : Array Slot) (hl : lv_has ls 4 [(3, .int u3), (2, .int u2), (0, .ref ad.1), (1, .int x1)]), W p l e (rk 2) s m args below meth c s.heap [] 0 0 (MQ below (vp_Si (fun x => x = r)) args s 0 0 (fun _ => False)) (F0 m 4 ls []) := by
  obtain ⟨hx, hb, hml, hr, hown, hts, hlk, hnm⟩ := id hC
  intro n
  induction n with
  | zero => intro u3 u2 hi0 hi1 hm hR ls hl; exact absurd hm (Nat.not_lt_zero _)
  | succ n ih =>
    intro u3 u2 hi0 hi1 hm hR ls hl
    refine lv_iload_n hx hb dX4_taken_4 rfl (lv_at hl 0 rfl) ?_
    refine lv_bipush (v := 20) hx hb dX4_taken_5 (by decide) ?_
    refine lv_icmp_ge (tgt := 53) hx hb dX4_taken_7 (by decide) (fun c_1 => ?_) (fun c_1 => ?_)
    · refine lv_iload_n hx hb dX4_taken_53 rfl (lv_at hl 1 rfl) ?_
      exact rd_ret hC dX4_taken_54 (Eq.symm (by rw [hR, mX4_taken_L4, if_pos c_1]))
    · refine lv_iload_n hx hb dX4_taken_10 rfl (lv_at hl 1 rfl) ?_
      refine lv_aload_n hx hb dX4_taken_11 rfl (lv_at hl 2 rfl) ?_
      refine lv_iload_n hx hb dX4_taken_12 rfl (lv_at hl 0 rfl) ?_
      refine lv_iconst (v := 0) hx hb dX4_taken_13 (by decide) ?_
      refine callRd hC (k_X4_of l g ad σ u3 0 (in_up (n := 20) rfl hi0 c_1) (in_iff.mpr (by decide))) ci_X4_of lk_X4_36 ⟨Nat.le_of_ble_eq_true rfl, Nat.le_of_ble_eq_true rfl⟩ hP hK hE (q0 := 0) rfl rfl rfl rfl hl.1 rfl (Nat.le_of_ble_eq_true rfl) dX4_taken_14 ⟨Nat.zero_le _, Nat.zero_le _⟩ ?_
      refine lv_iconst (v := 1) hx hb dX4_taken_17 (by decide) ?_
      refine lv_icmp_ne (tgt := 44) hx hb dX4_taken_18 (by decide) (fun c_2 => ?_) (fun c_2 => ?_)
      · refine lv_iconst (v := 0) hx hb dX4_taken_44 (by decide) ?_
        refine lv_iadd hx hb dX4_taken_45 ?_
        refine lv_istore_n (lv' := [(2, .int (u2 + 0)), (3, .int u3), (0, .ref ad.1), (1, .int x1)]) hx hb dX4_taken_46 rfl hl (by decide) rfl (fun ls hl => ?_)
        refine lv_iinc (v := (u3 + 1)) (lv' := [(3, .int (u3 + 1)), (2, .int (u2 + 0)), (0, .ref ad.1), (1, .int x1)]) hx hb dX4_taken_47 hl (k := 1) rfl rfl (by decide) rfl (fun ls hl => ?_)
        refine lv_goto (tgt := 4) hx hb dX4_taken_50 (by decide) ?_
        have e9 := up_add (d := 1) (k := 1) (M := 20) rfl hi0 hi1 (by decide) (by decide)
        have e8 := nle_ti (k := 20) rfl c_1
        exact ih (u3 + 1) (u2 + 0) (by rw [e9]; omega) (by rw [e9]; omega) (by rw [e9]; omega) (by rw [hR, mX4_taken_L4, if_neg c_1, if_neg c_2]) _ (lv_sub hl [0, 1, 2, 3] rfl)
      · refine lv_aload_n hx hb dX4_taken_21 rfl (lv_at hl 2 rfl) ?_
        refine lv_iload_n hx hb dX4_taken_22 rfl (lv_at hl 0 rfl) ?_
        refine callRd hC (k_X4_isAshore l g ad σ u3 (in_up (n := 20) rfl hi0 c_1)) ci_X4_isAshore lk_X4_40 ⟨Nat.le_of_ble_eq_true rfl, Nat.le_of_ble_eq_true rfl⟩ hP hK hE (q0 := 0) rfl rfl rfl rfl hl.1 rfl (Nat.le_of_ble_eq_true rfl) dX4_taken_23 ⟨Nat.zero_le _, Nat.zero_le _⟩ ?_
        refine lv_if_eq (tgt := 44) hx hb dX4_taken_26 (by decide) (fun c_3 => ?_) (fun c_3 => ?_)
        · refine lv_iconst (v := 0) hx hb dX4_taken_44 (by decide) ?_
          refine lv_iadd hx hb dX4_taken_45 ?_
          refine lv_istore_n (lv' := [(2, .int (u2 + 0)), (3, .int u3), (0, .ref ad.1), (1, .int x1)]) hx hb dX4_taken_46 rfl hl (by decide) rfl (fun ls hl => ?_)
          refine lv_iinc (v := (u3 + 1)) (lv' := [(3, .int (u3 + 1)), (2, .int (u2 + 0)), (0, .ref ad.1), (1, .int x1)]) hx hb dX4_taken_47 hl (k := 1) rfl rfl (by decide) rfl (fun ls hl => ?_)
          refine lv_goto (tgt := 4) hx hb dX4_taken_50 (by decide) ?_
          have e9 := up_add (d := 1) (k := 1) (M := 20) rfl hi0 hi1 (by decide) (by decide)
          have e8 := nle_ti (k := 20) rfl c_1
          exact ih (u3 + 1) (u2 + 0) (by rw [e9]; omega) (by rw [e9]; omega) (by rw [e9]; omega) (by rw [hR, mX4_taken_L4, if_neg c_1, if_pos c_2, if_pos c_3]) _ (lv_sub hl [0, 1, 2, 3] rfl)
        · refine lv_aload_n hx hb dX4_taken_29 rfl (lv_at hl 2 rfl) ?_
          refine lv_iload_n hx hb dX4_taken_30 rfl (lv_at hl 0 rfl) ?_
          refine lv_bipush (v := 6) hx hb dX4_taken_31 (by decide) ?_
          refine callRd hC (k_X4_of l g ad σ u3 6 (in_up (n := 20) rfl hi0 c_1) (in_iff.mpr (by decide))) ci_X4_of lk_X4_36 ⟨Nat.le_of_ble_eq_true rfl, Nat.le_of_ble_eq_true rfl⟩ hP hK hE (q0 := 0) rfl rfl rfl rfl hl.1 rfl (Nat.le_of_ble_eq_true rfl) dX4_taken_33 ⟨Nat.zero_le _, Nat.zero_le _⟩ ?_
          refine lv_iload_n hx hb dX4_taken_36 rfl (lv_at hl 3 rfl) ?_
          refine lv_icmp_ne (tgt := 44) hx hb dX4_taken_37 (by decide) (fun c_4 => ?_) (fun c_4 => ?_)
          · refine lv_iconst (v := 0) hx hb dX4_taken_44 (by decide) ?_
            refine lv_iadd hx hb dX4_taken_45 ?_
            refine lv_istore_n (lv' := [(2, .int (u2 + 0)), (3, .int u3), (0, .ref ad.1), (1, .int x1)]) hx hb dX4_taken_46 rfl hl (by decide) rfl (fun ls hl => ?_)
            refine lv_iinc (v := (u3 + 1)) (lv' := [(3, .int (u3 + 1)), (2, .int (u2 + 0)), (0, .ref ad.1), (1, .int x1)]) hx hb dX4_taken_47 hl (k := 1) rfl rfl (by decide) rfl (fun ls hl => ?_)
            refine lv_goto (tgt := 4) hx hb dX4_taken_50 (by decide) ?_
            have e9 := up_add (d := 1) (k := 1) (M := 20) rfl hi0 hi1 (by decide) (by decide)
            have e8 := nle_ti (k := 20) rfl c_1
            exact ih (u3 + 1) (u2 + 0) (by rw [e9]; omega) (by rw [e9]; omega) (by rw [e9]; omega) (by rw [hR, mX4_taken_L4, if_neg c_1, if_pos c_2, if_neg c_3, if_neg c_4]) _ (lv_sub hl [0, 1, 2, 3] rfl)
          · refine lv_iconst (v := 1) hx hb dX4_taken_40 (by decide) ?_
            refine lv_goto (tgt := 45) hx hb dX4_taken_41 (by decide) ?_
            refine lv_iadd hx hb dX4_taken_45 ?_
            refine lv_istore_n (lv' := [(2, .int (u2 + 1)), (3, .int u3), (0, .ref ad.1), (1, .int x1)]) hx hb dX4_taken_46 rfl hl (by decide) rfl (fun ls hl => ?_)
            refine lv_iinc (v := (u3 + 1)) (lv' := [(3, .int (u3 + 1)), (2, .int (u2 + 1)), (0, .ref ad.1), (1, .int x1)]) hx hb dX4_taken_47 hl (k := 1) rfl rfl (by decide) rfl (fun ls hl => ?_)
            refine lv_goto (tgt := 4) hx hb dX4_taken_50 (by decide) ?_
            have e9 := up_add (d := 1) (k := 1) (M := 20) rfl hi0 hi1 (by decide) (by decide)
            have e8 := nle_ti (k := 20) rfl c_1
            exact ih (u3 + 1) (u2 + 1) (by rw [e9]; omega) (by rw [e9]; omega) (by rw [e9]; omega) (by rw [hR, mX4_taken_L4, if_neg c_1, if_pos c_2, if_neg c_3, if_pos c_4]) _ (lv_sub hl [0, 1, 2, 3] rfl)
def mX4_taken (σ : MS) (x1 : Int32) : Int32 := (mX4_taken_L4 σ x1 22 0 0)
set_option maxHeartbeats 4000000 in
set_option maxRecDepth 100000 in
theorem k_X4_taken (l : Launch) (g : WG) (ad : AM) (σ : MS) (x1 : Int32) : Rd l yX4_taken cX4_taken 4 (some .int) 2 (Wl g (cM g ad σ) (fun _ => False)) [.ref ad.1, .int x1] (mX4_taken σ x1) := by
  refine rd_of (by decide) (Nat.le_of_ble_eq_true rfl) ?_
  intro p e s m args below meth c ls hC hW hl
  obtain ⟨hP, hK, hE⟩ := hW
  obtain ⟨hx, hb, hml, hr, hown, hts, hlk, hnm⟩ := id hC
  have hl : lv_has ls 4 [(0, .ref ad.1), (1, .int x1)] := hl
  refine lv_iconst (v := 0) hx hb dX4_taken_0 (by decide) ?_
  refine lv_istore_n (lv' := [(2, .int 0), (0, .ref ad.1), (1, .int x1)]) hx hb dX4_taken_1 rfl hl (by decide) rfl (fun ls hl => ?_)
  refine lv_iconst (v := 0) hx hb dX4_taken_2 (by decide) ?_
  refine lv_istore_n (lv' := [(3, .int 0), (2, .int 0), (0, .ref ad.1), (1, .int x1)]) hx hb dX4_taken_3 rfl hl (by decide) rfl (fun ls hl => ?_)
  refine q_X4_taken_4 l g ad σ x1 hC hP hK hE 22 0 0 (by decide) (by decide) (by decide) ?_ _ (lv_sub hl [0, 1, 2, 3] rfl)
  exact by unfold mX4_taken; rfl
def mX4_isFree (σ : MS) (x1 : Int32) : Int32 := (if ((M_z σ) (8 + x1).toNatClampNeg) ≤ (mX4_taken σ x1) then 0 else 1)
set_option maxHeartbeats 4000000 in
set_option maxRecDepth 100000 in
theorem k_X4_isFree (l : Launch) (g : WG) (ad : AM) (σ : MS) (x1 : Int32) (h_1 : vp_in x1 3) : Rd l yX4_isFree cX4_isFree 2 (some .boolean) 3 (Wl g (cM g ad σ) (fun _ => False)) [.ref ad.1, .int x1] (mX4_isFree σ x1) := by
  refine rd_of (by decide) (Nat.le_of_ble_eq_true rfl) ?_
  intro p e s m args below meth c ls hC hW hl
  obtain ⟨hP, hK, hE⟩ := hW
  obtain ⟨hx, hb, hml, hr, hown, hts, hlk, hnm⟩ := id hC
  have hl : lv_has ls 2 [(0, .ref ad.1), (1, .int x1)] := hl
  refine lv_aload_n hx hb dX4_isFree_0 rfl (lv_at hl 0 rfl) ?_
  refine lv_iload_n hx hb dX4_isFree_1 rfl (lv_at hl 1 rfl) ?_
  refine callRd hC (k_X4_taken l g ad σ x1) ci_X4_taken lk_X4_44 ⟨Nat.le_of_ble_eq_true rfl, Nat.le_of_ble_eq_true rfl⟩ hP hK hE (q0 := 0) rfl rfl rfl rfl hl.1 rfl (Nat.le_of_ble_eq_true rfl) dX4_isFree_2 ⟨Nat.zero_le _, Nat.zero_le _⟩ ?_
  refine lv_aload_n hx hb dX4_isFree_5 rfl (lv_at hl 0 rfl) ?_
  refine gM_z hC rfl hK hP dX4_isFree_6 ?_
  refine lv_bipush (v := 8) hx hb dX4_isFree_9 (by decide) ?_
  refine lv_iload_n hx hb dX4_isFree_11 rfl (lv_at hl 1 rfl) ?_
  refine lv_iadd hx hb dX4_isFree_12 ?_
  refine lM_z hC hK hP (ix_c (z := 8) rfl (by decide) h_1 (by decide) (by decide)) dX4_isFree_13 ?_
  refine lv_icmp_ge (tgt := 21) hx hb dX4_isFree_14 (by decide) (fun c_1 => ?_) (fun c_1 => ?_)
  · refine lv_iconst (v := 0) hx hb dX4_isFree_21 (by decide) ?_
    exact rd_zret hC dX4_isFree_22 rfl (Eq.symm (by unfold mX4_isFree; rw [if_pos c_1]))
  · refine lv_iconst (v := 1) hx hb dX4_isFree_17 (by decide) ?_
    refine lv_goto (tgt := 22) hx hb dX4_isFree_18 (by decide) ?_
    exact rd_zret hC dX4_isFree_22 rfl (Eq.symm (by unfold mX4_isFree; rw [if_neg c_1]))
theorem in_oth {x : Int32} (h : vp_in x 3) : vp_in ((2 : Int32) - x) 3 := by
  obtain ⟨h1, h2⟩ := in_iff.mp h
  have e : (2 : Int32).toInt = 2 := rfl
  refine in_iff.mpr ?_
  rw [ti_sub (by omega) (by omega), e]
  omega
def mX4_cradleFor (σ : MS) (x1 : Int32) : Int32 := (if (mX4_isFree σ (mX4_of σ x1 4)) = 0 then (if (2 - (mX4_of σ x1 4)) = (mX4_of σ x1 4) then (-5) else (if (mX4_isFree σ (2 - (mX4_of σ x1 4))) = 0 then (-5) else (if ((mX4_bears (2 - (mX4_of σ x1 4))) / 2) < (mX4_of σ x1 3) then (-5) else (2 - (mX4_of σ x1 4))))) else (if (mX4_bears (mX4_of σ x1 4)) < (mX4_of σ x1 3) then (if (2 - (mX4_of σ x1 4)) = (mX4_of σ x1 4) then (-5) else (if (mX4_isFree σ (2 - (mX4_of σ x1 4))) = 0 then (-5) else (if ((mX4_bears (2 - (mX4_of σ x1 4))) / 2) < (mX4_of σ x1 3) then (-5) else (2 - (mX4_of σ x1 4))))) else (mX4_of σ x1 4)))
set_option maxHeartbeats 4000000 in
set_option maxRecDepth 100000 in
theorem k_X4_cradleFor (l : Launch) (g : WG) (ad : AM) (σ : MS) (x1 : Int32) (h_1 : vp_in x1 20) (h_keel : vp_in (mX4_of σ x1 4) 3) : Rd l yX4_cradleFor cX4_cradleFor 5 (some .int) 4 (Wl g (cM g ad σ) (fun _ => False)) [.ref ad.1, .int x1] (mX4_cradleFor σ x1) := by
  refine rd_of (by decide) (Nat.le_of_ble_eq_true rfl) ?_
  intro p e s m args below meth c ls hC hW hl
  obtain ⟨hP, hK, hE⟩ := hW
  obtain ⟨hx, hb, hml, hr, hown, hts, hlk, hnm⟩ := id hC
  have hl : lv_has ls 5 [(0, .ref ad.1), (1, .int x1)] := hl
  refine lv_aload_n hx hb dX4_cradleFor_0 rfl (lv_at hl 0 rfl) ?_
  refine lv_iload_n hx hb dX4_cradleFor_1 rfl (lv_at hl 1 rfl) ?_
  refine lv_iconst (v := 4) hx hb dX4_cradleFor_2 (by decide) ?_
  refine callRd hC (k_X4_of l g ad σ x1 4 h_1 (in_iff.mpr (by decide))) ci_X4_of lk_X4_36 ⟨Nat.le_of_ble_eq_true rfl, Nat.le_of_ble_eq_true rfl⟩ hP hK hE (q0 := 0) rfl rfl rfl rfl hl.1 rfl (Nat.le_of_ble_eq_true rfl) dX4_cradleFor_3 ⟨Nat.zero_le _, Nat.zero_le _⟩ ?_
  refine lv_istore_n (lv' := [(2, .int (mX4_of σ x1 4)), (0, .ref ad.1), (1, .int x1)]) hx hb dX4_cradleFor_6 rfl hl (by decide) rfl (fun ls hl => ?_)
  refine lv_aload_n hx hb dX4_cradleFor_7 rfl (lv_at hl 1 rfl) ?_
  refine lv_iload_n hx hb dX4_cradleFor_8 rfl (lv_at hl 2 rfl) ?_
  refine lv_iconst (v := 3) hx hb dX4_cradleFor_9 (by decide) ?_
  refine callRd hC (k_X4_of l g ad σ x1 3 h_1 (in_iff.mpr (by decide))) ci_X4_of lk_X4_36 ⟨Nat.le_of_ble_eq_true rfl, Nat.le_of_ble_eq_true rfl⟩ hP hK hE (q0 := 0) rfl rfl rfl rfl hl.1 rfl (Nat.le_of_ble_eq_true rfl) dX4_cradleFor_10 ⟨Nat.zero_le _, Nat.zero_le _⟩ ?_
  refine lv_istore_n (lv' := [(3, .int (mX4_of σ x1 3)), (2, .int (mX4_of σ x1 4)), (0, .ref ad.1), (1, .int x1)]) hx hb dX4_cradleFor_13 rfl hl (by decide) rfl (fun ls hl => ?_)
  refine lv_aload_n hx hb dX4_cradleFor_14 rfl (lv_at hl 2 rfl) ?_
  refine lv_iload_n hx hb dX4_cradleFor_15 rfl (lv_at hl 1 rfl) ?_
  refine callRd hC (k_X4_isFree l g ad σ (mX4_of σ x1 4) h_keel) ci_X4_isFree lk_X4_48 ⟨Nat.le_of_ble_eq_true rfl, Nat.le_of_ble_eq_true rfl⟩ hP hK hE (q0 := 0) rfl rfl rfl rfl hl.1 rfl (Nat.le_of_ble_eq_true rfl) dX4_cradleFor_16 ⟨Nat.zero_le _, Nat.zero_le _⟩ ?_
  refine lv_if_eq (tgt := 32) hx hb dX4_cradleFor_19 (by decide) (fun c_1 => ?_) (fun c_1 => ?_)
  · refine lv_iconst (v := 2) hx hb dX4_cradleFor_32 (by decide) ?_
    refine lv_iload_n hx hb dX4_cradleFor_33 rfl (lv_at hl 1 rfl) ?_
    refine lv_isub hx hb dX4_cradleFor_34 ?_
    refine lv_istore (lv' := [(4, .int (2 - (mX4_of σ x1 4))), (3, .int (mX4_of σ x1 3)), (2, .int (mX4_of σ x1 4)), (0, .ref ad.1), (1, .int x1)]) hx hb dX4_cradleFor_35 hl (by decide) rfl (fun ls hl => ?_)
    refine lv_iload hx hb dX4_cradleFor_37 (lv_at hl 0 rfl) ?_
    refine lv_iload_n hx hb dX4_cradleFor_39 rfl (lv_at hl 2 rfl) ?_
    refine lv_icmp_eq (tgt := 68) hx hb dX4_cradleFor_40 (by decide) (fun c_2 => ?_) (fun c_2 => ?_)
    · refine lv_bipush (v := (-5)) hx hb dX4_cradleFor_68 (by decide) ?_
      exact rd_ret hC dX4_cradleFor_70 (Eq.symm (by unfold mX4_cradleFor; rw [if_pos c_1, if_pos c_2]))
    · refine lv_aload_n hx hb dX4_cradleFor_43 rfl (lv_at hl 3 rfl) ?_
      refine lv_iload hx hb dX4_cradleFor_44 (lv_at hl 0 rfl) ?_
      refine callRd hC (k_X4_isFree l g ad σ (2 - (mX4_of σ x1 4)) (in_oth h_keel)) ci_X4_isFree lk_X4_48 ⟨Nat.le_of_ble_eq_true rfl, Nat.le_of_ble_eq_true rfl⟩ hP hK hE (q0 := 0) rfl rfl rfl rfl hl.1 rfl (Nat.le_of_ble_eq_true rfl) dX4_cradleFor_46 ⟨Nat.zero_le _, Nat.zero_le _⟩ ?_
      refine lv_if_eq (tgt := 68) hx hb dX4_cradleFor_49 (by decide) (fun c_3 => ?_) (fun c_3 => ?_)
      · refine lv_bipush (v := (-5)) hx hb dX4_cradleFor_68 (by decide) ?_
        exact rd_ret hC dX4_cradleFor_70 (Eq.symm (by unfold mX4_cradleFor; rw [if_pos c_1, if_neg c_2, if_pos c_3]))
      · refine lv_iload_n hx hb dX4_cradleFor_52 rfl (lv_at hl 1 rfl) ?_
        refine lv_iload hx hb dX4_cradleFor_53 (lv_at hl 0 rfl) ?_
        refine callRs hC (k_X4_bears l g (2 - (mX4_of σ x1 4))) ci_X4_bears lk_X4_51 ⟨Nat.le_of_ble_eq_true rfl, Nat.le_of_ble_eq_true rfl⟩ hK hE rfl hl.1 rfl (Nat.le_of_ble_eq_true rfl) dX4_cradleFor_55 ⟨Nat.zero_le _, Nat.zero_le _⟩ ?_
        refine lv_iconst (v := 2) hx hb dX4_cradleFor_58 (by decide) ?_
        refine lv_idiv hx hb dX4_cradleFor_59 (by decide) ?_
        refine lv_icmp_gt (tgt := 68) hx hb dX4_cradleFor_60 (by decide) (fun c_4 => ?_) (fun c_4 => ?_)
        · refine lv_bipush (v := (-5)) hx hb dX4_cradleFor_68 (by decide) ?_
          exact rd_ret hC dX4_cradleFor_70 (Eq.symm (by unfold mX4_cradleFor; rw [if_pos c_1, if_neg c_2, if_neg c_3, if_pos c_4]))
        · refine lv_iload hx hb dX4_cradleFor_63 (lv_at hl 0 rfl) ?_
          refine lv_goto (tgt := 70) hx hb dX4_cradleFor_65 (by decide) ?_
          exact rd_ret hC dX4_cradleFor_70 (Eq.symm (by unfold mX4_cradleFor; rw [if_pos c_1, if_neg c_2, if_neg c_3, if_neg c_4]))
  · refine lv_iload_n hx hb dX4_cradleFor_22 rfl (lv_at hl 0 rfl) ?_
    refine lv_iload_n hx hb dX4_cradleFor_23 rfl (lv_at hl 1 rfl) ?_
    refine callRs hC (k_X4_bears l g (mX4_of σ x1 4)) ci_X4_bears lk_X4_51 ⟨Nat.le_of_ble_eq_true rfl, Nat.le_of_ble_eq_true rfl⟩ hK hE rfl hl.1 rfl (Nat.le_of_ble_eq_true rfl) dX4_cradleFor_24 ⟨Nat.zero_le _, Nat.zero_le _⟩ ?_
    refine lv_icmp_gt (tgt := 32) hx hb dX4_cradleFor_27 (by decide) (fun c_5 => ?_) (fun c_5 => ?_)
    · refine lv_iconst (v := 2) hx hb dX4_cradleFor_32 (by decide) ?_
      refine lv_iload_n hx hb dX4_cradleFor_33 rfl (lv_at hl 1 rfl) ?_
      refine lv_isub hx hb dX4_cradleFor_34 ?_
      refine lv_istore (lv' := [(4, .int (2 - (mX4_of σ x1 4))), (3, .int (mX4_of σ x1 3)), (2, .int (mX4_of σ x1 4)), (0, .ref ad.1), (1, .int x1)]) hx hb dX4_cradleFor_35 hl (by decide) rfl (fun ls hl => ?_)
      refine lv_iload hx hb dX4_cradleFor_37 (lv_at hl 0 rfl) ?_
      refine lv_iload_n hx hb dX4_cradleFor_39 rfl (lv_at hl 2 rfl) ?_
      refine lv_icmp_eq (tgt := 68) hx hb dX4_cradleFor_40 (by decide) (fun c_6 => ?_) (fun c_6 => ?_)
      · refine lv_bipush (v := (-5)) hx hb dX4_cradleFor_68 (by decide) ?_
        exact rd_ret hC dX4_cradleFor_70 (Eq.symm (by unfold mX4_cradleFor; rw [if_neg c_1, if_pos c_5, if_pos c_6]))
      · refine lv_aload_n hx hb dX4_cradleFor_43 rfl (lv_at hl 3 rfl) ?_
        refine lv_iload hx hb dX4_cradleFor_44 (lv_at hl 0 rfl) ?_
        refine callRd hC (k_X4_isFree l g ad σ (2 - (mX4_of σ x1 4)) (in_oth h_keel)) ci_X4_isFree lk_X4_48 ⟨Nat.le_of_ble_eq_true rfl, Nat.le_of_ble_eq_true rfl⟩ hP hK hE (q0 := 0) rfl rfl rfl rfl hl.1 rfl (Nat.le_of_ble_eq_true rfl) dX4_cradleFor_46 ⟨Nat.zero_le _, Nat.zero_le _⟩ ?_
        refine lv_if_eq (tgt := 68) hx hb dX4_cradleFor_49 (by decide) (fun c_7 => ?_) (fun c_7 => ?_)
        · refine lv_bipush (v := (-5)) hx hb dX4_cradleFor_68 (by decide) ?_
          exact rd_ret hC dX4_cradleFor_70 (Eq.symm (by unfold mX4_cradleFor; rw [if_neg c_1, if_pos c_5, if_neg c_6, if_pos c_7]))
        · refine lv_iload_n hx hb dX4_cradleFor_52 rfl (lv_at hl 1 rfl) ?_
          refine lv_iload hx hb dX4_cradleFor_53 (lv_at hl 0 rfl) ?_
          refine callRs hC (k_X4_bears l g (2 - (mX4_of σ x1 4))) ci_X4_bears lk_X4_51 ⟨Nat.le_of_ble_eq_true rfl, Nat.le_of_ble_eq_true rfl⟩ hK hE rfl hl.1 rfl (Nat.le_of_ble_eq_true rfl) dX4_cradleFor_55 ⟨Nat.zero_le _, Nat.zero_le _⟩ ?_
          refine lv_iconst (v := 2) hx hb dX4_cradleFor_58 (by decide) ?_
          refine lv_idiv hx hb dX4_cradleFor_59 (by decide) ?_
          refine lv_icmp_gt (tgt := 68) hx hb dX4_cradleFor_60 (by decide) (fun c_8 => ?_) (fun c_8 => ?_)
          · refine lv_bipush (v := (-5)) hx hb dX4_cradleFor_68 (by decide) ?_
            exact rd_ret hC dX4_cradleFor_70 (Eq.symm (by unfold mX4_cradleFor; rw [if_neg c_1, if_pos c_5, if_neg c_6, if_neg c_7, if_pos c_8]))
          · refine lv_iload hx hb dX4_cradleFor_63 (lv_at hl 0 rfl) ?_
            refine lv_goto (tgt := 70) hx hb dX4_cradleFor_65 (by decide) ?_
            exact rd_ret hC dX4_cradleFor_70 (Eq.symm (by unfold mX4_cradleFor; rw [if_neg c_1, if_pos c_5, if_neg c_6, if_neg c_7, if_neg c_8]))
    · refine lv_iload_n hx hb dX4_cradleFor_30 rfl (lv_at hl 1 rfl) ?_
      exact rd_ret hC dX4_cradleFor_31 (Eq.symm (by unfold mX4_cradleFor; rw [if_neg c_1, if_neg c_5]))
def mX4_metresTaken_L4 (σ : MS) (x1 : Int32) : Nat → Int32 → Int32 → Int32
  | 0, _, _ => 0
  | n + 1, u3, u2 => (if 20 ≤ u3 then u2 else (if (mX4_isIn σ u3 x1) = 0 then (mX4_metresTaken_L4 σ x1 n (u3 + 1) (u2 + 0)) else (mX4_metresTaken_L4 σ x1 n (u3 + 1) (u2 + ((mX4_of σ u3 1) + 1)))))
set_option maxHeartbeats 4000000 in
set_option maxRecDepth 100000 in
theorem q_X4_metresTaken_4 {p : Program} {e : Env} {s : State} {m : MethodId} {args : Array Value} {below : List Frame} {meth : Method} {c : Code} (l : Launch) (g : WG) (ad : AM) (σ : MS) (x1 : Int32) (hC : Cx p s m args meth c yX4_metresTaken cX4_metresTaken 4 (some .int)) (hP : va_P g.1 vwCl (cM g ad σ) s.heap) (hK : va_K g.1 vwCl (tysW g) s) (hE : Ex (fun _ => False) s s.heap) {r : Int32} : ∀ (n : Nat) (u3 : Int32) (u2 : Int32) (hi0 : 0 ≤ u3.toInt) (hi1 : u3.toInt ≤ 20) (hm : ((21 : Int) - u3.toInt).toNat < n) (hR : r = mX4_metresTaken_L4 σ x1 n u3 u2) (ls : Array Slot) (hl : lv_has ls 4 [(3, .int u3), (2, .int u2), (0, .ref ad.1), (1, .int x1)]), W p l e (rk 2) s m args below meth c s.heap [] 0 0 (MQ below (vp_Si (fun x => x = r)) args s 0 0 (fun _ => False)) (F0 m 4 ls []) := by
  obtain ⟨hx, hb, hml, hr, hown, hts, hlk, hnm⟩ := id hC
  intro n
  induction n with
  | zero => intro u3 u2 hi0 hi1 hm hR ls hl; exact absurd hm (Nat.not_lt_zero _)
  | succ n ih =>
    intro u3 u2 hi0 hi1 hm hR ls hl
    refine lv_iload_n hx hb dX4_metresTaken_4 rfl (lv_at hl 0 rfl) ?_
    refine lv_bipush (v := 20) hx hb dX4_metresTaken_5 (by decide) ?_
    refine lv_icmp_ge (tgt := 40) hx hb dX4_metresTaken_7 (by decide) (fun c_1 => ?_) (fun c_1 => ?_)
    · refine lv_iload_n hx hb dX4_metresTaken_40 rfl (lv_at hl 1 rfl) ?_
      exact rd_ret hC dX4_metresTaken_41 (Eq.symm (by rw [hR, mX4_metresTaken_L4, if_pos c_1]))
    · refine lv_iload_n hx hb dX4_metresTaken_10 rfl (lv_at hl 1 rfl) ?_
      refine lv_aload_n hx hb dX4_metresTaken_11 rfl (lv_at hl 2 rfl) ?_
      refine lv_iload_n hx hb dX4_metresTaken_12 rfl (lv_at hl 0 rfl) ?_
      refine lv_iload_n hx hb dX4_metresTaken_13 rfl (lv_at hl 3 rfl) ?_
      refine callRd hC (k_X4_isIn l g ad σ u3 x1 (in_up (n := 20) rfl hi0 c_1)) ci_X4_isIn lk_X4_54 ⟨Nat.le_of_ble_eq_true rfl, Nat.le_of_ble_eq_true rfl⟩ hP hK hE (q0 := 0) rfl rfl rfl rfl hl.1 rfl (Nat.le_of_ble_eq_true rfl) dX4_metresTaken_14 ⟨Nat.zero_le _, Nat.zero_le _⟩ ?_
      refine lv_if_eq (tgt := 31) hx hb dX4_metresTaken_17 (by decide) (fun c_2 => ?_) (fun c_2 => ?_)
      · refine lv_iconst (v := 0) hx hb dX4_metresTaken_31 (by decide) ?_
        refine lv_iadd hx hb dX4_metresTaken_32 ?_
        refine lv_istore_n (lv' := [(2, .int (u2 + 0)), (3, .int u3), (0, .ref ad.1), (1, .int x1)]) hx hb dX4_metresTaken_33 rfl hl (by decide) rfl (fun ls hl => ?_)
        refine lv_iinc (v := (u3 + 1)) (lv' := [(3, .int (u3 + 1)), (2, .int (u2 + 0)), (0, .ref ad.1), (1, .int x1)]) hx hb dX4_metresTaken_34 hl (k := 1) rfl rfl (by decide) rfl (fun ls hl => ?_)
        refine lv_goto (tgt := 4) hx hb dX4_metresTaken_37 (by decide) ?_
        have e9 := up_add (d := 1) (k := 1) (M := 20) rfl hi0 hi1 (by decide) (by decide)
        have e8 := nle_ti (k := 20) rfl c_1
        exact ih (u3 + 1) (u2 + 0) (by rw [e9]; omega) (by rw [e9]; omega) (by rw [e9]; omega) (by rw [hR, mX4_metresTaken_L4, if_neg c_1, if_pos c_2]) _ (lv_sub hl [0, 1, 2, 3] rfl)
      · refine lv_aload_n hx hb dX4_metresTaken_20 rfl (lv_at hl 2 rfl) ?_
        refine lv_iload_n hx hb dX4_metresTaken_21 rfl (lv_at hl 0 rfl) ?_
        refine lv_iconst (v := 1) hx hb dX4_metresTaken_22 (by decide) ?_
        refine callRd hC (k_X4_of l g ad σ u3 1 (in_up (n := 20) rfl hi0 c_1) (in_iff.mpr (by decide))) ci_X4_of lk_X4_36 ⟨Nat.le_of_ble_eq_true rfl, Nat.le_of_ble_eq_true rfl⟩ hP hK hE (q0 := 0) rfl rfl rfl rfl hl.1 rfl (Nat.le_of_ble_eq_true rfl) dX4_metresTaken_23 ⟨Nat.zero_le _, Nat.zero_le _⟩ ?_
        refine lv_iconst (v := 1) hx hb dX4_metresTaken_26 (by decide) ?_
        refine lv_iadd hx hb dX4_metresTaken_27 ?_
        refine lv_goto (tgt := 32) hx hb dX4_metresTaken_28 (by decide) ?_
        refine lv_iadd hx hb dX4_metresTaken_32 ?_
        refine lv_istore_n (lv' := [(2, .int (u2 + ((mX4_of σ u3 1) + 1))), (3, .int u3), (0, .ref ad.1), (1, .int x1)]) hx hb dX4_metresTaken_33 rfl hl (by decide) rfl (fun ls hl => ?_)
        refine lv_iinc (v := (u3 + 1)) (lv' := [(3, .int (u3 + 1)), (2, .int (u2 + ((mX4_of σ u3 1) + 1))), (0, .ref ad.1), (1, .int x1)]) hx hb dX4_metresTaken_34 hl (k := 1) rfl rfl (by decide) rfl (fun ls hl => ?_)
        refine lv_goto (tgt := 4) hx hb dX4_metresTaken_37 (by decide) ?_
        have e9 := up_add (d := 1) (k := 1) (M := 20) rfl hi0 hi1 (by decide) (by decide)
        have e8 := nle_ti (k := 20) rfl c_1
        exact ih (u3 + 1) (u2 + ((mX4_of σ u3 1) + 1)) (by rw [e9]; omega) (by rw [e9]; omega) (by rw [e9]; omega) (by rw [hR, mX4_metresTaken_L4, if_neg c_1, if_neg c_2]) _ (lv_sub hl [0, 1, 2, 3] rfl)
def mX4_metresTaken (σ : MS) (x1 : Int32) : Int32 := (mX4_metresTaken_L4 σ x1 22 0 0)
set_option maxHeartbeats 4000000 in
set_option maxRecDepth 100000 in
theorem k_X4_metresTaken (l : Launch) (g : WG) (ad : AM) (σ : MS) (x1 : Int32) : Rd l yX4_metresTaken cX4_metresTaken 4 (some .int) 2 (Wl g (cM g ad σ) (fun _ => False)) [.ref ad.1, .int x1] (mX4_metresTaken σ x1) := by
  refine rd_of (by decide) (Nat.le_of_ble_eq_true rfl) ?_
  intro p e s m args below meth c ls hC hW hl
  obtain ⟨hP, hK, hE⟩ := hW
  obtain ⟨hx, hb, hml, hr, hown, hts, hlk, hnm⟩ := id hC
  have hl : lv_has ls 4 [(0, .ref ad.1), (1, .int x1)] := hl
  refine lv_iconst (v := 0) hx hb dX4_metresTaken_0 (by decide) ?_
  refine lv_istore_n (lv' := [(2, .int 0), (0, .ref ad.1), (1, .int x1)]) hx hb dX4_metresTaken_1 rfl hl (by decide) rfl (fun ls hl => ?_)
  refine lv_iconst (v := 0) hx hb dX4_metresTaken_2 (by decide) ?_
  refine lv_istore_n (lv' := [(3, .int 0), (2, .int 0), (0, .ref ad.1), (1, .int x1)]) hx hb dX4_metresTaken_3 rfl hl (by decide) rfl (fun ls hl => ?_)
  refine q_X4_metresTaken_4 l g ad σ x1 hC hP hK hE 22 0 0 (by decide) (by decide) (by decide) ?_ _ (lv_sub hl [0, 1, 2, 3] rfl)
  exact by unfold mX4_metresTaken; rfl
def mX4_metresLeft (σ : MS) (x1 : Int32) : Int32 := (((M_z σ) (11 + x1).toNatClampNeg) - (mX4_metresTaken σ x1))
set_option maxHeartbeats 4000000 in
set_option maxRecDepth 100000 in
theorem k_X4_metresLeft (l : Launch) (g : WG) (ad : AM) (σ : MS) (x1 : Int32) (h_1 : vp_in x1 4) : Rd l yX4_metresLeft cX4_metresLeft 2 (some .int) 3 (Wl g (cM g ad σ) (fun _ => False)) [.ref ad.1, .int x1] (mX4_metresLeft σ x1) := by
  refine rd_of (by decide) (Nat.le_of_ble_eq_true rfl) ?_
  intro p e s m args below meth c ls hC hW hl
  obtain ⟨hP, hK, hE⟩ := hW
  obtain ⟨hx, hb, hml, hr, hown, hts, hlk, hnm⟩ := id hC
  have hl : lv_has ls 2 [(0, .ref ad.1), (1, .int x1)] := hl
  refine lv_aload_n hx hb dX4_metresLeft_0 rfl (lv_at hl 0 rfl) ?_
  refine gM_z hC rfl hK hP dX4_metresLeft_1 ?_
  refine lv_bipush (v := 11) hx hb dX4_metresLeft_4 (by decide) ?_
  refine lv_iload_n hx hb dX4_metresLeft_6 rfl (lv_at hl 1 rfl) ?_
  refine lv_iadd hx hb dX4_metresLeft_7 ?_
  refine lM_z hC hK hP (ix_c (z := 11) rfl (by decide) h_1 (by decide) (by decide)) dX4_metresLeft_8 ?_
  refine lv_aload_n hx hb dX4_metresLeft_9 rfl (lv_at hl 0 rfl) ?_
  refine lv_iload_n hx hb dX4_metresLeft_10 rfl (lv_at hl 1 rfl) ?_
  refine callRd hC (k_X4_metresTaken l g ad σ x1) ci_X4_metresTaken lk_X4_58 ⟨Nat.le_of_ble_eq_true rfl, Nat.le_of_ble_eq_true rfl⟩ hP hK hE (q0 := 0) rfl rfl rfl rfl hl.1 rfl (Nat.le_of_ble_eq_true rfl) dX4_metresLeft_11 ⟨Nat.zero_le _, Nat.zero_le _⟩ ?_
  refine lv_isub hx hb dX4_metresLeft_14 ?_
  exact rd_ret hC dX4_metresLeft_15 (Eq.symm (by unfold mX4_metresLeft; rfl))
def mX4_hasRoom (σ : MS) (x1 : Int32) (x2 : Int32) : Int32 := (if (mX4_metresLeft σ x2) < ((mX4_of σ x1 1) + 1) then 0 else 1)
set_option maxHeartbeats 4000000 in
set_option maxRecDepth 100000 in
theorem k_X4_hasRoom (l : Launch) (g : WG) (ad : AM) (σ : MS) (x1 : Int32) (x2 : Int32) (h_1 : vp_in x1 20) (h_2 : vp_in x2 4) : Rd l yX4_hasRoom cX4_hasRoom 3 (some .boolean) 4 (Wl g (cM g ad σ) (fun _ => False)) [.ref ad.1, .int x1, .int x2] (mX4_hasRoom σ x1 x2) := by
  refine rd_of (by decide) (Nat.le_of_ble_eq_true rfl) ?_
  intro p e s m args below meth c ls hC hW hl
  obtain ⟨hP, hK, hE⟩ := hW
  obtain ⟨hx, hb, hml, hr, hown, hts, hlk, hnm⟩ := id hC
  have hl : lv_has ls 3 [(0, .ref ad.1), (1, .int x1), (2, .int x2)] := hl
  refine lv_aload_n hx hb dX4_hasRoom_0 rfl (lv_at hl 0 rfl) ?_
  refine lv_iload_n hx hb dX4_hasRoom_1 rfl (lv_at hl 1 rfl) ?_
  refine lv_iconst (v := 1) hx hb dX4_hasRoom_2 (by decide) ?_
  refine callRd hC (k_X4_of l g ad σ x1 1 h_1 (in_iff.mpr (by decide))) ci_X4_of lk_X4_36 ⟨Nat.le_of_ble_eq_true rfl, Nat.le_of_ble_eq_true rfl⟩ hP hK hE (q0 := 0) rfl rfl rfl rfl hl.1 rfl (Nat.le_of_ble_eq_true rfl) dX4_hasRoom_3 ⟨Nat.zero_le _, Nat.zero_le _⟩ ?_
  refine lv_iconst (v := 1) hx hb dX4_hasRoom_6 (by decide) ?_
  refine lv_iadd hx hb dX4_hasRoom_7 ?_
  refine lv_aload_n hx hb dX4_hasRoom_8 rfl (lv_at hl 0 rfl) ?_
  refine lv_iload_n hx hb dX4_hasRoom_9 rfl (lv_at hl 2 rfl) ?_
  refine callRd hC (k_X4_metresLeft l g ad σ x2 h_2) ci_X4_metresLeft lk_X4_61 ⟨Nat.le_of_ble_eq_true rfl, Nat.le_of_ble_eq_true rfl⟩ hP hK hE (q0 := 0) rfl rfl rfl rfl hl.1 rfl (Nat.le_of_ble_eq_true rfl) dX4_hasRoom_10 ⟨Nat.zero_le _, Nat.zero_le _⟩ ?_
  refine lv_icmp_gt (tgt := 20) hx hb dX4_hasRoom_13 (by decide) (fun c_1 => ?_) (fun c_1 => ?_)
  · refine lv_iconst (v := 0) hx hb dX4_hasRoom_20 (by decide) ?_
    exact rd_zret hC dX4_hasRoom_21 rfl (Eq.symm (by unfold mX4_hasRoom; rw [if_pos c_1]))
  · refine lv_iconst (v := 1) hx hb dX4_hasRoom_16 (by decide) ?_
    refine lv_goto (tgt := 21) hx hb dX4_hasRoom_17 (by decide) ?_
    exact rd_zret hC dX4_hasRoom_21 rfl (Eq.symm (by unfold mX4_hasRoom; rw [if_neg c_1]))
def mX4_boatsIn_L4 (σ : MS) (x1 : Int32) : Nat → Int32 → Int32 → Int32
  | 0, _, _ => 0
  | n + 1, u3, u2 => (if 20 ≤ u3 then u2 else (if (mX4_isIn σ u3 x1) = 0 then (mX4_boatsIn_L4 σ x1 n (u3 + 1) (u2 + 0)) else (mX4_boatsIn_L4 σ x1 n (u3 + 1) (u2 + 1))))
set_option maxHeartbeats 4000000 in
set_option maxRecDepth 100000 in
theorem q_X4_boatsIn_4 {p : Program} {e : Env} {s : State} {m : MethodId} {args : Array Value} {below : List Frame} {meth : Method} {c : Code} (l : Launch) (g : WG) (ad : AM) (σ : MS) (x1 : Int32) (hC : Cx p s m args meth c yX4_boatsIn cX4_boatsIn 4 (some .int)) (hP : va_P g.1 vwCl (cM g ad σ) s.heap) (hK : va_K g.1 vwCl (tysW g) s) (hE : Ex (fun _ => False) s s.heap) {r : Int32} : ∀ (n : Nat) (u3 : Int32) (u2 : Int32) (hi0 : 0 ≤ u3.toInt) (hi1 : u3.toInt ≤ 20) (hm : ((21 : Int) - u3.toInt).toNat < n) (hR : r = mX4_boatsIn_L4 σ x1 n u3 u2) (ls : Array Slot) (hl : lv_has ls 4 [(3, .int u3), (2, .int u2), (0, .ref ad.1), (1, .int x1)]), W p l e (rk 2) s m args below meth c s.heap [] 0 0 (MQ below (vp_Si (fun x => x = r)) args s 0 0 (fun _ => False)) (F0 m 4 ls []) := by
  obtain ⟨hx, hb, hml, hr, hown, hts, hlk, hnm⟩ := id hC
  intro n
  induction n with
  | zero => intro u3 u2 hi0 hi1 hm hR ls hl; exact absurd hm (Nat.not_lt_zero _)
  | succ n ih =>
    intro u3 u2 hi0 hi1 hm hR ls hl
    refine lv_iload_n hx hb dX4_boatsIn_4 rfl (lv_at hl 0 rfl) ?_
    refine lv_bipush (v := 20) hx hb dX4_boatsIn_5 (by decide) ?_
    refine lv_icmp_ge (tgt := 33) hx hb dX4_boatsIn_7 (by decide) (fun c_1 => ?_) (fun c_1 => ?_)
    · refine lv_iload_n hx hb dX4_boatsIn_33 rfl (lv_at hl 1 rfl) ?_
      exact rd_ret hC dX4_boatsIn_34 (Eq.symm (by rw [hR, mX4_boatsIn_L4, if_pos c_1]))
    · refine lv_iload_n hx hb dX4_boatsIn_10 rfl (lv_at hl 1 rfl) ?_
      refine lv_aload_n hx hb dX4_boatsIn_11 rfl (lv_at hl 2 rfl) ?_
      refine lv_iload_n hx hb dX4_boatsIn_12 rfl (lv_at hl 0 rfl) ?_
      refine lv_iload_n hx hb dX4_boatsIn_13 rfl (lv_at hl 3 rfl) ?_
      refine callRd hC (k_X4_isIn l g ad σ u3 x1 (in_up (n := 20) rfl hi0 c_1)) ci_X4_isIn lk_X4_54 ⟨Nat.le_of_ble_eq_true rfl, Nat.le_of_ble_eq_true rfl⟩ hP hK hE (q0 := 0) rfl rfl rfl rfl hl.1 rfl (Nat.le_of_ble_eq_true rfl) dX4_boatsIn_14 ⟨Nat.zero_le _, Nat.zero_le _⟩ ?_
      refine lv_if_eq (tgt := 24) hx hb dX4_boatsIn_17 (by decide) (fun c_2 => ?_) (fun c_2 => ?_)
      · refine lv_iconst (v := 0) hx hb dX4_boatsIn_24 (by decide) ?_
        refine lv_iadd hx hb dX4_boatsIn_25 ?_
        refine lv_istore_n (lv' := [(2, .int (u2 + 0)), (3, .int u3), (0, .ref ad.1), (1, .int x1)]) hx hb dX4_boatsIn_26 rfl hl (by decide) rfl (fun ls hl => ?_)
        refine lv_iinc (v := (u3 + 1)) (lv' := [(3, .int (u3 + 1)), (2, .int (u2 + 0)), (0, .ref ad.1), (1, .int x1)]) hx hb dX4_boatsIn_27 hl (k := 1) rfl rfl (by decide) rfl (fun ls hl => ?_)
        refine lv_goto (tgt := 4) hx hb dX4_boatsIn_30 (by decide) ?_
        have e9 := up_add (d := 1) (k := 1) (M := 20) rfl hi0 hi1 (by decide) (by decide)
        have e8 := nle_ti (k := 20) rfl c_1
        exact ih (u3 + 1) (u2 + 0) (by rw [e9]; omega) (by rw [e9]; omega) (by rw [e9]; omega) (by rw [hR, mX4_boatsIn_L4, if_neg c_1, if_pos c_2]) _ (lv_sub hl [0, 1, 2, 3] rfl)
      · refine lv_iconst (v := 1) hx hb dX4_boatsIn_20 (by decide) ?_
        refine lv_goto (tgt := 25) hx hb dX4_boatsIn_21 (by decide) ?_
        refine lv_iadd hx hb dX4_boatsIn_25 ?_
        refine lv_istore_n (lv' := [(2, .int (u2 + 1)), (3, .int u3), (0, .ref ad.1), (1, .int x1)]) hx hb dX4_boatsIn_26 rfl hl (by decide) rfl (fun ls hl => ?_)
        refine lv_iinc (v := (u3 + 1)) (lv' := [(3, .int (u3 + 1)), (2, .int (u2 + 1)), (0, .ref ad.1), (1, .int x1)]) hx hb dX4_boatsIn_27 hl (k := 1) rfl rfl (by decide) rfl (fun ls hl => ?_)
        refine lv_goto (tgt := 4) hx hb dX4_boatsIn_30 (by decide) ?_
        have e9 := up_add (d := 1) (k := 1) (M := 20) rfl hi0 hi1 (by decide) (by decide)
        have e8 := nle_ti (k := 20) rfl c_1
        exact ih (u3 + 1) (u2 + 1) (by rw [e9]; omega) (by rw [e9]; omega) (by rw [e9]; omega) (by rw [hR, mX4_boatsIn_L4, if_neg c_1, if_neg c_2]) _ (lv_sub hl [0, 1, 2, 3] rfl)
def mX4_boatsIn (σ : MS) (x1 : Int32) : Int32 := (mX4_boatsIn_L4 σ x1 22 0 0)
set_option maxHeartbeats 4000000 in
set_option maxRecDepth 100000 in
theorem k_X4_boatsIn (l : Launch) (g : WG) (ad : AM) (σ : MS) (x1 : Int32) : Rd l yX4_boatsIn cX4_boatsIn 4 (some .int) 2 (Wl g (cM g ad σ) (fun _ => False)) [.ref ad.1, .int x1] (mX4_boatsIn σ x1) := by
  refine rd_of (by decide) (Nat.le_of_ble_eq_true rfl) ?_
  intro p e s m args below meth c ls hC hW hl
  obtain ⟨hP, hK, hE⟩ := hW
  obtain ⟨hx, hb, hml, hr, hown, hts, hlk, hnm⟩ := id hC
  have hl : lv_has ls 4 [(0, .ref ad.1), (1, .int x1)] := hl
  refine lv_iconst (v := 0) hx hb dX4_boatsIn_0 (by decide) ?_
  refine lv_istore_n (lv' := [(2, .int 0), (0, .ref ad.1), (1, .int x1)]) hx hb dX4_boatsIn_1 rfl hl (by decide) rfl (fun ls hl => ?_)
  refine lv_iconst (v := 0) hx hb dX4_boatsIn_2 (by decide) ?_
  refine lv_istore_n (lv' := [(3, .int 0), (2, .int 0), (0, .ref ad.1), (1, .int x1)]) hx hb dX4_boatsIn_3 rfl hl (by decide) rfl (fun ls hl => ?_)
  refine q_X4_boatsIn_4 l g ad σ x1 hC hP hK hE 22 0 0 (by decide) (by decide) (by decide) ?_ _ (lv_sub hl [0, 1, 2, 3] rfl)
  exact by unfold mX4_boatsIn; rfl
def mX4_placeOf_L4 (σ : MS) (x1 : Int32) : Nat → Int32 → Int32 → Int32
  | 0, _, _ => 0
  | n + 1, u3, u2 => (if 20 ≤ u3 then u2 else (if (mX4_isIn σ u3 (mX4_of σ x1 5)) = 0 then (mX4_placeOf_L4 σ x1 n (u3 + 1) (u2 + 0)) else (if (mX4_of σ x1 11) ≤ (mX4_of σ u3 11) then (mX4_placeOf_L4 σ x1 n (u3 + 1) (u2 + 0)) else (mX4_placeOf_L4 σ x1 n (u3 + 1) (u2 + 1)))))
set_option maxHeartbeats 4000000 in
set_option maxRecDepth 100000 in
theorem q_X4_placeOf_4 {p : Program} {e : Env} {s : State} {m : MethodId} {args : Array Value} {below : List Frame} {meth : Method} {c : Code} (l : Launch) (g : WG) (ad : AM) (σ : MS) (x1 : Int32) (h_1 : vp_in x1 20) (hC : Cx p s m args meth c yX4_placeOf cX4_placeOf 4 (some .int)) (hP : va_P g.1 vwCl (cM g ad σ) s.heap) (hK : va_K g.1 vwCl (tysW g) s) (hE : Ex (fun _ => False) s s.heap) {r : Int32} : ∀ (n : Nat) (u3 : Int32) (u2 : Int32) (hi0 : 0 ≤ u3.toInt) (hi1 : u3.toInt ≤ 20) (hm : ((21 : Int) - u3.toInt).toNat < n) (hR : r = mX4_placeOf_L4 σ x1 n u3 u2) (ls : Array Slot) (hl : lv_has ls 4 [(3, .int u3), (2, .int u2), (0, .ref ad.1), (1, .int x1)]), W p l e (rk 2) s m args below meth c s.heap [] 0 0 (MQ below (vp_Si (fun x => x = r)) args s 0 0 (fun _ => False)) (F0 m 4 ls []) := by
  obtain ⟨hx, hb, hml, hr, hown, hts, hlk, hnm⟩ := id hC
  intro n
  induction n with
  | zero => intro u3 u2 hi0 hi1 hm hR ls hl; exact absurd hm (Nat.not_lt_zero _)
  | succ n ih =>
    intro u3 u2 hi0 hi1 hm hR ls hl
    refine lv_iload_n hx hb dX4_placeOf_4 rfl (lv_at hl 0 rfl) ?_
    refine lv_bipush (v := 20) hx hb dX4_placeOf_5 (by decide) ?_
    refine lv_icmp_ge (tgt := 55) hx hb dX4_placeOf_7 (by decide) (fun c_1 => ?_) (fun c_1 => ?_)
    · refine lv_iload_n hx hb dX4_placeOf_55 rfl (lv_at hl 1 rfl) ?_
      exact rd_ret hC dX4_placeOf_56 (Eq.symm (by rw [hR, mX4_placeOf_L4, if_pos c_1]))
    · refine lv_iload_n hx hb dX4_placeOf_10 rfl (lv_at hl 1 rfl) ?_
      refine lv_aload_n hx hb dX4_placeOf_11 rfl (lv_at hl 2 rfl) ?_
      refine lv_iload_n hx hb dX4_placeOf_12 rfl (lv_at hl 0 rfl) ?_
      refine lv_aload_n hx hb dX4_placeOf_13 rfl (lv_at hl 2 rfl) ?_
      refine lv_iload_n hx hb dX4_placeOf_14 rfl (lv_at hl 3 rfl) ?_
      refine lv_iconst (v := 5) hx hb dX4_placeOf_15 (by decide) ?_
      refine callRd hC (k_X4_of l g ad σ x1 5 h_1 (in_iff.mpr (by decide))) ci_X4_of lk_X4_36 ⟨Nat.le_of_ble_eq_true rfl, Nat.le_of_ble_eq_true rfl⟩ hP hK hE (q0 := 0) rfl rfl rfl rfl hl.1 rfl (Nat.le_of_ble_eq_true rfl) dX4_placeOf_16 ⟨Nat.zero_le _, Nat.zero_le _⟩ ?_
      refine callRd hC (k_X4_isIn l g ad σ u3 (mX4_of σ x1 5) (in_up (n := 20) rfl hi0 c_1)) ci_X4_isIn lk_X4_54 ⟨Nat.le_of_ble_eq_true rfl, Nat.le_of_ble_eq_true rfl⟩ hP hK hE (q0 := 0) rfl rfl rfl rfl hl.1 rfl (Nat.le_of_ble_eq_true rfl) dX4_placeOf_19 ⟨Nat.zero_le _, Nat.zero_le _⟩ ?_
      refine lv_if_eq (tgt := 46) hx hb dX4_placeOf_22 (by decide) (fun c_2 => ?_) (fun c_2 => ?_)
      · refine lv_iconst (v := 0) hx hb dX4_placeOf_46 (by decide) ?_
        refine lv_iadd hx hb dX4_placeOf_47 ?_
        refine lv_istore_n (lv' := [(2, .int (u2 + 0)), (3, .int u3), (0, .ref ad.1), (1, .int x1)]) hx hb dX4_placeOf_48 rfl hl (by decide) rfl (fun ls hl => ?_)
        refine lv_iinc (v := (u3 + 1)) (lv' := [(3, .int (u3 + 1)), (2, .int (u2 + 0)), (0, .ref ad.1), (1, .int x1)]) hx hb dX4_placeOf_49 hl (k := 1) rfl rfl (by decide) rfl (fun ls hl => ?_)
        refine lv_goto (tgt := 4) hx hb dX4_placeOf_52 (by decide) ?_
        have e9 := up_add (d := 1) (k := 1) (M := 20) rfl hi0 hi1 (by decide) (by decide)
        have e8 := nle_ti (k := 20) rfl c_1
        exact ih (u3 + 1) (u2 + 0) (by rw [e9]; omega) (by rw [e9]; omega) (by rw [e9]; omega) (by rw [hR, mX4_placeOf_L4, if_neg c_1, if_pos c_2]) _ (lv_sub hl [0, 1, 2, 3] rfl)
      · refine lv_aload_n hx hb dX4_placeOf_25 rfl (lv_at hl 2 rfl) ?_
        refine lv_iload_n hx hb dX4_placeOf_26 rfl (lv_at hl 0 rfl) ?_
        refine lv_bipush (v := 11) hx hb dX4_placeOf_27 (by decide) ?_
        refine callRd hC (k_X4_of l g ad σ u3 11 (in_up (n := 20) rfl hi0 c_1) (in_iff.mpr (by decide))) ci_X4_of lk_X4_36 ⟨Nat.le_of_ble_eq_true rfl, Nat.le_of_ble_eq_true rfl⟩ hP hK hE (q0 := 0) rfl rfl rfl rfl hl.1 rfl (Nat.le_of_ble_eq_true rfl) dX4_placeOf_29 ⟨Nat.zero_le _, Nat.zero_le _⟩ ?_
        refine lv_aload_n hx hb dX4_placeOf_32 rfl (lv_at hl 2 rfl) ?_
        refine lv_iload_n hx hb dX4_placeOf_33 rfl (lv_at hl 3 rfl) ?_
        refine lv_bipush (v := 11) hx hb dX4_placeOf_34 (by decide) ?_
        refine callRd hC (k_X4_of l g ad σ x1 11 h_1 (in_iff.mpr (by decide))) ci_X4_of lk_X4_36 ⟨Nat.le_of_ble_eq_true rfl, Nat.le_of_ble_eq_true rfl⟩ hP hK hE (q0 := 0) rfl rfl rfl rfl hl.1 rfl (Nat.le_of_ble_eq_true rfl) dX4_placeOf_36 ⟨Nat.zero_le _, Nat.zero_le _⟩ ?_
        refine lv_icmp_ge (tgt := 46) hx hb dX4_placeOf_39 (by decide) (fun c_3 => ?_) (fun c_3 => ?_)
        · refine lv_iconst (v := 0) hx hb dX4_placeOf_46 (by decide) ?_
          refine lv_iadd hx hb dX4_placeOf_47 ?_
          refine lv_istore_n (lv' := [(2, .int (u2 + 0)), (3, .int u3), (0, .ref ad.1), (1, .int x1)]) hx hb dX4_placeOf_48 rfl hl (by decide) rfl (fun ls hl => ?_)
          refine lv_iinc (v := (u3 + 1)) (lv' := [(3, .int (u3 + 1)), (2, .int (u2 + 0)), (0, .ref ad.1), (1, .int x1)]) hx hb dX4_placeOf_49 hl (k := 1) rfl rfl (by decide) rfl (fun ls hl => ?_)
          refine lv_goto (tgt := 4) hx hb dX4_placeOf_52 (by decide) ?_
          have e9 := up_add (d := 1) (k := 1) (M := 20) rfl hi0 hi1 (by decide) (by decide)
          have e8 := nle_ti (k := 20) rfl c_1
          exact ih (u3 + 1) (u2 + 0) (by rw [e9]; omega) (by rw [e9]; omega) (by rw [e9]; omega) (by rw [hR, mX4_placeOf_L4, if_neg c_1, if_neg c_2, if_pos c_3]) _ (lv_sub hl [0, 1, 2, 3] rfl)
        · refine lv_iconst (v := 1) hx hb dX4_placeOf_42 (by decide) ?_
          refine lv_goto (tgt := 47) hx hb dX4_placeOf_43 (by decide) ?_
          refine lv_iadd hx hb dX4_placeOf_47 ?_
          refine lv_istore_n (lv' := [(2, .int (u2 + 1)), (3, .int u3), (0, .ref ad.1), (1, .int x1)]) hx hb dX4_placeOf_48 rfl hl (by decide) rfl (fun ls hl => ?_)
          refine lv_iinc (v := (u3 + 1)) (lv' := [(3, .int (u3 + 1)), (2, .int (u2 + 1)), (0, .ref ad.1), (1, .int x1)]) hx hb dX4_placeOf_49 hl (k := 1) rfl rfl (by decide) rfl (fun ls hl => ?_)
          refine lv_goto (tgt := 4) hx hb dX4_placeOf_52 (by decide) ?_
          have e9 := up_add (d := 1) (k := 1) (M := 20) rfl hi0 hi1 (by decide) (by decide)
          have e8 := nle_ti (k := 20) rfl c_1
          exact ih (u3 + 1) (u2 + 1) (by rw [e9]; omega) (by rw [e9]; omega) (by rw [e9]; omega) (by rw [hR, mX4_placeOf_L4, if_neg c_1, if_neg c_2, if_neg c_3]) _ (lv_sub hl [0, 1, 2, 3] rfl)
def mX4_placeOf (σ : MS) (x1 : Int32) : Int32 := (mX4_placeOf_L4 σ x1 22 0 0)
set_option maxHeartbeats 4000000 in
set_option maxRecDepth 100000 in
theorem k_X4_placeOf (l : Launch) (g : WG) (ad : AM) (σ : MS) (x1 : Int32) (h_1 : vp_in x1 20) : Rd l yX4_placeOf cX4_placeOf 4 (some .int) 2 (Wl g (cM g ad σ) (fun _ => False)) [.ref ad.1, .int x1] (mX4_placeOf σ x1) := by
  refine rd_of (by decide) (Nat.le_of_ble_eq_true rfl) ?_
  intro p e s m args below meth c ls hC hW hl
  obtain ⟨hP, hK, hE⟩ := hW
  obtain ⟨hx, hb, hml, hr, hown, hts, hlk, hnm⟩ := id hC
  have hl : lv_has ls 4 [(0, .ref ad.1), (1, .int x1)] := hl
  refine lv_iconst (v := 0) hx hb dX4_placeOf_0 (by decide) ?_
  refine lv_istore_n (lv' := [(2, .int 0), (0, .ref ad.1), (1, .int x1)]) hx hb dX4_placeOf_1 rfl hl (by decide) rfl (fun ls hl => ?_)
  refine lv_iconst (v := 0) hx hb dX4_placeOf_2 (by decide) ?_
  refine lv_istore_n (lv' := [(3, .int 0), (2, .int 0), (0, .ref ad.1), (1, .int x1)]) hx hb dX4_placeOf_3 rfl hl (by decide) rfl (fun ls hl => ?_)
  refine q_X4_placeOf_4 l g ad σ x1 h_1 hC hP hK hE 22 0 0 (by decide) (by decide) (by decide) ?_ _ (lv_sub hl [0, 1, 2, 3] rfl)
  exact by unfold mX4_placeOf; rfl
def mX4_blockersOf (σ : MS) (x1 : Int32) : Int32 := (((mX4_boatsIn σ (mX4_of σ x1 5)) - 1) - (mX4_placeOf σ x1))
set_option maxHeartbeats 4000000 in
set_option maxRecDepth 100000 in
theorem k_X4_blockersOf (l : Launch) (g : WG) (ad : AM) (σ : MS) (x1 : Int32) (h_1 : vp_in x1 20) : Rd l yX4_blockersOf cX4_blockersOf 2 (some .int) 3 (Wl g (cM g ad σ) (fun _ => False)) [.ref ad.1, .int x1] (mX4_blockersOf σ x1) := by
  refine rd_of (by decide) (Nat.le_of_ble_eq_true rfl) ?_
  intro p e s m args below meth c ls hC hW hl
  obtain ⟨hP, hK, hE⟩ := hW
  obtain ⟨hx, hb, hml, hr, hown, hts, hlk, hnm⟩ := id hC
  have hl : lv_has ls 2 [(0, .ref ad.1), (1, .int x1)] := hl
  refine lv_aload_n hx hb dX4_blockersOf_0 rfl (lv_at hl 0 rfl) ?_
  refine lv_aload_n hx hb dX4_blockersOf_1 rfl (lv_at hl 0 rfl) ?_
  refine lv_iload_n hx hb dX4_blockersOf_2 rfl (lv_at hl 1 rfl) ?_
  refine lv_iconst (v := 5) hx hb dX4_blockersOf_3 (by decide) ?_
  refine callRd hC (k_X4_of l g ad σ x1 5 h_1 (in_iff.mpr (by decide))) ci_X4_of lk_X4_36 ⟨Nat.le_of_ble_eq_true rfl, Nat.le_of_ble_eq_true rfl⟩ hP hK hE (q0 := 0) rfl rfl rfl rfl hl.1 rfl (Nat.le_of_ble_eq_true rfl) dX4_blockersOf_4 ⟨Nat.zero_le _, Nat.zero_le _⟩ ?_
  refine callRd hC (k_X4_boatsIn l g ad σ (mX4_of σ x1 5)) ci_X4_boatsIn lk_X4_64 ⟨Nat.le_of_ble_eq_true rfl, Nat.le_of_ble_eq_true rfl⟩ hP hK hE (q0 := 0) rfl rfl rfl rfl hl.1 rfl (Nat.le_of_ble_eq_true rfl) dX4_blockersOf_7 ⟨Nat.zero_le _, Nat.zero_le _⟩ ?_
  refine lv_iconst (v := 1) hx hb dX4_blockersOf_10 (by decide) ?_
  refine lv_isub hx hb dX4_blockersOf_11 ?_
  refine lv_aload_n hx hb dX4_blockersOf_12 rfl (lv_at hl 0 rfl) ?_
  refine lv_iload_n hx hb dX4_blockersOf_13 rfl (lv_at hl 1 rfl) ?_
  refine callRd hC (k_X4_placeOf l g ad σ x1 h_1) ci_X4_placeOf lk_X4_67 ⟨Nat.le_of_ble_eq_true rfl, Nat.le_of_ble_eq_true rfl⟩ hP hK hE (q0 := 0) rfl rfl rfl rfl hl.1 rfl (Nat.le_of_ble_eq_true rfl) dX4_blockersOf_14 ⟨Nat.zero_le _, Nat.zero_le _⟩ ?_
  refine lv_isub hx hb dX4_blockersOf_17 ?_
  exact rd_ret hC dX4_blockersOf_18 (Eq.symm (by unfold mX4_blockersOf; rfl))
def mX4_boatAt_L6 (σ : MS) (x1 : Int32) (x2 : Int32) : Nat → Int32 → Int32 → Int32
  | 0, _, _ => 0
  | n + 1, u4, u3 => (if 20 ≤ u4 then u3 else (if (mX4_isIn σ u4 x1) = 0 then (mX4_boatAt_L6 σ x1 x2 n (u4 + 1) u3) else (if (mX4_placeOf σ u4) = x2 then (mX4_boatAt_L6 σ x1 x2 n (u4 + 1) u4) else (mX4_boatAt_L6 σ x1 x2 n (u4 + 1) u3))))
set_option maxHeartbeats 4000000 in
set_option maxRecDepth 100000 in
theorem q_X4_boatAt_6 {p : Program} {e : Env} {s : State} {m : MethodId} {args : Array Value} {below : List Frame} {meth : Method} {c : Code} (l : Launch) (g : WG) (ad : AM) (σ : MS) (x1 : Int32) (x2 : Int32) (hC : Cx p s m args meth c yX4_boatAt cX4_boatAt 5 (some .int)) (hP : va_P g.1 vwCl (cM g ad σ) s.heap) (hK : va_K g.1 vwCl (tysW g) s) (hE : Ex (fun _ => False) s s.heap) {r : Int32} : ∀ (n : Nat) (u4 : Int32) (u3 : Int32) (hi0 : 0 ≤ u4.toInt) (hi1 : u4.toInt ≤ 20) (hm : ((21 : Int) - u4.toInt).toNat < n) (hR : r = mX4_boatAt_L6 σ x1 x2 n u4 u3) (ls : Array Slot) (hl : lv_has ls 5 [(4, .int u4), (3, .int u3), (0, .ref ad.1), (1, .int x1), (2, .int x2)]), W p l e (rk 3) s m args below meth c s.heap [] 0 0 (MQ below (vp_Si (fun x => x = r)) args s 0 0 (fun _ => False)) (F0 m 6 ls []) := by
  obtain ⟨hx, hb, hml, hr, hown, hts, hlk, hnm⟩ := id hC
  intro n
  induction n with
  | zero => intro u4 u3 hi0 hi1 hm hR ls hl; exact absurd hm (Nat.not_lt_zero _)
  | succ n ih =>
    intro u4 u3 hi0 hi1 hm hR ls hl
    refine lv_iload hx hb dX4_boatAt_6 (lv_at hl 0 rfl) ?_
    refine lv_bipush (v := 20) hx hb dX4_boatAt_8 (by decide) ?_
    refine lv_icmp_ge (tgt := 46) hx hb dX4_boatAt_10 (by decide) (fun c_1 => ?_) (fun c_1 => ?_)
    · refine lv_iload_n hx hb dX4_boatAt_46 rfl (lv_at hl 1 rfl) ?_
      exact rd_ret hC dX4_boatAt_47 (Eq.symm (by rw [hR, mX4_boatAt_L6, if_pos c_1]))
    · refine lv_aload_n hx hb dX4_boatAt_13 rfl (lv_at hl 2 rfl) ?_
      refine lv_iload hx hb dX4_boatAt_14 (lv_at hl 0 rfl) ?_
      refine lv_iload_n hx hb dX4_boatAt_16 rfl (lv_at hl 3 rfl) ?_
      refine callRd hC (k_X4_isIn l g ad σ u4 x1 (in_up (n := 20) rfl hi0 c_1)) ci_X4_isIn lk_X4_54 ⟨Nat.le_of_ble_eq_true rfl, Nat.le_of_ble_eq_true rfl⟩ hP hK hE (q0 := 0) rfl rfl rfl rfl hl.1 rfl (Nat.le_of_ble_eq_true rfl) dX4_boatAt_17 ⟨Nat.zero_le _, Nat.zero_le _⟩ ?_
      refine lv_if_eq (tgt := 38) hx hb dX4_boatAt_20 (by decide) (fun c_2 => ?_) (fun c_2 => ?_)
      · refine lv_iload_n hx hb dX4_boatAt_38 rfl (lv_at hl 1 rfl) ?_
        refine lv_istore_n (lv' := [(3, .int u3), (4, .int u4), (0, .ref ad.1), (1, .int x1), (2, .int x2)]) hx hb dX4_boatAt_39 rfl hl (by decide) rfl (fun ls hl => ?_)
        refine lv_iinc (v := (u4 + 1)) (lv' := [(4, .int (u4 + 1)), (3, .int u3), (0, .ref ad.1), (1, .int x1), (2, .int x2)]) hx hb dX4_boatAt_40 hl (k := 1) rfl rfl (by decide) rfl (fun ls hl => ?_)
        refine lv_goto (tgt := 6) hx hb dX4_boatAt_43 (by decide) ?_
        have e9 := up_add (d := 1) (k := 1) (M := 20) rfl hi0 hi1 (by decide) (by decide)
        have e8 := nle_ti (k := 20) rfl c_1
        exact ih (u4 + 1) u3 (by rw [e9]; omega) (by rw [e9]; omega) (by rw [e9]; omega) (by rw [hR, mX4_boatAt_L6, if_neg c_1, if_pos c_2]) _ (lv_sub hl [0, 1, 2, 3, 4] rfl)
      · refine lv_aload_n hx hb dX4_boatAt_23 rfl (lv_at hl 2 rfl) ?_
        refine lv_iload hx hb dX4_boatAt_24 (lv_at hl 0 rfl) ?_
        refine callRd hC (k_X4_placeOf l g ad σ u4 (in_up (n := 20) rfl hi0 c_1)) ci_X4_placeOf lk_X4_67 ⟨Nat.le_of_ble_eq_true rfl, Nat.le_of_ble_eq_true rfl⟩ hP hK hE (q0 := 0) rfl rfl rfl rfl hl.1 rfl (Nat.le_of_ble_eq_true rfl) dX4_boatAt_26 ⟨Nat.zero_le _, Nat.zero_le _⟩ ?_
        refine lv_iload_n hx hb dX4_boatAt_29 rfl (lv_at hl 4 rfl) ?_
        refine lv_icmp_ne (tgt := 38) hx hb dX4_boatAt_30 (by decide) (fun c_3 => ?_) (fun c_3 => ?_)
        · refine lv_iload_n hx hb dX4_boatAt_38 rfl (lv_at hl 1 rfl) ?_
          refine lv_istore_n (lv' := [(3, .int u3), (4, .int u4), (0, .ref ad.1), (1, .int x1), (2, .int x2)]) hx hb dX4_boatAt_39 rfl hl (by decide) rfl (fun ls hl => ?_)
          refine lv_iinc (v := (u4 + 1)) (lv' := [(4, .int (u4 + 1)), (3, .int u3), (0, .ref ad.1), (1, .int x1), (2, .int x2)]) hx hb dX4_boatAt_40 hl (k := 1) rfl rfl (by decide) rfl (fun ls hl => ?_)
          refine lv_goto (tgt := 6) hx hb dX4_boatAt_43 (by decide) ?_
          have e9 := up_add (d := 1) (k := 1) (M := 20) rfl hi0 hi1 (by decide) (by decide)
          have e8 := nle_ti (k := 20) rfl c_1
          exact ih (u4 + 1) u3 (by rw [e9]; omega) (by rw [e9]; omega) (by rw [e9]; omega) (by rw [hR, mX4_boatAt_L6, if_neg c_1, if_neg c_2, if_neg c_3]) _ (lv_sub hl [0, 1, 2, 3, 4] rfl)
        · refine lv_iload hx hb dX4_boatAt_33 (lv_at hl 0 rfl) ?_
          refine lv_goto (tgt := 39) hx hb dX4_boatAt_35 (by decide) ?_
          refine lv_istore_n (lv' := [(3, .int u4), (4, .int u4), (0, .ref ad.1), (1, .int x1), (2, .int x2)]) hx hb dX4_boatAt_39 rfl hl (by decide) rfl (fun ls hl => ?_)
          refine lv_iinc (v := (u4 + 1)) (lv' := [(4, .int (u4 + 1)), (3, .int u4), (0, .ref ad.1), (1, .int x1), (2, .int x2)]) hx hb dX4_boatAt_40 hl (k := 1) rfl rfl (by decide) rfl (fun ls hl => ?_)
          refine lv_goto (tgt := 6) hx hb dX4_boatAt_43 (by decide) ?_
          have e9 := up_add (d := 1) (k := 1) (M := 20) rfl hi0 hi1 (by decide) (by decide)
          have e8 := nle_ti (k := 20) rfl c_1
          exact ih (u4 + 1) u4 (by rw [e9]; omega) (by rw [e9]; omega) (by rw [e9]; omega) (by rw [hR, mX4_boatAt_L6, if_neg c_1, if_neg c_2, if_pos c_3]) _ (lv_sub hl [0, 1, 2, 3, 4] rfl)
def mX4_boatAt (σ : MS) (x1 : Int32) (x2 : Int32) : Int32 := (mX4_boatAt_L6 σ x1 x2 22 0 (-5))
set_option maxHeartbeats 4000000 in
set_option maxRecDepth 100000 in
theorem k_X4_boatAt (l : Launch) (g : WG) (ad : AM) (σ : MS) (x1 : Int32) (x2 : Int32) : Rd l yX4_boatAt cX4_boatAt 5 (some .int) 3 (Wl g (cM g ad σ) (fun _ => False)) [.ref ad.1, .int x1, .int x2] (mX4_boatAt σ x1 x2) := by
  refine rd_of (by decide) (Nat.le_of_ble_eq_true rfl) ?_
  intro p e s m args below meth c ls hC hW hl
  obtain ⟨hP, hK, hE⟩ := hW
  obtain ⟨hx, hb, hml, hr, hown, hts, hlk, hnm⟩ := id hC
  have hl : lv_has ls 5 [(0, .ref ad.1), (1, .int x1), (2, .int x2)] := hl
  refine lv_bipush (v := (-5)) hx hb dX4_boatAt_0 (by decide) ?_
  refine lv_istore_n (lv' := [(3, .int (-5)), (0, .ref ad.1), (1, .int x1), (2, .int x2)]) hx hb dX4_boatAt_2 rfl hl (by decide) rfl (fun ls hl => ?_)
  refine lv_iconst (v := 0) hx hb dX4_boatAt_3 (by decide) ?_
  refine lv_istore (lv' := [(4, .int 0), (3, .int (-5)), (0, .ref ad.1), (1, .int x1), (2, .int x2)]) hx hb dX4_boatAt_4 hl (by decide) rfl (fun ls hl => ?_)
  refine q_X4_boatAt_6 l g ad σ x1 x2 hC hP hK hE 22 0 (-5) (by decide) (by decide) (by decide) ?_ _ (lv_sub hl [0, 1, 2, 3, 4] rfl)
  exact by unfold mX4_boatAt; rfl
def mX4_stand (σ : MS) (x1 : Int32) (x2 : Int32) : MS := (M_set_z (mX4_put (mX4_put σ x1 5 x2) x1 11 ((M_z (mX4_put σ x1 5 x2)) (7 : Int32).toNatClampNeg)) (upd (M_z (mX4_put (mX4_put σ x1 5 x2) x1 11 ((M_z (mX4_put σ x1 5 x2)) (7 : Int32).toNatClampNeg))) (7 : Int32).toNatClampNeg (((M_z (mX4_put (mX4_put σ x1 5 x2) x1 11 ((M_z (mX4_put σ x1 5 x2)) (7 : Int32).toNatClampNeg))) (7 : Int32).toNatClampNeg) + 1)))
set_option maxHeartbeats 4000000 in
set_option maxRecDepth 100000 in
theorem k_X4_stand (l : Launch) (g : WG) (ad : AM) (σ : MS) (x1 : Int32) (x2 : Int32) (h_1 : vp_in x1 20) : Wv l yX4_stand cX4_stand 3 1 g (cM g ad σ) (cM g ad (mX4_stand σ x1 x2)) [.ref ad.1, .int x1, .int x2] := by
  refine wv_of (by decide) (Nat.le_of_ble_eq_true rfl) ?_
  intro p e s m args below meth c ls A hC hAe hP hD hK hE hA hS hl
  obtain ⟨hx, hb, hml, hr, hown, hts, hlk, hnm⟩ := id hC
  have hl : lv_has ls 3 [(0, .ref ad.1), (1, .int x1), (2, .int x2)] := hl
  refine lv_aload_n hx hb dX4_stand_0 rfl (lv_at hl 0 rfl) ?_
  refine lv_iload_n hx hb dX4_stand_1 rfl (lv_at hl 1 rfl) ?_
  refine lv_iconst (v := 5) hx hb dX4_stand_2 (by decide) ?_
  refine lv_iload_n hx hb dX4_stand_3 rfl (lv_at hl 2 rfl) ?_
  refine callWv hC (k_X4_put l g ad σ x1 5 x2 h_1 (in_iff.mpr (by decide))) ci_X4_put lk_X4_70 ⟨Nat.le_of_ble_eq_true rfl, Nat.le_of_ble_eq_true rfl⟩ hP hD hK hE hS hA (q0 := 0) rfl rfl rfl rfl hl.1 rfl (Nat.le_of_ble_eq_true rfl) dX4_stand_4 ⟨Nat.zero_le _, Nat.zero_le _⟩ (fun H locs hP _ hD hS _ _ => ?_)
  refine lv_aload_n hx hb dX4_stand_7 rfl (lv_at hl 0 rfl) ?_
  refine lv_iload_n hx hb dX4_stand_8 rfl (lv_at hl 1 rfl) ?_
  refine lv_bipush (v := 11) hx hb dX4_stand_9 (by decide) ?_
  refine lv_aload_n hx hb dX4_stand_11 rfl (lv_at hl 0 rfl) ?_
  refine gM_z hC rfl hK hP dX4_stand_12 ?_
  refine lv_bipush (v := 7) hx hb dX4_stand_15 (by decide) ?_
  refine lM_z hC hK hP (in_iff.mpr (by decide)) dX4_stand_17 ?_
  refine callWv hC (k_X4_put l g ad (mX4_put σ x1 5 x2) x1 11 ((M_z (mX4_put σ x1 5 x2)) (7 : Int32).toNatClampNeg) h_1 (in_iff.mpr (by decide))) ci_X4_put lk_X4_70 ⟨Nat.le_of_ble_eq_true rfl, Nat.le_of_ble_eq_true rfl⟩ hP hD hK hE hS hA (q0 := 0) rfl rfl rfl rfl hl.1 rfl (Nat.le_of_ble_eq_true rfl) dX4_stand_18 ⟨Nat.zero_le _, Nat.zero_le _⟩ (fun H locs hP _ hD hS _ _ => ?_)
  refine lv_aload_n hx hb dX4_stand_21 rfl (lv_at hl 0 rfl) ?_
  refine gM_z hC rfl hK hP dX4_stand_22 ?_
  refine lv_bipush (v := 7) hx hb dX4_stand_25 (by decide) ?_
  refine lv_dup2_11 hx hb dX4_stand_27 rfl rfl ?_
  refine lM_z hC hK hP (in_iff.mpr (by decide)) dX4_stand_28 ?_
  refine lv_iconst (v := 1) hx hb dX4_stand_29 (by decide) ?_
  refine lv_iadd hx hb dX4_stand_30 ?_
  refine sM_z hC hK hP hD hS (in_iff.mpr (by decide)) dX4_stand_31 (fun H locs hP hD hS => ?_)
  have hm : mX4_stand σ x1 x2 = (M_set_z (mX4_put (mX4_put σ x1 5 x2) x1 11 ((M_z (mX4_put σ x1 5 x2)) (7 : Int32).toNatClampNeg)) (upd (M_z (mX4_put (mX4_put σ x1 5 x2) x1 11 ((M_z (mX4_put σ x1 5 x2)) (7 : Int32).toNatClampNeg))) (7 : Int32).toNatClampNeg (((M_z (mX4_put (mX4_put σ x1 5 x2) x1 11 ((M_z (mX4_put σ x1 5 x2)) (7 : Int32).toNatClampNeg))) (7 : Int32).toNatClampNeg) + 1))) := by unfold mX4_stand; rfl
  exact wv_ret hC hP (hAe ▸ hD) (hAe ▸ hS) dX4_stand_32 (by rw [hm])
def mX4_mastsIn_L4 (σ : MS) (x1 : Int32) : Nat → Int32 → Int32 → Int32
  | 0, _, _ => 0
  | n + 1, u3, u2 => (if 20 ≤ u3 then u2 else (if (mX4_of σ u3 0) = 1 then (if (mX4_of σ u3 7) = x1 then (mX4_mastsIn_L4 σ x1 n (u3 + 1) (u2 + 1)) else (mX4_mastsIn_L4 σ x1 n (u3 + 1) (u2 + 0))) else (mX4_mastsIn_L4 σ x1 n (u3 + 1) (u2 + 0))))
set_option maxHeartbeats 4000000 in
set_option maxRecDepth 100000 in
theorem q_X4_mastsIn_4 {p : Program} {e : Env} {s : State} {m : MethodId} {args : Array Value} {below : List Frame} {meth : Method} {c : Code} (l : Launch) (g : WG) (ad : AM) (σ : MS) (x1 : Int32) (hC : Cx p s m args meth c yX4_mastsIn cX4_mastsIn 4 (some .int)) (hP : va_P g.1 vwCl (cM g ad σ) s.heap) (hK : va_K g.1 vwCl (tysW g) s) (hE : Ex (fun _ => False) s s.heap) {r : Int32} : ∀ (n : Nat) (u3 : Int32) (u2 : Int32) (hi0 : 0 ≤ u3.toInt) (hi1 : u3.toInt ≤ 20) (hm : ((21 : Int) - u3.toInt).toNat < n) (hR : r = mX4_mastsIn_L4 σ x1 n u3 u2) (ls : Array Slot) (hl : lv_has ls 4 [(3, .int u3), (2, .int u2), (0, .ref ad.1), (1, .int x1)]), W p l e (rk 1) s m args below meth c s.heap [] 0 0 (MQ below (vp_Si (fun x => x = r)) args s 0 0 (fun _ => False)) (F0 m 4 ls []) := by
  obtain ⟨hx, hb, hml, hr, hown, hts, hlk, hnm⟩ := id hC
  intro n
  induction n with
  | zero => intro u3 u2 hi0 hi1 hm hR ls hl; exact absurd hm (Nat.not_lt_zero _)
  | succ n ih =>
    intro u3 u2 hi0 hi1 hm hR ls hl
    refine lv_iload_n hx hb dX4_mastsIn_4 rfl (lv_at hl 0 rfl) ?_
    refine lv_bipush (v := 20) hx hb dX4_mastsIn_5 (by decide) ?_
    refine lv_icmp_ge (tgt := 45) hx hb dX4_mastsIn_7 (by decide) (fun c_1 => ?_) (fun c_1 => ?_)
    · refine lv_iload_n hx hb dX4_mastsIn_45 rfl (lv_at hl 1 rfl) ?_
      exact rd_ret hC dX4_mastsIn_46 (Eq.symm (by rw [hR, mX4_mastsIn_L4, if_pos c_1]))
    · refine lv_iload_n hx hb dX4_mastsIn_10 rfl (lv_at hl 1 rfl) ?_
      refine lv_aload_n hx hb dX4_mastsIn_11 rfl (lv_at hl 2 rfl) ?_
      refine lv_iload_n hx hb dX4_mastsIn_12 rfl (lv_at hl 0 rfl) ?_
      refine lv_iconst (v := 0) hx hb dX4_mastsIn_13 (by decide) ?_
      refine callRd hC (k_X4_of l g ad σ u3 0 (in_up (n := 20) rfl hi0 c_1) (in_iff.mpr (by decide))) ci_X4_of lk_X4_36 ⟨Nat.le_of_ble_eq_true rfl, Nat.le_of_ble_eq_true rfl⟩ hP hK hE (q0 := 0) rfl rfl rfl rfl hl.1 rfl (Nat.le_of_ble_eq_true rfl) dX4_mastsIn_14 ⟨Nat.zero_le _, Nat.zero_le _⟩ ?_
      refine lv_iconst (v := 1) hx hb dX4_mastsIn_17 (by decide) ?_
      refine lv_icmp_ne (tgt := 36) hx hb dX4_mastsIn_18 (by decide) (fun c_2 => ?_) (fun c_2 => ?_)
      · refine lv_iconst (v := 0) hx hb dX4_mastsIn_36 (by decide) ?_
        refine lv_iadd hx hb dX4_mastsIn_37 ?_
        refine lv_istore_n (lv' := [(2, .int (u2 + 0)), (3, .int u3), (0, .ref ad.1), (1, .int x1)]) hx hb dX4_mastsIn_38 rfl hl (by decide) rfl (fun ls hl => ?_)
        refine lv_iinc (v := (u3 + 1)) (lv' := [(3, .int (u3 + 1)), (2, .int (u2 + 0)), (0, .ref ad.1), (1, .int x1)]) hx hb dX4_mastsIn_39 hl (k := 1) rfl rfl (by decide) rfl (fun ls hl => ?_)
        refine lv_goto (tgt := 4) hx hb dX4_mastsIn_42 (by decide) ?_
        have e9 := up_add (d := 1) (k := 1) (M := 20) rfl hi0 hi1 (by decide) (by decide)
        have e8 := nle_ti (k := 20) rfl c_1
        exact ih (u3 + 1) (u2 + 0) (by rw [e9]; omega) (by rw [e9]; omega) (by rw [e9]; omega) (by rw [hR, mX4_mastsIn_L4, if_neg c_1, if_neg c_2]) _ (lv_sub hl [0, 1, 2, 3] rfl)
      · refine lv_aload_n hx hb dX4_mastsIn_21 rfl (lv_at hl 2 rfl) ?_
        refine lv_iload_n hx hb dX4_mastsIn_22 rfl (lv_at hl 0 rfl) ?_
        refine lv_bipush (v := 7) hx hb dX4_mastsIn_23 (by decide) ?_
        refine callRd hC (k_X4_of l g ad σ u3 7 (in_up (n := 20) rfl hi0 c_1) (in_iff.mpr (by decide))) ci_X4_of lk_X4_36 ⟨Nat.le_of_ble_eq_true rfl, Nat.le_of_ble_eq_true rfl⟩ hP hK hE (q0 := 0) rfl rfl rfl rfl hl.1 rfl (Nat.le_of_ble_eq_true rfl) dX4_mastsIn_25 ⟨Nat.zero_le _, Nat.zero_le _⟩ ?_
        refine lv_iload_n hx hb dX4_mastsIn_28 rfl (lv_at hl 3 rfl) ?_
        refine lv_icmp_ne (tgt := 36) hx hb dX4_mastsIn_29 (by decide) (fun c_3 => ?_) (fun c_3 => ?_)
        · refine lv_iconst (v := 0) hx hb dX4_mastsIn_36 (by decide) ?_
          refine lv_iadd hx hb dX4_mastsIn_37 ?_
          refine lv_istore_n (lv' := [(2, .int (u2 + 0)), (3, .int u3), (0, .ref ad.1), (1, .int x1)]) hx hb dX4_mastsIn_38 rfl hl (by decide) rfl (fun ls hl => ?_)
          refine lv_iinc (v := (u3 + 1)) (lv' := [(3, .int (u3 + 1)), (2, .int (u2 + 0)), (0, .ref ad.1), (1, .int x1)]) hx hb dX4_mastsIn_39 hl (k := 1) rfl rfl (by decide) rfl (fun ls hl => ?_)
          refine lv_goto (tgt := 4) hx hb dX4_mastsIn_42 (by decide) ?_
          have e9 := up_add (d := 1) (k := 1) (M := 20) rfl hi0 hi1 (by decide) (by decide)
          have e8 := nle_ti (k := 20) rfl c_1
          exact ih (u3 + 1) (u2 + 0) (by rw [e9]; omega) (by rw [e9]; omega) (by rw [e9]; omega) (by rw [hR, mX4_mastsIn_L4, if_neg c_1, if_pos c_2, if_neg c_3]) _ (lv_sub hl [0, 1, 2, 3] rfl)
        · refine lv_iconst (v := 1) hx hb dX4_mastsIn_32 (by decide) ?_
          refine lv_goto (tgt := 37) hx hb dX4_mastsIn_33 (by decide) ?_
          refine lv_iadd hx hb dX4_mastsIn_37 ?_
          refine lv_istore_n (lv' := [(2, .int (u2 + 1)), (3, .int u3), (0, .ref ad.1), (1, .int x1)]) hx hb dX4_mastsIn_38 rfl hl (by decide) rfl (fun ls hl => ?_)
          refine lv_iinc (v := (u3 + 1)) (lv' := [(3, .int (u3 + 1)), (2, .int (u2 + 1)), (0, .ref ad.1), (1, .int x1)]) hx hb dX4_mastsIn_39 hl (k := 1) rfl rfl (by decide) rfl (fun ls hl => ?_)
          refine lv_goto (tgt := 4) hx hb dX4_mastsIn_42 (by decide) ?_
          have e9 := up_add (d := 1) (k := 1) (M := 20) rfl hi0 hi1 (by decide) (by decide)
          have e8 := nle_ti (k := 20) rfl c_1
          exact ih (u3 + 1) (u2 + 1) (by rw [e9]; omega) (by rw [e9]; omega) (by rw [e9]; omega) (by rw [hR, mX4_mastsIn_L4, if_neg c_1, if_pos c_2, if_pos c_3]) _ (lv_sub hl [0, 1, 2, 3] rfl)
def mX4_mastsIn (σ : MS) (x1 : Int32) : Int32 := (mX4_mastsIn_L4 σ x1 22 0 0)
set_option maxHeartbeats 4000000 in
set_option maxRecDepth 100000 in
theorem k_X4_mastsIn (l : Launch) (g : WG) (ad : AM) (σ : MS) (x1 : Int32) : Rd l yX4_mastsIn cX4_mastsIn 4 (some .int) 1 (Wl g (cM g ad σ) (fun _ => False)) [.ref ad.1, .int x1] (mX4_mastsIn σ x1) := by
  refine rd_of (by decide) (Nat.le_of_ble_eq_true rfl) ?_
  intro p e s m args below meth c ls hC hW hl
  obtain ⟨hP, hK, hE⟩ := hW
  obtain ⟨hx, hb, hml, hr, hown, hts, hlk, hnm⟩ := id hC
  have hl : lv_has ls 4 [(0, .ref ad.1), (1, .int x1)] := hl
  refine lv_iconst (v := 0) hx hb dX4_mastsIn_0 (by decide) ?_
  refine lv_istore_n (lv' := [(2, .int 0), (0, .ref ad.1), (1, .int x1)]) hx hb dX4_mastsIn_1 rfl hl (by decide) rfl (fun ls hl => ?_)
  refine lv_iconst (v := 0) hx hb dX4_mastsIn_2 (by decide) ?_
  refine lv_istore_n (lv' := [(3, .int 0), (2, .int 0), (0, .ref ad.1), (1, .int x1)]) hx hb dX4_mastsIn_3 rfl hl (by decide) rfl (fun ls hl => ?_)
  refine q_X4_mastsIn_4 l g ad σ x1 hC hP hK hE 22 0 0 (by decide) (by decide) (by decide) ?_ _ (lv_sub hl [0, 1, 2, 3] rfl)
  exact by unfold mX4_mastsIn; rfl
def mX4_boats_L4 (σ : MS) : Nat → Int32 → Int32 → Int32
  | 0, _, _ => 0
  | n + 1, u2, u1 => (if 20 ≤ u2 then u1 else (mX4_boats_L4 σ n (u2 + 1) (u1 + (mX4_of σ u2 0))))
set_option maxHeartbeats 4000000 in
set_option maxRecDepth 100000 in
theorem q_X4_boats_4 {p : Program} {e : Env} {s : State} {m : MethodId} {args : Array Value} {below : List Frame} {meth : Method} {c : Code} (l : Launch) (g : WG) (ad : AM) (σ : MS) (hC : Cx p s m args meth c yX4_boats cX4_boats 3 (some .int)) (hP : va_P g.1 vwCl (cM g ad σ) s.heap) (hK : va_K g.1 vwCl (tysW g) s) (hE : Ex (fun _ => False) s s.heap) {r : Int32} : ∀ (n : Nat) (u2 : Int32) (u1 : Int32) (hi0 : 0 ≤ u2.toInt) (hi1 : u2.toInt ≤ 20) (hm : ((21 : Int) - u2.toInt).toNat < n) (hR : r = mX4_boats_L4 σ n u2 u1) (ls : Array Slot) (hl : lv_has ls 3 [(2, .int u2), (1, .int u1), (0, .ref ad.1)]), W p l e (rk 1) s m args below meth c s.heap [] 0 0 (MQ below (vp_Si (fun x => x = r)) args s 0 0 (fun _ => False)) (F0 m 4 ls []) := by
  obtain ⟨hx, hb, hml, hr, hown, hts, hlk, hnm⟩ := id hC
  intro n
  induction n with
  | zero => intro u2 u1 hi0 hi1 hm hR ls hl; exact absurd hm (Nat.not_lt_zero _)
  | succ n ih =>
    intro u2 u1 hi0 hi1 hm hR ls hl
    refine lv_iload_n hx hb dX4_boats_4 rfl (lv_at hl 0 rfl) ?_
    refine lv_bipush (v := 20) hx hb dX4_boats_5 (by decide) ?_
    refine lv_icmp_ge (tgt := 25) hx hb dX4_boats_7 (by decide) (fun c_1 => ?_) (fun c_1 => ?_)
    · refine lv_iload_n hx hb dX4_boats_25 rfl (lv_at hl 1 rfl) ?_
      exact rd_ret hC dX4_boats_26 (Eq.symm (by rw [hR, mX4_boats_L4, if_pos c_1]))
    · refine lv_iload_n hx hb dX4_boats_10 rfl (lv_at hl 1 rfl) ?_
      refine lv_aload_n hx hb dX4_boats_11 rfl (lv_at hl 2 rfl) ?_
      refine lv_iload_n hx hb dX4_boats_12 rfl (lv_at hl 0 rfl) ?_
      refine lv_iconst (v := 0) hx hb dX4_boats_13 (by decide) ?_
      refine callRd hC (k_X4_of l g ad σ u2 0 (in_up (n := 20) rfl hi0 c_1) (in_iff.mpr (by decide))) ci_X4_of lk_X4_36 ⟨Nat.le_of_ble_eq_true rfl, Nat.le_of_ble_eq_true rfl⟩ hP hK hE (q0 := 0) rfl rfl rfl rfl hl.1 rfl (Nat.le_of_ble_eq_true rfl) dX4_boats_14 ⟨Nat.zero_le _, Nat.zero_le _⟩ ?_
      refine lv_iadd hx hb dX4_boats_17 ?_
      refine lv_istore_n (lv' := [(1, .int (u1 + (mX4_of σ u2 0))), (2, .int u2), (0, .ref ad.1)]) hx hb dX4_boats_18 rfl hl (by decide) rfl (fun ls hl => ?_)
      refine lv_iinc (v := (u2 + 1)) (lv' := [(2, .int (u2 + 1)), (1, .int (u1 + (mX4_of σ u2 0))), (0, .ref ad.1)]) hx hb dX4_boats_19 hl (k := 1) rfl rfl (by decide) rfl (fun ls hl => ?_)
      refine lv_goto (tgt := 4) hx hb dX4_boats_22 (by decide) ?_
      have e9 := up_add (d := 1) (k := 1) (M := 20) rfl hi0 hi1 (by decide) (by decide)
      have e8 := nle_ti (k := 20) rfl c_1
      exact ih (u2 + 1) (u1 + (mX4_of σ u2 0)) (by rw [e9]; omega) (by rw [e9]; omega) (by rw [e9]; omega) (by rw [hR, mX4_boats_L4, if_neg c_1]) _ (lv_sub hl [0, 1, 2] rfl)
def mX4_boats (σ : MS) : Int32 := (mX4_boats_L4 σ 22 0 0)
set_option maxHeartbeats 4000000 in
set_option maxRecDepth 100000 in
theorem k_X4_boats (l : Launch) (g : WG) (ad : AM) (σ : MS) : Rd l yX4_boats cX4_boats 3 (some .int) 1 (Wl g (cM g ad σ) (fun _ => False)) [.ref ad.1] (mX4_boats σ) := by
  refine rd_of (by decide) (Nat.le_of_ble_eq_true rfl) ?_
  intro p e s m args below meth c ls hC hW hl
  obtain ⟨hP, hK, hE⟩ := hW
  obtain ⟨hx, hb, hml, hr, hown, hts, hlk, hnm⟩ := id hC
  have hl : lv_has ls 3 [(0, .ref ad.1)] := hl
  refine lv_iconst (v := 0) hx hb dX4_boats_0 (by decide) ?_
  refine lv_istore_n (lv' := [(1, .int 0), (0, .ref ad.1)]) hx hb dX4_boats_1 rfl hl (by decide) rfl (fun ls hl => ?_)
  refine lv_iconst (v := 0) hx hb dX4_boats_2 (by decide) ?_
  refine lv_istore_n (lv' := [(2, .int 0), (1, .int 0), (0, .ref ad.1)]) hx hb dX4_boats_3 rfl hl (by decide) rfl (fun ls hl => ?_)
  refine q_X4_boats_4 l g ad σ hC hP hK hE 22 0 0 (by decide) (by decide) (by decide) ?_ _ (lv_sub hl [0, 1, 2] rfl)
  exact by unfold mX4_boats; rfl
theorem ix_255 {s k : Int32} (hs : 0 ≤ s.toInt ∧ s.toInt ≤ 3) (hk : vp_in k 255) : vp_in ((255 * s) + k) 1020 := by
  obtain ⟨h3, h4⟩ := in_iff.mp hk
  have e : ((255 : Int32) * s).toInt = 255 * s.toInt := ti_mul (x := 255) (by show _ ≤ 255 * s.toInt; omega) (by show 255 * s.toInt < _; omega)
  refine in_iff.mpr ?_
  rw [ti_add (by omega) (by omega), e]
  omega
theorem ps_second {σ : MS} (h : 0 ≤ (M_states σ).toInt ∧ (M_states σ).toInt ≤ 4) (c : ¬ (M_states σ) = 4) : 0 ≤ (M_states σ).toInt ∧ (M_states σ).toInt ≤ 3 := by
  rw [eq_ti] at c
  have e : (4 : Int32).toInt = 4 := rfl
  omega
theorem ps_first {σ : MS} (h : (M_states σ).toInt = 4) : 0 ≤ (M_states (M_set_states σ ((M_states σ) - 1))).toInt ∧ (M_states (M_set_states σ ((M_states σ) - 1))).toInt ≤ 3 := by
  show 0 ≤ ((M_states σ) - 1).toInt ∧ ((M_states σ) - 1).toInt ≤ 3
  have e : (1 : Int32).toInt = 1 := rfl
  rw [ti_sub (by omega) (by omega), e]
  omega
def mX4_push_z_L51  : Nat → MS → Int32 → MS
  | 0, σ, _ => σ
  | n + 1, σ, u2 => (if 255 ≤ u2 then (M_set_states σ ((M_states σ) + 1)) else (mX4_push_z_L51 n (M_set_old σ (upd (M_old σ) ((255 * (M_states σ)) + u2).toNatClampNeg ((M_z σ) u2.toNatClampNeg))) (u2 + 1)))
set_option maxHeartbeats 4000000 in
set_option maxRecDepth 100000 in
theorem q_X4_push_z_51 {p : Program} {e : Env} {s : State} {m : MethodId} {args : Array Value} {below : List Frame} {meth : Method} {c : Code} (l : Launch) (g : WG) (ad : AM) (hC : Cx p s m args meth c yX4_push cX4_push 3 none) (hK : va_K g.1 vwCl (tysW g) s) {A : Nat → Prop} {ws0 : va_W} (hE : Ex A s s.heap) (hA : ∀ q : Nat, s.heap.size ≤ q → A q) (hAe : A = va_A ws0 s.heap.size) {r : MS} : ∀ (n : Nat) (σ : MS) (H : Heap) (locs : List Loc) (hP : va_P g.1 vwCl (cM g ad σ) H) (hD : va_D A (cM g ad σ)) (hS : va_S A s.heap H locs) (u2 : Int32) (hi0 : 0 ≤ u2.toInt) (hi1 : u2.toInt ≤ 255) (hs : 0 ≤ (M_states σ).toInt ∧ (M_states σ).toInt ≤ 3) (hm : ((256 : Int) - u2.toInt).toNat < n) (hR : r = mX4_push_z_L51 n σ u2) (ls : Array Slot) (hl : lv_has ls 3 [(2, .int u2), (0, .ref ad.1), (1, .ref ad.2.1)]), W p l e (rk 0) s m args below meth c H locs 0 0 (MQ below (va_Qv (fun _ => True) (Bw g ws0 (cM g ad r) s.heap.size) (va_A ws0 s.heap.size)) args s 0 0 (va_A ws0 s.heap.size)) (F0 m 51 ls []) := by
  obtain ⟨hx, hb, hml, hr, hown, hts, hlk, hnm⟩ := id hC
  intro n
  induction n with
  | zero => intro σ H locs hP hD hS u2 hi0 hi1 hs hm hR ls hl; exact absurd hm (Nat.not_lt_zero _)
  | succ n ih =>
    intro σ H locs hP hD hS u2 hi0 hi1 hs hm hR ls hl
    refine lv_iload_n hx hb dX4_push_51 rfl (lv_at hl 0 rfl) ?_
    refine lv_sipush (v := 255) hx hb dX4_push_52 (by decide) ?_
    refine lv_icmp_ge (tgt := 82) hx hb dX4_push_55 (by decide) (fun c_2 => ?_) (fun c_2 => ?_)
    · refine lv_aload_n hx hb dX4_push_82 rfl (lv_at hl 1 rfl) ?_
      refine lv_dup hx hb dX4_push_83 rfl ?_
      refine gM_states hC rfl hK hP dX4_push_84 ?_
      refine lv_iconst (v := 1) hx hb dX4_push_87 (by decide) ?_
      refine lv_iadd hx hb dX4_push_88 ?_
      refine pM_states hC rfl hK hP hD hS dX4_push_89 (fun H locs hP hD hS => ?_)
      have hm : r = (M_set_states σ ((M_states σ) + 1)) := by rw [hR, mX4_push_z_L51, if_pos c_2]
      exact wv_ret hC hP (hAe ▸ hD) (hAe ▸ hS) dX4_push_92 (by rw [hm])
    · refine lv_aload_n hx hb dX4_push_58 rfl (lv_at hl 1 rfl) ?_
      refine gM_old hC rfl hK hP dX4_push_59 ?_
      refine lv_sipush (v := 255) hx hb dX4_push_62 (by decide) ?_
      refine lv_aload_n hx hb dX4_push_65 rfl (lv_at hl 1 rfl) ?_
      refine gM_states hC rfl hK hP dX4_push_66 ?_
      refine lv_imul hx hb dX4_push_69 ?_
      refine lv_iload_n hx hb dX4_push_70 rfl (lv_at hl 0 rfl) ?_
      refine lv_iadd hx hb dX4_push_71 ?_
      refine lv_aload_n hx hb dX4_push_72 rfl (lv_at hl 2 rfl) ?_
      refine lv_iload_n hx hb dX4_push_73 rfl (lv_at hl 0 rfl) ?_
      refine lM_z hC hK hP (in_up (n := 255) rfl hi0 c_2) dX4_push_74 ?_
      refine sM_old hC hK hP hD hS (ix_255 hs (in_up (n := 255) rfl hi0 c_2)) dX4_push_75 (fun H locs hP hD hS => ?_)
      refine lv_iinc (v := (u2 + 1)) (lv' := [(2, .int (u2 + 1)), (0, .ref ad.1), (1, .ref ad.2.1)]) hx hb dX4_push_76 hl (k := 0) rfl rfl (by decide) rfl (fun ls hl => ?_)
      refine lv_goto (tgt := 51) hx hb dX4_push_79 (by decide) ?_
      have e9 := up_add (d := 1) (k := 1) (M := 255) rfl hi0 hi1 (by decide) (by decide)
      have e8 := nle_ti (k := 255) rfl c_2
      exact ih (M_set_old σ (upd (M_old σ) ((255 * (M_states σ)) + u2).toNatClampNeg ((M_z σ) u2.toNatClampNeg))) _ _ hP hD hS (u2 + 1) (by rw [e9]; omega) (by rw [e9]; omega) hs (by rw [e9]; omega) (by rw [hR, mX4_push_z_L51, if_neg c_2]) _ (lv_sub hl [0, 1, 2] rfl)
def mX4_push_z_L10  : Nat → MS → Int32 → MS
  | 0, σ, _ => σ
  | n + 1, σ, u2 => (if 765 ≤ u2 then (mX4_push_z_L51 257 (M_set_states σ ((M_states σ) - 1)) 0) else (mX4_push_z_L10 n (M_set_old σ (upd (M_old σ) u2.toNatClampNeg ((M_old σ) (255 + u2).toNatClampNeg))) (u2 + 1)))
set_option maxHeartbeats 4000000 in
set_option maxRecDepth 100000 in
theorem q_X4_push_z_10 {p : Program} {e : Env} {s : State} {m : MethodId} {args : Array Value} {below : List Frame} {meth : Method} {c : Code} (l : Launch) (g : WG) (ad : AM) (hC : Cx p s m args meth c yX4_push cX4_push 3 none) (hK : va_K g.1 vwCl (tysW g) s) {A : Nat → Prop} {ws0 : va_W} (hE : Ex A s s.heap) (hA : ∀ q : Nat, s.heap.size ≤ q → A q) (hAe : A = va_A ws0 s.heap.size) {r : MS} : ∀ (n : Nat) (σ : MS) (H : Heap) (locs : List Loc) (hP : va_P g.1 vwCl (cM g ad σ) H) (hD : va_D A (cM g ad σ)) (hS : va_S A s.heap H locs) (u2 : Int32) (hi0 : 0 ≤ u2.toInt) (hi1 : u2.toInt ≤ 765) (hs : (M_states σ).toInt = 4) (hm : ((766 : Int) - u2.toInt).toNat < n) (hR : r = mX4_push_z_L10 n σ u2) (ls : Array Slot) (hl : lv_has ls 3 [(2, .int u2), (0, .ref ad.1), (1, .ref ad.2.1)]), W p l e (rk 0) s m args below meth c H locs 0 0 (MQ below (va_Qv (fun _ => True) (Bw g ws0 (cM g ad r) s.heap.size) (va_A ws0 s.heap.size)) args s 0 0 (va_A ws0 s.heap.size)) (F0 m 10 ls []) := by
  obtain ⟨hx, hb, hml, hr, hown, hts, hlk, hnm⟩ := id hC
  intro n
  induction n with
  | zero => intro σ H locs hP hD hS u2 hi0 hi1 hs hm hR ls hl; exact absurd hm (Nat.not_lt_zero _)
  | succ n ih =>
    intro σ H locs hP hD hS u2 hi0 hi1 hs hm hR ls hl
    refine lv_iload_n hx hb dX4_push_10 rfl (lv_at hl 0 rfl) ?_
    refine lv_sipush (v := 765) hx hb dX4_push_11 (by decide) ?_
    refine lv_icmp_ge (tgt := 39) hx hb dX4_push_14 (by decide) (fun c_3 => ?_) (fun c_3 => ?_)
    · refine lv_aload_n hx hb dX4_push_39 rfl (lv_at hl 1 rfl) ?_
      refine lv_dup hx hb dX4_push_40 rfl ?_
      refine gM_states hC rfl hK hP dX4_push_41 ?_
      refine lv_iconst (v := 1) hx hb dX4_push_44 (by decide) ?_
      refine lv_isub hx hb dX4_push_45 ?_
      refine pM_states hC rfl hK hP hD hS dX4_push_46 (fun H locs hP hD hS => ?_)
      refine lv_iconst (v := 0) hx hb dX4_push_49 (by decide) ?_
      refine lv_istore_n (lv' := [(2, .int 0), (0, .ref ad.1), (1, .ref ad.2.1)]) hx hb dX4_push_50 rfl hl (by decide) rfl (fun ls hl => ?_)
      refine q_X4_push_z_51 l g ad hC hK hE hA hAe 257 (M_set_states σ ((M_states σ) - 1)) _ _ hP hD hS 0 (by decide) (by decide) (ps_first hs) (by decide) ?_ _ (lv_sub hl [0, 1, 2] rfl)
      exact by rw [hR, mX4_push_z_L10, if_pos c_3]
    · refine lv_aload_n hx hb dX4_push_17 rfl (lv_at hl 1 rfl) ?_
      refine gM_old hC rfl hK hP dX4_push_18 ?_
      refine lv_iload_n hx hb dX4_push_21 rfl (lv_at hl 0 rfl) ?_
      refine lv_aload_n hx hb dX4_push_22 rfl (lv_at hl 1 rfl) ?_
      refine gM_old hC rfl hK hP dX4_push_23 ?_
      refine lv_sipush (v := 255) hx hb dX4_push_26 (by decide) ?_
      refine lv_iload_n hx hb dX4_push_29 rfl (lv_at hl 0 rfl) ?_
      refine lv_iadd hx hb dX4_push_30 ?_
      refine lM_old hC hK hP (ix_c (z := 255) rfl (by decide) (in_up (n := 765) rfl hi0 c_3) (by decide) (by decide)) dX4_push_31 ?_
      refine sM_old hC hK hP hD hS (in_mono (in_up (n := 765) rfl hi0 c_3) (by decide)) dX4_push_32 (fun H locs hP hD hS => ?_)
      refine lv_iinc (v := (u2 + 1)) (lv' := [(2, .int (u2 + 1)), (0, .ref ad.1), (1, .ref ad.2.1)]) hx hb dX4_push_33 hl (k := 0) rfl rfl (by decide) rfl (fun ls hl => ?_)
      refine lv_goto (tgt := 10) hx hb dX4_push_36 (by decide) ?_
      have e9 := up_add (d := 1) (k := 1) (M := 765) rfl hi0 hi1 (by decide) (by decide)
      have e8 := nle_ti (k := 765) rfl c_3
      exact ih (M_set_old σ (upd (M_old σ) u2.toNatClampNeg ((M_old σ) (255 + u2).toNatClampNeg))) _ _ hP hD hS (u2 + 1) (by rw [e9]; omega) (by rw [e9]; omega) hs (by rw [e9]; omega) (by rw [hR, mX4_push_z_L10, if_neg c_3]) _ (lv_sub hl [0, 1, 2] rfl)
def mX4_push_z (σ : MS) : MS := (if (M_states σ) = 4 then (mX4_push_z_L10 767 σ 0) else (mX4_push_z_L51 257 σ 0))
set_option maxHeartbeats 4000000 in
set_option maxRecDepth 100000 in
theorem k_X4_push_z (l : Launch) (g : WG) (ad : AM) (σ : MS) (h_st : 0 ≤ (M_states σ).toInt ∧ (M_states σ).toInt ≤ 4) : Wv l yX4_push cX4_push 3 0 g (cM g ad σ) (cM g ad (mX4_push_z σ)) [.ref ad.1, .ref ad.2.1] := by
  refine wv_of (by decide) (Nat.le_of_ble_eq_true rfl) ?_
  intro p e s m args below meth c ls A hC hAe hP hD hK hE hA hS hl
  obtain ⟨hx, hb, hml, hr, hown, hts, hlk, hnm⟩ := id hC
  have hl : lv_has ls 3 [(0, .ref ad.1), (1, .ref ad.2.1)] := hl
  refine lv_aload_n hx hb dX4_push_0 rfl (lv_at hl 0 rfl) ?_
  refine gM_states hC rfl hK hP dX4_push_1 ?_
  refine lv_iconst (v := 4) hx hb dX4_push_4 (by decide) ?_
  refine lv_icmp_ne (tgt := 49) hx hb dX4_push_5 (by decide) (fun c_1 => ?_) (fun c_1 => ?_)
  · refine lv_iconst (v := 0) hx hb dX4_push_49 (by decide) ?_
    refine lv_istore_n (lv' := [(2, .int 0), (0, .ref ad.1), (1, .ref ad.2.1)]) hx hb dX4_push_50 rfl hl (by decide) rfl (fun ls hl => ?_)
    refine q_X4_push_z_51 l g ad hC hK hE hA hAe 257 σ _ _ hP hD hS 0 (by decide) (by decide) (ps_second h_st c_1) (by decide) ?_ _ (lv_sub hl [0, 1, 2] rfl)
    exact by unfold mX4_push_z; rw [if_neg c_1]
  · refine lv_iconst (v := 0) hx hb dX4_push_8 (by decide) ?_
    refine lv_istore_n (lv' := [(2, .int 0), (0, .ref ad.1), (1, .ref ad.2.1)]) hx hb dX4_push_9 rfl hl (by decide) rfl (fun ls hl => ?_)
    refine q_X4_push_z_10 l g ad hC hK hE hA hAe 767 σ _ _ hP hD hS 0 (by decide) (by decide) (by rw [c_1]; decide) (by decide) ?_ _ (lv_sub hl [0, 1, 2] rfl)
    exact by unfold mX4_push_z; rw [if_pos c_1]
theorem push_L51 : ∀ (n : Nat) (σ : MS) (u : Int32), M_z (mX4_push_z_L51 n σ u) = M_z σ := by
  intro n
  induction n with
  | zero => intro σ u; rfl
  | succ n ih =>
    intro σ u
    rw [mX4_push_z_L51]
    split
    · rfl
    · rw [ih]; rfl
theorem push_L10 : ∀ (n : Nat) (σ : MS) (u : Int32), M_z (mX4_push_z_L10 n σ u) = M_z σ := by
  intro n
  induction n with
  | zero => intro σ u; rfl
  | succ n ih =>
    intro σ u
    rw [mX4_push_z_L10]
    split
    · rw [push_L51]; rfl
    · rw [ih]; rfl
theorem push_zz (σ : MS) : M_z (mX4_push_z σ) = M_z σ := by
  unfold mX4_push_z
  split
  · rw [push_L10]
  · rw [push_L51]
theorem push_of {σ : MS} {b w : Int32} : mX4_of (mX4_push_z σ) b w = mX4_of σ b w := by unfold mX4_of; rw [push_zz]
