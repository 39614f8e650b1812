def mL_low (x1 : Int32) (x2 : Int32) : Int32 := ((x1 &&& 2147483647) - (((x1 &&& 2147483647) / x2) * x2))
theorem low_ti {x k : Int32} (h : 0 < k.toInt) : (mL_low x k).toInt = (x &&& 2147483647).toInt % k.toInt := ti_rem (land_nn x) h
theorem in_low {x k : Int32} {n : Nat} (hk : k.toInt = n) (h0 : 0 < n) : vp_in (mL_low x k) n := by
  have h : 0 < k.toInt := by omega
  refine in_iff.mpr ?_
  rw [low_ti h, ← hk]
  exact ⟨Int.emod_nonneg _ (by omega), Int.emod_lt_of_pos _ h⟩
set_option maxHeartbeats 4000000 in
set_option maxRecDepth 100000 in
theorem k_L_low (l : Launch) (g : WG) (x1 : Int32) (x2 : Int32) (h_pos : 0 < x2.toInt) : Rd l yL_low cL_low 2 (some .int) 0 (Wl g [] (fun _ => False)) [.int x1, .int x2] (mL_low x1 x2) := by
  refine rd_of (by decide) (Nat.le_of_ble_eq_true rfl) ?_
  intro p e s m args below meth c ls hC hW hl
  obtain ⟨hP, hK, hE⟩ := hW
  obtain ⟨hx, hb, hml, hr, hown, hts, hlk, hnm⟩ := id hC
  have hl : lv_has ls 2 [(0, .int x1), (1, .int x2)] := hl
  refine lv_iload_n hx hb dL_low_0 rfl (lv_at hl 0 rfl) ?_
  refine lv_ldc (own := RL) hx hb hown (hts _ con_L_8) dL_low_1 ?_
  refine lv_iand hx hb dL_low_3 ?_
  refine lv_iload_n hx hb dL_low_4 rfl (lv_at hl 1 rfl) ?_
  refine lv_irem hx hb dL_low_5 (fun e => by rw [e] at h_pos; exact absurd h_pos (by decide)) ?_
  exact rd_ret hC dL_low_6 (Eq.symm (by unfold mL_low; rfl))
def mL_of (σ : LAS) (x2 : Int32) (x3 : Int32) : Int32 := ((L_b σ) ((10 * x2) + x3).toNatClampNeg)
set_option maxHeartbeats 4000000 in
set_option maxRecDepth 100000 in
theorem k_L_of (l : Launch) (g : WG) (ad : AL) (σ : LAS) (x2 : Int32) (x3 : Int32) (h_1 : vp_in x2 6) (h_2 : vp_in x3 10) : Rd l yL_of cL_of 3 (some .int) 0 (Wl g (cL g ad σ) (fun _ => False)) [.ref ad.2.1, .int x2, .int x3] (mL_of σ x2 x3) := by
  refine rd_of (by decide) (Nat.le_of_ble_eq_true rfl) ?_
  intro p e s m args below meth c ls hC hW hl
  obtain ⟨hP, hK, hE⟩ := hW
  obtain ⟨hx, hb, hml, hr, hown, hts, hlk, hnm⟩ := id hC
  have hl : lv_has ls 3 [(0, .ref ad.2.1), (1, .int x2), (2, .int x3)] := hl
  refine lv_aload_n hx hb dL_of_0 rfl (lv_at hl 0 rfl) ?_
  refine lv_bipush (v := 10) hx hb dL_of_1 (by decide) ?_
  refine lv_iload_n hx hb dL_of_3 rfl (lv_at hl 1 rfl) ?_
  refine lv_imul hx hb dL_of_4 ?_
  refine lv_iload_n hx hb dL_of_5 rfl (lv_at hl 2 rfl) ?_
  refine lv_iadd hx hb dL_of_6 ?_
  refine lL_b hC hK hP (ix_10 h_1 h_2) dL_of_7 ?_
  exact rd_ret hC dL_of_8 (Eq.symm (by unfold mL_of; rfl))
def mL_tide (σ : LAS) (x1 : Int32) : Int32 := (30 + (((L_g σ) (2 : Int32).toNatClampNeg) * ((if 7 ≤ (x1 - ((x1 / 14) * 14)) then ((x1 - ((x1 / 14) * 14)) - 7) else (7 - (x1 - ((x1 / 14) * 14)))) : Int32)))
set_option maxHeartbeats 4000000 in
set_option maxRecDepth 100000 in
theorem k_L_tide (l : Launch) (g : WG) (ad : AL) (σ : LAS) (x1 : Int32) : Rd l yL_tide cL_tide 3 (some .int) 0 (Wl g (cL g ad σ) (fun _ => False)) [.int x1, .ref ad.1] (mL_tide σ x1) := by
  refine rd_of (by decide) (Nat.le_of_ble_eq_true rfl) ?_
  intro p e s m args below meth c ls hC hW hl
  obtain ⟨hP, hK, hE⟩ := hW
  obtain ⟨hx, hb, hml, hr, hown, hts, hlk, hnm⟩ := id hC
  have hl : lv_has ls 3 [(0, .int x1), (1, .ref ad.1)] := hl
  refine lv_iload_n hx hb dL_tide_0 rfl (lv_at hl 0 rfl) ?_
  refine lv_bipush (v := 14) hx hb dL_tide_1 (by decide) ?_
  refine lv_irem hx hb dL_tide_3 (by decide) ?_
  refine lv_bipush (v := 7) hx hb dL_tide_4 (by decide) ?_
  refine dia (J := 26) (V := ((if 7 ≤ (x1 - ((x1 / 14) * 14)) then ((x1 - ((x1 / 14) * 14)) - 7) else (7 - (x1 - ((x1 / 14) * 14)))) : Int32)) (rest := []) (fun kk_2 => ?_) ?_
  · refine lv_icmp_ge (tgt := 19) hx hb dL_tide_6 (by decide) (fun c_3 => ?_) (fun c_3 => ?_)
    · refine lv_iload_n hx hb dL_tide_19 rfl (lv_at hl 0 rfl) ?_
      refine lv_bipush (v := 14) hx hb dL_tide_20 (by decide) ?_
      refine lv_irem hx hb dL_tide_22 (by decide) ?_
      refine lv_bipush (v := 7) hx hb dL_tide_23 (by decide) ?_
      refine lv_isub hx hb dL_tide_25 ?_
      exact kk_2 _ (if_pos c_3)
    · refine lv_bipush (v := 7) hx hb dL_tide_9 (by decide) ?_
      refine lv_iload_n hx hb dL_tide_11 rfl (lv_at hl 0 rfl) ?_
      refine lv_bipush (v := 14) hx hb dL_tide_12 (by decide) ?_
      refine lv_irem hx hb dL_tide_14 (by decide) ?_
      refine lv_isub hx hb dL_tide_15 ?_
      refine lv_goto (tgt := 26) hx hb dL_tide_16 (by decide) ?_
      exact kk_2 _ (if_neg c_3)
  refine lv_istore_n (lv' := [(2, .int ((if 7 ≤ (x1 - ((x1 / 14) * 14)) then ((x1 - ((x1 / 14) * 14)) - 7) else (7 - (x1 - ((x1 / 14) * 14)))) : Int32)), (0, .int x1), (1, .ref ad.1)]) hx hb dL_tide_26 rfl hl (by decide) rfl (fun ls hl => ?_)
  refine lv_bipush (v := 30) hx hb dL_tide_27 (by decide) ?_
  refine lv_aload_n hx hb dL_tide_29 rfl (lv_at hl 2 rfl) ?_
  refine lv_iconst (v := 2) hx hb dL_tide_30 (by decide) ?_
  refine lL_g hC hK hP (in_iff.mpr (by decide)) dL_tide_31 ?_
  refine lv_iload_n hx hb dL_tide_32 rfl (lv_at hl 0 rfl) ?_
  refine lv_imul hx hb dL_tide_33 ?_
  refine lv_iadd hx hb dL_tide_34 ?_
  exact rd_ret hC dL_tide_35 (Eq.symm (by unfold mL_tide; rfl))
def mL_left (σ : LAS) : Int32 := (if ((L_g σ) (3 : Int32).toNatClampNeg) ≤ ((L_g σ) (1 : Int32).toNatClampNeg) then 0 else (((L_g σ) (3 : Int32).toNatClampNeg) - ((L_g σ) (1 : Int32).toNatClampNeg)))
set_option maxHeartbeats 4000000 in
set_option maxRecDepth 100000 in
theorem k_L_left (l : Launch) (g : WG) (ad : AL) (σ : LAS) : Rd l yL_left cL_left 1 (some .int) 0 (Wl g (cL g ad σ) (fun _ => False)) [.ref ad.1] (mL_left σ) := by
  refine rd_of (by decide) (Nat.le_of_ble_eq_true rfl) ?_
  intro p e s m args below meth c ls hC hW hl
  obtain ⟨hP, hK, hE⟩ := hW
  obtain ⟨hx, hb, hml, hr, hown, hts, hlk, hnm⟩ := id hC
  have hl : lv_has ls 1 [(0, .ref ad.1)] := hl
  refine lv_aload_n hx hb dL_left_0 rfl (lv_at hl 0 rfl) ?_
  refine lv_iconst (v := 3) hx hb dL_left_1 (by decide) ?_
  refine lL_g hC hK hP (in_iff.mpr (by decide)) dL_left_2 ?_
  refine lv_aload_n hx hb dL_left_3 rfl (lv_at hl 0 rfl) ?_
  refine lv_iconst (v := 1) hx hb dL_left_4 (by decide) ?_
  refine lL_g hC hK hP (in_iff.mpr (by decide)) dL_left_5 ?_
  refine lv_icmp_le (tgt := 19) hx hb dL_left_6 (by decide) (fun c_1 => ?_) (fun c_1 => ?_)
  · refine lv_iconst (v := 0) hx hb dL_left_19 (by decide) ?_
    exact rd_ret hC dL_left_20 (Eq.symm (by unfold mL_left; rw [if_pos c_1]))
  · refine lv_aload_n hx hb dL_left_9 rfl (lv_at hl 0 rfl) ?_
    refine lv_iconst (v := 3) hx hb dL_left_10 (by decide) ?_
    refine lL_g hC hK hP (in_iff.mpr (by decide)) dL_left_11 ?_
    refine lv_aload_n hx hb dL_left_12 rfl (lv_at hl 0 rfl) ?_
    refine lv_iconst (v := 1) hx hb dL_left_13 (by decide) ?_
    refine lL_g hC hK hP (in_iff.mpr (by decide)) dL_left_14 ?_
    refine lv_isub hx hb dL_left_15 ?_
    refine lv_goto (tgt := 20) hx hb dL_left_16 (by decide) ?_
    exact rd_ret hC dL_left_20 (Eq.symm (by unfold mL_left; rw [if_neg c_1]))
def mL_bears (x1 : Int32) : Int32 := (if x1 = 0 then 30 else (if x1 = 1 then 12 else 20))
set_option maxHeartbeats 4000000 in
set_option maxRecDepth 100000 in
theorem k_L_bears (l : Launch) (g : WG) (x1 : Int32) : Rd l yL_bears cL_bears 1 (some .int) 0 (Wl g [] (fun _ => False)) [.int x1] (mL_bears x1) := by
  refine rd_of (by decide) (Nat.le_of_ble_eq_true rfl) ?_
  intro p e s m args below meth c ls hC hW hl
  obtain ⟨hP, hK, hE⟩ := hW
  obtain ⟨hx, hb, hml, hr, hown, hts, hlk, hnm⟩ := id hC
  have hl : lv_has ls 1 [(0, .int x1)] := hl
  refine lv_iload_n hx hb dL_bears_0 rfl (lv_at hl 0 rfl) ?_
  refine lv_if_ne (tgt := 9) hx hb dL_bears_1 (by decide) (fun c_1 => ?_) (fun c_1 => ?_)
  · refine lv_iload_n hx hb dL_bears_9 rfl (lv_at hl 0 rfl) ?_
    refine lv_iconst (v := 1) hx hb dL_bears_10 (by decide) ?_
    refine lv_icmp_ne (tgt := 19) hx hb dL_bears_11 (by decide) (fun c_2 => ?_) (fun c_2 => ?_)
    · refine lv_bipush (v := 20) hx hb dL_bears_19 (by decide) ?_
      exact rd_ret hC dL_bears_21 (Eq.symm (by unfold mL_bears; rw [if_neg c_1, if_neg c_2]))
    · refine lv_bipush (v := 12) hx hb dL_bears_14 (by decide) ?_
      refine lv_goto (tgt := 21) hx hb dL_bears_16 (by decide) ?_
      exact rd_ret hC dL_bears_21 (Eq.symm (by unfold mL_bears; rw [if_neg c_1, if_pos c_2]))
  · refine lv_bipush (v := 30) hx hb dL_bears_4 (by decide) ?_
    refine lv_goto (tgt := 21) hx hb dL_bears_6 (by decide) ?_
    exact rd_ret hC dL_bears_21 (Eq.symm (by unfold mL_bears; rw [if_pos c_1]))
def mL_taken_L4 (σ : LAS) (x1 : Int32) : Nat → Int32 → Int32 → Int32
  | 0, _, _ => 0
  | n + 1, u3, u2 => (if 6 ≤ u3 then u2 else (mL_taken_L4 σ x1 n (u3 + 1) (u2 + ((if (mL_of σ u3 0) = 1 then ((if (mL_of σ u3 5) < 0 then 0 else ((if (mL_of σ u3 6) = x1 then 1 else 0) : Int32)) : Int32) else 0) : Int32))))
set_option maxHeartbeats 4000000 in
set_option maxRecDepth 100000 in
theorem q_L_taken_4 {p : Program} {e : Env} {s : State} {m : MethodId} {args : Array Value} {below : List Frame} {meth : Method} {c : Code} (l : Launch) (g : WG) (ad : AL) (σ : LAS) (x1 : Int32) (hC : Cx p s m args meth c yL_taken cL_taken 4 (some .int)) (hP : va_P g.1 vwCl (cL g ad σ) s.heap) (hK : va_K g.1 vwCl (tysW g) s) (hE : Ex (fun _ => False) s s.heap) {r : Int32} : ∀ (n : Nat) (u3 : Int32) (u2 : Int32) (hi0 : 0 ≤ u3.toInt) (hi1 : u3.toInt ≤ 6) (hm : ((7 : Int) - u3.toInt).toNat < n) (hR : r = mL_taken_L4 σ x1 n u3 u2) (ls : Array Slot) (hl : lv_has ls 4 [(3, .int u3), (2, .int u2), (0, .int x1), (1, .ref ad.2.1)]), W p l e (rk 1) s m args below meth c s.heap [] 0 0 (MQ below (vp_Si (fun x => x = r)) args s 0 0 (fun _ => False)) (F0 m 4 ls []) := by
  obtain ⟨hx, hb, hml, hr, hown, hts, hlk, hnm⟩ := id hC
  intro n
  induction n with
  | zero => intro u3 u2 hi0 hi1 hm hR ls hl; exact absurd hm (Nat.not_lt_zero _)
  | succ n ih =>
    intro u3 u2 hi0 hi1 hm hR ls hl
    refine lv_iload_n hx hb dL_taken_4 rfl (lv_at hl 0 rfl) ?_
    refine lv_bipush (v := 6) hx hb dL_taken_5 (by decide) ?_
    refine lv_icmp_ge (tgt := 54) hx hb dL_taken_7 (by decide) (fun c_1 => ?_) (fun c_1 => ?_)
    · refine lv_iload_n hx hb dL_taken_54 rfl (lv_at hl 1 rfl) ?_
      exact rd_ret hC dL_taken_55 (Eq.symm (by rw [hR, mL_taken_L4, if_pos c_1]))
    · refine lv_iload_n hx hb dL_taken_10 rfl (lv_at hl 1 rfl) ?_
      refine lv_aload_n hx hb dL_taken_11 rfl (lv_at hl 3 rfl) ?_
      refine lv_iload_n hx hb dL_taken_12 rfl (lv_at hl 0 rfl) ?_
      refine lv_iconst (v := 0) hx hb dL_taken_13 (by decide) ?_
      refine callSd hC (k_L_of l g ad σ u3 0 (in_up (n := 6) rfl hi0 c_1) (in_iff.mpr (by decide))) ci_L_of lk_L_9 ⟨Nat.le_of_ble_eq_true rfl, Nat.le_of_ble_eq_true rfl⟩ hP hK hE rfl hl.1 rfl (Nat.le_of_ble_eq_true rfl) dL_taken_14 ⟨Nat.zero_le _, Nat.zero_le _⟩ ?_
      refine lv_iconst (v := 1) hx hb dL_taken_17 (by decide) ?_
      refine dia (J := 46) (V := ((if (mL_of σ u3 0) = 1 then ((if (mL_of σ u3 5) < 0 then 0 else ((if (mL_of σ u3 6) = x1 then 1 else 0) : Int32)) : Int32) else 0) : Int32)) (rest := [.int u2]) (fun kk_3 => ?_) ?_
      · refine lv_icmp_ne (tgt := 45) hx hb dL_taken_18 (by decide) (fun c_4 => ?_) (fun c_4 => ?_)
        · refine lv_iconst (v := 0) hx hb dL_taken_45 (by decide) ?_
          exact kk_3 _ (if_neg c_4)
        · refine lv_aload_n hx hb dL_taken_21 rfl (lv_at hl 3 rfl) ?_
          refine lv_iload_n hx hb dL_taken_22 rfl (lv_at hl 0 rfl) ?_
          refine lv_iconst (v := 5) hx hb dL_taken_23 (by decide) ?_
          refine callSd hC (k_L_of l g ad σ u3 5 (in_up (n := 6) rfl hi0 c_1) (in_iff.mpr (by decide))) ci_L_of lk_L_9 ⟨Nat.le_of_ble_eq_true rfl, Nat.le_of_ble_eq_true rfl⟩ hP hK hE rfl hl.1 rfl (Nat.le_of_ble_eq_true rfl) dL_taken_24 ⟨Nat.zero_le _, Nat.zero_le _⟩ ?_
          refine dia (J := 46) (V := ((if (mL_of σ u3 5) < 0 then 0 else ((if (mL_of σ u3 6) = x1 then 1 else 0) : Int32)) : Int32)) (rest := [.int u2]) (fun kk_6 => ?_) ?_
          · refine lv_if_lt (tgt := 45) hx hb dL_taken_27 (by decide) (fun c_7 => ?_) (fun c_7 => ?_)
            · refine lv_iconst (v := 0) hx hb dL_taken_45 (by decide) ?_
              exact kk_6 _ (if_pos c_7)
            · refine lv_aload_n hx hb dL_taken_30 rfl (lv_at hl 3 rfl) ?_
              refine lv_iload_n hx hb dL_taken_31 rfl (lv_at hl 0 rfl) ?_
              refine lv_bipush (v := 6) hx hb dL_taken_32 (by decide) ?_
              refine callSd hC (k_L_of l g ad σ u3 6 (in_up (n := 6) rfl hi0 c_1) (in_iff.mpr (by decide))) ci_L_of lk_L_9 ⟨Nat.le_of_ble_eq_true rfl, Nat.le_of_ble_eq_true rfl⟩ hP hK hE rfl hl.1 rfl (Nat.le_of_ble_eq_true rfl) dL_taken_34 ⟨Nat.zero_le _, Nat.zero_le _⟩ ?_
              refine lv_iload_n hx hb dL_taken_37 rfl (lv_at hl 2 rfl) ?_
              refine dia (J := 46) (V := ((if (mL_of σ u3 6) = x1 then 1 else 0) : Int32)) (rest := [.int u2]) (fun kk_9 => ?_) ?_
              · refine lv_icmp_ne (tgt := 45) hx hb dL_taken_38 (by decide) (fun c_10 => ?_) (fun c_10 => ?_)
                · refine lv_iconst (v := 0) hx hb dL_taken_45 (by decide) ?_
                  exact kk_9 _ (if_neg c_10)
                · refine lv_iconst (v := 1) hx hb dL_taken_41 (by decide) ?_
                  refine lv_goto (tgt := 46) hx hb dL_taken_42 (by decide) ?_
                  exact kk_9 _ (if_pos c_10)
              exact kk_6 _ (if_neg c_7)
          exact kk_3 _ (if_pos c_4)
      refine lv_iadd hx hb dL_taken_46 ?_
      refine lv_istore_n (lv' := [(2, .int (u2 + ((if (mL_of σ u3 0) = 1 then ((if (mL_of σ u3 5) < 0 then 0 else ((if (mL_of σ u3 6) = x1 then 1 else 0) : Int32)) : Int32) else 0) : Int32))), (3, .int u3), (0, .int x1), (1, .ref ad.2.1)]) hx hb dL_taken_47 rfl hl (by decide) rfl (fun ls hl => ?_)
      refine lv_iinc (v := (u3 + 1)) (lv' := [(3, .int (u3 + 1)), (2, .int (u2 + ((if (mL_of σ u3 0) = 1 then ((if (mL_of σ u3 5) < 0 then 0 else ((if (mL_of σ u3 6) = x1 then 1 else 0) : Int32)) : Int32) else 0) : Int32))), (0, .int x1), (1, .ref ad.2.1)]) hx hb dL_taken_48 hl (k := 1) rfl rfl (by decide) rfl (fun ls hl => ?_)
      refine lv_goto (tgt := 4) hx hb dL_taken_51 (by decide) ?_
      have e9 := up_add (d := 1) (k := 1) (M := 6) rfl hi0 hi1 (by decide) (by decide)
      have e8 := nle_ti (k := 6) rfl c_1
      exact ih (u3 + 1) (u2 + ((if (mL_of σ u3 0) = 1 then ((if (mL_of σ u3 5) < 0 then 0 else ((if (mL_of σ u3 6) = x1 then 1 else 0) : Int32)) : Int32) else 0) : Int32)) (by rw [e9]; omega) (by rw [e9]; omega) (by rw [e9]; omega) (by rw [hR, mL_taken_L4, if_neg c_1]) _ (lv_sub hl [0, 1, 2, 3] rfl)
def mL_taken (σ : LAS) (x1 : Int32) : Int32 := (mL_taken_L4 σ x1 8 0 0)
set_option maxHeartbeats 4000000 in
set_option maxRecDepth 100000 in
theorem k_L_taken (l : Launch) (g : WG) (ad : AL) (σ : LAS) (x1 : Int32) : Rd l yL_taken cL_taken 4 (some .int) 1 (Wl g (cL g ad σ) (fun _ => False)) [.int x1, .ref ad.2.1] (mL_taken σ x1) := by
  refine rd_of (by decide) (Nat.le_of_ble_eq_true rfl) ?_
  intro p e s m args below meth c ls hC hW hl
  obtain ⟨hP, hK, hE⟩ := hW
  obtain ⟨hx, hb, hml, hr, hown, hts, hlk, hnm⟩ := id hC
  have hl : lv_has ls 4 [(0, .int x1), (1, .ref ad.2.1)] := hl
  refine lv_iconst (v := 0) hx hb dL_taken_0 (by decide) ?_
  refine lv_istore_n (lv' := [(2, .int 0), (0, .int x1), (1, .ref ad.2.1)]) hx hb dL_taken_1 rfl hl (by decide) rfl (fun ls hl => ?_)
  refine lv_iconst (v := 0) hx hb dL_taken_2 (by decide) ?_
  refine lv_istore_n (lv' := [(3, .int 0), (2, .int 0), (0, .int x1), (1, .ref ad.2.1)]) hx hb dL_taken_3 rfl hl (by decide) rfl (fun ls hl => ?_)
  refine q_L_taken_4 l g ad σ x1 hC hP hK hE 8 0 0 (by decide) (by decide) (by decide) ?_ _ (lv_sub hl [0, 1, 2, 3] rfl)
  exact by unfold mL_taken; rfl
def mL_masts_L4 (σ : LAS) (x1 : Int32) : Nat → Int32 → Int32 → Int32
  | 0, _, _ => 0
  | n + 1, u3, u2 => (if 6 ≤ u3 then u2 else (mL_masts_L4 σ x1 n (u3 + 1) (u2 + ((if (mL_of σ u3 0) = 1 then ((if (mL_of σ u3 7) = x1 then 1 else 0) : Int32) else 0) : Int32))))
set_option maxHeartbeats 4000000 in
set_option maxRecDepth 100000 in
theorem q_L_masts_4 {p : Program} {e : Env} {s : State} {m : MethodId} {args : Array Value} {below : List Frame} {meth : Method} {c : Code} (l : Launch) (g : WG) (ad : AL) (σ : LAS) (x1 : Int32) (hC : Cx p s m args meth c yL_masts cL_masts 4 (some .int)) (hP : va_P g.1 vwCl (cL g ad σ) s.heap) (hK : va_K g.1 vwCl (tysW g) s) (hE : Ex (fun _ => False) s s.heap) {r : Int32} : ∀ (n : Nat) (u3 : Int32) (u2 : Int32) (hi0 : 0 ≤ u3.toInt) (hi1 : u3.toInt ≤ 6) (hm : ((7 : Int) - u3.toInt).toNat < n) (hR : r = mL_masts_L4 σ x1 n u3 u2) (ls : Array Slot) (hl : lv_has ls 4 [(3, .int u3), (2, .int u2), (0, .int x1), (1, .ref ad.2.1)]), W p l e (rk 1) s m args below meth c s.heap [] 0 0 (MQ below (vp_Si (fun x => x = r)) args s 0 0 (fun _ => False)) (F0 m 4 ls []) := by
  obtain ⟨hx, hb, hml, hr, hown, hts, hlk, hnm⟩ := id hC
  intro n
  induction n with
  | zero => intro u3 u2 hi0 hi1 hm hR ls hl; exact absurd hm (Nat.not_lt_zero _)
  | succ n ih =>
    intro u3 u2 hi0 hi1 hm hR ls hl
    refine lv_iload_n hx hb dL_masts_4 rfl (lv_at hl 0 rfl) ?_
    refine lv_bipush (v := 6) hx hb dL_masts_5 (by decide) ?_
    refine lv_icmp_ge (tgt := 45) hx hb dL_masts_7 (by decide) (fun c_1 => ?_) (fun c_1 => ?_)
    · refine lv_iload_n hx hb dL_masts_45 rfl (lv_at hl 1 rfl) ?_
      exact rd_ret hC dL_masts_46 (Eq.symm (by rw [hR, mL_masts_L4, if_pos c_1]))
    · refine lv_iload_n hx hb dL_masts_10 rfl (lv_at hl 1 rfl) ?_
      refine lv_aload_n hx hb dL_masts_11 rfl (lv_at hl 3 rfl) ?_
      refine lv_iload_n hx hb dL_masts_12 rfl (lv_at hl 0 rfl) ?_
      refine lv_iconst (v := 0) hx hb dL_masts_13 (by decide) ?_
      refine callSd hC (k_L_of l g ad σ u3 0 (in_up (n := 6) rfl hi0 c_1) (in_iff.mpr (by decide))) ci_L_of lk_L_9 ⟨Nat.le_of_ble_eq_true rfl, Nat.le_of_ble_eq_true rfl⟩ hP hK hE rfl hl.1 rfl (Nat.le_of_ble_eq_true rfl) dL_masts_14 ⟨Nat.zero_le _, Nat.zero_le _⟩ ?_
      refine lv_iconst (v := 1) hx hb dL_masts_17 (by decide) ?_
      refine dia (J := 37) (V := ((if (mL_of σ u3 0) = 1 then ((if (mL_of σ u3 7) = x1 then 1 else 0) : Int32) else 0) : Int32)) (rest := [.int u2]) (fun kk_3 => ?_) ?_
      · refine lv_icmp_ne (tgt := 36) hx hb dL_masts_18 (by decide) (fun c_4 => ?_) (fun c_4 => ?_)
        · refine lv_iconst (v := 0) hx hb dL_masts_36 (by decide) ?_
          exact kk_3 _ (if_neg c_4)
        · refine lv_aload_n hx hb dL_masts_21 rfl (lv_at hl 3 rfl) ?_
          refine lv_iload_n hx hb dL_masts_22 rfl (lv_at hl 0 rfl) ?_
          refine lv_bipush (v := 7) hx hb dL_masts_23 (by decide) ?_
          refine callSd hC (k_L_of l g ad σ u3 7 (in_up (n := 6) rfl hi0 c_1) (in_iff.mpr (by decide))) ci_L_of lk_L_9 ⟨Nat.le_of_ble_eq_true rfl, Nat.le_of_ble_eq_true rfl⟩ hP hK hE rfl hl.1 rfl (Nat.le_of_ble_eq_true rfl) dL_masts_25 ⟨Nat.zero_le _, Nat.zero_le _⟩ ?_
          refine lv_iload_n hx hb dL_masts_28 rfl (lv_at hl 2 rfl) ?_
          refine dia (J := 37) (V := ((if (mL_of σ u3 7) = x1 then 1 else 0) : Int32)) (rest := [.int u2]) (fun kk_6 => ?_) ?_
          · refine lv_icmp_ne (tgt := 36) hx hb dL_masts_29 (by decide) (fun c_7 => ?_) (fun c_7 => ?_)
            · refine lv_iconst (v := 0) hx hb dL_masts_36 (by decide) ?_
              exact kk_6 _ (if_neg c_7)
            · refine lv_iconst (v := 1) hx hb dL_masts_32 (by decide) ?_
              refine lv_goto (tgt := 37) hx hb dL_masts_33 (by decide) ?_
              exact kk_6 _ (if_pos c_7)
          exact kk_3 _ (if_pos c_4)
      refine lv_iadd hx hb dL_masts_37 ?_
      refine lv_istore_n (lv' := [(2, .int (u2 + ((if (mL_of σ u3 0) = 1 then ((if (mL_of σ u3 7) = x1 then 1 else 0) : Int32) else 0) : Int32))), (3, .int u3), (0, .int x1), (1, .ref ad.2.1)]) hx hb dL_masts_38 rfl hl (by decide) rfl (fun ls hl => ?_)
      refine lv_iinc (v := (u3 + 1)) (lv' := [(3, .int (u3 + 1)), (2, .int (u2 + ((if (mL_of σ u3 0) = 1 then ((if (mL_of σ u3 7) = x1 then 1 else 0) : Int32) else 0) : Int32))), (0, .int x1), (1, .ref ad.2.1)]) hx hb dL_masts_39 hl (k := 1) rfl rfl (by decide) rfl (fun ls hl => ?_)
      refine lv_goto (tgt := 4) hx hb dL_masts_42 (by decide) ?_
      have e9 := up_add (d := 1) (k := 1) (M := 6) rfl hi0 hi1 (by decide) (by decide)
      have e8 := nle_ti (k := 6) rfl c_1
      exact ih (u3 + 1) (u2 + ((if (mL_of σ u3 0) = 1 then ((if (mL_of σ u3 7) = x1 then 1 else 0) : Int32) else 0) : Int32)) (by rw [e9]; omega) (by rw [e9]; omega) (by rw [e9]; omega) (by rw [hR, mL_masts_L4, if_neg c_1]) _ (lv_sub hl [0, 1, 2, 3] rfl)
def mL_masts (σ : LAS) (x1 : Int32) : Int32 := (mL_masts_L4 σ x1 8 0 0)
set_option maxHeartbeats 4000000 in
set_option maxRecDepth 100000 in
theorem k_L_masts (l : Launch) (g : WG) (ad : AL) (σ : LAS) (x1 : Int32) : Rd l yL_masts cL_masts 4 (some .int) 1 (Wl g (cL g ad σ) (fun _ => False)) [.int x1, .ref ad.2.1] (mL_masts σ x1) := by
  refine rd_of (by decide) (Nat.le_of_ble_eq_true rfl) ?_
  intro p e s m args below meth c ls hC hW hl
  obtain ⟨hP, hK, hE⟩ := hW
  obtain ⟨hx, hb, hml, hr, hown, hts, hlk, hnm⟩ := id hC
  have hl : lv_has ls 4 [(0, .int x1), (1, .ref ad.2.1)] := hl
  refine lv_iconst (v := 0) hx hb dL_masts_0 (by decide) ?_
  refine lv_istore_n (lv' := [(2, .int 0), (0, .int x1), (1, .ref ad.2.1)]) hx hb dL_masts_1 rfl hl (by decide) rfl (fun ls hl => ?_)
  refine lv_iconst (v := 0) hx hb dL_masts_2 (by decide) ?_
  refine lv_istore_n (lv' := [(3, .int 0), (2, .int 0), (0, .int x1), (1, .ref ad.2.1)]) hx hb dL_masts_3 rfl hl (by decide) rfl (fun ls hl => ?_)
  refine q_L_masts_4 l g ad σ x1 hC hP hK hE 8 0 0 (by decide) (by decide) (by decide) ?_ _ (lv_sub hl [0, 1, 2, 3] rfl)
  exact by unfold mL_masts; rfl
def mL_cradle (σ : LAS) (x1 : Int32) : Int32 := (if ((L_g σ) (7 + (mL_of σ x1 4)).toNatClampNeg) ≤ (mL_taken σ (mL_of σ x1 4)) then (if (mL_of σ x1 4) = 0 then (if ((L_g σ) (9 : Int32).toNatClampNeg) ≤ (mL_taken σ 2) then (if (mL_of σ x1 4) = 2 then (if ((L_g σ) (7 : Int32).toNatClampNeg) ≤ (mL_taken σ 0) then (-1) else (if 15 < (mL_of σ x1 3) then (-1) else 0)) else (-1)) else (if 10 < (mL_of σ x1 3) then (if (mL_of σ x1 4) = 2 then (if ((L_g σ) (7 : Int32).toNatClampNeg) ≤ (mL_taken σ 0) then (-1) else (if 15 < (mL_of σ x1 3) then (-1) else 0)) else (-1)) else 2)) else (if (mL_of σ x1 4) = 2 then (if ((L_g σ) (7 : Int32).toNatClampNeg) ≤ (mL_taken σ 0) then (-1) else (if 15 < (mL_of σ x1 3) then (-1) else 0)) else (-1))) else (if (mL_bears (mL_of σ x1 4)) < (mL_of σ x1 3) then (if (mL_of σ x1 4) = 0 then (if ((L_g σ) (9 : Int32).toNatClampNeg) ≤ (mL_taken σ 2) then (if (mL_of σ x1 4) = 2 then (if ((L_g σ) (7 : Int32).toNatClampNeg) ≤ (mL_taken σ 0) then (-1) else (if 15 < (mL_of σ x1 3) then (-1) else 0)) else (-1)) else (if 10 < (mL_of σ x1 3) then (if (mL_of σ x1 4) = 2 then (if ((L_g σ) (7 : Int32).toNatClampNeg) ≤ (mL_taken σ 0) then (-1) else (if 15 < (mL_of σ x1 3) then (-1) else 0)) else (-1)) else 2)) else (if (mL_of σ x1 4) = 2 then (if ((L_g σ) (7 : Int32).toNatClampNeg) ≤ (mL_taken σ 0) then (-1) else (if 15 < (mL_of σ x1 3) then (-1) else 0)) else (-1))) else (mL_of σ x1 4)))
set_option maxHeartbeats 4000000 in
set_option maxRecDepth 100000 in
theorem k_L_cradle (l : Launch) (g : WG) (ad : AL) (σ : LAS) (x1 : Int32) (h_1 : vp_in x1 6) (h_keel : vp_in (mL_of σ x1 4) 3) : Rd l yL_cradle cL_cradle 5 (some .int) 2 (Wl g (cL g ad σ) (fun _ => False)) [.int x1, .ref ad.1, .ref ad.2.1] (mL_cradle σ x1) := by
  refine rd_of (by decide) (Nat.le_of_ble_eq_true rfl) ?_
  intro p e s m args below meth c ls hC hW hl
  obtain ⟨hP, hK, hE⟩ := hW
  obtain ⟨hx, hb, hml, hr, hown, hts, hlk, hnm⟩ := id hC
  have hl : lv_has ls 5 [(0, .int x1), (1, .ref ad.1), (2, .ref ad.2.1)] := hl
  refine lv_aload_n hx hb dL_cradle_0 rfl (lv_at hl 2 rfl) ?_
  refine lv_iload_n hx hb dL_cradle_1 rfl (lv_at hl 0 rfl) ?_
  refine lv_iconst (v := 4) hx hb dL_cradle_2 (by decide) ?_
  refine callSd hC (k_L_of l g ad σ x1 4 h_1 (in_iff.mpr (by decide))) ci_L_of lk_L_9 ⟨Nat.le_of_ble_eq_true rfl, Nat.le_of_ble_eq_true rfl⟩ hP hK hE rfl hl.1 rfl (Nat.le_of_ble_eq_true rfl) dL_cradle_3 ⟨Nat.zero_le _, Nat.zero_le _⟩ ?_
  refine lv_istore_n (lv' := [(3, .int (mL_of σ x1 4)), (0, .int x1), (1, .ref ad.1), (2, .ref ad.2.1)]) hx hb dL_cradle_6 rfl hl (by decide) rfl (fun ls hl => ?_)
  refine lv_aload_n hx hb dL_cradle_7 rfl (lv_at hl 3 rfl) ?_
  refine lv_iload_n hx hb dL_cradle_8 rfl (lv_at hl 1 rfl) ?_
  refine lv_iconst (v := 3) hx hb dL_cradle_9 (by decide) ?_
  refine callSd hC (k_L_of l g ad σ x1 3 h_1 (in_iff.mpr (by decide))) ci_L_of lk_L_9 ⟨Nat.le_of_ble_eq_true rfl, Nat.le_of_ble_eq_true rfl⟩ hP hK hE rfl hl.1 rfl (Nat.le_of_ble_eq_true rfl) dL_cradle_10 ⟨Nat.zero_le _, Nat.zero_le _⟩ ?_
  refine lv_istore (lv' := [(4, .int (mL_of σ x1 3)), (3, .int (mL_of σ x1 4)), (0, .int x1), (1, .ref ad.1), (2, .ref ad.2.1)]) hx hb dL_cradle_13 hl (by decide) rfl (fun ls hl => ?_)
  refine lv_iload_n hx hb dL_cradle_15 rfl (lv_at hl 1 rfl) ?_
  refine lv_aload_n hx hb dL_cradle_16 rfl (lv_at hl 4 rfl) ?_
  refine callSd hC (k_L_taken l g ad σ (mL_of σ x1 4)) ci_L_taken lk_L_15 ⟨Nat.le_of_ble_eq_true rfl, Nat.le_of_ble_eq_true rfl⟩ hP hK hE rfl hl.1 rfl (Nat.le_of_ble_eq_true rfl) dL_cradle_17 ⟨Nat.zero_le _, Nat.zero_le _⟩ ?_
  refine lv_aload_n hx hb dL_cradle_20 rfl (lv_at hl 3 rfl) ?_
  refine lv_bipush (v := 7) hx hb dL_cradle_21 (by decide) ?_
  refine lv_iload_n hx hb dL_cradle_23 rfl (lv_at hl 1 rfl) ?_
  refine lv_iadd hx hb dL_cradle_24 ?_
  refine lL_g hC hK hP (ix_c (z := 7) rfl (by decide) h_keel (by decide) (by decide)) dL_cradle_25 ?_
  refine lv_icmp_ge (tgt := 40) hx hb dL_cradle_26 (by decide) (fun c_1 => ?_) (fun c_1 => ?_)
  · refine lv_iload_n hx hb dL_cradle_40 rfl (lv_at hl 1 rfl) ?_
    refine lv_if_ne (tgt := 65) hx hb dL_cradle_41 (by decide) (fun c_2 => ?_) (fun c_2 => ?_)
    · refine lv_iload_n hx hb dL_cradle_65 rfl (lv_at hl 1 rfl) ?_
      refine lv_iconst (v := 2) hx hb dL_cradle_66 (by decide) ?_
      refine lv_icmp_ne (tgt := 93) hx hb dL_cradle_67 (by decide) (fun c_3 => ?_) (fun c_3 => ?_)
      · refine lv_iconst (v := (-1)) hx hb dL_cradle_93 (by decide) ?_
        exact rd_ret hC dL_cradle_94 (Eq.symm (by unfold mL_cradle; rw [if_pos c_1, if_neg c_2, if_neg c_3]))
      · refine lv_iconst (v := 0) hx hb dL_cradle_70 (by decide) ?_
        refine lv_aload_n hx hb dL_cradle_71 rfl (lv_at hl 4 rfl) ?_
        refine callSd hC (k_L_taken l g ad σ 0) ci_L_taken lk_L_15 ⟨Nat.le_of_ble_eq_true rfl, Nat.le_of_ble_eq_true rfl⟩ hP hK hE rfl hl.1 rfl (Nat.le_of_ble_eq_true rfl) dL_cradle_72 ⟨Nat.zero_le _, Nat.zero_le _⟩ ?_
        refine lv_aload_n hx hb dL_cradle_75 rfl (lv_at hl 3 rfl) ?_
        refine lv_bipush (v := 7) hx hb dL_cradle_76 (by decide) ?_
        refine lL_g hC hK hP (in_iff.mpr (by decide)) dL_cradle_78 ?_
        refine lv_icmp_ge (tgt := 93) hx hb dL_cradle_79 (by decide) (fun c_4 => ?_) (fun c_4 => ?_)
        · refine lv_iconst (v := (-1)) hx hb dL_cradle_93 (by decide) ?_
          exact rd_ret hC dL_cradle_94 (Eq.symm (by unfold mL_cradle; rw [if_pos c_1, if_neg c_2, if_pos c_3, if_pos c_4]))
        · refine lv_iload hx hb dL_cradle_82 (lv_at hl 0 rfl) ?_
          refine lv_bipush (v := 15) hx hb dL_cradle_84 (by decide) ?_
          refine lv_icmp_gt (tgt := 93) hx hb dL_cradle_86 (by decide) (fun c_5 => ?_) (fun c_5 => ?_)
          · refine lv_iconst (v := (-1)) hx hb dL_cradle_93 (by decide) ?_
            exact rd_ret hC dL_cradle_94 (Eq.symm (by unfold mL_cradle; rw [if_pos c_1, if_neg c_2, if_pos c_3, if_neg c_4, if_pos c_5]))
          · refine lv_iconst (v := 0) hx hb dL_cradle_89 (by decide) ?_
            refine lv_goto (tgt := 94) hx hb dL_cradle_90 (by decide) ?_
            exact rd_ret hC dL_cradle_94 (Eq.symm (by unfold mL_cradle; rw [if_pos c_1, if_neg c_2, if_pos c_3, if_neg c_4, if_neg c_5]))
    · refine lv_iconst (v := 2) hx hb dL_cradle_44 (by decide) ?_
      refine lv_aload_n hx hb dL_cradle_45 rfl (lv_at hl 4 rfl) ?_
      refine callSd hC (k_L_taken l g ad σ 2) ci_L_taken lk_L_15 ⟨Nat.le_of_ble_eq_true rfl, Nat.le_of_ble_eq_true rfl⟩ hP hK hE rfl hl.1 rfl (Nat.le_of_ble_eq_true rfl) dL_cradle_46 ⟨Nat.zero_le _, Nat.zero_le _⟩ ?_
      refine lv_aload_n hx hb dL_cradle_49 rfl (lv_at hl 3 rfl) ?_
      refine lv_bipush (v := 9) hx hb dL_cradle_50 (by decide) ?_
      refine lL_g hC hK hP (in_iff.mpr (by decide)) dL_cradle_52 ?_
      refine lv_icmp_ge (tgt := 65) hx hb dL_cradle_53 (by decide) (fun c_6 => ?_) (fun c_6 => ?_)
      · refine lv_iload_n hx hb dL_cradle_65 rfl (lv_at hl 1 rfl) ?_
        refine lv_iconst (v := 2) hx hb dL_cradle_66 (by decide) ?_
        refine lv_icmp_ne (tgt := 93) hx hb dL_cradle_67 (by decide) (fun c_7 => ?_) (fun c_7 => ?_)
        · refine lv_iconst (v := (-1)) hx hb dL_cradle_93 (by decide) ?_
          exact rd_ret hC dL_cradle_94 (Eq.symm (by unfold mL_cradle; rw [if_pos c_1, if_pos c_2, if_pos c_6, if_neg c_7]))
        · refine lv_iconst (v := 0) hx hb dL_cradle_70 (by decide) ?_
          refine lv_aload_n hx hb dL_cradle_71 rfl (lv_at hl 4 rfl) ?_
          refine callSd hC (k_L_taken l g ad σ 0) ci_L_taken lk_L_15 ⟨Nat.le_of_ble_eq_true rfl, Nat.le_of_ble_eq_true rfl⟩ hP hK hE rfl hl.1 rfl (Nat.le_of_ble_eq_true rfl) dL_cradle_72 ⟨Nat.zero_le _, Nat.zero_le _⟩ ?_
          refine lv_aload_n hx hb dL_cradle_75 rfl (lv_at hl 3 rfl) ?_
          refine lv_bipush (v := 7) hx hb dL_cradle_76 (by decide) ?_
          refine lL_g hC hK hP (in_iff.mpr (by decide)) dL_cradle_78 ?_
          refine lv_icmp_ge (tgt := 93) hx hb dL_cradle_79 (by decide) (fun c_8 => ?_) (fun c_8 => ?_)
          · refine lv_iconst (v := (-1)) hx hb dL_cradle_93 (by decide) ?_
            exact rd_ret hC dL_cradle_94 (Eq.symm (by unfold mL_cradle; rw [if_pos c_1, if_pos c_2, if_pos c_6, if_pos c_7, if_pos c_8]))
          · refine lv_iload hx hb dL_cradle_82 (lv_at hl 0 rfl) ?_
            refine lv_bipush (v := 15) hx hb dL_cradle_84 (by decide) ?_
            refine lv_icmp_gt (tgt := 93) hx hb dL_cradle_86 (by decide) (fun c_9 => ?_) (fun c_9 => ?_)
            · refine lv_iconst (v := (-1)) hx hb dL_cradle_93 (by decide) ?_
              exact rd_ret hC dL_cradle_94 (Eq.symm (by unfold mL_cradle; rw [if_pos c_1, if_pos c_2, if_pos c_6, if_pos c_7, if_neg c_8, if_pos c_9]))
            · refine lv_iconst (v := 0) hx hb dL_cradle_89 (by decide) ?_
              refine lv_goto (tgt := 94) hx hb dL_cradle_90 (by decide) ?_
              exact rd_ret hC dL_cradle_94 (Eq.symm (by unfold mL_cradle; rw [if_pos c_1, if_pos c_2, if_pos c_6, if_pos c_7, if_neg c_8, if_neg c_9]))
      · refine lv_iload hx hb dL_cradle_56 (lv_at hl 0 rfl) ?_
        refine lv_bipush (v := 10) hx hb dL_cradle_58 (by decide) ?_
        refine lv_icmp_gt (tgt := 65) hx hb dL_cradle_60 (by decide) (fun c_10 => ?_) (fun c_10 => ?_)
        · refine lv_iload_n hx hb dL_cradle_65 rfl (lv_at hl 1 rfl) ?_
          refine lv_iconst (v := 2) hx hb dL_cradle_66 (by decide) ?_
          refine lv_icmp_ne (tgt := 93) hx hb dL_cradle_67 (by decide) (fun c_11 => ?_) (fun c_11 => ?_)
          · refine lv_iconst (v := (-1)) hx hb dL_cradle_93 (by decide) ?_
            exact rd_ret hC dL_cradle_94 (Eq.symm (by unfold mL_cradle; rw [if_pos c_1, if_pos c_2, if_neg c_6, if_pos c_10, if_neg c_11]))
          · refine lv_iconst (v := 0) hx hb dL_cradle_70 (by decide) ?_
            refine lv_aload_n hx hb dL_cradle_71 rfl (lv_at hl 4 rfl) ?_
            refine callSd hC (k_L_taken l g ad σ 0) ci_L_taken lk_L_15 ⟨Nat.le_of_ble_eq_true rfl, Nat.le_of_ble_eq_true rfl⟩ hP hK hE rfl hl.1 rfl (Nat.le_of_ble_eq_true rfl) dL_cradle_72 ⟨Nat.zero_le _, Nat.zero_le _⟩ ?_
            refine lv_aload_n hx hb dL_cradle_75 rfl (lv_at hl 3 rfl) ?_
            refine lv_bipush (v := 7) hx hb dL_cradle_76 (by decide) ?_
            refine lL_g hC hK hP (in_iff.mpr (by decide)) dL_cradle_78 ?_
            refine lv_icmp_ge (tgt := 93) hx hb dL_cradle_79 (by decide) (fun c_12 => ?_) (fun c_12 => ?_)
            · refine lv_iconst (v := (-1)) hx hb dL_cradle_93 (by decide) ?_
              exact rd_ret hC dL_cradle_94 (Eq.symm (by unfold mL_cradle; rw [if_pos c_1, if_pos c_2, if_neg c_6, if_pos c_10, if_pos c_11, if_pos c_12]))
            · refine lv_iload hx hb dL_cradle_82 (lv_at hl 0 rfl) ?_
              refine lv_bipush (v := 15) hx hb dL_cradle_84 (by decide) ?_
              refine lv_icmp_gt (tgt := 93) hx hb dL_cradle_86 (by decide) (fun c_13 => ?_) (fun c_13 => ?_)
              · refine lv_iconst (v := (-1)) hx hb dL_cradle_93 (by decide) ?_
                exact rd_ret hC dL_cradle_94 (Eq.symm (by unfold mL_cradle; rw [if_pos c_1, if_pos c_2, if_neg c_6, if_pos c_10, if_pos c_11, if_neg c_12, if_pos c_13]))
              · refine lv_iconst (v := 0) hx hb dL_cradle_89 (by decide) ?_
                refine lv_goto (tgt := 94) hx hb dL_cradle_90 (by decide) ?_
                exact rd_ret hC dL_cradle_94 (Eq.symm (by unfold mL_cradle; rw [if_pos c_1, if_pos c_2, if_neg c_6, if_pos c_10, if_pos c_11, if_neg c_12, if_neg c_13]))
        · refine lv_iconst (v := 2) hx hb dL_cradle_63 (by decide) ?_
          exact rd_ret hC dL_cradle_64 (Eq.symm (by unfold mL_cradle; rw [if_pos c_1, if_pos c_2, if_neg c_6, if_neg c_10]))
  · refine lv_iload hx hb dL_cradle_29 (lv_at hl 0 rfl) ?_
    refine lv_iload_n hx hb dL_cradle_31 rfl (lv_at hl 1 rfl) ?_
    refine callRs hC (k_L_bears l g (mL_of σ x1 4)) ci_L_bears lk_L_19 ⟨Nat.le_of_ble_eq_true rfl, Nat.le_of_ble_eq_true rfl⟩ hK hE rfl hl.1 rfl (Nat.le_of_ble_eq_true rfl) dL_cradle_32 ⟨Nat.zero_le _, Nat.zero_le _⟩ ?_
    refine lv_icmp_gt (tgt := 40) hx hb dL_cradle_35 (by decide) (fun c_14 => ?_) (fun c_14 => ?_)
    · refine lv_iload_n hx hb dL_cradle_40 rfl (lv_at hl 1 rfl) ?_
      refine lv_if_ne (tgt := 65) hx hb dL_cradle_41 (by decide) (fun c_15 => ?_) (fun c_15 => ?_)
      · refine lv_iload_n hx hb dL_cradle_65 rfl (lv_at hl 1 rfl) ?_
        refine lv_iconst (v := 2) hx hb dL_cradle_66 (by decide) ?_
        refine lv_icmp_ne (tgt := 93) hx hb dL_cradle_67 (by decide) (fun c_16 => ?_) (fun c_16 => ?_)
        · refine lv_iconst (v := (-1)) hx hb dL_cradle_93 (by decide) ?_
          exact rd_ret hC dL_cradle_94 (Eq.symm (by unfold mL_cradle; rw [if_neg c_1, if_pos c_14, if_neg c_15, if_neg c_16]))
        · refine lv_iconst (v := 0) hx hb dL_cradle_70 (by decide) ?_
          refine lv_aload_n hx hb dL_cradle_71 rfl (lv_at hl 4 rfl) ?_
          refine callSd hC (k_L_taken l g ad σ 0) ci_L_taken lk_L_15 ⟨Nat.le_of_ble_eq_true rfl, Nat.le_of_ble_eq_true rfl⟩ hP hK hE rfl hl.1 rfl (Nat.le_of_ble_eq_true rfl) dL_cradle_72 ⟨Nat.zero_le _, Nat.zero_le _⟩ ?_
          refine lv_aload_n hx hb dL_cradle_75 rfl (lv_at hl 3 rfl) ?_
          refine lv_bipush (v := 7) hx hb dL_cradle_76 (by decide) ?_
          refine lL_g hC hK hP (in_iff.mpr (by decide)) dL_cradle_78 ?_
          refine lv_icmp_ge (tgt := 93) hx hb dL_cradle_79 (by decide) (fun c_17 => ?_) (fun c_17 => ?_)
          · refine lv_iconst (v := (-1)) hx hb dL_cradle_93 (by decide) ?_
            exact rd_ret hC dL_cradle_94 (Eq.symm (by unfold mL_cradle; rw [if_neg c_1, if_pos c_14, if_neg c_15, if_pos c_16, if_pos c_17]))
          · refine lv_iload hx hb dL_cradle_82 (lv_at hl 0 rfl) ?_
            refine lv_bipush (v := 15) hx hb dL_cradle_84 (by decide) ?_
            refine lv_icmp_gt (tgt := 93) hx hb dL_cradle_86 (by decide) (fun c_18 => ?_) (fun c_18 => ?_)
            · refine lv_iconst (v := (-1)) hx hb dL_cradle_93 (by decide) ?_
              exact rd_ret hC dL_cradle_94 (Eq.symm (by unfold mL_cradle; rw [if_neg c_1, if_pos c_14, if_neg c_15, if_pos c_16, if_neg c_17, if_pos c_18]))
            · refine lv_iconst (v := 0) hx hb dL_cradle_89 (by decide) ?_
              refine lv_goto (tgt := 94) hx hb dL_cradle_90 (by decide) ?_
              exact rd_ret hC dL_cradle_94 (Eq.symm (by unfold mL_cradle; rw [if_neg c_1, if_pos c_14, if_neg c_15, if_pos c_16, if_neg c_17, if_neg c_18]))
      · refine lv_iconst (v := 2) hx hb dL_cradle_44 (by decide) ?_
        refine lv_aload_n hx hb dL_cradle_45 rfl (lv_at hl 4 rfl) ?_
        refine callSd hC (k_L_taken l g ad σ 2) ci_L_taken lk_L_15 ⟨Nat.le_of_ble_eq_true rfl, Nat.le_of_ble_eq_true rfl⟩ hP hK hE rfl hl.1 rfl (Nat.le_of_ble_eq_true rfl) dL_cradle_46 ⟨Nat.zero_le _, Nat.zero_le _⟩ ?_
        refine lv_aload_n hx hb dL_cradle_49 rfl (lv_at hl 3 rfl) ?_
        refine lv_bipush (v := 9) hx hb dL_cradle_50 (by decide) ?_
        refine lL_g hC hK hP (in_iff.mpr (by decide)) dL_cradle_52 ?_
        refine lv_icmp_ge (tgt := 65) hx hb dL_cradle_53 (by decide) (fun c_19 => ?_) (fun c_19 => ?_)
        · refine lv_iload_n hx hb dL_cradle_65 rfl (lv_at hl 1 rfl) ?_
          refine lv_iconst (v := 2) hx hb dL_cradle_66 (by decide) ?_
          refine lv_icmp_ne (tgt := 93) hx hb dL_cradle_67 (by decide) (fun c_20 => ?_) (fun c_20 => ?_)
          · refine lv_iconst (v := (-1)) hx hb dL_cradle_93 (by decide) ?_
            exact rd_ret hC dL_cradle_94 (Eq.symm (by unfold mL_cradle; rw [if_neg c_1, if_pos c_14, if_pos c_15, if_pos c_19, if_neg c_20]))
          · refine lv_iconst (v := 0) hx hb dL_cradle_70 (by decide) ?_
            refine lv_aload_n hx hb dL_cradle_71 rfl (lv_at hl 4 rfl) ?_
            refine callSd hC (k_L_taken l g ad σ 0) ci_L_taken lk_L_15 ⟨Nat.le_of_ble_eq_true rfl, Nat.le_of_ble_eq_true rfl⟩ hP hK hE rfl hl.1 rfl (Nat.le_of_ble_eq_true rfl) dL_cradle_72 ⟨Nat.zero_le _, Nat.zero_le _⟩ ?_
            refine lv_aload_n hx hb dL_cradle_75 rfl (lv_at hl 3 rfl) ?_
            refine lv_bipush (v := 7) hx hb dL_cradle_76 (by decide) ?_
            refine lL_g hC hK hP (in_iff.mpr (by decide)) dL_cradle_78 ?_
            refine lv_icmp_ge (tgt := 93) hx hb dL_cradle_79 (by decide) (fun c_21 => ?_) (fun c_21 => ?_)
            · refine lv_iconst (v := (-1)) hx hb dL_cradle_93 (by decide) ?_
              exact rd_ret hC dL_cradle_94 (Eq.symm (by unfold mL_cradle; rw [if_neg c_1, if_pos c_14, if_pos c_15, if_pos c_19, if_pos c_20, if_pos c_21]))
            · refine lv_iload hx hb dL_cradle_82 (lv_at hl 0 rfl) ?_
              refine lv_bipush (v := 15) hx hb dL_cradle_84 (by decide) ?_
              refine lv_icmp_gt (tgt := 93) hx hb dL_cradle_86 (by decide) (fun c_22 => ?_) (fun c_22 => ?_)
              · refine lv_iconst (v := (-1)) hx hb dL_cradle_93 (by decide) ?_
                exact rd_ret hC dL_cradle_94 (Eq.symm (by unfold mL_cradle; rw [if_neg c_1, if_pos c_14, if_pos c_15, if_pos c_19, if_pos c_20, if_neg c_21, if_pos c_22]))
              · refine lv_iconst (v := 0) hx hb dL_cradle_89 (by decide) ?_
                refine lv_goto (tgt := 94) hx hb dL_cradle_90 (by decide) ?_
                exact rd_ret hC dL_cradle_94 (Eq.symm (by unfold mL_cradle; rw [if_neg c_1, if_pos c_14, if_pos c_15, if_pos c_19, if_pos c_20, if_neg c_21, if_neg c_22]))
        · refine lv_iload hx hb dL_cradle_56 (lv_at hl 0 rfl) ?_
          refine lv_bipush (v := 10) hx hb dL_cradle_58 (by decide) ?_
          refine lv_icmp_gt (tgt := 65) hx hb dL_cradle_60 (by decide) (fun c_23 => ?_) (fun c_23 => ?_)
          · refine lv_iload_n hx hb dL_cradle_65 rfl (lv_at hl 1 rfl) ?_
            refine lv_iconst (v := 2) hx hb dL_cradle_66 (by decide) ?_
            refine lv_icmp_ne (tgt := 93) hx hb dL_cradle_67 (by decide) (fun c_24 => ?_) (fun c_24 => ?_)
            · refine lv_iconst (v := (-1)) hx hb dL_cradle_93 (by decide) ?_
              exact rd_ret hC dL_cradle_94 (Eq.symm (by unfold mL_cradle; rw [if_neg c_1, if_pos c_14, if_pos c_15, if_neg c_19, if_pos c_23, if_neg c_24]))
            · refine lv_iconst (v := 0) hx hb dL_cradle_70 (by decide) ?_
              refine lv_aload_n hx hb dL_cradle_71 rfl (lv_at hl 4 rfl) ?_
              refine callSd hC (k_L_taken l g ad σ 0) ci_L_taken lk_L_15 ⟨Nat.le_of_ble_eq_true rfl, Nat.le_of_ble_eq_true rfl⟩ hP hK hE rfl hl.1 rfl (Nat.le_of_ble_eq_true rfl) dL_cradle_72 ⟨Nat.zero_le _, Nat.zero_le _⟩ ?_
              refine lv_aload_n hx hb dL_cradle_75 rfl (lv_at hl 3 rfl) ?_
              refine lv_bipush (v := 7) hx hb dL_cradle_76 (by decide) ?_
              refine lL_g hC hK hP (in_iff.mpr (by decide)) dL_cradle_78 ?_
              refine lv_icmp_ge (tgt := 93) hx hb dL_cradle_79 (by decide) (fun c_25 => ?_) (fun c_25 => ?_)
              · refine lv_iconst (v := (-1)) hx hb dL_cradle_93 (by decide) ?_
                exact rd_ret hC dL_cradle_94 (Eq.symm (by unfold mL_cradle; rw [if_neg c_1, if_pos c_14, if_pos c_15, if_neg c_19, if_pos c_23, if_pos c_24, if_pos c_25]))
              · refine lv_iload hx hb dL_cradle_82 (lv_at hl 0 rfl) ?_
                refine lv_bipush (v := 15) hx hb dL_cradle_84 (by decide) ?_
                refine lv_icmp_gt (tgt := 93) hx hb dL_cradle_86 (by decide) (fun c_26 => ?_) (fun c_26 => ?_)
                · refine lv_iconst (v := (-1)) hx hb dL_cradle_93 (by decide) ?_
                  exact rd_ret hC dL_cradle_94 (Eq.symm (by unfold mL_cradle; rw [if_neg c_1, if_pos c_14, if_pos c_15, if_neg c_19, if_pos c_23, if_pos c_24, if_neg c_25, if_pos c_26]))
                · refine lv_iconst (v := 0) hx hb dL_cradle_89 (by decide) ?_
                  refine lv_goto (tgt := 94) hx hb dL_cradle_90 (by decide) ?_
                  exact rd_ret hC dL_cradle_94 (Eq.symm (by unfold mL_cradle; rw [if_neg c_1, if_pos c_14, if_pos c_15, if_neg c_19, if_pos c_23, if_pos c_24, if_neg c_25, if_neg c_26]))
          · refine lv_iconst (v := 2) hx hb dL_cradle_63 (by decide) ?_
            exact rd_ret hC dL_cradle_64 (Eq.symm (by unfold mL_cradle; rw [if_neg c_1, if_pos c_14, if_pos c_15, if_neg c_19, if_neg c_23]))
    · refine lv_iload_n hx hb dL_cradle_38 rfl (lv_at hl 1 rfl) ?_
      exact rd_ret hC dL_cradle_39 (Eq.symm (by unfold mL_cradle; rw [if_neg c_1, if_neg c_14]))
/-- the rows of the law: how many stand in each, and who -/
def ROK (σ : LAS) : Prop := ∀ i : Int32, vp_in i 4 → vp_in (L_r σ (7 * i).toNatClampNeg) 7 ∧ ∀ k : Int32, 1 ≤ k.toInt → k.toInt ≤ 6 → vp_in (L_r σ ((7 * i) + k).toNatClampNeg) 6
theorem rm_le {σ : LAS} {i u : Int32} (h1 : vp_in i 4) (h : ROK σ) (c : ¬ L_r σ (7 * i).toNatClampNeg < u) : u.toInt ≤ 6 := by
  have h2 := (in_iff.mp (h i h1).1).2
  rw [lt_ti] at c
  omega
theorem rm_in {σ : LAS} {i u : Int32} (h1 : vp_in i 4) (h : ROK σ) (h0 : 1 ≤ u.toInt) (c : ¬ L_r σ (7 * i).toNatClampNeg < u) : vp_in u 7 := in_iff.mpr ⟨by omega, by have := rm_le h1 h c; omega⟩
def mL_room_L11 (σ : LAS) (x1 : Int32) : Nat → Int32 → Int32 → Int32
  | 0, _, _ => 0
  | n + 1, u5, u4 => (if ((L_r σ) (7 * x1).toNatClampNeg) < u5 then u4 else (mL_room_L11 σ x1 n (u5 + 1) (u4 - ((mL_of σ ((L_r σ) ((7 * x1) + u5).toNatClampNeg) 1) + 1))))
set_option maxHeartbeats 4000000 in
set_option maxRecDepth 100000 in
theorem q_L_room_11 {p : Program} {e : Env} {s : State} {m : MethodId} {args : Array Value} {below : List Frame} {meth : Method} {c : Code} (l : Launch) (g : WG) (ad : AL) (σ : LAS) (x1 : Int32) (h_1 : vp_in x1 4) (h_rok : ROK σ) (hC : Cx p s m args meth c yL_room cL_room 6 (some .int)) (hP : va_P g.1 vwCl (cL g ad σ) s.heap) (hK : va_K g.1 vwCl (tysW g) s) (hE : Ex (fun _ => False) s s.heap) {r : Int32} : ∀ (n : Nat) (u5 : Int32) (u4 : Int32) (hi0 : 1 ≤ u5.toInt) (hi1 : u5.toInt ≤ 7) (hm : ((8 : Int) - u5.toInt).toNat < n) (hR : r = mL_room_L11 σ x1 n u5 u4) (ls : Array Slot) (hl : lv_has ls 6 [(5, .int u5), (4, .int u4), (0, .int x1), (1, .ref ad.1), (2, .ref ad.2.1), (3, .ref ad.2.2.2)]), W p l e (rk 1) s m args below meth c s.heap [] 0 0 (MQ below (vp_Si (fun x => x = r)) args s 0 0 (fun _ => False)) (F0 m 11 ls []) := by
  obtain ⟨hx, hb, hml, hr, hown, hts, hlk, hnm⟩ := id hC
  intro n
  induction n with
  | zero => intro u5 u4 hi0 hi1 hm hR ls hl; exact absurd hm (Nat.not_lt_zero _)
  | succ n ih =>
    intro u5 u4 hi0 hi1 hm hR ls hl
    refine lv_iload hx hb dL_room_11 (lv_at hl 0 rfl) ?_
    refine lv_aload_n hx hb dL_room_13 rfl (lv_at hl 5 rfl) ?_
    refine lv_bipush (v := 7) hx hb dL_room_14 (by decide) ?_
    refine lv_iload_n hx hb dL_room_16 rfl (lv_at hl 2 rfl) ?_
    refine lv_imul hx hb dL_room_17 ?_
    refine lL_r hC hK hP (ix_70 h_1) dL_room_18 ?_
    refine lv_icmp_gt (tgt := 49) hx hb dL_room_19 (by decide) (fun c_1 => ?_) (fun c_1 => ?_)
    · refine lv_iload hx hb dL_room_49 (lv_at hl 1 rfl) ?_
      exact rd_ret hC dL_room_51 (Eq.symm (by rw [hR, mL_room_L11, if_pos c_1]))
    · refine lv_iload hx hb dL_room_22 (lv_at hl 1 rfl) ?_
      refine lv_aload_n hx hb dL_room_24 rfl (lv_at hl 4 rfl) ?_
      refine lv_aload_n hx hb dL_room_25 rfl (lv_at hl 5 rfl) ?_
      refine lv_bipush (v := 7) hx hb dL_room_26 (by decide) ?_
      refine lv_iload_n hx hb dL_room_28 rfl (lv_at hl 2 rfl) ?_
      refine lv_imul hx hb dL_room_29 ?_
      refine lv_iload hx hb dL_room_30 (lv_at hl 0 rfl) ?_
      refine lv_iadd hx hb dL_room_32 ?_
      refine lL_r hC hK hP (ix_7 h_1 (rm_in h_1 h_rok hi0 c_1)) dL_room_33 ?_
      refine lv_iconst (v := 1) hx hb dL_room_34 (by decide) ?_
      refine callSd hC (k_L_of l g ad σ ((L_r σ) ((7 * x1) + u5).toNatClampNeg) 1 ((h_rok x1 h_1).2 u5 hi0 (rm_le h_1 h_rok c_1)) (in_iff.mpr (by decide))) ci_L_of lk_L_9 ⟨Nat.le_of_ble_eq_true rfl, Nat.le_of_ble_eq_true rfl⟩ hP hK hE rfl hl.1 rfl (Nat.le_of_ble_eq_true rfl) dL_room_35 ⟨Nat.zero_le _, Nat.zero_le _⟩ ?_
      refine lv_iconst (v := 1) hx hb dL_room_38 (by decide) ?_
      refine lv_iadd hx hb dL_room_39 ?_
      refine lv_isub hx hb dL_room_40 ?_
      refine lv_istore (lv' := [(4, .int (u4 - ((mL_of σ ((L_r σ) ((7 * x1) + u5).toNatClampNeg) 1) + 1))), (5, .int u5), (0, .int x1), (1, .ref ad.1), (2, .ref ad.2.1), (3, .ref ad.2.2.2)]) hx hb dL_room_41 hl (by decide) rfl (fun ls hl => ?_)
      refine lv_iinc (v := (u5 + 1)) (lv' := [(5, .int (u5 + 1)), (4, .int (u4 - ((mL_of σ ((L_r σ) ((7 * x1) + u5).toNatClampNeg) 1) + 1))), (0, .int x1), (1, .ref ad.1), (2, .ref ad.2.1), (3, .ref ad.2.2.2)]) hx hb dL_room_43 hl (k := 1) rfl rfl (by decide) rfl (fun ls hl => ?_)
      refine lv_goto (tgt := 11) hx hb dL_room_46 (by decide) ?_
      have e8 := rm_le h_1 h_rok c_1
      have e9 := up_add (x := u5) (d := 1) (k := 1) (M := 6) rfl (by omega) e8 (by decide) (by decide)
      exact ih (u5 + 1) (u4 - ((mL_of σ ((L_r σ) ((7 * x1) + u5).toNatClampNeg) 1) + 1)) (by rw [e9]; omega) (by rw [e9]; omega) (by rw [e9]; omega) (by rw [hR, mL_room_L11, if_neg c_1]) _ (lv_sub hl [0, 1, 2, 3, 4, 5] rfl)
def mL_room (σ : LAS) (x1 : Int32) : Int32 := (mL_room_L11 σ x1 8 1 ((L_g σ) (10 + x1).toNatClampNeg))
set_option maxHeartbeats 4000000 in
set_option maxRecDepth 100000 in
theorem k_L_room (l : Launch) (g : WG) (ad : AL) (σ : LAS) (x1 : Int32) (h_1 : vp_in x1 4) (h_rok : ROK σ) : Rd l yL_room cL_room 6 (some .int) 1 (Wl g (cL g ad σ) (fun _ => False)) [.int x1, .ref ad.1, .ref ad.2.1, .ref ad.2.2.2] (mL_room σ x1) := by
  refine rd_of (by decide) (Nat.le_of_ble_eq_true rfl) ?_
  intro p e s m args below meth c ls hC hW hl
  obtain ⟨hP, hK, hE⟩ := hW
  obtain ⟨hx, hb, hml, hr, hown, hts, hlk, hnm⟩ := id hC
  have hl : lv_has ls 6 [(0, .int x1), (1, .ref ad.1), (2, .ref ad.2.1), (3, .ref ad.2.2.2)] := hl
  refine lv_aload_n hx hb dL_room_0 rfl (lv_at hl 1 rfl) ?_
  refine lv_bipush (v := 10) hx hb dL_room_1 (by decide) ?_
  refine lv_iload_n hx hb dL_room_3 rfl (lv_at hl 0 rfl) ?_
  refine lv_iadd hx hb dL_room_4 ?_
  refine lL_g hC hK hP (ix_c (z := 10) rfl (by decide) h_1 (by decide) (by decide)) dL_room_5 ?_
  refine lv_istore (lv' := [(4, .int ((L_g σ) (10 + x1).toNatClampNeg)), (0, .int x1), (1, .ref ad.1), (2, .ref ad.2.1), (3, .ref ad.2.2.2)]) hx hb dL_room_6 hl (by decide) rfl (fun ls hl => ?_)
  refine lv_iconst (v := 1) hx hb dL_room_8 (by decide) ?_
  refine lv_istore (lv' := [(5, .int 1), (4, .int ((L_g σ) (10 + x1).toNatClampNeg)), (0, .int x1), (1, .ref ad.1), (2, .ref ad.2.1), (3, .ref ad.2.2.2)]) hx hb dL_room_9 hl (by decide) rfl (fun ls hl => ?_)
  refine q_L_room_11 l g ad σ x1 h_1 h_rok hC hP hK hE 8 1 ((L_g σ) (10 + x1).toNatClampNeg) (by decide) (by decide) (by decide) ?_ _ (lv_sub hl [0, 1, 2, 3, 4, 5] rfl)
  exact by unfold mL_room; rfl
/-- boat x stands in the list of its row -/
def PlOK (σ : LAS) (x : Int32) : Prop := vp_in (mL_of σ x 5) 4 ∧ ∃ j : Int32, vp_in j 6 ∧ L_r σ (((7 * (mL_of σ x 5)) + 1) + j).toNatClampNeg = x
theorem pl_in {w u : Int32} {P : Int32 → Prop} (h0 : 0 ≤ u.toInt) (h : ∃ j : Int32, vp_in j 6 ∧ u.toInt ≤ j.toInt ∧ P j) : vp_in u 6 := by
  obtain ⟨j, a, b, _⟩ := h
  exact in_iff.mpr ⟨h0, by have := (in_iff.mp a).2; omega⟩
theorem pl_nx {u : Int32} {P : Int32 → Prop} (h0 : 0 ≤ u.toInt) (h : ∃ j : Int32, vp_in j 6 ∧ u.toInt ≤ j.toInt ∧ P j) (c : ¬ P u) : ∃ j : Int32, vp_in j 6 ∧ (u + 1).toInt ≤ j.toInt ∧ P j := by
  obtain ⟨j, a, b, d⟩ := h
  have h2 := (in_iff.mp a).2
  have e9 := up_add (x := u) (d := 1) (k := 1) (M := 5) rfl h0 (by omega) (by decide) (by decide)
  refine ⟨j, a, ?_, d⟩
  rw [e9]
  have : u.toInt ≠ j.toInt := fun e => c ((eq_ti.mpr e) ▸ d)
  omega
def mL_place_L2 (σ : LAS) (x1 : Int32) : Nat → Int32 → Int32
  | 0, _ => 0
  | n + 1, u3 => (if ((L_r σ) (((7 * (mL_of σ x1 5)) + 1) + u3).toNatClampNeg) = x1 then u3 else (mL_place_L2 σ x1 n (u3 + 1)))
set_option maxHeartbeats 4000000 in
set_option maxRecDepth 100000 in
theorem q_L_place_2 {p : Program} {e : Env} {s : State} {m : MethodId} {args : Array Value} {below : List Frame} {meth : Method} {c : Code} (l : Launch) (g : WG) (ad : AL) (σ : LAS) (x1 : Int32) (h_1 : vp_in x1 6) (h_pl : PlOK σ x1) (hC : Cx p s m args meth c yL_place cL_place 4 (some .int)) (hP : va_P g.1 vwCl (cL g ad σ) s.heap) (hK : va_K g.1 vwCl (tysW g) s) (hE : Ex (fun _ => False) s s.heap) {r : Int32} : ∀ (n : Nat) (u3 : Int32) (hi0 : 0 ≤ u3.toInt) (hj : ∃ j : Int32, vp_in j 6 ∧ u3.toInt ≤ j.toInt ∧ L_r σ (((7 * (mL_of σ x1 5)) + 1) + j).toNatClampNeg = x1) (hm : ((6 : Int) - u3.toInt).toNat < n) (hR : r = mL_place_L2 σ x1 n u3) (ls : Array Slot) (hl : lv_has ls 4 [(3, .int u3), (0, .int x1), (1, .ref ad.2.1), (2, .ref ad.2.2.2)]), W p l e (rk 1) s m args below meth c s.heap [] 0 0 (MQ below (vp_Si (fun x => x = r)) args s 0 0 (fun _ => False)) (F0 m 2 ls []) := by
  obtain ⟨hx, hb, hml, hr, hown, hts, hlk, hnm⟩ := id hC
  intro n
  induction n with
  | zero => intro u3 hi0 hj hm hR ls hl; exact absurd hm (Nat.not_lt_zero _)
  | succ n ih =>
    intro u3 hi0 hj hm hR ls hl
    refine lv_aload_n hx hb dL_place_2 rfl (lv_at hl 3 rfl) ?_
    refine lv_bipush (v := 7) hx hb dL_place_3 (by decide) ?_
    refine lv_aload_n hx hb dL_place_5 rfl (lv_at hl 2 rfl) ?_
    refine lv_iload_n hx hb dL_place_6 rfl (lv_at hl 1 rfl) ?_
    refine lv_iconst (v := 5) hx hb dL_place_7 (by decide) ?_
    refine callSd hC (k_L_of l g ad σ x1 5 h_1 (in_iff.mpr (by decide))) ci_L_of lk_L_9 ⟨Nat.le_of_ble_eq_true rfl, Nat.le_of_ble_eq_true rfl⟩ hP hK hE rfl hl.1 rfl (Nat.le_of_ble_eq_true rfl) dL_place_8 ⟨Nat.zero_le _, Nat.zero_le _⟩ ?_
    refine lv_imul hx hb dL_place_11 ?_
    refine lv_iconst (v := 1) hx hb dL_place_12 (by decide) ?_
    refine lv_iadd hx hb dL_place_13 ?_
    refine lv_iload_n hx hb dL_place_14 rfl (lv_at hl 0 rfl) ?_
    refine lv_iadd hx hb dL_place_15 ?_
    refine lL_r hC hK hP (ix_71 h_pl.1 (pl_in (w := 0) hi0 hj)) dL_place_16 ?_
    refine lv_iload_n hx hb dL_place_17 rfl (lv_at hl 1 rfl) ?_
    refine lv_icmp_eq (tgt := 27) hx hb dL_place_18 (by decide) (fun c_1 => ?_) (fun c_1 => ?_)
    · refine lv_iload_n hx hb dL_place_27 rfl (lv_at hl 0 rfl) ?_
      exact rd_ret hC dL_place_28 (Eq.symm (by rw [hR, mL_place_L2, if_pos c_1]))
    · refine lv_iinc (v := (u3 + 1)) (lv' := [(3, .int (u3 + 1)), (0, .int x1), (1, .ref ad.2.1), (2, .ref ad.2.2.2)]) hx hb dL_place_21 hl (k := 0) rfl rfl (by decide) rfl (fun ls hl => ?_)
      refine lv_goto (tgt := 2) hx hb dL_place_24 (by decide) ?_
      have e8 := pl_nx hi0 hj c_1
      have e9 := up_add (x := u3) (d := 1) (k := 1) (M := 5) rfl hi0 (by obtain ⟨j, a, b, _⟩ := hj; have := (in_iff.mp a).2; omega) (by decide) (by decide)
      exact ih (u3 + 1) (by rw [e9]; omega) e8 (by obtain ⟨j, a, b, _⟩ := hj; have := (in_iff.mp a).2; rw [e9]; omega) (by rw [hR, mL_place_L2, if_neg c_1]) _ (lv_sub hl [0, 1, 2, 3] rfl)
def mL_place (σ : LAS) (x1 : Int32) : Int32 := (mL_place_L2 σ x1 8 0)
set_option maxHeartbeats 4000000 in
set_option maxRecDepth 100000 in
theorem k_L_place (l : Launch) (g : WG) (ad : AL) (σ : LAS) (x1 : Int32) (h_1 : vp_in x1 6) (h_pl : PlOK σ x1) : Rd l yL_place cL_place 4 (some .int) 1 (Wl g (cL g ad σ) (fun _ => False)) [.int x1, .ref ad.2.1, .ref ad.2.2.2] (mL_place σ x1) := by
  refine rd_of (by decide) (Nat.le_of_ble_eq_true rfl) ?_
  intro p e s m args below meth c ls hC hW hl
  obtain ⟨hP, hK, hE⟩ := hW
  obtain ⟨hx, hb, hml, hr, hown, hts, hlk, hnm⟩ := id hC
  have hl : lv_has ls 4 [(0, .int x1), (1, .ref ad.2.1), (2, .ref ad.2.2.2)] := hl
  refine lv_iconst (v := 0) hx hb dL_place_0 (by decide) ?_
  refine lv_istore_n (lv' := [(3, .int 0), (0, .int x1), (1, .ref ad.2.1), (2, .ref ad.2.2.2)]) hx hb dL_place_1 rfl hl (by decide) rfl (fun ls hl => ?_)
  refine q_L_place_2 l g ad σ x1 h_1 h_pl hC hP hK hE 8 0 (by decide) (by obtain ⟨j, a, b⟩ := h_pl.2; exact ⟨j, a, (in_iff.mp a).1, b⟩) (by decide) ?_ _ (lv_sub hl [0, 1, 2, 3] rfl)
  exact by unfold mL_place; rfl
def mL_liftReason (σ : LAS) (x1 : Int32) (x2 : Int32) : Int32 := (if (mL_of σ x1 5) < 0 then (if (mL_of σ x1 2) ≤ (mL_tide σ ((L_g σ) (0 : Int32).toNatClampNeg)) then (if (mL_of σ x1 3) ≤ ((L_g σ) (4 : Int32).toNatClampNeg) then (if 0 ≤ (mL_cradle σ x1) then (if ((mL_of σ x1 1) + 1) ≤ (mL_room σ x2) then (if (mL_of σ x1 1) ≤ 9 then (if (mL_left σ) ≤ 0 then 7 else 0) else (if 0 ≤ (mL_of σ x1 7) then (if (mL_left σ) ≤ 0 then 7 else 0) else 6)) else 5) else 4) else 3) else 2) else 1)
set_option maxHeartbeats 4000000 in
set_option maxRecDepth 100000 in
theorem k_L_liftReason (l : Launch) (g : WG) (ad : AL) (σ : LAS) (x1 : Int32) (x2 : Int32) (h_1 : vp_in x1 6) (h_2 : vp_in x2 4) (h_keel : vp_in (mL_of σ x1 4) 3) (h_rok : ROK σ) : Rd l yL_liftReason cL_liftReason 5 (some .int) 3 (Wl g (cL g ad σ) (fun _ => False)) [.int x1, .int x2, .ref ad.1, .ref ad.2.1, .ref ad.2.2.2] (mL_liftReason σ x1 x2) := by
  refine rd_of (by decide) (Nat.le_of_ble_eq_true rfl) ?_
  intro p e s m args below meth c ls hC hW hl
  obtain ⟨hP, hK, hE⟩ := hW
  obtain ⟨hx, hb, hml, hr, hown, hts, hlk, hnm⟩ := id hC
  have hl : lv_has ls 5 [(0, .int x1), (1, .int x2), (2, .ref ad.1), (3, .ref ad.2.1), (4, .ref ad.2.2.2)] := hl
  refine lv_aload_n hx hb dL_liftReason_0 rfl (lv_at hl 3 rfl) ?_
  refine lv_iload_n hx hb dL_liftReason_1 rfl (lv_at hl 0 rfl) ?_
  refine lv_iconst (v := 5) hx hb dL_liftReason_2 (by decide) ?_
  refine callSd hC (k_L_of l g ad σ x1 5 h_1 (in_iff.mpr (by decide))) ci_L_of lk_L_9 ⟨Nat.le_of_ble_eq_true rfl, Nat.le_of_ble_eq_true rfl⟩ hP hK hE rfl hl.1 rfl (Nat.le_of_ble_eq_true rfl) dL_liftReason_3 ⟨Nat.zero_le _, Nat.zero_le _⟩ ?_
  refine lv_if_lt (tgt := 11) hx hb dL_liftReason_6 (by decide) (fun c_1 => ?_) (fun c_1 => ?_)
  · refine lv_aload_n hx hb dL_liftReason_11 rfl (lv_at hl 2 rfl) ?_
    refine lv_iconst (v := 0) hx hb dL_liftReason_12 (by decide) ?_
    refine lL_g hC hK hP (in_iff.mpr (by decide)) dL_liftReason_13 ?_
    refine lv_aload_n hx hb dL_liftReason_14 rfl (lv_at hl 2 rfl) ?_
    refine callSd hC (k_L_tide l g ad σ ((L_g σ) (0 : Int32).toNatClampNeg)) ci_L_tide lk_L_23 ⟨Nat.le_of_ble_eq_true rfl, Nat.le_of_ble_eq_true rfl⟩ hP hK hE rfl hl.1 rfl (Nat.le_of_ble_eq_true rfl) dL_liftReason_15 ⟨Nat.zero_le _, Nat.zero_le _⟩ ?_
    refine lv_aload_n hx hb dL_liftReason_18 rfl (lv_at hl 3 rfl) ?_
    refine lv_iload_n hx hb dL_liftReason_19 rfl (lv_at hl 0 rfl) ?_
    refine lv_iconst (v := 2) hx hb dL_liftReason_20 (by decide) ?_
    refine callSd hC (k_L_of l g ad σ x1 2 h_1 (in_iff.mpr (by decide))) ci_L_of lk_L_9 ⟨Nat.le_of_ble_eq_true rfl, Nat.le_of_ble_eq_true rfl⟩ hP hK hE rfl hl.1 rfl (Nat.le_of_ble_eq_true rfl) dL_liftReason_21 ⟨Nat.zero_le _, Nat.zero_le _⟩ ?_
    refine lv_icmp_ge (tgt := 29) hx hb dL_liftReason_24 (by decide) (fun c_2 => ?_) (fun c_2 => ?_)
    · refine lv_aload_n hx hb dL_liftReason_29 rfl (lv_at hl 3 rfl) ?_
      refine lv_iload_n hx hb dL_liftReason_30 rfl (lv_at hl 0 rfl) ?_
      refine lv_iconst (v := 3) hx hb dL_liftReason_31 (by decide) ?_
      refine callSd hC (k_L_of l g ad σ x1 3 h_1 (in_iff.mpr (by decide))) ci_L_of lk_L_9 ⟨Nat.le_of_ble_eq_true rfl, Nat.le_of_ble_eq_true rfl⟩ hP hK hE rfl hl.1 rfl (Nat.le_of_ble_eq_true rfl) dL_liftReason_32 ⟨Nat.zero_le _, Nat.zero_le _⟩ ?_
      refine lv_aload_n hx hb dL_liftReason_35 rfl (lv_at hl 2 rfl) ?_
      refine lv_iconst (v := 4) hx hb dL_liftReason_36 (by decide) ?_
      refine lL_g hC hK hP (in_iff.mpr (by decide)) dL_liftReason_37 ?_
      refine lv_icmp_le (tgt := 43) hx hb dL_liftReason_38 (by decide) (fun c_3 => ?_) (fun c_3 => ?_)
      · refine lv_iload_n hx hb dL_liftReason_43 rfl (lv_at hl 0 rfl) ?_
        refine lv_aload_n hx hb dL_liftReason_44 rfl (lv_at hl 2 rfl) ?_
        refine lv_aload_n hx hb dL_liftReason_45 rfl (lv_at hl 3 rfl) ?_
        refine callSd hC (k_L_cradle l g ad σ x1 h_1 h_keel) ci_L_cradle lk_L_26 ⟨Nat.le_of_ble_eq_true rfl, Nat.le_of_ble_eq_true rfl⟩ hP hK hE rfl hl.1 rfl (Nat.le_of_ble_eq_true rfl) dL_liftReason_46 ⟨Nat.zero_le _, Nat.zero_le _⟩ ?_
        refine lv_if_ge (tgt := 54) hx hb dL_liftReason_49 (by decide) (fun c_4 => ?_) (fun c_4 => ?_)
        · refine lv_iload_n hx hb dL_liftReason_54 rfl (lv_at hl 1 rfl) ?_
          refine lv_aload_n hx hb dL_liftReason_55 rfl (lv_at hl 2 rfl) ?_
          refine lv_aload_n hx hb dL_liftReason_56 rfl (lv_at hl 3 rfl) ?_
          refine lv_aload hx hb dL_liftReason_57 (lv_at hl 4 rfl) ?_
          refine callSd hC (k_L_room l g ad σ x2 h_2 h_rok) ci_L_room lk_L_30 ⟨Nat.le_of_ble_eq_true rfl, Nat.le_of_ble_eq_true rfl⟩ hP hK hE rfl hl.1 rfl (Nat.le_of_ble_eq_true rfl) dL_liftReason_59 ⟨Nat.zero_le _, Nat.zero_le _⟩ ?_
          refine lv_aload_n hx hb dL_liftReason_62 rfl (lv_at hl 3 rfl) ?_
          refine lv_iload_n hx hb dL_liftReason_63 rfl (lv_at hl 0 rfl) ?_
          refine lv_iconst (v := 1) hx hb dL_liftReason_64 (by decide) ?_
          refine callSd hC (k_L_of l g ad σ x1 1 h_1 (in_iff.mpr (by decide))) ci_L_of lk_L_9 ⟨Nat.le_of_ble_eq_true rfl, Nat.le_of_ble_eq_true rfl⟩ hP hK hE rfl hl.1 rfl (Nat.le_of_ble_eq_true rfl) dL_liftReason_65 ⟨Nat.zero_le _, Nat.zero_le _⟩ ?_
          refine lv_iconst (v := 1) hx hb dL_liftReason_68 (by decide) ?_
          refine lv_iadd hx hb dL_liftReason_69 ?_
          refine lv_icmp_ge (tgt := 75) hx hb dL_liftReason_70 (by decide) (fun c_5 => ?_) (fun c_5 => ?_)
          · refine lv_aload_n hx hb dL_liftReason_75 rfl (lv_at hl 3 rfl) ?_
            refine lv_iload_n hx hb dL_liftReason_76 rfl (lv_at hl 0 rfl) ?_
            refine lv_iconst (v := 1) hx hb dL_liftReason_77 (by decide) ?_
            refine callSd hC (k_L_of l g ad σ x1 1 h_1 (in_iff.mpr (by decide))) ci_L_of lk_L_9 ⟨Nat.le_of_ble_eq_true rfl, Nat.le_of_ble_eq_true rfl⟩ hP hK hE rfl hl.1 rfl (Nat.le_of_ble_eq_true rfl) dL_liftReason_78 ⟨Nat.zero_le _, Nat.zero_le _⟩ ?_
            refine lv_bipush (v := 9) hx hb dL_liftReason_81 (by decide) ?_
            refine lv_icmp_le (tgt := 99) hx hb dL_liftReason_83 (by decide) (fun c_6 => ?_) (fun c_6 => ?_)
            · refine lv_aload_n hx hb dL_liftReason_99 rfl (lv_at hl 2 rfl) ?_
              refine callSd hC (k_L_left l g ad σ) ci_L_left lk_L_34 ⟨Nat.le_of_ble_eq_true rfl, Nat.le_of_ble_eq_true rfl⟩ hP hK hE rfl hl.1 rfl (Nat.le_of_ble_eq_true rfl) dL_liftReason_100 ⟨Nat.zero_le _, Nat.zero_le _⟩ ?_
              refine lv_if_le (tgt := 110) hx hb dL_liftReason_103 (by decide) (fun c_7 => ?_) (fun c_7 => ?_)
              · refine lv_bipush (v := 7) hx hb dL_liftReason_110 (by decide) ?_
                exact rd_ret hC dL_liftReason_112 (Eq.symm (by unfold mL_liftReason; rw [if_pos c_1, if_pos c_2, if_pos c_3, if_pos c_4, if_pos c_5, if_pos c_6, if_pos c_7]))
              · refine lv_iconst (v := 0) hx hb dL_liftReason_106 (by decide) ?_
                refine lv_goto (tgt := 112) hx hb dL_liftReason_107 (by decide) ?_
                exact rd_ret hC dL_liftReason_112 (Eq.symm (by unfold mL_liftReason; rw [if_pos c_1, if_pos c_2, if_pos c_3, if_pos c_4, if_pos c_5, if_pos c_6, if_neg c_7]))
            · refine lv_aload_n hx hb dL_liftReason_86 rfl (lv_at hl 3 rfl) ?_
              refine lv_iload_n hx hb dL_liftReason_87 rfl (lv_at hl 0 rfl) ?_
              refine lv_bipush (v := 7) hx hb dL_liftReason_88 (by decide) ?_
              refine callSd hC (k_L_of l g ad σ x1 7 h_1 (in_iff.mpr (by decide))) ci_L_of lk_L_9 ⟨Nat.le_of_ble_eq_true rfl, Nat.le_of_ble_eq_true rfl⟩ hP hK hE rfl hl.1 rfl (Nat.le_of_ble_eq_true rfl) dL_liftReason_90 ⟨Nat.zero_le _, Nat.zero_le _⟩ ?_
              refine lv_if_ge (tgt := 99) hx hb dL_liftReason_93 (by decide) (fun c_8 => ?_) (fun c_8 => ?_)
              · refine lv_aload_n hx hb dL_liftReason_99 rfl (lv_at hl 2 rfl) ?_
                refine callSd hC (k_L_left l g ad σ) ci_L_left lk_L_34 ⟨Nat.le_of_ble_eq_true rfl, Nat.le_of_ble_eq_true rfl⟩ hP hK hE rfl hl.1 rfl (Nat.le_of_ble_eq_true rfl) dL_liftReason_100 ⟨Nat.zero_le _, Nat.zero_le _⟩ ?_
                refine lv_if_le (tgt := 110) hx hb dL_liftReason_103 (by decide) (fun c_9 => ?_) (fun c_9 => ?_)
                · refine lv_bipush (v := 7) hx hb dL_liftReason_110 (by decide) ?_
                  exact rd_ret hC dL_liftReason_112 (Eq.symm (by unfold mL_liftReason; rw [if_pos c_1, if_pos c_2, if_pos c_3, if_pos c_4, if_pos c_5, if_neg c_6, if_pos c_8, if_pos c_9]))
                · refine lv_iconst (v := 0) hx hb dL_liftReason_106 (by decide) ?_
                  refine lv_goto (tgt := 112) hx hb dL_liftReason_107 (by decide) ?_
                  exact rd_ret hC dL_liftReason_112 (Eq.symm (by unfold mL_liftReason; rw [if_pos c_1, if_pos c_2, if_pos c_3, if_pos c_4, if_pos c_5, if_neg c_6, if_pos c_8, if_neg c_9]))
              · refine lv_bipush (v := 6) hx hb dL_liftReason_96 (by decide) ?_
                exact rd_ret hC dL_liftReason_98 (Eq.symm (by unfold mL_liftReason; rw [if_pos c_1, if_pos c_2, if_pos c_3, if_pos c_4, if_pos c_5, if_neg c_6, if_neg c_8]))
          · refine lv_iconst (v := 5) hx hb dL_liftReason_73 (by decide) ?_
            exact rd_ret hC dL_liftReason_74 (Eq.symm (by unfold mL_liftReason; rw [if_pos c_1, if_pos c_2, if_pos c_3, if_pos c_4, if_neg c_5]))
        · refine lv_iconst (v := 4) hx hb dL_liftReason_52 (by decide) ?_
          exact rd_ret hC dL_liftReason_53 (Eq.symm (by unfold mL_liftReason; rw [if_pos c_1, if_pos c_2, if_pos c_3, if_neg c_4]))
      · refine lv_iconst (v := 3) hx hb dL_liftReason_41 (by decide) ?_
        exact rd_ret hC dL_liftReason_42 (Eq.symm (by unfold mL_liftReason; rw [if_pos c_1, if_pos c_2, if_neg c_3]))
    · refine lv_iconst (v := 2) hx hb dL_liftReason_27 (by decide) ?_
      exact rd_ret hC dL_liftReason_28 (Eq.symm (by unfold mL_liftReason; rw [if_pos c_1, if_neg c_2]))
  · refine lv_iconst (v := 1) hx hb dL_liftReason_9 (by decide) ?_
    exact rd_ret hC dL_liftReason_10 (Eq.symm (by unfold mL_liftReason; rw [if_neg c_1]))
def mL_launchReason (σ : LAS) (x1 : Int32) : Int32 := (if 0 ≤ (mL_of σ x1 5) then (if (mL_of σ x1 8) ≤ 0 then (if (((L_r σ) (7 * (mL_of σ x1 5)).toNatClampNeg) - 1) ≤ (mL_place σ x1) then (if (mL_of σ x1 2) ≤ (mL_tide σ ((L_g σ) (0 : Int32).toNatClampNeg)) then (if (mL_of σ x1 3) ≤ ((L_g σ) (4 : Int32).toNatClampNeg) then (if (mL_left σ) ≤ 0 then 6 else 0) else 5) else 4) else 3) else 2) else 1)
set_option maxHeartbeats 4000000 in
set_option maxRecDepth 100000 in
theorem k_L_launchReason (l : Launch) (g : WG) (ad : AL) (σ : LAS) (x1 : Int32) (h_1 : vp_in x1 6) (h_pls : 0 ≤ mL_of σ x1 5 → PlOK σ x1) (h_rok : ROK σ) : Rd l yL_launchReason cL_launchReason 4 (some .int) 2 (Wl g (cL g ad σ) (fun _ => False)) [.int x1, .ref ad.1, .ref ad.2.1, .ref ad.2.2.2] (mL_launchReason σ x1) := by
  refine rd_of (by decide) (Nat.le_of_ble_eq_true rfl) ?_
  intro p e s m args below meth c ls hC hW hl
  obtain ⟨hP, hK, hE⟩ := hW
  obtain ⟨hx, hb, hml, hr, hown, hts, hlk, hnm⟩ := id hC
  have hl : lv_has ls 4 [(0, .int x1), (1, .ref ad.1), (2, .ref ad.2.1), (3, .ref ad.2.2.2)] := hl
  refine lv_aload_n hx hb dL_launchReason_0 rfl (lv_at hl 2 rfl) ?_
  refine lv_iload_n hx hb dL_launchReason_1 rfl (lv_at hl 0 rfl) ?_
  refine lv_iconst (v := 5) hx hb dL_launchReason_2 (by decide) ?_
  refine callSd hC (k_L_of l g ad σ x1 5 h_1 (in_iff.mpr (by decide))) ci_L_of lk_L_9 ⟨Nat.le_of_ble_eq_true rfl, Nat.le_of_ble_eq_true rfl⟩ hP hK hE rfl hl.1 rfl (Nat.le_of_ble_eq_true rfl) dL_launchReason_3 ⟨Nat.zero_le _, Nat.zero_le _⟩ ?_
  refine lv_if_ge (tgt := 11) hx hb dL_launchReason_6 (by decide) (fun c_1 => ?_) (fun c_1 => ?_)
  · refine lv_aload_n hx hb dL_launchReason_11 rfl (lv_at hl 2 rfl) ?_
    refine lv_iload_n hx hb dL_launchReason_12 rfl (lv_at hl 0 rfl) ?_
    refine lv_bipush (v := 8) hx hb dL_launchReason_13 (by decide) ?_
    refine callSd hC (k_L_of l g ad σ x1 8 h_1 (in_iff.mpr (by decide))) ci_L_of lk_L_9 ⟨Nat.le_of_ble_eq_true rfl, Nat.le_of_ble_eq_true rfl⟩ hP hK hE rfl hl.1 rfl (Nat.le_of_ble_eq_true rfl) dL_launchReason_15 ⟨Nat.zero_le _, Nat.zero_le _⟩ ?_
    refine lv_if_le (tgt := 23) hx hb dL_launchReason_18 (by decide) (fun c_2 => ?_) (fun c_2 => ?_)
    · refine lv_iload_n hx hb dL_launchReason_23 rfl (lv_at hl 0 rfl) ?_
      refine lv_aload_n hx hb dL_launchReason_24 rfl (lv_at hl 2 rfl) ?_
      refine lv_aload_n hx hb dL_launchReason_25 rfl (lv_at hl 3 rfl) ?_
      refine callSd hC (k_L_place l g ad σ x1 h_1 (h_pls c_1)) ci_L_place lk_L_38 ⟨Nat.le_of_ble_eq_true rfl, Nat.le_of_ble_eq_true rfl⟩ hP hK hE rfl hl.1 rfl (Nat.le_of_ble_eq_true rfl) dL_launchReason_26 ⟨Nat.zero_le _, Nat.zero_le _⟩ ?_
      refine lv_aload_n hx hb dL_launchReason_29 rfl (lv_at hl 3 rfl) ?_
      refine lv_bipush (v := 7) hx hb dL_launchReason_30 (by decide) ?_
      refine lv_aload_n hx hb dL_launchReason_32 rfl (lv_at hl 2 rfl) ?_
      refine lv_iload_n hx hb dL_launchReason_33 rfl (lv_at hl 0 rfl) ?_
      refine lv_iconst (v := 5) hx hb dL_launchReason_34 (by decide) ?_
      refine callSd hC (k_L_of l g ad σ x1 5 h_1 (in_iff.mpr (by decide))) ci_L_of lk_L_9 ⟨Nat.le_of_ble_eq_true rfl, Nat.le_of_ble_eq_true rfl⟩ hP hK hE rfl hl.1 rfl (Nat.le_of_ble_eq_true rfl) dL_launchReason_35 ⟨Nat.zero_le _, Nat.zero_le _⟩ ?_
      refine lv_imul hx hb dL_launchReason_38 ?_
      refine lL_r hC hK hP (ix_70 (h_pls c_1).1) dL_launchReason_39 ?_
      refine lv_iconst (v := 1) hx hb dL_launchReason_40 (by decide) ?_
      refine lv_isub hx hb dL_launchReason_41 ?_
      refine lv_icmp_ge (tgt := 47) hx hb dL_launchReason_42 (by decide) (fun c_3 => ?_) (fun c_3 => ?_)
      · refine lv_aload_n hx hb dL_launchReason_47 rfl (lv_at hl 1 rfl) ?_
        refine lv_iconst (v := 0) hx hb dL_launchReason_48 (by decide) ?_
        refine lL_g hC hK hP (in_iff.mpr (by decide)) dL_launchReason_49 ?_
        refine lv_aload_n hx hb dL_launchReason_50 rfl (lv_at hl 1 rfl) ?_
        refine callSd hC (k_L_tide l g ad σ ((L_g σ) (0 : Int32).toNatClampNeg)) ci_L_tide lk_L_23 ⟨Nat.le_of_ble_eq_true rfl, Nat.le_of_ble_eq_true rfl⟩ hP hK hE rfl hl.1 rfl (Nat.le_of_ble_eq_true rfl) dL_launchReason_51 ⟨Nat.zero_le _, Nat.zero_le _⟩ ?_
        refine lv_aload_n hx hb dL_launchReason_54 rfl (lv_at hl 2 rfl) ?_
        refine lv_iload_n hx hb dL_launchReason_55 rfl (lv_at hl 0 rfl) ?_
        refine lv_iconst (v := 2) hx hb dL_launchReason_56 (by decide) ?_
        refine callSd hC (k_L_of l g ad σ x1 2 h_1 (in_iff.mpr (by decide))) ci_L_of lk_L_9 ⟨Nat.le_of_ble_eq_true rfl, Nat.le_of_ble_eq_true rfl⟩ hP hK hE rfl hl.1 rfl (Nat.le_of_ble_eq_true rfl) dL_launchReason_57 ⟨Nat.zero_le _, Nat.zero_le _⟩ ?_
        refine lv_icmp_ge (tgt := 65) hx hb dL_launchReason_60 (by decide) (fun c_4 => ?_) (fun c_4 => ?_)
        · refine lv_aload_n hx hb dL_launchReason_65 rfl (lv_at hl 2 rfl) ?_
          refine lv_iload_n hx hb dL_launchReason_66 rfl (lv_at hl 0 rfl) ?_
          refine lv_iconst (v := 3) hx hb dL_launchReason_67 (by decide) ?_
          refine callSd hC (k_L_of l g ad σ x1 3 h_1 (in_iff.mpr (by decide))) ci_L_of lk_L_9 ⟨Nat.le_of_ble_eq_true rfl, Nat.le_of_ble_eq_true rfl⟩ hP hK hE rfl hl.1 rfl (Nat.le_of_ble_eq_true rfl) dL_launchReason_68 ⟨Nat.zero_le _, Nat.zero_le _⟩ ?_
          refine lv_aload_n hx hb dL_launchReason_71 rfl (lv_at hl 1 rfl) ?_
          refine lv_iconst (v := 4) hx hb dL_launchReason_72 (by decide) ?_
          refine lL_g hC hK hP (in_iff.mpr (by decide)) dL_launchReason_73 ?_
          refine lv_icmp_le (tgt := 79) hx hb dL_launchReason_74 (by decide) (fun c_5 => ?_) (fun c_5 => ?_)
          · refine lv_aload_n hx hb dL_launchReason_79 rfl (lv_at hl 1 rfl) ?_
            refine callSd hC (k_L_left l g ad σ) ci_L_left lk_L_34 ⟨Nat.le_of_ble_eq_true rfl, Nat.le_of_ble_eq_true rfl⟩ hP hK hE rfl hl.1 rfl (Nat.le_of_ble_eq_true rfl) dL_launchReason_80 ⟨Nat.zero_le _, Nat.zero_le _⟩ ?_
            refine lv_if_le (tgt := 90) hx hb dL_launchReason_83 (by decide) (fun c_6 => ?_) (fun c_6 => ?_)
            · refine lv_bipush (v := 6) hx hb dL_launchReason_90 (by decide) ?_
              exact rd_ret hC dL_launchReason_92 (Eq.symm (by unfold mL_launchReason; rw [if_pos c_1, if_pos c_2, if_pos c_3, if_pos c_4, if_pos c_5, if_pos c_6]))
            · refine lv_iconst (v := 0) hx hb dL_launchReason_86 (by decide) ?_
              refine lv_goto (tgt := 92) hx hb dL_launchReason_87 (by decide) ?_
              exact rd_ret hC dL_launchReason_92 (Eq.symm (by unfold mL_launchReason; rw [if_pos c_1, if_pos c_2, if_pos c_3, if_pos c_4, if_pos c_5, if_neg c_6]))
          · refine lv_iconst (v := 5) hx hb dL_launchReason_77 (by decide) ?_
            exact rd_ret hC dL_launchReason_78 (Eq.symm (by unfold mL_launchReason; rw [if_pos c_1, if_pos c_2, if_pos c_3, if_pos c_4, if_neg c_5]))
        · refine lv_iconst (v := 4) hx hb dL_launchReason_63 (by decide) ?_
          exact rd_ret hC dL_launchReason_64 (Eq.symm (by unfold mL_launchReason; rw [if_pos c_1, if_pos c_2, if_pos c_3, if_neg c_4]))
      · refine lv_iconst (v := 3) hx hb dL_launchReason_45 (by decide) ?_
        exact rd_ret hC dL_launchReason_46 (Eq.symm (by unfold mL_launchReason; rw [if_pos c_1, if_pos c_2, if_neg c_3]))
    · refine lv_iconst (v := 2) hx hb dL_launchReason_21 (by decide) ?_
      exact rd_ret hC dL_launchReason_22 (Eq.symm (by unfold mL_launchReason; rw [if_pos c_1, if_neg c_2]))
  · refine lv_iconst (v := 1) hx hb dL_launchReason_9 (by decide) ?_
    exact rd_ret hC dL_launchReason_10 (Eq.symm (by unfold mL_launchReason; rw [if_neg c_1]))
theorem ix_st {f : Nat → Int32} {i : Int32} (h : vp_in i 4) (hf : vp_in (f (7 * i).toNatClampNeg) 6) : vp_in ((7 * i) + (upd f (7 * i).toNatClampNeg ((f (7 * i).toNatClampNeg) + 1)) (7 * i).toNatClampNeg) 28 := by
  rw [upd_same]
  exact ix_7 h (ix_c' (z := 1) rfl (by decide) hf (by decide) (by decide))
def mL_stand (σ : LAS) (x1 : Int32) (x2 : Int32) : LAS := ((L_g σ), (upd (L_b σ) ((10 * x1) + 5).toNatClampNeg x2), (L_t σ), (upd (upd (L_r σ) (7 * x2).toNatClampNeg (((L_r σ) (7 * x2).toNatClampNeg) + 1)) ((7 * x2) + ((upd (L_r σ) (7 * x2).toNatClampNeg (((L_r σ) (7 * x2).toNatClampNeg) + 1)) (7 * x2).toNatClampNeg)).toNatClampNeg x1))
set_option maxHeartbeats 4000000 in
set_option maxRecDepth 100000 in
theorem k_L_stand (l : Launch) (g : WG) (ad : AL) (σ : LAS) (x1 : Int32) (x2 : Int32) (h_1 : vp_in x1 6) (h_2 : vp_in x2 4) (h_free : vp_in (L_r σ (7 * x2).toNatClampNeg) 6) : Wv l yL_stand cL_stand 4 0 g (cL g ad σ) (cL g ad (mL_stand σ x1 x2)) [.int x1, .int x2, .ref ad.2.1, .ref ad.2.2.2] := by
  refine wv_of (by decide) (Nat.le_of_ble_eq_true rfl) ?_
  intro p e s m args below meth c ls A hC hAe hP hD hK hE hA hS hl
  obtain ⟨hx, hb, hml, hr, hown, hts, hlk, hnm⟩ := id hC
  have hl : lv_has ls 4 [(0, .int x1), (1, .int x2), (2, .ref ad.2.1), (3, .ref ad.2.2.2)] := hl
  refine lv_aload_n hx hb dL_stand_0 rfl (lv_at hl 2 rfl) ?_
  refine lv_bipush (v := 10) hx hb dL_stand_1 (by decide) ?_
  refine lv_iload_n hx hb dL_stand_3 rfl (lv_at hl 0 rfl) ?_
  refine lv_imul hx hb dL_stand_4 ?_
  refine lv_iconst (v := 5) hx hb dL_stand_5 (by decide) ?_
  refine lv_iadd hx hb dL_stand_6 ?_
  refine lv_iload_n hx hb dL_stand_7 rfl (lv_at hl 1 rfl) ?_
  refine sL_b hC hK hP hD hS (ix_10 h_1 (in_iff.mpr (by decide))) dL_stand_8 (fun H locs hP hD hS => ?_)
  have hP : va_P g.1 vwCl (cL g ad ((L_g σ), (upd (L_b σ) ((10 * x1) + 5).toNatClampNeg x2), (L_t σ), (L_r σ))) H := hP
  have hD : va_D A (cL g ad ((L_g σ), (upd (L_b σ) ((10 * x1) + 5).toNatClampNeg x2), (L_t σ), (L_r σ))) := hD
  refine lv_aload_n hx hb dL_stand_9 rfl (lv_at hl 3 rfl) ?_
  refine lv_bipush (v := 7) hx hb dL_stand_10 (by decide) ?_
  refine lv_iload_n hx hb dL_stand_12 rfl (lv_at hl 1 rfl) ?_
  refine lv_imul hx hb dL_stand_13 ?_
  refine lv_dup2_11 hx hb dL_stand_14 rfl rfl ?_
  refine lL_r hC hK hP (ix_70 h_2) dL_stand_15 ?_
  refine lv_iconst (v := 1) hx hb dL_stand_16 (by decide) ?_
  refine lv_iadd hx hb dL_stand_17 ?_
  refine sL_r hC hK hP hD hS (ix_70 h_2) dL_stand_18 (fun H locs hP hD hS => ?_)
  have hP : va_P g.1 vwCl (cL g ad ((L_g σ), (upd (L_b σ) ((10 * x1) + 5).toNatClampNeg x2), (L_t σ), (upd (L_r σ) (7 * x2).toNatClampNeg (((L_r σ) (7 * x2).toNatClampNeg) + 1)))) H := hP
  have hD : va_D A (cL g ad ((L_g σ), (upd (L_b σ) ((10 * x1) + 5).toNatClampNeg x2), (L_t σ), (upd (L_r σ) (7 * x2).toNatClampNeg (((L_r σ) (7 * x2).toNatClampNeg) + 1)))) := hD
  refine lv_aload_n hx hb dL_stand_19 rfl (lv_at hl 3 rfl) ?_
  refine lv_bipush (v := 7) hx hb dL_stand_20 (by decide) ?_
  refine lv_iload_n hx hb dL_stand_22 rfl (lv_at hl 1 rfl) ?_
  refine lv_imul hx hb dL_stand_23 ?_
  refine lv_aload_n hx hb dL_stand_24 rfl (lv_at hl 3 rfl) ?_
  refine lv_bipush (v := 7) hx hb dL_stand_25 (by decide) ?_
  refine lv_iload_n hx hb dL_stand_27 rfl (lv_at hl 1 rfl) ?_
  refine lv_imul hx hb dL_stand_28 ?_
  refine lL_r hC hK hP (ix_70 h_2) dL_stand_29 ?_
  refine lv_iadd hx hb dL_stand_30 ?_
  refine lv_iload_n hx hb dL_stand_31 rfl (lv_at hl 0 rfl) ?_
  refine sL_r hC hK hP hD hS (ix_st h_2 h_free) dL_stand_32 (fun H locs hP hD hS => ?_)
  have hP : va_P g.1 vwCl (cL g ad ((L_g σ), (upd (L_b σ) ((10 * x1) + 5).toNatClampNeg x2), (L_t σ), (upd (upd (L_r σ) (7 * x2).toNatClampNeg (((L_r σ) (7 * x2).toNatClampNeg) + 1)) ((7 * x2) + ((upd (L_r σ) (7 * x2).toNatClampNeg (((L_r σ) (7 * x2).toNatClampNeg) + 1)) (7 * x2).toNatClampNeg)).toNatClampNeg x1))) H := hP
  have hD : va_D A (cL g ad ((L_g σ), (upd (L_b σ) ((10 * x1) + 5).toNatClampNeg x2), (L_t σ), (upd (upd (L_r σ) (7 * x2).toNatClampNeg (((L_r σ) (7 * x2).toNatClampNeg) + 1)) ((7 * x2) + ((upd (L_r σ) (7 * x2).toNatClampNeg (((L_r σ) (7 * x2).toNatClampNeg) + 1)) (7 * x2).toNatClampNeg)).toNatClampNeg x1))) := hD
  have hm : mL_stand σ x1 x2 = ((L_g σ), (upd (L_b σ) ((10 * x1) + 5).toNatClampNeg x2), (L_t σ), (upd (upd (L_r σ) (7 * x2).toNatClampNeg (((L_r σ) (7 * x2).toNatClampNeg) + 1)) ((7 * x2) + ((upd (L_r σ) (7 * x2).toNatClampNeg (((L_r σ) (7 * x2).toNatClampNeg) + 1)) (7 * x2).toNatClampNeg)).toNatClampNeg x1)) := by unfold mL_stand; rfl
  exact wv_ret hC hP (hAe ▸ hD) (hAe ▸ hS) dL_stand_33 (by rw [hm])
def mL_launchDay_L2 (σ : LAS) (x1 : Int32) : Nat → Int32 → Int32
  | 0, _ => 0
  | n + 1, u3 => (if 200 < u3 then (-5) else (if (mL_of σ x1 5) < 0 then (mL_launchDay_L2 σ x1 n (u3 + 1)) else (if ((L_g σ) (4 : Int32).toNatClampNeg) < (mL_of σ x1 3) then (mL_launchDay_L2 σ x1 n (u3 + 1)) else (if u3 < (mL_of σ x1 8) then (mL_launchDay_L2 σ x1 n (u3 + 1)) else (if (mL_tide σ (((L_g σ) (0 : Int32).toNatClampNeg) + u3)) < (mL_of σ x1 2) then (mL_launchDay_L2 σ x1 n (u3 + 1)) else (if 0 < u3 then (((L_g σ) (0 : Int32).toNatClampNeg) + u3) else (if (mL_left σ) ≤ 0 then (mL_launchDay_L2 σ x1 n (u3 + 1)) else (((L_g σ) (0 : Int32).toNatClampNeg) + u3))))))))
set_option maxHeartbeats 4000000 in
set_option maxRecDepth 100000 in
theorem q_L_launchDay_2 {p : Program} {e : Env} {s : State} {m : MethodId} {args : Array Value} {below : List Frame} {meth : Method} {c : Code} (l : Launch) (g : WG) (ad : AL) (σ : LAS) (x1 : Int32) (h_1 : vp_in x1 6) (hC : Cx p s m args meth c yL_launchDay cL_launchDay 4 (some .int)) (hP : va_P g.1 vwCl (cL g ad σ) s.heap) (hK : va_K g.1 vwCl (tysW g) s) (hE : Ex (fun _ => False) s s.heap) {r : Int32} : ∀ (n : Nat) (u3 : Int32) (hi0 : 0 ≤ u3.toInt) (hm : ((201 : Int) - u3.toInt).toNat < n) (hR : r = mL_launchDay_L2 σ x1 n u3) (ls : Array Slot) (hl : lv_has ls 4 [(3, .int u3), (0, .int x1), (1, .ref ad.1), (2, .ref ad.2.1)]), W p l e (rk 1) s m args below meth c s.heap [] 0 0 (MQ below (vp_Si (fun x => x = r)) args s 0 0 (fun _ => False)) (F0 m 2 ls []) := by
  obtain ⟨hx, hb, hml, hr, hown, hts, hlk, hnm⟩ := id hC
  intro n
  induction n with
  | zero => intro u3 hi0 hm hR ls hl; exact absurd hm (Nat.not_lt_zero _)
  | succ n ih =>
    intro u3 hi0 hm hR ls hl
    refine lv_iload_n hx hb dL_launchDay_2 rfl (lv_at hl 0 rfl) ?_
    refine lv_sipush (v := 200) hx hb dL_launchDay_3 (by decide) ?_
    refine lv_icmp_gt (tgt := 82) hx hb dL_launchDay_6 (by decide) (fun c_1 => ?_) (fun c_1 => ?_)
    · refine lv_bipush (v := (-5)) hx hb dL_launchDay_82 (by decide) ?_
      exact rd_ret hC dL_launchDay_84 (Eq.symm (by rw [hR, mL_launchDay_L2, if_pos c_1]))
    · refine lv_aload_n hx hb dL_launchDay_9 rfl (lv_at hl 3 rfl) ?_
      refine lv_iload_n hx hb dL_launchDay_10 rfl (lv_at hl 1 rfl) ?_
      refine lv_iconst (v := 5) hx hb dL_launchDay_11 (by decide) ?_
      refine callSd hC (k_L_of l g ad σ x1 5 h_1 (in_iff.mpr (by decide))) ci_L_of lk_L_9 ⟨Nat.le_of_ble_eq_true rfl, Nat.le_of_ble_eq_true rfl⟩ hP hK hE rfl hl.1 rfl (Nat.le_of_ble_eq_true rfl) dL_launchDay_12 ⟨Nat.zero_le _, Nat.zero_le _⟩ ?_
      refine lv_if_lt (tgt := 76) hx hb dL_launchDay_15 (by decide) (fun c_2 => ?_) (fun c_2 => ?_)
      · refine lv_iinc (v := (u3 + 1)) (lv' := [(3, .int (u3 + 1)), (0, .int x1), (1, .ref ad.1), (2, .ref ad.2.1)]) hx hb dL_launchDay_76 hl (k := 0) rfl rfl (by decide) rfl (fun ls hl => ?_)
        refine lv_goto (tgt := 2) hx hb dL_launchDay_79 (by decide) ?_
        have e8 := nlt_ti (k := 200) rfl c_1
        have e9 := up_add (d := 1) (k := 1) (M := 200) rfl hi0 e8 (by decide) (by decide)
        exact ih (u3 + 1) (by rw [e9]; omega) (by rw [e9]; omega) (by rw [hR, mL_launchDay_L2, if_neg c_1, if_pos c_2]) _ (lv_sub hl [0, 1, 2, 3] rfl)
      · refine lv_aload_n hx hb dL_launchDay_18 rfl (lv_at hl 3 rfl) ?_
        refine lv_iload_n hx hb dL_launchDay_19 rfl (lv_at hl 1 rfl) ?_
        refine lv_iconst (v := 3) hx hb dL_launchDay_20 (by decide) ?_
        refine callSd hC (k_L_of l g ad σ x1 3 h_1 (in_iff.mpr (by decide))) ci_L_of lk_L_9 ⟨Nat.le_of_ble_eq_true rfl, Nat.le_of_ble_eq_true rfl⟩ hP hK hE rfl hl.1 rfl (Nat.le_of_ble_eq_true rfl) dL_launchDay_21 ⟨Nat.zero_le _, Nat.zero_le _⟩ ?_
        refine lv_aload_n hx hb dL_launchDay_24 rfl (lv_at hl 2 rfl) ?_
        refine lv_iconst (v := 4) hx hb dL_launchDay_25 (by decide) ?_
        refine lL_g hC hK hP (in_iff.mpr (by decide)) dL_launchDay_26 ?_
        refine lv_icmp_gt (tgt := 76) hx hb dL_launchDay_27 (by decide) (fun c_3 => ?_) (fun c_3 => ?_)
        · refine lv_iinc (v := (u3 + 1)) (lv' := [(3, .int (u3 + 1)), (0, .int x1), (1, .ref ad.1), (2, .ref ad.2.1)]) hx hb dL_launchDay_76 hl (k := 0) rfl rfl (by decide) rfl (fun ls hl => ?_)
          refine lv_goto (tgt := 2) hx hb dL_launchDay_79 (by decide) ?_
          have e8 := nlt_ti (k := 200) rfl c_1
          have e9 := up_add (d := 1) (k := 1) (M := 200) rfl hi0 e8 (by decide) (by decide)
          exact ih (u3 + 1) (by rw [e9]; omega) (by rw [e9]; omega) (by rw [hR, mL_launchDay_L2, if_neg c_1, if_neg c_2, if_pos c_3]) _ (lv_sub hl [0, 1, 2, 3] rfl)
        · refine lv_aload_n hx hb dL_launchDay_30 rfl (lv_at hl 3 rfl) ?_
          refine lv_iload_n hx hb dL_launchDay_31 rfl (lv_at hl 1 rfl) ?_
          refine lv_bipush (v := 8) hx hb dL_launchDay_32 (by decide) ?_
          refine callSd hC (k_L_of l g ad σ x1 8 h_1 (in_iff.mpr (by decide))) ci_L_of lk_L_9 ⟨Nat.le_of_ble_eq_true rfl, Nat.le_of_ble_eq_true rfl⟩ hP hK hE rfl hl.1 rfl (Nat.le_of_ble_eq_true rfl) dL_launchDay_34 ⟨Nat.zero_le _, Nat.zero_le _⟩ ?_
          refine lv_iload_n hx hb dL_launchDay_37 rfl (lv_at hl 0 rfl) ?_
          refine lv_icmp_gt (tgt := 76) hx hb dL_launchDay_38 (by decide) (fun c_4 => ?_) (fun c_4 => ?_)
          · refine lv_iinc (v := (u3 + 1)) (lv' := [(3, .int (u3 + 1)), (0, .int x1), (1, .ref ad.1), (2, .ref ad.2.1)]) hx hb dL_launchDay_76 hl (k := 0) rfl rfl (by decide) rfl (fun ls hl => ?_)
            refine lv_goto (tgt := 2) hx hb dL_launchDay_79 (by decide) ?_
            have e8 := nlt_ti (k := 200) rfl c_1
            have e9 := up_add (d := 1) (k := 1) (M := 200) rfl hi0 e8 (by decide) (by decide)
            exact ih (u3 + 1) (by rw [e9]; omega) (by rw [e9]; omega) (by rw [hR, mL_launchDay_L2, if_neg c_1, if_neg c_2, if_neg c_3, if_pos c_4]) _ (lv_sub hl [0, 1, 2, 3] rfl)
          · refine lv_aload_n hx hb dL_launchDay_41 rfl (lv_at hl 2 rfl) ?_
            refine lv_iconst (v := 0) hx hb dL_launchDay_42 (by decide) ?_
            refine lL_g hC hK hP (in_iff.mpr (by decide)) dL_launchDay_43 ?_
            refine lv_iload_n hx hb dL_launchDay_44 rfl (lv_at hl 0 rfl) ?_
            refine lv_iadd hx hb dL_launchDay_45 ?_
            refine lv_aload_n hx hb dL_launchDay_46 rfl (lv_at hl 2 rfl) ?_
            refine callSd hC (k_L_tide l g ad σ (((L_g σ) (0 : Int32).toNatClampNeg) + u3)) ci_L_tide lk_L_23 ⟨Nat.le_of_ble_eq_true rfl, Nat.le_of_ble_eq_true rfl⟩ hP hK hE rfl hl.1 rfl (Nat.le_of_ble_eq_true rfl) dL_launchDay_47 ⟨Nat.zero_le _, Nat.zero_le _⟩ ?_
            refine lv_aload_n hx hb dL_launchDay_50 rfl (lv_at hl 3 rfl) ?_
            refine lv_iload_n hx hb dL_launchDay_51 rfl (lv_at hl 1 rfl) ?_
            refine lv_iconst (v := 2) hx hb dL_launchDay_52 (by decide) ?_
            refine callSd hC (k_L_of l g ad σ x1 2 h_1 (in_iff.mpr (by decide))) ci_L_of lk_L_9 ⟨Nat.le_of_ble_eq_true rfl, Nat.le_of_ble_eq_true rfl⟩ hP hK hE rfl hl.1 rfl (Nat.le_of_ble_eq_true rfl) dL_launchDay_53 ⟨Nat.zero_le _, Nat.zero_le _⟩ ?_
            refine lv_icmp_lt (tgt := 76) hx hb dL_launchDay_56 (by decide) (fun c_5 => ?_) (fun c_5 => ?_)
            · refine lv_iinc (v := (u3 + 1)) (lv' := [(3, .int (u3 + 1)), (0, .int x1), (1, .ref ad.1), (2, .ref ad.2.1)]) hx hb dL_launchDay_76 hl (k := 0) rfl rfl (by decide) rfl (fun ls hl => ?_)
              refine lv_goto (tgt := 2) hx hb dL_launchDay_79 (by decide) ?_
              have e8 := nlt_ti (k := 200) rfl c_1
              have e9 := up_add (d := 1) (k := 1) (M := 200) rfl hi0 e8 (by decide) (by decide)
              exact ih (u3 + 1) (by rw [e9]; omega) (by rw [e9]; omega) (by rw [hR, mL_launchDay_L2, if_neg c_1, if_neg c_2, if_neg c_3, if_neg c_4, if_pos c_5]) _ (lv_sub hl [0, 1, 2, 3] rfl)
            · refine lv_iload_n hx hb dL_launchDay_59 rfl (lv_at hl 0 rfl) ?_
              refine lv_if_gt (tgt := 70) hx hb dL_launchDay_60 (by decide) (fun c_6 => ?_) (fun c_6 => ?_)
              · refine lv_aload_n hx hb dL_launchDay_70 rfl (lv_at hl 2 rfl) ?_
                refine lv_iconst (v := 0) hx hb dL_launchDay_71 (by decide) ?_
                refine lL_g hC hK hP (in_iff.mpr (by decide)) dL_launchDay_72 ?_
                refine lv_iload_n hx hb dL_launchDay_73 rfl (lv_at hl 0 rfl) ?_
                refine lv_iadd hx hb dL_launchDay_74 ?_
                exact rd_ret hC dL_launchDay_75 (Eq.symm (by rw [hR, mL_launchDay_L2, if_neg c_1, if_neg c_2, if_neg c_3, if_neg c_4, if_neg c_5, if_pos c_6]))
              · refine lv_aload_n hx hb dL_launchDay_63 rfl (lv_at hl 2 rfl) ?_
                refine callSd hC (k_L_left l g ad σ) ci_L_left lk_L_34 ⟨Nat.le_of_ble_eq_true rfl, Nat.le_of_ble_eq_true rfl⟩ hP hK hE rfl hl.1 rfl (Nat.le_of_ble_eq_true rfl) dL_launchDay_64 ⟨Nat.zero_le _, Nat.zero_le _⟩ ?_
                refine lv_if_le (tgt := 76) hx hb dL_launchDay_67 (by decide) (fun c_7 => ?_) (fun c_7 => ?_)
                · refine lv_iinc (v := (u3 + 1)) (lv' := [(3, .int (u3 + 1)), (0, .int x1), (1, .ref ad.1), (2, .ref ad.2.1)]) hx hb dL_launchDay_76 hl (k := 0) rfl rfl (by decide) rfl (fun ls hl => ?_)
                  refine lv_goto (tgt := 2) hx hb dL_launchDay_79 (by decide) ?_
                  have e8 := nlt_ti (k := 200) rfl c_1
                  have e9 := up_add (d := 1) (k := 1) (M := 200) rfl hi0 e8 (by decide) (by decide)
                  exact ih (u3 + 1) (by rw [e9]; omega) (by rw [e9]; omega) (by rw [hR, mL_launchDay_L2, if_neg c_1, if_neg c_2, if_neg c_3, if_neg c_4, if_neg c_5, if_neg c_6, if_pos c_7]) _ (lv_sub hl [0, 1, 2, 3] rfl)
                · refine lv_aload_n hx hb dL_launchDay_70 rfl (lv_at hl 2 rfl) ?_
                  refine lv_iconst (v := 0) hx hb dL_launchDay_71 (by decide) ?_
                  refine lL_g hC hK hP (in_iff.mpr (by decide)) dL_launchDay_72 ?_
                  refine lv_iload_n hx hb dL_launchDay_73 rfl (lv_at hl 0 rfl) ?_
                  refine lv_iadd hx hb dL_launchDay_74 ?_
                  exact rd_ret hC dL_launchDay_75 (Eq.symm (by rw [hR, mL_launchDay_L2, if_neg c_1, if_neg c_2, if_neg c_3, if_neg c_4, if_neg c_5, if_neg c_6, if_neg c_7]))
def mL_launchDay (σ : LAS) (x1 : Int32) : Int32 := (mL_launchDay_L2 σ x1 202 0)
set_option maxHeartbeats 4000000 in
set_option maxRecDepth 100000 in
theorem k_L_launchDay (l : Launch) (g : WG) (ad : AL) (σ : LAS) (x1 : Int32) (h_1 : vp_in x1 6) : Rd l yL_launchDay cL_launchDay 4 (some .int) 1 (Wl g (cL g ad σ) (fun _ => False)) [.int x1, .ref ad.1, .ref ad.2.1] (mL_launchDay σ x1) := by
  refine rd_of (by decide) (Nat.le_of_ble_eq_true rfl) ?_
  intro p e s m args below meth c ls hC hW hl
  obtain ⟨hP, hK, hE⟩ := hW
  obtain ⟨hx, hb, hml, hr, hown, hts, hlk, hnm⟩ := id hC
  have hl : lv_has ls 4 [(0, .int x1), (1, .ref ad.1), (2, .ref ad.2.1)] := hl
  refine lv_iconst (v := 0) hx hb dL_launchDay_0 (by decide) ?_
  refine lv_istore_n (lv' := [(3, .int 0), (0, .int x1), (1, .ref ad.1), (2, .ref ad.2.1)]) hx hb dL_launchDay_1 rfl hl (by decide) rfl (fun ls hl => ?_)
  refine q_L_launchDay_2 l g ad σ x1 h_1 hC hP hK hE 202 0 (by decide) (by decide) ?_ _ (lv_sub hl [0, 1, 2, 3] rfl)
  exact by unfold mL_launchDay; rfl
