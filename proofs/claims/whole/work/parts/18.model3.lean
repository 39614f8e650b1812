theorem best_in {x : Int32} (h : x = -5 ∨ vp_in x 4) (c : ¬ x < 0) : vp_in x 4 := by
  rcases h with h | h
  · rw [h] at c; exact absurd (by decide) c
  · exact h
theorem best_in' {x : Int32} (h : x = -5 ∨ vp_in x 4) (c : 0 ≤ x) : vp_in x 4 := by
  rcases h with h | h
  · rw [h] at c; exact absurd c (by decide)
  · exact h
def mX4_bestRow_L15 (σ : MS) (x1 : Int32) : Nat → Int32 → Int32 → Int32
  | 0, _, _ => 0
  | n + 1, u3, u2 => (if 4 ≤ u3 then u2 else (if u3 = (mX4_of σ x1 5) then (mX4_bestRow_L15 σ x1 n (u3 + 1) u2) else (if (mX4_hasRoom σ x1 u3) = 0 then (mX4_bestRow_L15 σ x1 n (u3 + 1) u2) else (if u2 < 0 then (mX4_bestRow_L15 σ x1 n (u3 + 1) u3) else (if (mX4_metresLeft σ u2) ≤ (mX4_metresLeft σ u3) then (mX4_bestRow_L15 σ x1 n (u3 + 1) u2) else (mX4_bestRow_L15 σ x1 n (u3 + 1) u3))))))
set_option maxHeartbeats 4000000 in
set_option maxRecDepth 100000 in
theorem q_X4_bestRow_15 {p : Program} {e : Env} {s : State} {m : MethodId} {args : Array Value} {below : List Frame} {meth : Method} {c : Code} (l : Launch) (g : WG) (ad : AM) (σ : MS) (x1 : Int32) (h_b : vp_in x1 20) (hC : Cx p s m args meth c yX4_bestRow cX4_bestRow 5 (some .int)) (hP : va_P g.1 vwCl (cM g ad σ) s.heap) (hK : va_K g.1 vwCl (tysW g) s) (hE : Ex (fun _ => False) s s.heap) {r : Int32} : ∀ (n : Nat) (u3 : Int32) (u2 : Int32) (hi0 : 0 ≤ u3.toInt) (hi1 : u3.toInt ≤ 4) (hbst : u2 = -5 ∨ vp_in u2 4) (hm : ((5 : Int) - u3.toInt).toNat < n) (hR : r = mX4_bestRow_L15 σ x1 n u3 u2) (ls : Array Slot) (hl : lv_has ls 5 [(3, .int u3), (2, .int u2), (0, .ref ad.1), (1, .int x1)]), W p l e (rk 5) s m args below meth c s.heap [] 0 0 (MQ below (vp_Si (fun x => x = r)) args s 0 0 (fun _ => False)) (F0 m 15 ls []) := by
  obtain ⟨hx, hb, hml, hr, hown, hts, hlk, hnm⟩ := id hC
  intro n
  induction n with
  | zero => intro u3 u2 hi0 hi1 hbst hm hR ls hl; exact absurd hm (Nat.not_lt_zero _)
  | succ n ih =>
    intro u3 u2 hi0 hi1 hbst hm hR ls hl
    refine lv_iload_n hx hb dX4_bestRow_15 rfl (lv_at hl 0 rfl) ?_
    refine lv_iconst (v := 4) hx hb dX4_bestRow_16 (by decide) ?_
    refine lv_icmp_ge (tgt := 80) hx hb dX4_bestRow_17 (by decide) (fun c_2 => ?_) (fun c_2 => ?_)
    · refine lv_iload_n hx hb dX4_bestRow_80 rfl (lv_at hl 1 rfl) ?_
      exact rd_ret hC dX4_bestRow_81 (Eq.symm (by rw [hR, mX4_bestRow_L15, if_pos c_2]))
    · refine lv_iload_n hx hb dX4_bestRow_20 rfl (lv_at hl 0 rfl) ?_
      refine lv_aload_n hx hb dX4_bestRow_21 rfl (lv_at hl 2 rfl) ?_
      refine lv_iload_n hx hb dX4_bestRow_22 rfl (lv_at hl 3 rfl) ?_
      refine lv_iconst (v := 5) hx hb dX4_bestRow_23 (by decide) ?_
      refine callRd hC (k_X4_of l g ad σ x1 5 h_b (in_iff.mpr (by decide))) ci_X4_of lk_X4_36 ⟨Nat.le_of_ble_eq_true rfl, Nat.le_of_ble_eq_true rfl⟩ hP hK hE (q0 := 0) rfl rfl rfl rfl hl.1 rfl (Nat.le_of_ble_eq_true rfl) dX4_bestRow_24 ⟨Nat.zero_le _, Nat.zero_le _⟩ ?_
      refine lv_icmp_eq (tgt := 43) hx hb dX4_bestRow_27 (by decide) (fun c_3 => ?_) (fun c_3 => ?_)
      · refine lv_iconst (v := 0) hx hb dX4_bestRow_43 (by decide) ?_
        refine lv_istore (lv' := [(4, .int 0), (3, .int u3), (2, .int u2), (0, .ref ad.1), (1, .int x1)]) hx hb dX4_bestRow_44 hl (by decide) rfl (fun ls hl => ?_)
        refine lv_iload hx hb dX4_bestRow_46 (lv_at hl 0 rfl) ?_
        refine lv_if_eq (tgt := 72) hx hb dX4_bestRow_48 (by decide) (fun c_4 => ?_) (fun c_4 => absurd c_4 (by decide))
        refine lv_iload_n hx hb dX4_bestRow_72 rfl (lv_at hl 2 rfl) ?_
        refine lv_istore_n (lv' := [(2, .int u2), (4, .int 0), (3, .int u3), (0, .ref ad.1), (1, .int x1)]) hx hb dX4_bestRow_73 rfl hl (by decide) rfl (fun ls hl => ?_)
        refine lv_iinc (v := (u3 + 1)) (lv' := [(3, .int (u3 + 1)), (2, .int u2), (4, .int 0), (0, .ref ad.1), (1, .int x1)]) hx hb dX4_bestRow_74 hl (k := 2) rfl rfl (by decide) rfl (fun ls hl => ?_)
        refine lv_goto (tgt := 15) hx hb dX4_bestRow_77 (by decide) ?_
        have e9 := up_add (d := 1) (k := 1) (M := 4) rfl hi0 hi1 (by decide) (by decide)
        have e8 := nle_ti (k := 4) rfl c_2
        exact ih (u3 + 1) u2 (by rw [e9]; omega) (by rw [e9]; omega) hbst (by rw [e9]; omega) (by rw [hR, mX4_bestRow_L15, if_neg c_2, if_pos c_3]) _ (lv_sub hl [0, 1, 3, 4] rfl)
      · refine lv_aload_n hx hb dX4_bestRow_30 rfl (lv_at hl 2 rfl) ?_
        refine lv_iload_n hx hb dX4_bestRow_31 rfl (lv_at hl 3 rfl) ?_
        refine lv_iload_n hx hb dX4_bestRow_32 rfl (lv_at hl 0 rfl) ?_
        refine callRd hC (k_X4_hasRoom l g ad σ x1 u3 h_b (in_up (n := 4) rfl hi0 c_2)) ci_X4_hasRoom lk_X4_107 ⟨Nat.le_of_ble_eq_true rfl, Nat.le_of_ble_eq_true rfl⟩ hP hK hE (q0 := 0) rfl rfl rfl rfl hl.1 rfl (Nat.le_of_ble_eq_true rfl) dX4_bestRow_33 ⟨Nat.zero_le _, Nat.zero_le _⟩ ?_
        refine lv_if_eq (tgt := 43) hx hb dX4_bestRow_36 (by decide) (fun c_5 => ?_) (fun c_5 => ?_)
        · refine lv_iconst (v := 0) hx hb dX4_bestRow_43 (by decide) ?_
          refine lv_istore (lv' := [(4, .int 0), (3, .int u3), (2, .int u2), (0, .ref ad.1), (1, .int x1)]) hx hb dX4_bestRow_44 hl (by decide) rfl (fun ls hl => ?_)
          refine lv_iload hx hb dX4_bestRow_46 (lv_at hl 0 rfl) ?_
          refine lv_if_eq (tgt := 72) hx hb dX4_bestRow_48 (by decide) (fun c_6 => ?_) (fun c_6 => absurd c_6 (by decide))
          refine lv_iload_n hx hb dX4_bestRow_72 rfl (lv_at hl 2 rfl) ?_
          refine lv_istore_n (lv' := [(2, .int u2), (4, .int 0), (3, .int u3), (0, .ref ad.1), (1, .int x1)]) hx hb dX4_bestRow_73 rfl hl (by decide) rfl (fun ls hl => ?_)
          refine lv_iinc (v := (u3 + 1)) (lv' := [(3, .int (u3 + 1)), (2, .int u2), (4, .int 0), (0, .ref ad.1), (1, .int x1)]) hx hb dX4_bestRow_74 hl (k := 2) rfl rfl (by decide) rfl (fun ls hl => ?_)
          refine lv_goto (tgt := 15) hx hb dX4_bestRow_77 (by decide) ?_
          have e9 := up_add (d := 1) (k := 1) (M := 4) rfl hi0 hi1 (by decide) (by decide)
          have e8 := nle_ti (k := 4) rfl c_2
          exact ih (u3 + 1) u2 (by rw [e9]; omega) (by rw [e9]; omega) hbst (by rw [e9]; omega) (by rw [hR, mX4_bestRow_L15, if_neg c_2, if_neg c_3, if_pos c_5]) _ (lv_sub hl [0, 1, 3, 4] rfl)
        · refine lv_iconst (v := 1) hx hb dX4_bestRow_39 (by decide) ?_
          refine lv_goto (tgt := 44) hx hb dX4_bestRow_40 (by decide) ?_
          refine lv_istore (lv' := [(4, .int 1), (3, .int u3), (2, .int u2), (0, .ref ad.1), (1, .int x1)]) hx hb dX4_bestRow_44 hl (by decide) rfl (fun ls hl => ?_)
          refine lv_iload hx hb dX4_bestRow_46 (lv_at hl 0 rfl) ?_
          refine lv_if_eq (tgt := 72) hx hb dX4_bestRow_48 (by decide) (fun c_7 => absurd c_7 (by decide)) (fun c_7 => ?_)
          refine lv_iload_n hx hb dX4_bestRow_51 rfl (lv_at hl 2 rfl) ?_
          refine lv_if_lt (tgt := 68) hx hb dX4_bestRow_52 (by decide) (fun c_8 => ?_) (fun c_8 => ?_)
          · refine lv_iload_n hx hb dX4_bestRow_68 rfl (lv_at hl 1 rfl) ?_
            refine lv_goto (tgt := 73) hx hb dX4_bestRow_69 (by decide) ?_
            refine lv_istore_n (lv' := [(2, .int u3), (4, .int 1), (3, .int u3), (0, .ref ad.1), (1, .int x1)]) hx hb dX4_bestRow_73 rfl hl (by decide) rfl (fun ls hl => ?_)
            refine lv_iinc (v := (u3 + 1)) (lv' := [(3, .int (u3 + 1)), (2, .int u3), (4, .int 1), (0, .ref ad.1), (1, .int x1)]) hx hb dX4_bestRow_74 hl (k := 2) rfl rfl (by decide) rfl (fun ls hl => ?_)
            refine lv_goto (tgt := 15) hx hb dX4_bestRow_77 (by decide) ?_
            have e9 := up_add (d := 1) (k := 1) (M := 4) rfl hi0 hi1 (by decide) (by decide)
            have e8 := nle_ti (k := 4) rfl c_2
            exact ih (u3 + 1) u3 (by rw [e9]; omega) (by rw [e9]; omega) (Or.inr (in_up (n := 4) rfl hi0 c_2)) (by rw [e9]; omega) (by rw [hR, mX4_bestRow_L15, if_neg c_2, if_neg c_3, if_neg c_5, if_pos c_8]) _ (lv_sub hl [0, 1, 3, 4] rfl)
          · refine lv_aload_n hx hb dX4_bestRow_55 rfl (lv_at hl 3 rfl) ?_
            refine lv_iload_n hx hb dX4_bestRow_56 rfl (lv_at hl 1 rfl) ?_
            refine callRd hC (k_X4_metresLeft l g ad σ u3 (in_up (n := 4) rfl hi0 c_2)) ci_X4_metresLeft lk_X4_61 ⟨Nat.le_of_ble_eq_true rfl, Nat.le_of_ble_eq_true rfl⟩ hP hK hE (q0 := 0) rfl rfl rfl rfl hl.1 rfl (Nat.le_of_ble_eq_true rfl) dX4_bestRow_57 ⟨Nat.zero_le _, Nat.zero_le _⟩ ?_
            refine lv_aload_n hx hb dX4_bestRow_60 rfl (lv_at hl 3 rfl) ?_
            refine lv_iload_n hx hb dX4_bestRow_61 rfl (lv_at hl 2 rfl) ?_
            refine callRd hC (k_X4_metresLeft l g ad σ u2 (best_in hbst c_8)) ci_X4_metresLeft lk_X4_61 ⟨Nat.le_of_ble_eq_true rfl, Nat.le_of_ble_eq_true rfl⟩ hP hK hE (q0 := 0) rfl rfl rfl rfl hl.1 rfl (Nat.le_of_ble_eq_true rfl) dX4_bestRow_62 ⟨Nat.zero_le _, Nat.zero_le _⟩ ?_
            refine lv_icmp_ge (tgt := 72) hx hb dX4_bestRow_65 (by decide) (fun c_9 => ?_) (fun c_9 => ?_)
            · refine lv_iload_n hx hb dX4_bestRow_72 rfl (lv_at hl 2 rfl) ?_
              refine lv_istore_n (lv' := [(2, .int u2), (4, .int 1), (3, .int u3), (0, .ref ad.1), (1, .int x1)]) hx hb dX4_bestRow_73 rfl hl (by decide) rfl (fun ls hl => ?_)
              refine lv_iinc (v := (u3 + 1)) (lv' := [(3, .int (u3 + 1)), (2, .int u2), (4, .int 1), (0, .ref ad.1), (1, .int x1)]) hx hb dX4_bestRow_74 hl (k := 2) rfl rfl (by decide) rfl (fun ls hl => ?_)
              refine lv_goto (tgt := 15) hx hb dX4_bestRow_77 (by decide) ?_
              have e9 := up_add (d := 1) (k := 1) (M := 4) rfl hi0 hi1 (by decide) (by decide)
              have e8 := nle_ti (k := 4) rfl c_2
              exact ih (u3 + 1) u2 (by rw [e9]; omega) (by rw [e9]; omega) hbst (by rw [e9]; omega) (by rw [hR, mX4_bestRow_L15, if_neg c_2, if_neg c_3, if_neg c_5, if_neg c_8, if_pos c_9]) _ (lv_sub hl [0, 1, 3, 4] rfl)
            · refine lv_iload_n hx hb dX4_bestRow_68 rfl (lv_at hl 1 rfl) ?_
              refine lv_goto (tgt := 73) hx hb dX4_bestRow_69 (by decide) ?_
              refine lv_istore_n (lv' := [(2, .int u3), (4, .int 1), (3, .int u3), (0, .ref ad.1), (1, .int x1)]) hx hb dX4_bestRow_73 rfl hl (by decide) rfl (fun ls hl => ?_)
              refine lv_iinc (v := (u3 + 1)) (lv' := [(3, .int (u3 + 1)), (2, .int u3), (4, .int 1), (0, .ref ad.1), (1, .int x1)]) hx hb dX4_bestRow_74 hl (k := 2) rfl rfl (by decide) rfl (fun ls hl => ?_)
              refine lv_goto (tgt := 15) hx hb dX4_bestRow_77 (by decide) ?_
              have e9 := up_add (d := 1) (k := 1) (M := 4) rfl hi0 hi1 (by decide) (by decide)
              have e8 := nle_ti (k := 4) rfl c_2
              exact ih (u3 + 1) u3 (by rw [e9]; omega) (by rw [e9]; omega) (Or.inr (in_up (n := 4) rfl hi0 c_2)) (by rw [e9]; omega) (by rw [hR, mX4_bestRow_L15, if_neg c_2, if_neg c_3, if_neg c_5, if_neg c_8, if_neg c_9]) _ (lv_sub hl [0, 1, 3, 4] rfl)
def mX4_bestRow (σ : MS) (x1 : Int32) : Int32 := (if (mX4_isBoat σ x1) = 0 then (-1) else (mX4_bestRow_L15 σ x1 6 0 (-5)))
set_option maxHeartbeats 4000000 in
set_option maxRecDepth 100000 in
theorem k_X4_bestRow (l : Launch) (g : WG) (ad : AM) (σ : MS) (x1 : Int32) : Rd l yX4_bestRow cX4_bestRow 5 (some .int) 5 (Wl g (cM g ad σ) (fun _ => False)) [.ref ad.1, .int x1] (mX4_bestRow σ x1) := by
  refine rd_of (by decide) (Nat.le_of_ble_eq_true rfl) ?_
  intro p e s m args below meth c ls hC hW hl
  obtain ⟨hP, hK, hE⟩ := hW
  obtain ⟨hx, hb, hml, hr, hown, hts, hlk, hnm⟩ := id hC
  have hl : lv_has ls 5 [(0, .ref ad.1), (1, .int x1)] := hl
  refine lv_aload_n hx hb dX4_bestRow_0 rfl (lv_at hl 0 rfl) ?_
  refine lv_iload_n hx hb dX4_bestRow_1 rfl (lv_at hl 1 rfl) ?_
  refine callRd hC (k_X4_isBoat l g ad σ x1) ci_X4_isBoat lk_X4_92 ⟨Nat.le_of_ble_eq_true rfl, Nat.le_of_ble_eq_true rfl⟩ hP hK hE (q0 := 0) rfl rfl rfl rfl hl.1 rfl (Nat.le_of_ble_eq_true rfl) dX4_bestRow_2 ⟨Nat.zero_le _, Nat.zero_le _⟩ ?_
  refine lv_if_ne (tgt := 10) hx hb dX4_bestRow_5 (by decide) (fun c_1 => ?_) (fun c_1 => ?_)
  · refine lv_bipush (v := (-5)) hx hb dX4_bestRow_10 (by decide) ?_
    refine lv_istore_n (lv' := [(2, .int (-5)), (0, .ref ad.1), (1, .int x1)]) hx hb dX4_bestRow_12 rfl hl (by decide) rfl (fun ls hl => ?_)
    refine lv_iconst (v := 0) hx hb dX4_bestRow_13 (by decide) ?_
    refine lv_istore_n (lv' := [(3, .int 0), (2, .int (-5)), (0, .ref ad.1), (1, .int x1)]) hx hb dX4_bestRow_14 rfl hl (by decide) rfl (fun ls hl => ?_)
    refine q_X4_bestRow_15 l g ad σ x1 (in_X4_isBoat c_1) hC hP hK hE 6 0 (-5) (by decide) (by decide) (Or.inl rfl) (by decide) ?_ _ (lv_sub hl [0, 1, 2, 3] rfl)
    exact by unfold mX4_bestRow; rw [if_neg c_1]
  · refine lv_iconst (v := (-1)) hx hb dX4_bestRow_8 (by decide) ?_
    exact rd_ret hC dX4_bestRow_9 (Eq.symm (by unfold mX4_bestRow; rw [if_pos c_1]))
def mX4_count_L7 (σ : MS) (x1 : Int32) : Nat → Int32 → Int32 → Int32 → Int32
  | 0, _, _, _ => 0
  | n + 1, u4, u3, u2 => (if 20 ≤ u4 then (if x1 = 0 then ((M_z σ) (0 : Int32).toNatClampNeg) else (if x1 = 1 then (mX4_tideAt σ ((M_z σ) (0 : Int32).toNatClampNeg)) else (if x1 = 2 then (mX4_liftsLeft σ) else (if x1 = 3 then (mX4_boats σ) else (if x1 = 4 then u2 else (if x1 = 5 then u3 else (if x1 = 6 then ((M_z σ) (5 : Int32).toNatClampNeg) else (if x1 = 7 then ((M_z σ) (6 : Int32).toNatClampNeg) else (if x1 = 8 then (mX4_mastsIn σ (x1 - 8)) else (if x1 = 9 then (mX4_mastsIn σ (x1 - 8)) else (if x1 = 10 then ((M_z σ) ((2 + x1) - 10).toNatClampNeg) else (if x1 = 11 then ((M_z σ) ((2 + x1) - 10).toNatClampNeg) else (if x1 = 12 then ((M_z σ) ((2 + x1) - 10).toNatClampNeg) else (if x1 = 13 then (M_states σ) else (if x1 = 14 then (M_length σ) else (-2)))))))))))))))) else (if (mX4_of σ u4 0) = 1 then (if (mX4_isAshore σ u4) = 0 then (if (mX4_of σ u4 0) = 1 then (if (mX4_of σ u4 8) ≤ 0 then (mX4_count_L7 σ x1 n (u4 + 1) (u3 + 0) (u2 + 0)) else (mX4_count_L7 σ x1 n (u4 + 1) (u3 + 1) (u2 + 0))) else (mX4_count_L7 σ x1 n (u4 + 1) (u3 + 0) (u2 + 0))) else (if (mX4_of σ u4 0) = 1 then (if (mX4_of σ u4 8) ≤ 0 then (mX4_count_L7 σ x1 n (u4 + 1) (u3 + 0) (u2 + 1)) else (mX4_count_L7 σ x1 n (u4 + 1) (u3 + 1) (u2 + 1))) else (mX4_count_L7 σ x1 n (u4 + 1) (u3 + 0) (u2 + 1)))) else (if (mX4_of σ u4 0) = 1 then (if (mX4_of σ u4 8) ≤ 0 then (mX4_count_L7 σ x1 n (u4 + 1) (u3 + 0) (u2 + 0)) else (mX4_count_L7 σ x1 n (u4 + 1) (u3 + 1) (u2 + 0))) else (mX4_count_L7 σ x1 n (u4 + 1) (u3 + 0) (u2 + 0)))))
set_option maxHeartbeats 4000000 in
set_option maxRecDepth 100000 in
theorem q_X4_count_7 {p : Program} {e : Env} {s : State} {m : MethodId} {args : Array Value} {below : List Frame} {meth : Method} {c : Code} (l : Launch) (g : WG) (ad : AM) (σ : MS) (x1 : Int32) (hC : Cx p s m args meth c yX4_count cX4_count 5 (some .int)) (hP : va_P g.1 vwCl (cM g ad σ) s.heap) (hK : va_K g.1 vwCl (tysW g) s) (hE : Ex (fun _ => False) s s.heap) {r : Int32} : ∀ (n : Nat) (u4 : Int32) (u3 : Int32) (u2 : Int32) (hi0 : 0 ≤ u4.toInt) (hi1 : u4.toInt ≤ 20) (hm : ((21 : Int) - u4.toInt).toNat < n) (hR : r = mX4_count_L7 σ x1 n u4 u3 u2) (ls : Array Slot) (hl : lv_has ls 5 [(4, .int u4), (3, .int u3), (2, .int u2), (0, .ref ad.1), (1, .int x1)]), W p l e (rk 2) s m args below meth c s.heap [] 0 0 (MQ below (vp_Si (fun x => x = r)) args s 0 0 (fun _ => False)) (F0 m 7 ls []) := by
  obtain ⟨hx, hb, hml, hr, hown, hts, hlk, hnm⟩ := id hC
  intro n
  induction n with
  | zero => intro u4 u3 u2 hi0 hi1 hm hR ls hl; exact absurd hm (Nat.not_lt_zero _)
  | succ n ih =>
    intro u4 u3 u2 hi0 hi1 hm hR ls hl
    refine lv_iload hx hb dX4_count_7 (lv_at hl 0 rfl) ?_
    refine lv_bipush (v := 20) hx hb dX4_count_9 (by decide) ?_
    refine lv_icmp_ge (tgt := 78) hx hb dX4_count_11 (by decide) (fun c_1 => ?_) (fun c_1 => ?_)
    · refine lv_iload_n hx hb dX4_count_78 rfl (lv_at hl 4 rfl) ?_
      by_cases c_2 : x1 = 0
      · refine lv_tableIn (tgt := 152) (off := 73) hx hb dX4_count_79 (by rw [c_2]; decide) (by rw [c_2]; decide) (by rw [c_2]; rfl) (by decide) ?_
        refine lv_aload_n hx hb dX4_count_152 rfl (lv_at hl 3 rfl) ?_
        refine gM_z hC rfl hK hP dX4_count_153 ?_
        refine lv_iconst (v := 0) hx hb dX4_count_156 (by decide) ?_
        refine lM_z hC hK hP (in_iff.mpr (by decide)) dX4_count_157 ?_
        exact rd_ret hC dX4_count_158 (Eq.symm (by rw [hR, mX4_count_L7, if_pos c_1, if_pos c_2]))
      · by_cases c_3 : x1 = 1
        · refine lv_tableIn (tgt := 159) (off := 80) hx hb dX4_count_79 (by rw [c_3]; decide) (by rw [c_3]; decide) (by rw [c_3]; rfl) (by decide) ?_
          refine lv_aload_n hx hb dX4_count_159 rfl (lv_at hl 3 rfl) ?_
          refine lv_aload_n hx hb dX4_count_160 rfl (lv_at hl 3 rfl) ?_
          refine gM_z hC rfl hK hP dX4_count_161 ?_
          refine lv_iconst (v := 0) hx hb dX4_count_164 (by decide) ?_
          refine lM_z hC hK hP (in_iff.mpr (by decide)) dX4_count_165 ?_
          refine callRd hC (k_X4_tideAt l g ad σ ((M_z σ) (0 : Int32).toNatClampNeg)) ci_X4_tideAt lk_X4_101 ⟨Nat.le_of_ble_eq_true rfl, Nat.le_of_ble_eq_true rfl⟩ hP hK hE (q0 := 0) rfl rfl rfl rfl hl.1 rfl (Nat.le_of_ble_eq_true rfl) dX4_count_166 ⟨Nat.zero_le _, Nat.zero_le _⟩ ?_
          exact rd_ret hC dX4_count_169 (Eq.symm (by rw [hR, mX4_count_L7, if_pos c_1, if_neg c_2, if_pos c_3]))
        · by_cases c_4 : x1 = 2
          · refine lv_tableIn (tgt := 170) (off := 91) hx hb dX4_count_79 (by rw [c_4]; decide) (by rw [c_4]; decide) (by rw [c_4]; rfl) (by decide) ?_
            refine lv_aload_n hx hb dX4_count_170 rfl (lv_at hl 3 rfl) ?_
            refine callRd hC (k_X4_liftsLeft l g ad σ) ci_X4_liftsLeft lk_X4_110 ⟨Nat.le_of_ble_eq_true rfl, Nat.le_of_ble_eq_true rfl⟩ hP hK hE (q0 := 0) rfl rfl rfl rfl hl.1 rfl (Nat.le_of_ble_eq_true rfl) dX4_count_171 ⟨Nat.zero_le _, Nat.zero_le _⟩ ?_
            exact rd_ret hC dX4_count_174 (Eq.symm (by rw [hR, mX4_count_L7, if_pos c_1, if_neg c_2, if_neg c_3, if_pos c_4]))
          · by_cases c_5 : x1 = 3
            · refine lv_tableIn (tgt := 175) (off := 96) hx hb dX4_count_79 (by rw [c_5]; decide) (by rw [c_5]; decide) (by rw [c_5]; rfl) (by decide) ?_
              refine lv_aload_n hx hb dX4_count_175 rfl (lv_at hl 3 rfl) ?_
              refine callRd hC (k_X4_boats l g ad σ) ci_X4_boats lk_X4_81 ⟨Nat.le_of_ble_eq_true rfl, Nat.le_of_ble_eq_true rfl⟩ hP hK hE (q0 := 0) rfl rfl rfl rfl hl.1 rfl (Nat.le_of_ble_eq_true rfl) dX4_count_176 ⟨Nat.zero_le _, Nat.zero_le _⟩ ?_
              exact rd_ret hC dX4_count_179 (Eq.symm (by rw [hR, mX4_count_L7, if_pos c_1, if_neg c_2, if_neg c_3, if_neg c_4, if_pos c_5]))
            · by_cases c_6 : x1 = 4
              · refine lv_tableIn (tgt := 180) (off := 101) hx hb dX4_count_79 (by rw [c_6]; decide) (by rw [c_6]; decide) (by rw [c_6]; rfl) (by decide) ?_
                refine lv_iload_n hx hb dX4_count_180 rfl (lv_at hl 2 rfl) ?_
                exact rd_ret hC dX4_count_181 (Eq.symm (by rw [hR, mX4_count_L7, if_pos c_1, if_neg c_2, if_neg c_3, if_neg c_4, if_neg c_5, if_pos c_6]))
              · by_cases c_7 : x1 = 5
                · refine lv_tableIn (tgt := 182) (off := 103) hx hb dX4_count_79 (by rw [c_7]; decide) (by rw [c_7]; decide) (by rw [c_7]; rfl) (by decide) ?_
                  refine lv_iload_n hx hb dX4_count_182 rfl (lv_at hl 1 rfl) ?_
                  exact rd_ret hC dX4_count_183 (Eq.symm (by rw [hR, mX4_count_L7, if_pos c_1, if_neg c_2, if_neg c_3, if_neg c_4, if_neg c_5, if_neg c_6, if_pos c_7]))
                · by_cases c_8 : x1 = 6
                  · refine lv_tableIn (tgt := 184) (off := 105) hx hb dX4_count_79 (by rw [c_8]; decide) (by rw [c_8]; decide) (by rw [c_8]; rfl) (by decide) ?_
                    refine lv_aload_n hx hb dX4_count_184 rfl (lv_at hl 3 rfl) ?_
                    refine gM_z hC rfl hK hP dX4_count_185 ?_
                    refine lv_iconst (v := 5) hx hb dX4_count_188 (by decide) ?_
                    refine lM_z hC hK hP (in_iff.mpr (by decide)) dX4_count_189 ?_
                    exact rd_ret hC dX4_count_190 (Eq.symm (by rw [hR, mX4_count_L7, if_pos c_1, if_neg c_2, if_neg c_3, if_neg c_4, if_neg c_5, if_neg c_6, if_neg c_7, if_pos c_8]))
                  · by_cases c_9 : x1 = 7
                    · refine lv_tableIn (tgt := 191) (off := 112) hx hb dX4_count_79 (by rw [c_9]; decide) (by rw [c_9]; decide) (by rw [c_9]; rfl) (by decide) ?_
                      refine lv_aload_n hx hb dX4_count_191 rfl (lv_at hl 3 rfl) ?_
                      refine gM_z hC rfl hK hP dX4_count_192 ?_
                      refine lv_bipush (v := 6) hx hb dX4_count_195 (by decide) ?_
                      refine lM_z hC hK hP (in_iff.mpr (by decide)) dX4_count_197 ?_
                      exact rd_ret hC dX4_count_198 (Eq.symm (by rw [hR, mX4_count_L7, if_pos c_1, if_neg c_2, if_neg c_3, if_neg c_4, if_neg c_5, if_neg c_6, if_neg c_7, if_neg c_8, if_pos c_9]))
                    · by_cases c_10 : x1 = 8
                      · refine lv_tableIn (tgt := 199) (off := 120) hx hb dX4_count_79 (by rw [c_10]; decide) (by rw [c_10]; decide) (by rw [c_10]; rfl) (by decide) ?_
                        refine lv_aload_n hx hb dX4_count_199 rfl (lv_at hl 3 rfl) ?_
                        refine lv_iload_n hx hb dX4_count_200 rfl (lv_at hl 4 rfl) ?_
                        refine lv_bipush (v := 8) hx hb dX4_count_201 (by decide) ?_
                        refine lv_isub hx hb dX4_count_203 ?_
                        refine callRd hC (k_X4_mastsIn l g ad σ (x1 - 8)) ci_X4_mastsIn lk_X4_147 ⟨Nat.le_of_ble_eq_true rfl, Nat.le_of_ble_eq_true rfl⟩ hP hK hE (q0 := 0) rfl rfl rfl rfl hl.1 rfl (Nat.le_of_ble_eq_true rfl) dX4_count_204 ⟨Nat.zero_le _, Nat.zero_le _⟩ ?_
                        exact rd_ret hC dX4_count_207 (Eq.symm (by rw [hR, mX4_count_L7, if_pos c_1, if_neg c_2, if_neg c_3, if_neg c_4, if_neg c_5, if_neg c_6, if_neg c_7, if_neg c_8, if_neg c_9, if_pos c_10]))
                      · by_cases c_11 : x1 = 9
                        · refine lv_tableIn (tgt := 199) (off := 120) hx hb dX4_count_79 (by rw [c_11]; decide) (by rw [c_11]; decide) (by rw [c_11]; rfl) (by decide) ?_
                          refine lv_aload_n hx hb dX4_count_199 rfl (lv_at hl 3 rfl) ?_
                          refine lv_iload_n hx hb dX4_count_200 rfl (lv_at hl 4 rfl) ?_
                          refine lv_bipush (v := 8) hx hb dX4_count_201 (by decide) ?_
                          refine lv_isub hx hb dX4_count_203 ?_
                          refine callRd hC (k_X4_mastsIn l g ad σ (x1 - 8)) ci_X4_mastsIn lk_X4_147 ⟨Nat.le_of_ble_eq_true rfl, Nat.le_of_ble_eq_true rfl⟩ hP hK hE (q0 := 0) rfl rfl rfl rfl hl.1 rfl (Nat.le_of_ble_eq_true rfl) dX4_count_204 ⟨Nat.zero_le _, Nat.zero_le _⟩ ?_
                          exact rd_ret hC dX4_count_207 (Eq.symm (by rw [hR, mX4_count_L7, if_pos c_1, if_neg c_2, if_neg c_3, if_neg c_4, if_neg c_5, if_neg c_6, if_neg c_7, if_neg c_8, if_neg c_9, if_neg c_10, if_pos c_11]))
                        · by_cases c_12 : x1 = 10
                          · refine lv_tableIn (tgt := 208) (off := 129) hx hb dX4_count_79 (by rw [c_12]; decide) (by rw [c_12]; decide) (by rw [c_12]; rfl) (by decide) ?_
                            refine lv_aload_n hx hb dX4_count_208 rfl (lv_at hl 3 rfl) ?_
                            refine gM_z hC rfl hK hP dX4_count_209 ?_
                            refine lv_iconst (v := 2) hx hb dX4_count_212 (by decide) ?_
                            refine lv_iload_n hx hb dX4_count_213 rfl (lv_at hl 4 rfl) ?_
                            refine lv_iadd hx hb dX4_count_214 ?_
                            refine lv_bipush (v := 10) hx hb dX4_count_215 (by decide) ?_
                            refine lv_isub hx hb dX4_count_217 ?_
                            refine lM_z hC hK hP (by rw [c_12]; exact in_iff.mpr (by decide)) dX4_count_218 ?_
                            exact rd_ret hC dX4_count_219 (Eq.symm (by rw [hR, mX4_count_L7, if_pos c_1, if_neg c_2, if_neg c_3, if_neg c_4, if_neg c_5, if_neg c_6, if_neg c_7, if_neg c_8, if_neg c_9, if_neg c_10, if_neg c_11, if_pos c_12]))
                          · by_cases c_13 : x1 = 11
                            · refine lv_tableIn (tgt := 208) (off := 129) hx hb dX4_count_79 (by rw [c_13]; decide) (by rw [c_13]; decide) (by rw [c_13]; rfl) (by decide) ?_
                              refine lv_aload_n hx hb dX4_count_208 rfl (lv_at hl 3 rfl) ?_
                              refine gM_z hC rfl hK hP dX4_count_209 ?_
                              refine lv_iconst (v := 2) hx hb dX4_count_212 (by decide) ?_
                              refine lv_iload_n hx hb dX4_count_213 rfl (lv_at hl 4 rfl) ?_
                              refine lv_iadd hx hb dX4_count_214 ?_
                              refine lv_bipush (v := 10) hx hb dX4_count_215 (by decide) ?_
                              refine lv_isub hx hb dX4_count_217 ?_
                              refine lM_z hC hK hP (by rw [c_13]; exact in_iff.mpr (by decide)) dX4_count_218 ?_
                              exact rd_ret hC dX4_count_219 (Eq.symm (by rw [hR, mX4_count_L7, if_pos c_1, if_neg c_2, if_neg c_3, if_neg c_4, if_neg c_5, if_neg c_6, if_neg c_7, if_neg c_8, if_neg c_9, if_neg c_10, if_neg c_11, if_neg c_12, if_pos c_13]))
                            · by_cases c_14 : x1 = 12
                              · refine lv_tableIn (tgt := 208) (off := 129) hx hb dX4_count_79 (by rw [c_14]; decide) (by rw [c_14]; decide) (by rw [c_14]; rfl) (by decide) ?_
                                refine lv_aload_n hx hb dX4_count_208 rfl (lv_at hl 3 rfl) ?_
                                refine gM_z hC rfl hK hP dX4_count_209 ?_
                                refine lv_iconst (v := 2) hx hb dX4_count_212 (by decide) ?_
                                refine lv_iload_n hx hb dX4_count_213 rfl (lv_at hl 4 rfl) ?_
                                refine lv_iadd hx hb dX4_count_214 ?_
                                refine lv_bipush (v := 10) hx hb dX4_count_215 (by decide) ?_
                                refine lv_isub hx hb dX4_count_217 ?_
                                refine lM_z hC hK hP (by rw [c_14]; exact in_iff.mpr (by decide)) dX4_count_218 ?_
                                exact rd_ret hC dX4_count_219 (Eq.symm (by rw [hR, mX4_count_L7, if_pos c_1, if_neg c_2, if_neg c_3, if_neg c_4, if_neg c_5, if_neg c_6, if_neg c_7, if_neg c_8, if_neg c_9, if_neg c_10, if_neg c_11, if_neg c_12, if_neg c_13, if_pos c_14]))
                              · by_cases c_15 : x1 = 13
                                · refine lv_tableIn (tgt := 220) (off := 141) hx hb dX4_count_79 (by rw [c_15]; decide) (by rw [c_15]; decide) (by rw [c_15]; rfl) (by decide) ?_
                                  refine lv_aload_n hx hb dX4_count_220 rfl (lv_at hl 3 rfl) ?_
                                  refine gM_states hC rfl hK hP dX4_count_221 ?_
                                  exact rd_ret hC dX4_count_224 (Eq.symm (by rw [hR, mX4_count_L7, if_pos c_1, if_neg c_2, if_neg c_3, if_neg c_4, if_neg c_5, if_neg c_6, if_neg c_7, if_neg c_8, if_neg c_9, if_neg c_10, if_neg c_11, if_neg c_12, if_neg c_13, if_neg c_14, if_pos c_15]))
                                · by_cases c_16 : x1 = 14
                                  · refine lv_tableIn (tgt := 225) (off := 146) hx hb dX4_count_79 (by rw [c_16]; decide) (by rw [c_16]; decide) (by rw [c_16]; rfl) (by decide) ?_
                                    refine lv_aload_n hx hb dX4_count_225 rfl (lv_at hl 3 rfl) ?_
                                    refine gM_length hC rfl hK hP dX4_count_226 ?_
                                    exact rd_ret hC dX4_count_229 (Eq.symm (by rw [hR, mX4_count_L7, if_pos c_1, if_neg c_2, if_neg c_3, if_neg c_4, if_neg c_5, if_neg c_6, if_neg c_7, if_neg c_8, if_neg c_9, if_neg c_10, if_neg c_11, if_neg c_12, if_neg c_13, if_neg c_14, if_neg c_15, if_pos c_16]))
                                  · refine lv_tableOut (tgt := 230) hx hb dX4_count_79 (by have zc_2 := lv_neT c_2 (a := 0) rfl; have zc_3 := lv_neT c_3 (a := 1) rfl; have zc_4 := lv_neT c_4 (a := 2) rfl; have zc_5 := lv_neT c_5 (a := 3) rfl; have zc_6 := lv_neT c_6 (a := 4) rfl; have zc_7 := lv_neT c_7 (a := 5) rfl; have zc_8 := lv_neT c_8 (a := 6) rfl; have zc_9 := lv_neT c_9 (a := 7) rfl; have zc_10 := lv_neT c_10 (a := 8) rfl; have zc_11 := lv_neT c_11 (a := 9) rfl; have zc_12 := lv_neT c_12 (a := 10) rfl; have zc_13 := lv_neT c_13 (a := 11) rfl; have zc_14 := lv_neT c_14 (a := 12) rfl; have zc_15 := lv_neT c_15 (a := 13) rfl; have zc_16 := lv_neT c_16 (a := 14) rfl; omega) (by decide) ?_
                                    refine lv_bipush (v := (-2)) hx hb dX4_count_230 (by decide) ?_
                                    exact rd_ret hC dX4_count_232 (Eq.symm (by rw [hR, mX4_count_L7, if_pos c_1, if_neg c_2, if_neg c_3, if_neg c_4, if_neg c_5, if_neg c_6, if_neg c_7, if_neg c_8, if_neg c_9, if_neg c_10, if_neg c_11, if_neg c_12, if_neg c_13, if_neg c_14, if_neg c_15, if_neg c_16]))
    · refine lv_iload_n hx hb dX4_count_14 rfl (lv_at hl 2 rfl) ?_
      refine lv_aload_n hx hb dX4_count_15 rfl (lv_at hl 3 rfl) ?_
      refine lv_iload hx hb dX4_count_16 (lv_at hl 0 rfl) ?_
      refine lv_iconst (v := 0) hx hb dX4_count_18 (by decide) ?_
      refine callRd hC (k_X4_of l g ad σ u4 0 (in_up (n := 20) rfl hi0 c_1) (in_iff.mpr (by decide))) ci_X4_of lk_X4_36 ⟨Nat.le_of_ble_eq_true rfl, Nat.le_of_ble_eq_true rfl⟩ hP hK hE (q0 := 0) rfl rfl rfl rfl hl.1 rfl (Nat.le_of_ble_eq_true rfl) dX4_count_19 ⟨Nat.zero_le _, Nat.zero_le _⟩ ?_
      refine lv_iconst (v := 1) hx hb dX4_count_22 (by decide) ?_
      refine lv_icmp_ne (tgt := 39) hx hb dX4_count_23 (by decide) (fun c_17 => ?_) (fun c_17 => ?_)
      · refine lv_iconst (v := 0) hx hb dX4_count_39 (by decide) ?_
        refine lv_iadd hx hb dX4_count_40 ?_
        refine lv_istore_n (lv' := [(2, .int (u2 + 0)), (4, .int u4), (3, .int u3), (0, .ref ad.1), (1, .int x1)]) hx hb dX4_count_41 rfl hl (by decide) rfl (fun ls hl => ?_)
        refine lv_iload_n hx hb dX4_count_42 rfl (lv_at hl 2 rfl) ?_
        refine lv_aload_n hx hb dX4_count_43 rfl (lv_at hl 3 rfl) ?_
        refine lv_iload hx hb dX4_count_44 (lv_at hl 1 rfl) ?_
        refine lv_iconst (v := 0) hx hb dX4_count_46 (by decide) ?_
        refine callRd hC (k_X4_of l g ad σ u4 0 (in_up (n := 20) rfl hi0 c_1) (in_iff.mpr (by decide))) ci_X4_of lk_X4_36 ⟨Nat.le_of_ble_eq_true rfl, Nat.le_of_ble_eq_true rfl⟩ hP hK hE (q0 := 0) rfl rfl rfl rfl hl.1 rfl (Nat.le_of_ble_eq_true rfl) dX4_count_47 ⟨Nat.zero_le _, Nat.zero_le _⟩ ?_
        refine lv_iconst (v := 1) hx hb dX4_count_50 (by decide) ?_
        refine lv_icmp_ne (tgt := 69) hx hb dX4_count_51 (by decide) (fun c_18 => ?_) (fun c_18 => ?_)
        · refine lv_iconst (v := 0) hx hb dX4_count_69 (by decide) ?_
          refine lv_iadd hx hb dX4_count_70 ?_
          refine lv_istore_n (lv' := [(3, .int (u3 + 0)), (2, .int (u2 + 0)), (4, .int u4), (0, .ref ad.1), (1, .int x1)]) hx hb dX4_count_71 rfl hl (by decide) rfl (fun ls hl => ?_)
          refine lv_iinc (v := (u4 + 1)) (lv' := [(4, .int (u4 + 1)), (3, .int (u3 + 0)), (2, .int (u2 + 0)), (0, .ref ad.1), (1, .int x1)]) hx hb dX4_count_72 hl (k := 2) rfl rfl (by decide) rfl (fun ls hl => ?_)
          refine lv_goto (tgt := 7) hx hb dX4_count_75 (by decide) ?_
          have e9 := up_add (d := 1) (k := 1) (M := 20) rfl hi0 hi1 (by decide) (by decide)
          have e8 := nle_ti (k := 20) rfl c_1
          exact ih (u4 + 1) (u3 + 0) (u2 + 0) (by rw [e9]; omega) (by rw [e9]; omega) (by rw [e9]; omega) (by rw [hR, mX4_count_L7, if_neg c_1, if_neg c_17, if_neg c_18]) _ (lv_sub hl [0, 1, 2, 3, 4] rfl)
        · refine lv_aload_n hx hb dX4_count_54 rfl (lv_at hl 3 rfl) ?_
          refine lv_iload hx hb dX4_count_55 (lv_at hl 1 rfl) ?_
          refine lv_bipush (v := 8) hx hb dX4_count_57 (by decide) ?_
          refine callRd hC (k_X4_of l g ad σ u4 8 (in_up (n := 20) rfl hi0 c_1) (in_iff.mpr (by decide))) ci_X4_of lk_X4_36 ⟨Nat.le_of_ble_eq_true rfl, Nat.le_of_ble_eq_true rfl⟩ hP hK hE (q0 := 0) rfl rfl rfl rfl hl.1 rfl (Nat.le_of_ble_eq_true rfl) dX4_count_59 ⟨Nat.zero_le _, Nat.zero_le _⟩ ?_
          refine lv_if_le (tgt := 69) hx hb dX4_count_62 (by decide) (fun c_19 => ?_) (fun c_19 => ?_)
          · refine lv_iconst (v := 0) hx hb dX4_count_69 (by decide) ?_
            refine lv_iadd hx hb dX4_count_70 ?_
            refine lv_istore_n (lv' := [(3, .int (u3 + 0)), (2, .int (u2 + 0)), (4, .int u4), (0, .ref ad.1), (1, .int x1)]) hx hb dX4_count_71 rfl hl (by decide) rfl (fun ls hl => ?_)
            refine lv_iinc (v := (u4 + 1)) (lv' := [(4, .int (u4 + 1)), (3, .int (u3 + 0)), (2, .int (u2 + 0)), (0, .ref ad.1), (1, .int x1)]) hx hb dX4_count_72 hl (k := 2) rfl rfl (by decide) rfl (fun ls hl => ?_)
            refine lv_goto (tgt := 7) hx hb dX4_count_75 (by decide) ?_
            have e9 := up_add (d := 1) (k := 1) (M := 20) rfl hi0 hi1 (by decide) (by decide)
            have e8 := nle_ti (k := 20) rfl c_1
            exact ih (u4 + 1) (u3 + 0) (u2 + 0) (by rw [e9]; omega) (by rw [e9]; omega) (by rw [e9]; omega) (by rw [hR, mX4_count_L7, if_neg c_1, if_neg c_17, if_pos c_18, if_pos c_19]) _ (lv_sub hl [0, 1, 2, 3, 4] rfl)
          · refine lv_iconst (v := 1) hx hb dX4_count_65 (by decide) ?_
            refine lv_goto (tgt := 70) hx hb dX4_count_66 (by decide) ?_
            refine lv_iadd hx hb dX4_count_70 ?_
            refine lv_istore_n (lv' := [(3, .int (u3 + 1)), (2, .int (u2 + 0)), (4, .int u4), (0, .ref ad.1), (1, .int x1)]) hx hb dX4_count_71 rfl hl (by decide) rfl (fun ls hl => ?_)
            refine lv_iinc (v := (u4 + 1)) (lv' := [(4, .int (u4 + 1)), (3, .int (u3 + 1)), (2, .int (u2 + 0)), (0, .ref ad.1), (1, .int x1)]) hx hb dX4_count_72 hl (k := 2) rfl rfl (by decide) rfl (fun ls hl => ?_)
            refine lv_goto (tgt := 7) hx hb dX4_count_75 (by decide) ?_
            have e9 := up_add (d := 1) (k := 1) (M := 20) rfl hi0 hi1 (by decide) (by decide)
            have e8 := nle_ti (k := 20) rfl c_1
            exact ih (u4 + 1) (u3 + 1) (u2 + 0) (by rw [e9]; omega) (by rw [e9]; omega) (by rw [e9]; omega) (by rw [hR, mX4_count_L7, if_neg c_1, if_neg c_17, if_pos c_18, if_neg c_19]) _ (lv_sub hl [0, 1, 2, 3, 4] rfl)
      · refine lv_aload_n hx hb dX4_count_26 rfl (lv_at hl 3 rfl) ?_
        refine lv_iload hx hb dX4_count_27 (lv_at hl 0 rfl) ?_
        refine callRd hC (k_X4_isAshore l g ad σ u4 (in_up (n := 20) rfl hi0 c_1)) ci_X4_isAshore lk_X4_40 ⟨Nat.le_of_ble_eq_true rfl, Nat.le_of_ble_eq_true rfl⟩ hP hK hE (q0 := 0) rfl rfl rfl rfl hl.1 rfl (Nat.le_of_ble_eq_true rfl) dX4_count_29 ⟨Nat.zero_le _, Nat.zero_le _⟩ ?_
        refine lv_if_eq (tgt := 39) hx hb dX4_count_32 (by decide) (fun c_20 => ?_) (fun c_20 => ?_)
        · refine lv_iconst (v := 0) hx hb dX4_count_39 (by decide) ?_
          refine lv_iadd hx hb dX4_count_40 ?_
          refine lv_istore_n (lv' := [(2, .int (u2 + 0)), (4, .int u4), (3, .int u3), (0, .ref ad.1), (1, .int x1)]) hx hb dX4_count_41 rfl hl (by decide) rfl (fun ls hl => ?_)
          refine lv_iload_n hx hb dX4_count_42 rfl (lv_at hl 2 rfl) ?_
          refine lv_aload_n hx hb dX4_count_43 rfl (lv_at hl 3 rfl) ?_
          refine lv_iload hx hb dX4_count_44 (lv_at hl 1 rfl) ?_
          refine lv_iconst (v := 0) hx hb dX4_count_46 (by decide) ?_
          refine callRd hC (k_X4_of l g ad σ u4 0 (in_up (n := 20) rfl hi0 c_1) (in_iff.mpr (by decide))) ci_X4_of lk_X4_36 ⟨Nat.le_of_ble_eq_true rfl, Nat.le_of_ble_eq_true rfl⟩ hP hK hE (q0 := 0) rfl rfl rfl rfl hl.1 rfl (Nat.le_of_ble_eq_true rfl) dX4_count_47 ⟨Nat.zero_le _, Nat.zero_le _⟩ ?_
          refine lv_iconst (v := 1) hx hb dX4_count_50 (by decide) ?_
          refine lv_icmp_ne (tgt := 69) hx hb dX4_count_51 (by decide) (fun c_21 => ?_) (fun c_21 => ?_)
          · refine lv_iconst (v := 0) hx hb dX4_count_69 (by decide) ?_
            refine lv_iadd hx hb dX4_count_70 ?_
            refine lv_istore_n (lv' := [(3, .int (u3 + 0)), (2, .int (u2 + 0)), (4, .int u4), (0, .ref ad.1), (1, .int x1)]) hx hb dX4_count_71 rfl hl (by decide) rfl (fun ls hl => ?_)
            refine lv_iinc (v := (u4 + 1)) (lv' := [(4, .int (u4 + 1)), (3, .int (u3 + 0)), (2, .int (u2 + 0)), (0, .ref ad.1), (1, .int x1)]) hx hb dX4_count_72 hl (k := 2) rfl rfl (by decide) rfl (fun ls hl => ?_)
            refine lv_goto (tgt := 7) hx hb dX4_count_75 (by decide) ?_
            have e9 := up_add (d := 1) (k := 1) (M := 20) rfl hi0 hi1 (by decide) (by decide)
            have e8 := nle_ti (k := 20) rfl c_1
            exact ih (u4 + 1) (u3 + 0) (u2 + 0) (by rw [e9]; omega) (by rw [e9]; omega) (by rw [e9]; omega) (by rw [hR, mX4_count_L7, if_neg c_1, if_pos c_17, if_pos c_20, if_neg c_21]) _ (lv_sub hl [0, 1, 2, 3, 4] rfl)
          · refine lv_aload_n hx hb dX4_count_54 rfl (lv_at hl 3 rfl) ?_
            refine lv_iload hx hb dX4_count_55 (lv_at hl 1 rfl) ?_
            refine lv_bipush (v := 8) hx hb dX4_count_57 (by decide) ?_
            refine callRd hC (k_X4_of l g ad σ u4 8 (in_up (n := 20) rfl hi0 c_1) (in_iff.mpr (by decide))) ci_X4_of lk_X4_36 ⟨Nat.le_of_ble_eq_true rfl, Nat.le_of_ble_eq_true rfl⟩ hP hK hE (q0 := 0) rfl rfl rfl rfl hl.1 rfl (Nat.le_of_ble_eq_true rfl) dX4_count_59 ⟨Nat.zero_le _, Nat.zero_le _⟩ ?_
            refine lv_if_le (tgt := 69) hx hb dX4_count_62 (by decide) (fun c_22 => ?_) (fun c_22 => ?_)
            · refine lv_iconst (v := 0) hx hb dX4_count_69 (by decide) ?_
              refine lv_iadd hx hb dX4_count_70 ?_
              refine lv_istore_n (lv' := [(3, .int (u3 + 0)), (2, .int (u2 + 0)), (4, .int u4), (0, .ref ad.1), (1, .int x1)]) hx hb dX4_count_71 rfl hl (by decide) rfl (fun ls hl => ?_)
              refine lv_iinc (v := (u4 + 1)) (lv' := [(4, .int (u4 + 1)), (3, .int (u3 + 0)), (2, .int (u2 + 0)), (0, .ref ad.1), (1, .int x1)]) hx hb dX4_count_72 hl (k := 2) rfl rfl (by decide) rfl (fun ls hl => ?_)
              refine lv_goto (tgt := 7) hx hb dX4_count_75 (by decide) ?_
              have e9 := up_add (d := 1) (k := 1) (M := 20) rfl hi0 hi1 (by decide) (by decide)
              have e8 := nle_ti (k := 20) rfl c_1
              exact ih (u4 + 1) (u3 + 0) (u2 + 0) (by rw [e9]; omega) (by rw [e9]; omega) (by rw [e9]; omega) (by rw [hR, mX4_count_L7, if_neg c_1, if_pos c_17, if_pos c_20, if_pos c_21, if_pos c_22]) _ (lv_sub hl [0, 1, 2, 3, 4] rfl)
            · refine lv_iconst (v := 1) hx hb dX4_count_65 (by decide) ?_
              refine lv_goto (tgt := 70) hx hb dX4_count_66 (by decide) ?_
              refine lv_iadd hx hb dX4_count_70 ?_
              refine lv_istore_n (lv' := [(3, .int (u3 + 1)), (2, .int (u2 + 0)), (4, .int u4), (0, .ref ad.1), (1, .int x1)]) hx hb dX4_count_71 rfl hl (by decide) rfl (fun ls hl => ?_)
              refine lv_iinc (v := (u4 + 1)) (lv' := [(4, .int (u4 + 1)), (3, .int (u3 + 1)), (2, .int (u2 + 0)), (0, .ref ad.1), (1, .int x1)]) hx hb dX4_count_72 hl (k := 2) rfl rfl (by decide) rfl (fun ls hl => ?_)
              refine lv_goto (tgt := 7) hx hb dX4_count_75 (by decide) ?_
              have e9 := up_add (d := 1) (k := 1) (M := 20) rfl hi0 hi1 (by decide) (by decide)
              have e8 := nle_ti (k := 20) rfl c_1
              exact ih (u4 + 1) (u3 + 1) (u2 + 0) (by rw [e9]; omega) (by rw [e9]; omega) (by rw [e9]; omega) (by rw [hR, mX4_count_L7, if_neg c_1, if_pos c_17, if_pos c_20, if_pos c_21, if_neg c_22]) _ (lv_sub hl [0, 1, 2, 3, 4] rfl)
        · refine lv_iconst (v := 1) hx hb dX4_count_35 (by decide) ?_
          refine lv_goto (tgt := 40) hx hb dX4_count_36 (by decide) ?_
          refine lv_iadd hx hb dX4_count_40 ?_
          refine lv_istore_n (lv' := [(2, .int (u2 + 1)), (4, .int u4), (3, .int u3), (0, .ref ad.1), (1, .int x1)]) hx hb dX4_count_41 rfl hl (by decide) rfl (fun ls hl => ?_)
          refine lv_iload_n hx hb dX4_count_42 rfl (lv_at hl 2 rfl) ?_
          refine lv_aload_n hx hb dX4_count_43 rfl (lv_at hl 3 rfl) ?_
          refine lv_iload hx hb dX4_count_44 (lv_at hl 1 rfl) ?_
          refine lv_iconst (v := 0) hx hb dX4_count_46 (by decide) ?_
          refine callRd hC (k_X4_of l g ad σ u4 0 (in_up (n := 20) rfl hi0 c_1) (in_iff.mpr (by decide))) ci_X4_of lk_X4_36 ⟨Nat.le_of_ble_eq_true rfl, Nat.le_of_ble_eq_true rfl⟩ hP hK hE (q0 := 0) rfl rfl rfl rfl hl.1 rfl (Nat.le_of_ble_eq_true rfl) dX4_count_47 ⟨Nat.zero_le _, Nat.zero_le _⟩ ?_
          refine lv_iconst (v := 1) hx hb dX4_count_50 (by decide) ?_
          refine lv_icmp_ne (tgt := 69) hx hb dX4_count_51 (by decide) (fun c_23 => ?_) (fun c_23 => ?_)
          · refine lv_iconst (v := 0) hx hb dX4_count_69 (by decide) ?_
            refine lv_iadd hx hb dX4_count_70 ?_
            refine lv_istore_n (lv' := [(3, .int (u3 + 0)), (2, .int (u2 + 1)), (4, .int u4), (0, .ref ad.1), (1, .int x1)]) hx hb dX4_count_71 rfl hl (by decide) rfl (fun ls hl => ?_)
            refine lv_iinc (v := (u4 + 1)) (lv' := [(4, .int (u4 + 1)), (3, .int (u3 + 0)), (2, .int (u2 + 1)), (0, .ref ad.1), (1, .int x1)]) hx hb dX4_count_72 hl (k := 2) rfl rfl (by decide) rfl (fun ls hl => ?_)
            refine lv_goto (tgt := 7) hx hb dX4_count_75 (by decide) ?_
            have e9 := up_add (d := 1) (k := 1) (M := 20) rfl hi0 hi1 (by decide) (by decide)
            have e8 := nle_ti (k := 20) rfl c_1
            exact ih (u4 + 1) (u3 + 0) (u2 + 1) (by rw [e9]; omega) (by rw [e9]; omega) (by rw [e9]; omega) (by rw [hR, mX4_count_L7, if_neg c_1, if_pos c_17, if_neg c_20, if_neg c_23]) _ (lv_sub hl [0, 1, 2, 3, 4] rfl)
          · refine lv_aload_n hx hb dX4_count_54 rfl (lv_at hl 3 rfl) ?_
            refine lv_iload hx hb dX4_count_55 (lv_at hl 1 rfl) ?_
            refine lv_bipush (v := 8) hx hb dX4_count_57 (by decide) ?_
            refine callRd hC (k_X4_of l g ad σ u4 8 (in_up (n := 20) rfl hi0 c_1) (in_iff.mpr (by decide))) ci_X4_of lk_X4_36 ⟨Nat.le_of_ble_eq_true rfl, Nat.le_of_ble_eq_true rfl⟩ hP hK hE (q0 := 0) rfl rfl rfl rfl hl.1 rfl (Nat.le_of_ble_eq_true rfl) dX4_count_59 ⟨Nat.zero_le _, Nat.zero_le _⟩ ?_
            refine lv_if_le (tgt := 69) hx hb dX4_count_62 (by decide) (fun c_24 => ?_) (fun c_24 => ?_)
            · refine lv_iconst (v := 0) hx hb dX4_count_69 (by decide) ?_
              refine lv_iadd hx hb dX4_count_70 ?_
              refine lv_istore_n (lv' := [(3, .int (u3 + 0)), (2, .int (u2 + 1)), (4, .int u4), (0, .ref ad.1), (1, .int x1)]) hx hb dX4_count_71 rfl hl (by decide) rfl (fun ls hl => ?_)
              refine lv_iinc (v := (u4 + 1)) (lv' := [(4, .int (u4 + 1)), (3, .int (u3 + 0)), (2, .int (u2 + 1)), (0, .ref ad.1), (1, .int x1)]) hx hb dX4_count_72 hl (k := 2) rfl rfl (by decide) rfl (fun ls hl => ?_)
              refine lv_goto (tgt := 7) hx hb dX4_count_75 (by decide) ?_
              have e9 := up_add (d := 1) (k := 1) (M := 20) rfl hi0 hi1 (by decide) (by decide)
              have e8 := nle_ti (k := 20) rfl c_1
              exact ih (u4 + 1) (u3 + 0) (u2 + 1) (by rw [e9]; omega) (by rw [e9]; omega) (by rw [e9]; omega) (by rw [hR, mX4_count_L7, if_neg c_1, if_pos c_17, if_neg c_20, if_pos c_23, if_pos c_24]) _ (lv_sub hl [0, 1, 2, 3, 4] rfl)
            · refine lv_iconst (v := 1) hx hb dX4_count_65 (by decide) ?_
              refine lv_goto (tgt := 70) hx hb dX4_count_66 (by decide) ?_
              refine lv_iadd hx hb dX4_count_70 ?_
              refine lv_istore_n (lv' := [(3, .int (u3 + 1)), (2, .int (u2 + 1)), (4, .int u4), (0, .ref ad.1), (1, .int x1)]) hx hb dX4_count_71 rfl hl (by decide) rfl (fun ls hl => ?_)
              refine lv_iinc (v := (u4 + 1)) (lv' := [(4, .int (u4 + 1)), (3, .int (u3 + 1)), (2, .int (u2 + 1)), (0, .ref ad.1), (1, .int x1)]) hx hb dX4_count_72 hl (k := 2) rfl rfl (by decide) rfl (fun ls hl => ?_)
              refine lv_goto (tgt := 7) hx hb dX4_count_75 (by decide) ?_
              have e9 := up_add (d := 1) (k := 1) (M := 20) rfl hi0 hi1 (by decide) (by decide)
              have e8 := nle_ti (k := 20) rfl c_1
              exact ih (u4 + 1) (u3 + 1) (u2 + 1) (by rw [e9]; omega) (by rw [e9]; omega) (by rw [e9]; omega) (by rw [hR, mX4_count_L7, if_neg c_1, if_pos c_17, if_neg c_20, if_pos c_23, if_neg c_24]) _ (lv_sub hl [0, 1, 2, 3, 4] rfl)
def mX4_count (σ : MS) (x1 : Int32) : Int32 := (mX4_count_L7 σ x1 22 0 0 0)
set_option maxHeartbeats 4000000 in
set_option maxRecDepth 100000 in
theorem k_X4_count (l : Launch) (g : WG) (ad : AM) (σ : MS) (x1 : Int32) : Rd l yX4_count cX4_count 5 (some .int) 2 (Wl g (cM g ad σ) (fun _ => False)) [.ref ad.1, .int x1] (mX4_count σ x1) := by
  refine rd_of (by decide) (Nat.le_of_ble_eq_true rfl) ?_
  intro p e s m args below meth c ls hC hW hl
  obtain ⟨hP, hK, hE⟩ := hW
  obtain ⟨hx, hb, hml, hr, hown, hts, hlk, hnm⟩ := id hC
  have hl : lv_has ls 5 [(0, .ref ad.1), (1, .int x1)] := hl
  refine lv_iconst (v := 0) hx hb dX4_count_0 (by decide) ?_
  refine lv_istore_n (lv' := [(2, .int 0), (0, .ref ad.1), (1, .int x1)]) hx hb dX4_count_1 rfl hl (by decide) rfl (fun ls hl => ?_)
  refine lv_iconst (v := 0) hx hb dX4_count_2 (by decide) ?_
  refine lv_istore_n (lv' := [(3, .int 0), (2, .int 0), (0, .ref ad.1), (1, .int x1)]) hx hb dX4_count_3 rfl hl (by decide) rfl (fun ls hl => ?_)
  refine lv_iconst (v := 0) hx hb dX4_count_4 (by decide) ?_
  refine lv_istore (lv' := [(4, .int 0), (3, .int 0), (2, .int 0), (0, .ref ad.1), (1, .int x1)]) hx hb dX4_count_5 hl (by decide) rfl (fun ls hl => ?_)
  refine q_X4_count_7 l g ad σ x1 hC hP hK hE 22 0 0 0 (by decide) (by decide) (by decide) ?_ _ (lv_sub hl [0, 1, 2, 3, 4] rfl)
  exact by unfold mX4_count; rfl
