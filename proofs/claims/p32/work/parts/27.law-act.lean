theorem hok_settle {η : HS} (h : HOK η) (x : Int32) : HOK (mX0_settle η x).2 := by
  obtain ⟨h1, h2⟩ := h
  unfold mX0_settle
  split
  · exact ⟨h1, h2⟩
  · split
    · refine ⟨?_, h2⟩
      obtain ⟨a, b⟩ := in_iff.mp h1
      have e9 := up_add (x := H_oldest η) (d := 1) (k := 1) (M := 5) rfl a (by omega) (by decide) (by decide)
      show vp_in (((H_oldest η) + 1) - (((H_oldest η) + 1) / 5 * 5)) 5
      refine in_iff.mpr ?_
      rw [ti_rem (b := 5) (by rw [e9]; omega) (by decide)]
      exact ⟨Int.emod_nonneg _ (by decide), Int.emod_lt_of_pos _ (by decide)⟩
    · rename_i c
      refine ⟨h1, ?_⟩
      obtain ⟨a, b⟩ := in_iff.mp h2
      have e8 := nle_ti (k := 4) rfl c
      have e9 := up_add (x := H_recorded η) (d := 1) (k := 1) (M := 5) rfl a (by omega) (by decide) (by decide)
      show vp_in ((H_recorded η) + 1) 5
      refine in_iff.mpr ?_
      rw [e9]
      omega
theorem hok_prep {η : HS} (h : HOK η) (σ : YS) : HOK (mX0_prepare η σ) := h
theorem hok_come {ω : WS} {x1 x2 x3 x4 : Int32} (h : HOK (W_hist ω)) : HOK (W_hist (mX3_come ω x1 x2 x3 x4).2) := hok_settle (hok_prep h _) _
theorem hok_goAway {ω : WS} {x1 : Int32} (h : HOK (W_hist ω)) : HOK (W_hist (mX3_goAway ω x1).2) := hok_settle (hok_prep h _) _
theorem hok_setCradles {ω : WS} {x1 x2 : Int32} (h : HOK (W_hist ω)) : HOK (W_hist (mX3_setCradles ω x1 x2).2) := hok_settle (hok_prep h _) _
theorem hok_setRow {ω : WS} {x1 x2 : Int32} (h : HOK (W_hist ω)) : HOK (W_hist (mX3_setRow ω x1 x2).2) := hok_settle (hok_prep h _) _
theorem hok_set {ω : WS} {x1 x2 : Int32} (h : HOK (W_hist ω)) : HOK (W_hist (mX3_set ω x1 x2).2) := hok_settle (hok_prep h _) _
theorem hok_lift {ω : WS} {x1 x2 : Int32} (h : HOK (W_hist ω)) : HOK (W_hist (mX3_lift ω x1 x2).2) := hok_settle (hok_prep h _) _
theorem hok_launch {ω : WS} {x1 : Int32} (h : HOK (W_hist ω)) : HOK (W_hist (mX3_launch ω x1).2) := hok_settle (hok_prep h _) _
theorem hok_move {ω : WS} {x1 x2 : Int32} (h : HOK (W_hist ω)) : HOK (W_hist (mX3_move ω x1 x2).2) := hok_settle (hok_prep h _) _
theorem hok_work {ω : WS} {x1 x2 : Int32} (h : HOK (W_hist ω)) : HOK (W_hist (mX3_work ω x1 x2).2) := hok_settle (hok_prep h _) _
theorem hok_pass {ω : WS} {x1 : Int32} (h : HOK (W_hist ω)) : HOK (W_hist (mX3_pass ω x1).2) := hok_settle (hok_prep h _) _
theorem hok_mast {ω : WS} {x1 x2 : Int32} (h : HOK (W_hist ω)) : HOK (W_hist (mX3_mast ω x1 x2).2) := by
  unfold mX3_mast
  split <;> exact hok_settle (hok_prep h _) _
theorem fr_in {u : Int32} (h0 : 0 ≤ u.toInt) (h1 : u.toInt ≤ 6) (c : ¬ u = 6) : vp_in u 6 := in_iff.mpr ⟨h0, by
  have : u.toInt ≠ 6 := fun e => c (eq_ti.mpr (e.trans (by decide)))
  omega⟩
theorem af_ne {x i : Int32} (h : x < 0) (hi : vp_in i 4) : ¬ x = i := fun e => by
  have h1 := (in_iff.mp hi).1
  rw [lt_ti, e] at h
  have e0 : (0 : Int32).toInt = 0 := rfl
  omega
theorem nlt0 {x : Int32} (c : ¬ x < 0) : 0 ≤ x := by
  rw [lt_ti] at c
  rw [le_ti]
  omega
theorem cl_7 {x : Int32} (h : vp_in x 4) : (7 * x).toInt = 7 * x.toInt := by
  obtain ⟨h1, h2⟩ := in_iff.mp h
  exact ti_mul (x := 7) (by show _ ≤ 7 * x.toInt; omega) (by show 7 * x.toInt < _; omega)
theorem fr_upd {f : Nat → Int32} {a b v : Int32} (ha : vp_in a 4) (hb : vp_in b 4) (hne : ¬ a = b) (h : vp_in (f (7 * b).toNatClampNeg) 6) : vp_in (upd f (7 * a).toNatClampNeg v (7 * b).toNatClampNeg) 6 := by
  unfold upd
  rw [if_neg]
  · exact h
  · intro e
    have e1 : (7 * b).toInt.toNat = (7 * a).toInt.toNat := e
    rw [cl_7 ha, cl_7 hb] at e1
    have h1 := (in_iff.mp ha).1
    have h2 := (in_iff.mp hb).1
    exact hne (eq_ti.mpr (by omega))
theorem fr_upd2 {γ : LAS} {f1 f2 f3 : Nat → Int32} {a b v : Int32} (ha : vp_in a 4) (hb : vp_in b 4) (hne : ¬ a = b) (h : vp_in (L_r γ (7 * b).toNatClampNeg) 6) : vp_in (L_r (f1, f2, f3, upd (L_r γ) (7 * a).toNatClampNeg v) (7 * b).toNatClampNeg) 6 := fr_upd ha hb hne h
theorem lr_af {σ : LAS} {x y : Int32} (c : (mL_liftReason σ x y) ≤ 0) : (mL_of σ x 5) < 0 := by
  unfold mL_liftReason at c
  split at c
  · assumption
  · exact absurd c (by decide)
theorem lr_as {σ : LAS} {x : Int32} (c : (mL_launchReason σ x) ≤ 0) : 0 ≤ (mL_of σ x 5) := by
  unfold mL_launchReason at c
  split at c
  · assumption
  · exact absurd c (by decide)
/-- no row of another boat is full -/
def FRE (γ : LAS) : Prop := ∀ k i : Int32, vp_in k 6 → vp_in i 4 → ¬ (mL_of γ k 0) = 0 → ¬ (mL_of γ k 5) = i → vp_in (L_r γ (7 * i).toNatClampNeg) 6
def mL_yard_L909 (x2 : Int32) (x3 : Int32) (w9 : Int32) (w8 : Int32) (w7 : Int32) : Nat → VS → Int32 → Int32 × VS
  | 0, σ, _ => (0, σ)
  | n + 1, σ, u10 => (if 6 ≤ u10 then (if (mX3_pass σ.1 w9).1 = (mL_tide σ.2 ((L_g σ.2) (0 : Int32).toNatClampNeg)) then (1, ((mX3_pass σ.1 w9).2, σ.2)) else (0, ((mX3_pass σ.1 w9).2, σ.2))) else (if (mL_of σ.2 u10 0) = 0 then (mL_yard_L909 x2 x3 w9 w8 w7 n σ (u10 + 1)) else (if 0 ≤ (mL_of σ.2 u10 5) then (mL_yard_L909 x2 x3 w9 w8 w7 n (σ.1, ((L_g σ.2), (upd (upd (L_b σ.2) ((10 * u10) + 9).toNatClampNeg (((L_b σ.2) ((10 * u10) + 9).toNatClampNeg) + w9)) ((10 * u10) + 8).toNatClampNeg ((if (mL_of ((L_g σ.2), (upd (L_b σ.2) ((10 * u10) + 9).toNatClampNeg (((L_b σ.2) ((10 * u10) + 9).toNatClampNeg) + w9)), (L_t σ.2), (L_r σ.2)) u10 8) ≤ w9 then 0 else ((mL_of ((L_g σ.2), (upd (L_b σ.2) ((10 * u10) + 9).toNatClampNeg (((L_b σ.2) ((10 * u10) + 9).toNatClampNeg) + w9)), (L_t σ.2), (L_r σ.2)) u10 8) - w9)) : Int32)), (L_t σ.2), (L_r σ.2))) (u10 + 1)) else (mL_yard_L909 x2 x3 w9 w8 w7 n σ (u10 + 1)))))
set_option maxHeartbeats 4000000 in
set_option maxRecDepth 100000 in
theorem q_L_yard_909 {p : Program} {e : Env} {s : State} {m : MethodId} {args : Array Value} {below : List Frame} {meth : Method} {c : Code} (l : Launch) (g : WG) (ad : AV) (x2 : Int32) (x3 : Int32) (w9 : Int32) (w8 : Int32) (w7 : Int32) (hC : Cx p s m args meth c yL_yard cL_yard 12 (some .boolean)) (hK : va_K g.1 vwCl (tysW g) s) {A : Nat → Prop} {ws0 : va_W} (hE : Ex A s s.heap) (hA : ∀ q : Nat, s.heap.size ≤ q → A q) (hAe : A = va_A ws0 s.heap.size) {r : Int32 × VS} : ∀ (n : Nat) (σ : VS) (H : Heap) (locs : List Loc) (hP : va_P g.1 vwCl (cV g ad σ) H) (hD : va_D A (cV g ad σ)) (hS : va_S A s.heap H locs) (u10 : Int32) (hi0 : 0 ≤ u10.toInt) (hi1 : u10.toInt ≤ 6) (hhk : HOK (W_hist σ.1)) (hm : ((7 : Int) - u10.toInt).toNat < n) (hR : r = mL_yard_L909 x2 x3 w9 w8 w7 n σ u10) (ls : Array Slot) (hl : lv_has ls 12 [(10, .int u10), (9, .int w9), (8, .int w8), (7, .int w7), (0, .ref ad.1.1), (1, .int x2), (2, .int x3), (3, .ref ad.2.1), (4, .ref ad.2.2.1), (5, .ref ad.2.2.2.1), (6, .ref ad.2.2.2.2)]), W p l e (rk 7) s m args below meth c H locs 0 0 (MQ below (va_Qi (fun x _ => x = r.1) (Bw g ws0 (cV g ad r.2) s.heap.size) (va_A ws0 s.heap.size)) args s 0 0 (va_A ws0 s.heap.size)) (F0 m 909 ls []) := by
  obtain ⟨hx, hb, hml, hr, hown, hts, hlk, hnm⟩ := id hC
  intro n
  induction n with
  | zero => intro σ H locs hP hD hS u10 hi0 hi1 hhk hm hR ls hl; exact absurd hm (Nat.not_lt_zero _)
  | succ n ih =>
    intro σ H locs hP hD hS u10 hi0 hi1 hhk hm hR ls hl
    refine lv_iload hx hb dL_yard_909 (lv_at hl 0 rfl) ?_
    refine lv_bipush (v := 6) hx hb dL_yard_911 (by decide) ?_
    refine lv_icmp_ge (tgt := 1004) hx hb dL_yard_913 (by decide) (fun c_9 => ?_) (fun c_9 => ?_)
    · refine lv_aload_n hx hb dL_yard_1004 rfl (lv_at hl 4 rfl) ?_
      refine lv_iload hx hb dL_yard_1005 (lv_at hl 1 rfl) ?_
      refine callWrR hC (k_X3_pass l g ad.1 σ.1 w9 hhk) ci_X3_pass lk_L_63 ⟨Nat.le_of_ble_eq_true rfl, Nat.le_of_ble_eq_true rfl⟩ hP hD hK hE hS hA (q0 := 0) rfl rfl rfl rfl hl.1 rfl (Nat.le_of_ble_eq_true rfl) dL_yard_1007 ⟨Nat.zero_le _, Nat.zero_le _⟩ (fun H locs hP hD hS => ?_)
      have hP : va_P g.1 vwCl (cV g ad ((mX3_pass σ.1 w9).2, σ.2)) H := hP
      have hD : va_D A (cV g ad ((mX3_pass σ.1 w9).2, σ.2)) := hD
      refine lv_aload_n hx hb dL_yard_1010 rfl (lv_at hl 7 rfl) ?_
      refine lv_iconst (v := 0) hx hb dL_yard_1011 (by decide) ?_
      refine lV_g hC hK hP (in_iff.mpr (by decide)) dL_yard_1012 ?_
      refine lv_aload_n hx hb dL_yard_1013 rfl (lv_at hl 7 rfl) ?_
      refine callSd hC (k_L_tide l g ad.2 σ.2 ((L_g σ.2) (0 : Int32).toNatClampNeg)) ci_L_tide lk_L_23 ⟨Nat.le_of_ble_eq_true rfl, Nat.le_of_ble_eq_true rfl⟩ (P_left hP) hK (hE.S hS).none rfl hl.1 rfl (Nat.le_of_ble_eq_true rfl) dL_yard_1014 ⟨Nat.zero_le _, Nat.zero_le _⟩ ?_
      refine lv_icmp_ne (tgt := 1024) hx hb dL_yard_1017 (by decide) (fun c_10 => ?_) (fun c_10 => ?_)
      · refine lv_iconst (v := 0) hx hb dL_yard_1024 (by decide) ?_
        have hm : r = (0, ((mX3_pass σ.1 w9).2, σ.2)) := by rw [hR, mL_yard_L909, if_pos c_9, if_neg c_10]
        exact wr_zret hC hP (hAe ▸ hD) (hAe ▸ hS) dL_yard_1025 rfl (by rw [hm]) (by rw [hm])
      · refine lv_iconst (v := 1) hx hb dL_yard_1020 (by decide) ?_
        refine lv_goto (tgt := 1025) hx hb dL_yard_1021 (by decide) ?_
        have hm : r = (1, ((mX3_pass σ.1 w9).2, σ.2)) := by rw [hR, mL_yard_L909, if_pos c_9, if_pos c_10]
        exact wr_zret hC hP (hAe ▸ hD) (hAe ▸ hS) dL_yard_1025 rfl (by rw [hm]) (by rw [hm])
    · refine lv_aload hx hb dL_yard_916 (lv_at hl 8 rfl) ?_
      refine lv_iload hx hb dL_yard_918 (lv_at hl 0 rfl) ?_
      refine lv_iconst (v := 0) hx hb dL_yard_920 (by decide) ?_
      refine callSd hC (k_L_of l g ad.2 σ.2 u10 0 (in_up (n := 6) rfl hi0 c_9) (in_iff.mpr (by decide))) ci_L_of lk_L_9 ⟨Nat.le_of_ble_eq_true rfl, Nat.le_of_ble_eq_true rfl⟩ (P_left hP) hK (hE.S hS).none rfl hl.1 rfl (Nat.le_of_ble_eq_true rfl) dL_yard_921 ⟨Nat.zero_le _, Nat.zero_le _⟩ ?_
      refine lv_if_eq (tgt := 998) hx hb dL_yard_924 (by decide) (fun c_11 => ?_) (fun c_11 => ?_)
      · refine lv_iinc (v := (u10 + 1)) (lv' := [(10, .int (u10 + 1)), (9, .int w9), (8, .int w8), (7, .int w7), (0, .ref ad.1.1), (1, .int x2), (2, .int x3), (3, .ref ad.2.1), (4, .ref ad.2.2.1), (5, .ref ad.2.2.2.1), (6, .ref ad.2.2.2.2)]) hx hb dL_yard_998 hl (k := 0) rfl rfl (by decide) rfl (fun ls hl => ?_)
        refine lv_goto (tgt := 909) hx hb dL_yard_1001 (by decide) ?_
        have e9 := up_add (d := 1) (k := 1) (M := 6) rfl hi0 hi1 (by decide) (by decide)
        have e8 := nle_ti (k := 6) rfl c_9
        exact ih σ _ _ hP hD hS (u10 + 1) (by rw [e9]; omega) (by rw [e9]; omega) hhk (by rw [e9]; omega) (by rw [hR, mL_yard_L909, if_neg c_9, if_pos c_11]) _ (lv_sub hl [0, 1, 2, 3, 4, 5, 6, 7, 8, 9, 10] rfl)
      · refine lv_aload hx hb dL_yard_927 (lv_at hl 8 rfl) ?_
        refine lv_iload hx hb dL_yard_929 (lv_at hl 0 rfl) ?_
        refine lv_iconst (v := 5) hx hb dL_yard_931 (by decide) ?_
        refine callSd hC (k_L_of l g ad.2 σ.2 u10 5 (in_up (n := 6) rfl hi0 c_9) (in_iff.mpr (by decide))) ci_L_of lk_L_9 ⟨Nat.le_of_ble_eq_true rfl, Nat.le_of_ble_eq_true rfl⟩ (P_left hP) hK (hE.S hS).none rfl hl.1 rfl (Nat.le_of_ble_eq_true rfl) dL_yard_932 ⟨Nat.zero_le _, Nat.zero_le _⟩ ?_
        refine lv_if_ge (tgt := 941) hx hb dL_yard_935 (by decide) (fun c_12 => ?_) (fun c_12 => ?_)
        · refine lv_aload hx hb dL_yard_941 (lv_at hl 8 rfl) ?_
          refine lv_bipush (v := 10) hx hb dL_yard_943 (by decide) ?_
          refine lv_iload hx hb dL_yard_945 (lv_at hl 0 rfl) ?_
          refine lv_imul hx hb dL_yard_947 ?_
          refine lv_bipush (v := 9) hx hb dL_yard_948 (by decide) ?_
          refine lv_iadd hx hb dL_yard_950 ?_
          refine lv_dup2_11 hx hb dL_yard_951 rfl rfl ?_
          refine lV_b hC hK hP (ix_10 (in_up (n := 6) rfl hi0 c_9) (in_iff.mpr (by decide))) dL_yard_952 ?_
          refine lv_iload hx hb dL_yard_953 (lv_at hl 1 rfl) ?_
          refine lv_iadd hx hb dL_yard_955 ?_
          refine sV_b hC hK hP hD hS (ix_10 (in_up (n := 6) rfl hi0 c_9) (in_iff.mpr (by decide))) dL_yard_956 (fun H locs hP hD hS => ?_)
          have hP : va_P g.1 vwCl (cV g ad (σ.1, ((L_g σ.2), (upd (L_b σ.2) ((10 * u10) + 9).toNatClampNeg (((L_b σ.2) ((10 * u10) + 9).toNatClampNeg) + w9)), (L_t σ.2), (L_r σ.2)))) H := hP
          have hD : va_D A (cV g ad (σ.1, ((L_g σ.2), (upd (L_b σ.2) ((10 * u10) + 9).toNatClampNeg (((L_b σ.2) ((10 * u10) + 9).toNatClampNeg) + w9)), (L_t σ.2), (L_r σ.2)))) := hD
          refine lv_aload hx hb dL_yard_957 (lv_at hl 8 rfl) ?_
          refine lv_bipush (v := 10) hx hb dL_yard_959 (by decide) ?_
          refine lv_iload hx hb dL_yard_961 (lv_at hl 0 rfl) ?_
          refine lv_imul hx hb dL_yard_963 ?_
          refine lv_bipush (v := 8) hx hb dL_yard_964 (by decide) ?_
          refine lv_iadd hx hb dL_yard_966 ?_
          refine lv_aload hx hb dL_yard_967 (lv_at hl 8 rfl) ?_
          refine lv_iload hx hb dL_yard_969 (lv_at hl 0 rfl) ?_
          refine lv_bipush (v := 8) hx hb dL_yard_971 (by decide) ?_
          refine callSd hC (k_L_of l g ad.2 ((L_g σ.2), (upd (L_b σ.2) ((10 * u10) + 9).toNatClampNeg (((L_b σ.2) ((10 * u10) + 9).toNatClampNeg) + w9)), (L_t σ.2), (L_r σ.2)) u10 8 (in_up (n := 6) rfl hi0 c_9) (in_iff.mpr (by decide))) ci_L_of lk_L_9 ⟨Nat.le_of_ble_eq_true rfl, Nat.le_of_ble_eq_true rfl⟩ (P_left hP) hK (hE.S hS).none rfl hl.1 rfl (Nat.le_of_ble_eq_true rfl) dL_yard_973 ⟨Nat.zero_le _, Nat.zero_le _⟩ ?_
          refine lv_iload hx hb dL_yard_976 (lv_at hl 1 rfl) ?_
          refine dia (J := 997) (V := ((if (mL_of ((L_g σ.2), (upd (L_b σ.2) ((10 * u10) + 9).toNatClampNeg (((L_b σ.2) ((10 * u10) + 9).toNatClampNeg) + w9)), (L_t σ.2), (L_r σ.2)) u10 8) ≤ w9 then 0 else ((mL_of ((L_g σ.2), (upd (L_b σ.2) ((10 * u10) + 9).toNatClampNeg (((L_b σ.2) ((10 * u10) + 9).toNatClampNeg) + w9)), (L_t σ.2), (L_r σ.2)) u10 8) - w9)) : Int32)) (rest := [.int ((10 * u10) + 8), .ref ad.2.2.1]) (fun kk_14 => ?_) ?_
          · refine lv_icmp_le (tgt := 996) hx hb dL_yard_978 (by decide) (fun c_15 => ?_) (fun c_15 => ?_)
            · refine lv_iconst (v := 0) hx hb dL_yard_996 (by decide) ?_
              exact kk_14 _ (if_pos c_15)
            · refine lv_aload hx hb dL_yard_981 (lv_at hl 8 rfl) ?_
              refine lv_iload hx hb dL_yard_983 (lv_at hl 0 rfl) ?_
              refine lv_bipush (v := 8) hx hb dL_yard_985 (by decide) ?_
              refine callSd hC (k_L_of l g ad.2 ((L_g σ.2), (upd (L_b σ.2) ((10 * u10) + 9).toNatClampNeg (((L_b σ.2) ((10 * u10) + 9).toNatClampNeg) + w9)), (L_t σ.2), (L_r σ.2)) u10 8 (in_up (n := 6) rfl hi0 c_9) (in_iff.mpr (by decide))) ci_L_of lk_L_9 ⟨Nat.le_of_ble_eq_true rfl, Nat.le_of_ble_eq_true rfl⟩ (P_left hP) hK (hE.S hS).none rfl hl.1 rfl (Nat.le_of_ble_eq_true rfl) dL_yard_987 ⟨Nat.zero_le _, Nat.zero_le _⟩ ?_
              refine lv_iload hx hb dL_yard_990 (lv_at hl 1 rfl) ?_
              refine lv_isub hx hb dL_yard_992 ?_
              refine lv_goto (tgt := 997) hx hb dL_yard_993 (by decide) ?_
              exact kk_14 _ (if_neg c_15)
          refine sV_b hC hK hP hD hS (ix_10 (in_up (n := 6) rfl hi0 c_9) (in_iff.mpr (by decide))) dL_yard_997 (fun H locs hP hD hS => ?_)
          have hP : va_P g.1 vwCl (cV g ad (σ.1, ((L_g σ.2), (upd (upd (L_b σ.2) ((10 * u10) + 9).toNatClampNeg (((L_b σ.2) ((10 * u10) + 9).toNatClampNeg) + w9)) ((10 * u10) + 8).toNatClampNeg ((if (mL_of ((L_g σ.2), (upd (L_b σ.2) ((10 * u10) + 9).toNatClampNeg (((L_b σ.2) ((10 * u10) + 9).toNatClampNeg) + w9)), (L_t σ.2), (L_r σ.2)) u10 8) ≤ w9 then 0 else ((mL_of ((L_g σ.2), (upd (L_b σ.2) ((10 * u10) + 9).toNatClampNeg (((L_b σ.2) ((10 * u10) + 9).toNatClampNeg) + w9)), (L_t σ.2), (L_r σ.2)) u10 8) - w9)) : Int32)), (L_t σ.2), (L_r σ.2)))) H := hP
          have hD : va_D A (cV g ad (σ.1, ((L_g σ.2), (upd (upd (L_b σ.2) ((10 * u10) + 9).toNatClampNeg (((L_b σ.2) ((10 * u10) + 9).toNatClampNeg) + w9)) ((10 * u10) + 8).toNatClampNeg ((if (mL_of ((L_g σ.2), (upd (L_b σ.2) ((10 * u10) + 9).toNatClampNeg (((L_b σ.2) ((10 * u10) + 9).toNatClampNeg) + w9)), (L_t σ.2), (L_r σ.2)) u10 8) ≤ w9 then 0 else ((mL_of ((L_g σ.2), (upd (L_b σ.2) ((10 * u10) + 9).toNatClampNeg (((L_b σ.2) ((10 * u10) + 9).toNatClampNeg) + w9)), (L_t σ.2), (L_r σ.2)) u10 8) - w9)) : Int32)), (L_t σ.2), (L_r σ.2)))) := hD
          refine lv_iinc (v := (u10 + 1)) (lv' := [(10, .int (u10 + 1)), (9, .int w9), (8, .int w8), (7, .int w7), (0, .ref ad.1.1), (1, .int x2), (2, .int x3), (3, .ref ad.2.1), (4, .ref ad.2.2.1), (5, .ref ad.2.2.2.1), (6, .ref ad.2.2.2.2)]) hx hb dL_yard_998 hl (k := 0) rfl rfl (by decide) rfl (fun ls hl => ?_)
          refine lv_goto (tgt := 909) hx hb dL_yard_1001 (by decide) ?_
          have e9 := up_add (d := 1) (k := 1) (M := 6) rfl hi0 hi1 (by decide) (by decide)
          have e8 := nle_ti (k := 6) rfl c_9
          exact ih (σ.1, ((L_g σ.2), (upd (upd (L_b σ.2) ((10 * u10) + 9).toNatClampNeg (((L_b σ.2) ((10 * u10) + 9).toNatClampNeg) + w9)) ((10 * u10) + 8).toNatClampNeg ((if (mL_of ((L_g σ.2), (upd (L_b σ.2) ((10 * u10) + 9).toNatClampNeg (((L_b σ.2) ((10 * u10) + 9).toNatClampNeg) + w9)), (L_t σ.2), (L_r σ.2)) u10 8) ≤ w9 then 0 else ((mL_of ((L_g σ.2), (upd (L_b σ.2) ((10 * u10) + 9).toNatClampNeg (((L_b σ.2) ((10 * u10) + 9).toNatClampNeg) + w9)), (L_t σ.2), (L_r σ.2)) u10 8) - w9)) : Int32)), (L_t σ.2), (L_r σ.2))) _ _ hP hD hS (u10 + 1) (by rw [e9]; omega) (by rw [e9]; omega) hhk (by rw [e9]; omega) (by rw [hR, mL_yard_L909, if_neg c_9, if_neg c_11, if_pos c_12]) _ (lv_sub hl [0, 1, 2, 3, 4, 5, 6, 7, 8, 9, 10] rfl)
        · refine lv_goto (tgt := 998) hx hb dL_yard_938 (by decide) ?_
          refine lv_iinc (v := (u10 + 1)) (lv' := [(10, .int (u10 + 1)), (9, .int w9), (8, .int w8), (7, .int w7), (0, .ref ad.1.1), (1, .int x2), (2, .int x3), (3, .ref ad.2.1), (4, .ref ad.2.2.1), (5, .ref ad.2.2.2.1), (6, .ref ad.2.2.2.2)]) hx hb dL_yard_998 hl (k := 0) rfl rfl (by decide) rfl (fun ls hl => ?_)
          refine lv_goto (tgt := 909) hx hb dL_yard_1001 (by decide) ?_
          have e9 := up_add (d := 1) (k := 1) (M := 6) rfl hi0 hi1 (by decide) (by decide)
          have e8 := nle_ti (k := 6) rfl c_9
          exact ih σ _ _ hP hD hS (u10 + 1) (by rw [e9]; omega) (by rw [e9]; omega) hhk (by rw [e9]; omega) (by rw [hR, mL_yard_L909, if_neg c_9, if_neg c_11, if_neg c_12]) _ (lv_sub hl [0, 1, 2, 3, 4, 5, 6, 7, 8, 9, 10] rfl)
def mL_yard_J873 (σ : VS) (x2 : Int32) (x3 : Int32) : Int32 × VS := (mL_yard_L909 x2 x3 (1 + (mL_low x3 ((if (x3 &&& 64) = 0 then 5 else 40) : Int32))) (mL_low x3 6) (mL_low x2 9) 8 (σ.1, ((upd (upd (L_g σ.2) (0 : Int32).toNatClampNeg (((L_g σ.2) (0 : Int32).toNatClampNeg) + (1 + (mL_low x3 ((if (x3 &&& 64) = 0 then 5 else 40) : Int32))))) (1 : Int32).toNatClampNeg 0), (L_b σ.2), (L_t σ.2), (L_r σ.2))) 0)
set_option maxHeartbeats 4000000 in
set_option maxRecDepth 100000 in
theorem j_L_yard_873 {p : Program} {e : Env} {s : State} {m : MethodId} {args : Array Value} {below : List Frame} {meth : Method} {c : Code} (l : Launch) (g : WG) (ad : AV) (σ : VS) (x2 : Int32) (x3 : Int32) (h_vok : VOK σ) (h_hok : HOK (W_hist σ.1)) (c_1 : (3 ≤ (mL_low x2 9))) (c_2 : ¬ ((mL_low x2 9) = 3)) (c_3 : ¬ ((mL_low x2 9) = 4)) (c_4 : ¬ ((mL_low x2 9) = 5)) (c_5 : ¬ ((mL_low x2 9) = 6)) (hC : Cx p s m args meth c yL_yard cL_yard 12 (some .boolean)) (hK : va_K g.1 vwCl (tysW g) s) {A : Nat → Prop} {ws0 : va_W} (hE : Ex A s s.heap) (hA : ∀ q : Nat, s.heap.size ≤ q → A q) (hAe : A = va_A ws0 s.heap.size) (H : Heap) (locs : List Loc) (hP : va_P g.1 vwCl (cV g ad σ) H) (hD : va_D A (cV g ad σ)) (hS : va_S A s.heap H locs) {r : Int32 × VS} (hR : r = mL_yard_J873 σ x2 x3) (ls : Array Slot) (hl : lv_has ls 12 [(8, .int (mL_low x3 6)), (7, .int (mL_low x2 9)), (0, .ref ad.1.1), (1, .int x2), (2, .int x3), (3, .ref ad.2.1), (4, .ref ad.2.2.1), (5, .ref ad.2.2.2.1), (6, .ref ad.2.2.2.2)]) : W p l e (rk 7) s m args below meth c H locs 0 0 (MQ below (va_Qi (fun x _ => x = r.1) (Bw g ws0 (cV g ad r.2) s.heap.size) (va_A ws0 s.heap.size)) args s 0 0 (va_A ws0 s.heap.size)) (F0 m 873 ls []) := by
  obtain ⟨hx, hb, hml, hr, hown, hts, hlk, hnm⟩ := id hC
  refine lv_iconst (v := 1) hx hb dL_yard_873 (by decide) ?_
  refine lv_iload_n hx hb dL_yard_874 rfl (lv_at hl 4 rfl) ?_
  refine lv_iload_n hx hb dL_yard_875 rfl (lv_at hl 4 rfl) ?_
  refine lv_bipush (v := 64) hx hb dL_yard_876 (by decide) ?_
  refine lv_iand hx hb dL_yard_878 ?_
  refine dia (J := 888) (V := ((if (x3 &&& 64) = 0 then 5 else 40) : Int32)) (rest := [.int x3, .int 1]) (fun kk_7 => ?_) ?_
  · refine lv_if_ne (tgt := 886) hx hb dL_yard_879 (by decide) (fun c_8 => ?_) (fun c_8 => ?_)
    · refine lv_bipush (v := 40) hx hb dL_yard_886 (by decide) ?_
      exact kk_7 _ (if_neg c_8)
    · refine lv_iconst (v := 5) hx hb dL_yard_882 (by decide) ?_
      refine lv_goto (tgt := 888) hx hb dL_yard_883 (by decide) ?_
      exact kk_7 _ (if_pos c_8)
  refine callRs hC (k_L_low l g x3 ((if (x3 &&& 64) = 0 then 5 else 40) : Int32) (by first | decide | (split <;> decide))) ci_L_low lk_L_41 ⟨Nat.le_of_ble_eq_true rfl, Nat.le_of_ble_eq_true rfl⟩ hK (hE.S hS).none rfl hl.1 rfl (Nat.le_of_ble_eq_true rfl) dL_yard_888 ⟨Nat.zero_le _, Nat.zero_le _⟩ ?_
  refine lv_iadd hx hb dL_yard_891 ?_
  refine lv_istore (lv' := [(9, .int (1 + (mL_low x3 ((if (x3 &&& 64) = 0 then 5 else 40) : Int32)))), (8, .int (mL_low x3 6)), (7, .int (mL_low x2 9)), (0, .ref ad.1.1), (1, .int x2), (2, .int x3), (3, .ref ad.2.1), (4, .ref ad.2.2.1), (5, .ref ad.2.2.2.1), (6, .ref ad.2.2.2.2)]) hx hb dL_yard_892 hl (by decide) rfl (fun ls hl => ?_)
  refine lv_aload_n hx hb dL_yard_894 rfl (lv_at hl 6 rfl) ?_
  refine lv_iconst (v := 0) hx hb dL_yard_895 (by decide) ?_
  refine lv_dup2_11 hx hb dL_yard_896 rfl rfl ?_
  refine lV_g hC hK hP (in_iff.mpr (by decide)) dL_yard_897 ?_
  refine lv_iload hx hb dL_yard_898 (lv_at hl 0 rfl) ?_
  refine lv_iadd hx hb dL_yard_900 ?_
  refine sV_g hC hK hP hD hS (in_iff.mpr (by decide)) dL_yard_901 (fun H locs hP hD hS => ?_)
  have hP : va_P g.1 vwCl (cV g ad (σ.1, ((upd (L_g σ.2) (0 : Int32).toNatClampNeg (((L_g σ.2) (0 : Int32).toNatClampNeg) + (1 + (mL_low x3 ((if (x3 &&& 64) = 0 then 5 else 40) : Int32))))), (L_b σ.2), (L_t σ.2), (L_r σ.2)))) H := hP
  have hD : va_D A (cV g ad (σ.1, ((upd (L_g σ.2) (0 : Int32).toNatClampNeg (((L_g σ.2) (0 : Int32).toNatClampNeg) + (1 + (mL_low x3 ((if (x3 &&& 64) = 0 then 5 else 40) : Int32))))), (L_b σ.2), (L_t σ.2), (L_r σ.2)))) := hD
  refine lv_aload_n hx hb dL_yard_902 rfl (lv_at hl 6 rfl) ?_
  refine lv_iconst (v := 1) hx hb dL_yard_903 (by decide) ?_
  refine lv_iconst (v := 0) hx hb dL_yard_904 (by decide) ?_
  refine sV_g hC hK hP hD hS (in_iff.mpr (by decide)) dL_yard_905 (fun H locs hP hD hS => ?_)
  have hP : va_P g.1 vwCl (cV g ad (σ.1, ((upd (upd (L_g σ.2) (0 : Int32).toNatClampNeg (((L_g σ.2) (0 : Int32).toNatClampNeg) + (1 + (mL_low x3 ((if (x3 &&& 64) = 0 then 5 else 40) : Int32))))) (1 : Int32).toNatClampNeg 0), (L_b σ.2), (L_t σ.2), (L_r σ.2)))) H := hP
  have hD : va_D A (cV g ad (σ.1, ((upd (upd (L_g σ.2) (0 : Int32).toNatClampNeg (((L_g σ.2) (0 : Int32).toNatClampNeg) + (1 + (mL_low x3 ((if (x3 &&& 64) = 0 then 5 else 40) : Int32))))) (1 : Int32).toNatClampNeg 0), (L_b σ.2), (L_t σ.2), (L_r σ.2)))) := hD
  refine lv_iconst (v := 0) hx hb dL_yard_906 (by decide) ?_
  refine lv_istore (lv' := [(10, .int 0), (9, .int (1 + (mL_low x3 ((if (x3 &&& 64) = 0 then 5 else 40) : Int32)))), (8, .int (mL_low x3 6)), (7, .int (mL_low x2 9)), (0, .ref ad.1.1), (1, .int x2), (2, .int x3), (3, .ref ad.2.1), (4, .ref ad.2.2.1), (5, .ref ad.2.2.2.1), (6, .ref ad.2.2.2.2)]) hx hb dL_yard_907 hl (by decide) rfl (fun ls hl => ?_)
  refine q_L_yard_909 l g ad x2 x3 (1 + (mL_low x3 ((if (x3 &&& 64) = 0 then 5 else 40) : Int32))) (mL_low x3 6) (mL_low x2 9) hC hK hE hA hAe 8 (σ.1, ((upd (upd (L_g σ.2) (0 : Int32).toNatClampNeg (((L_g σ.2) (0 : Int32).toNatClampNeg) + (1 + (mL_low x3 ((if (x3 &&& 64) = 0 then 5 else 40) : Int32))))) (1 : Int32).toNatClampNeg 0), (L_b σ.2), (L_t σ.2), (L_r σ.2))) _ _ hP hD hS 0 (by decide) (by decide) h_hok (by decide) ?_ _ (lv_sub hl [0, 1, 2, 3, 4, 5, 6, 7, 8, 9, 10] rfl)
  exact by rw [hR, mL_yard_J873]
def mL_yard_J743 (σ : VS) (x2 : Int32) (x3 : Int32) : Int32 × VS := (if (mL_low x2 9) = 6 then (if (mX3_set σ.1 (mL_low x3 3) ((if (mL_low x3 3) = 0 then (mL_low (x3 >>> ((2 : Int32) &&& 31)) 10) else ((if (mL_low x3 3) = 1 then (1 + (mL_low (x3 >>> ((2 : Int32) &&& 31)) 9)) else (10 + (mL_low (x3 >>> ((2 : Int32) &&& 31)) 21))) : Int32)) : Int32)).1 = ((if ((if (mL_low x3 3) = 0 then (mL_low (x3 >>> ((2 : Int32) &&& 31)) 10) else ((if (mL_low x3 3) = 1 then (1 + (mL_low (x3 >>> ((2 : Int32) &&& 31)) 9)) else (10 + (mL_low (x3 >>> ((2 : Int32) &&& 31)) 21))) : Int32)) : Int32) = ((L_g σ.2) (2 + (mL_low x3 3)).toNatClampNeg) then (-5) else ((L_g σ.2) (2 + (mL_low x3 3)).toNatClampNeg)) : Int32) then (if (mX3_set (mX3_set σ.1 (mL_low x3 3) ((if (mL_low x3 3) = 0 then (mL_low (x3 >>> ((2 : Int32) &&& 31)) 10) else ((if (mL_low x3 3) = 1 then (1 + (mL_low (x3 >>> ((2 : Int32) &&& 31)) 9)) else (10 + (mL_low (x3 >>> ((2 : Int32) &&& 31)) 21))) : Int32)) : Int32)).2 3 0).1 = (-1) then (if (mX3_set (mX3_set (mX3_set σ.1 (mL_low x3 3) ((if (mL_low x3 3) = 0 then (mL_low (x3 >>> ((2 : Int32) &&& 31)) 10) else ((if (mL_low x3 3) = 1 then (1 + (mL_low (x3 >>> ((2 : Int32) &&& 31)) 9)) else (10 + (mL_low (x3 >>> ((2 : Int32) &&& 31)) 21))) : Int32)) : Int32)).2 3 0).2 1 0).1 = (-2) then (1, ((mX3_set (mX3_set (mX3_set σ.1 (mL_low x3 3) ((if (mL_low x3 3) = 0 then (mL_low (x3 >>> ((2 : Int32) &&& 31)) 10) else ((if (mL_low x3 3) = 1 then (1 + (mL_low (x3 >>> ((2 : Int32) &&& 31)) 9)) else (10 + (mL_low (x3 >>> ((2 : Int32) &&& 31)) 21))) : Int32)) : Int32)).2 3 0).2 1 0).2, ((upd (L_g σ.2) (2 + (mL_low x3 3)).toNatClampNeg ((if (mL_low x3 3) = 0 then (mL_low (x3 >>> ((2 : Int32) &&& 31)) 10) else ((if (mL_low x3 3) = 1 then (1 + (mL_low (x3 >>> ((2 : Int32) &&& 31)) 9)) else (10 + (mL_low (x3 >>> ((2 : Int32) &&& 31)) 21))) : Int32)) : Int32)), (L_b σ.2), (L_t σ.2), (L_r σ.2)))) else (0, ((mX3_set (mX3_set (mX3_set σ.1 (mL_low x3 3) ((if (mL_low x3 3) = 0 then (mL_low (x3 >>> ((2 : Int32) &&& 31)) 10) else ((if (mL_low x3 3) = 1 then (1 + (mL_low (x3 >>> ((2 : Int32) &&& 31)) 9)) else (10 + (mL_low (x3 >>> ((2 : Int32) &&& 31)) 21))) : Int32)) : Int32)).2 3 0).2 1 0).2, ((upd (L_g σ.2) (2 + (mL_low x3 3)).toNatClampNeg ((if (mL_low x3 3) = 0 then (mL_low (x3 >>> ((2 : Int32) &&& 31)) 10) else ((if (mL_low x3 3) = 1 then (1 + (mL_low (x3 >>> ((2 : Int32) &&& 31)) 9)) else (10 + (mL_low (x3 >>> ((2 : Int32) &&& 31)) 21))) : Int32)) : Int32)), (L_b σ.2), (L_t σ.2), (L_r σ.2))))) else (0, ((mX3_set (mX3_set σ.1 (mL_low x3 3) ((if (mL_low x3 3) = 0 then (mL_low (x3 >>> ((2 : Int32) &&& 31)) 10) else ((if (mL_low x3 3) = 1 then (1 + (mL_low (x3 >>> ((2 : Int32) &&& 31)) 9)) else (10 + (mL_low (x3 >>> ((2 : Int32) &&& 31)) 21))) : Int32)) : Int32)).2 3 0).2, ((upd (L_g σ.2) (2 + (mL_low x3 3)).toNatClampNeg ((if (mL_low x3 3) = 0 then (mL_low (x3 >>> ((2 : Int32) &&& 31)) 10) else ((if (mL_low x3 3) = 1 then (1 + (mL_low (x3 >>> ((2 : Int32) &&& 31)) 9)) else (10 + (mL_low (x3 >>> ((2 : Int32) &&& 31)) 21))) : Int32)) : Int32)), (L_b σ.2), (L_t σ.2), (L_r σ.2))))) else (0, ((mX3_set σ.1 (mL_low x3 3) ((if (mL_low x3 3) = 0 then (mL_low (x3 >>> ((2 : Int32) &&& 31)) 10) else ((if (mL_low x3 3) = 1 then (1 + (mL_low (x3 >>> ((2 : Int32) &&& 31)) 9)) else (10 + (mL_low (x3 >>> ((2 : Int32) &&& 31)) 21))) : Int32)) : Int32)).2, ((upd (L_g σ.2) (2 + (mL_low x3 3)).toNatClampNeg ((if (mL_low x3 3) = 0 then (mL_low (x3 >>> ((2 : Int32) &&& 31)) 10) else ((if (mL_low x3 3) = 1 then (1 + (mL_low (x3 >>> ((2 : Int32) &&& 31)) 9)) else (10 + (mL_low (x3 >>> ((2 : Int32) &&& 31)) 21))) : Int32)) : Int32)), (L_b σ.2), (L_t σ.2), (L_r σ.2))))) else (mL_yard_J873 σ x2 x3))
set_option maxHeartbeats 4000000 in
set_option maxRecDepth 100000 in
theorem j_L_yard_743 {p : Program} {e : Env} {s : State} {m : MethodId} {args : Array Value} {below : List Frame} {meth : Method} {c : Code} (l : Launch) (g : WG) (ad : AV) (σ : VS) (x2 : Int32) (x3 : Int32) (h_vok : VOK σ) (h_hok : HOK (W_hist σ.1)) (c_1 : (3 ≤ (mL_low x2 9))) (c_2 : ¬ ((mL_low x2 9) = 3)) (c_3 : ¬ ((mL_low x2 9) = 4)) (c_4 : ¬ ((mL_low x2 9) = 5)) (hC : Cx p s m args meth c yL_yard cL_yard 12 (some .boolean)) (hK : va_K g.1 vwCl (tysW g) s) {A : Nat → Prop} {ws0 : va_W} (hE : Ex A s s.heap) (hA : ∀ q : Nat, s.heap.size ≤ q → A q) (hAe : A = va_A ws0 s.heap.size) (H : Heap) (locs : List Loc) (hP : va_P g.1 vwCl (cV g ad σ) H) (hD : va_D A (cV g ad σ)) (hS : va_S A s.heap H locs) {r : Int32 × VS} (hR : r = mL_yard_J743 σ x2 x3) (ls : Array Slot) (hl : lv_has ls 12 [(8, .int (mL_low x3 6)), (7, .int (mL_low x2 9)), (0, .ref ad.1.1), (1, .int x2), (2, .int x3), (3, .ref ad.2.1), (4, .ref ad.2.2.1), (5, .ref ad.2.2.2.1), (6, .ref ad.2.2.2.2)]) : W p l e (rk 7) s m args below meth c H locs 0 0 (MQ below (va_Qi (fun x _ => x = r.1) (Bw g ws0 (cV g ad r.2) s.heap.size) (va_A ws0 s.heap.size)) args s 0 0 (va_A ws0 s.heap.size)) (F0 m 743 ls []) := by
  obtain ⟨hx, hb, hml, hr, hown, hts, hlk, hnm⟩ := id hC
  refine lv_iload hx hb dL_yard_743 (lv_at hl 1 rfl) ?_
  refine lv_bipush (v := 6) hx hb dL_yard_745 (by decide) ?_
  refine lv_icmp_ne (tgt := 873) hx hb dL_yard_747 (by decide) (fun c_5 => ?_) (fun c_5 => ?_)
  · refine j_L_yard_873 l g ad σ x2 x3 h_vok h_hok c_1 c_2 c_3 c_4 c_5 hC hK hE hA hAe _ _ hP hD hS ?_ _ (lv_sub hl [0, 1, 2, 3, 4, 5, 6, 7, 8] rfl)
    exact by rw [hR, mL_yard_J743, if_neg c_5]
  · refine lv_iload_n hx hb dL_yard_750 rfl (lv_at hl 4 rfl) ?_
    refine lv_iconst (v := 3) hx hb dL_yard_751 (by decide) ?_
    refine callRs hC (k_L_low l g x3 3 (by first | decide | (split <;> decide))) ci_L_low lk_L_41 ⟨Nat.le_of_ble_eq_true rfl, Nat.le_of_ble_eq_true rfl⟩ hK (hE.S hS).none rfl hl.1 rfl (Nat.le_of_ble_eq_true rfl) dL_yard_752 ⟨Nat.zero_le _, Nat.zero_le _⟩ ?_
    refine lv_istore (lv' := [(9, .int (mL_low x3 3)), (8, .int (mL_low x3 6)), (7, .int (mL_low x2 9)), (0, .ref ad.1.1), (1, .int x2), (2, .int x3), (3, .ref ad.2.1), (4, .ref ad.2.2.1), (5, .ref ad.2.2.2.1), (6, .ref ad.2.2.2.2)]) hx hb dL_yard_755 hl (by decide) rfl (fun ls hl => ?_)
    refine lv_aload_n hx hb dL_yard_757 rfl (lv_at hl 6 rfl) ?_
    refine lv_iconst (v := 2) hx hb dL_yard_758 (by decide) ?_
    refine lv_iload hx hb dL_yard_759 (lv_at hl 0 rfl) ?_
    refine lv_iadd hx hb dL_yard_761 ?_
    refine lV_g hC hK hP (ix_c (z := 2) rfl (by decide) (in_low (n := 3) rfl (by decide)) (by decide) (by decide)) dL_yard_762 ?_
    refine lv_istore (lv' := [(10, .int ((L_g σ.2) (2 + (mL_low x3 3)).toNatClampNeg)), (9, .int (mL_low x3 3)), (8, .int (mL_low x3 6)), (7, .int (mL_low x2 9)), (0, .ref ad.1.1), (1, .int x2), (2, .int x3), (3, .ref ad.2.1), (4, .ref ad.2.2.1), (5, .ref ad.2.2.2.1), (6, .ref ad.2.2.2.2)]) hx hb dL_yard_763 hl (by decide) rfl (fun ls hl => ?_)
    refine lv_iload hx hb dL_yard_765 (lv_at hl 1 rfl) ?_
    refine dia (J := 811) (V := ((if (mL_low x3 3) = 0 then (mL_low (x3 >>> ((2 : Int32) &&& 31)) 10) else ((if (mL_low x3 3) = 1 then (1 + (mL_low (x3 >>> ((2 : Int32) &&& 31)) 9)) else (10 + (mL_low (x3 >>> ((2 : Int32) &&& 31)) 21))) : Int32)) : Int32)) (rest := []) (fun kk_17 => ?_) ?_
    · refine lv_if_ne (tgt := 781) hx hb dL_yard_767 (by decide) (fun c_18 => ?_) (fun c_18 => ?_)
      · refine lv_iload hx hb dL_yard_781 (lv_at hl 1 rfl) ?_
        refine lv_iconst (v := 1) hx hb dL_yard_783 (by decide) ?_
        refine dia (J := 811) (V := ((if (mL_low x3 3) = 1 then (1 + (mL_low (x3 >>> ((2 : Int32) &&& 31)) 9)) else (10 + (mL_low (x3 >>> ((2 : Int32) &&& 31)) 21))) : Int32)) (rest := []) (fun kk_20 => ?_) ?_
        · refine lv_icmp_ne (tgt := 800) hx hb dL_yard_784 (by decide) (fun c_21 => ?_) (fun c_21 => ?_)
          · refine lv_bipush (v := 10) hx hb dL_yard_800 (by decide) ?_
            refine lv_iload_n hx hb dL_yard_802 rfl (lv_at hl 6 rfl) ?_
            refine lv_iconst (v := 2) hx hb dL_yard_803 (by decide) ?_
            refine lv_ishr hx hb dL_yard_804 ?_
            refine lv_bipush (v := 21) hx hb dL_yard_805 (by decide) ?_
            refine callRs hC (k_L_low l g (x3 >>> ((2 : Int32) &&& 31)) 21 (by first | decide | (split <;> decide))) ci_L_low lk_L_41 ⟨Nat.le_of_ble_eq_true rfl, Nat.le_of_ble_eq_true rfl⟩ hK (hE.S hS).none rfl hl.1 rfl (Nat.le_of_ble_eq_true rfl) dL_yard_807 ⟨Nat.zero_le _, Nat.zero_le _⟩ ?_
            refine lv_iadd hx hb dL_yard_810 ?_
            exact kk_20 _ (if_neg c_21)
          · refine lv_iconst (v := 1) hx hb dL_yard_787 (by decide) ?_
            refine lv_iload_n hx hb dL_yard_788 rfl (lv_at hl 6 rfl) ?_
            refine lv_iconst (v := 2) hx hb dL_yard_789 (by decide) ?_
            refine lv_ishr hx hb dL_yard_790 ?_
            refine lv_bipush (v := 9) hx hb dL_yard_791 (by decide) ?_
            refine callRs hC (k_L_low l g (x3 >>> ((2 : Int32) &&& 31)) 9 (by first | decide | (split <;> decide))) ci_L_low lk_L_41 ⟨Nat.le_of_ble_eq_true rfl, Nat.le_of_ble_eq_true rfl⟩ hK (hE.S hS).none rfl hl.1 rfl (Nat.le_of_ble_eq_true rfl) dL_yard_793 ⟨Nat.zero_le _, Nat.zero_le _⟩ ?_
            refine lv_iadd hx hb dL_yard_796 ?_
            refine lv_goto (tgt := 811) hx hb dL_yard_797 (by decide) ?_
            exact kk_20 _ (if_pos c_21)
        exact kk_17 _ (if_neg c_18)
      · refine lv_iload_n hx hb dL_yard_770 rfl (lv_at hl 6 rfl) ?_
        refine lv_iconst (v := 2) hx hb dL_yard_771 (by decide) ?_
        refine lv_ishr hx hb dL_yard_772 ?_
        refine lv_bipush (v := 10) hx hb dL_yard_773 (by decide) ?_
        refine callRs hC (k_L_low l g (x3 >>> ((2 : Int32) &&& 31)) 10 (by first | decide | (split <;> decide))) ci_L_low lk_L_41 ⟨Nat.le_of_ble_eq_true rfl, Nat.le_of_ble_eq_true rfl⟩ hK (hE.S hS).none rfl hl.1 rfl (Nat.le_of_ble_eq_true rfl) dL_yard_775 ⟨Nat.zero_le _, Nat.zero_le _⟩ ?_
        refine lv_goto (tgt := 811) hx hb dL_yard_778 (by decide) ?_
        exact kk_17 _ (if_pos c_18)
    refine lv_istore (lv' := [(11, .int ((if (mL_low x3 3) = 0 then (mL_low (x3 >>> ((2 : Int32) &&& 31)) 10) else ((if (mL_low x3 3) = 1 then (1 + (mL_low (x3 >>> ((2 : Int32) &&& 31)) 9)) else (10 + (mL_low (x3 >>> ((2 : Int32) &&& 31)) 21))) : Int32)) : Int32)), (10, .int ((L_g σ.2) (2 + (mL_low x3 3)).toNatClampNeg)), (9, .int (mL_low x3 3)), (8, .int (mL_low x3 6)), (7, .int (mL_low x2 9)), (0, .ref ad.1.1), (1, .int x2), (2, .int x3), (3, .ref ad.2.1), (4, .ref ad.2.2.1), (5, .ref ad.2.2.2.1), (6, .ref ad.2.2.2.2)]) hx hb dL_yard_811 hl (by decide) rfl (fun ls hl => ?_)
    refine lv_aload_n hx hb dL_yard_813 rfl (lv_at hl 8 rfl) ?_
    refine lv_iconst (v := 2) hx hb dL_yard_814 (by decide) ?_
    refine lv_iload hx hb dL_yard_815 (lv_at hl 2 rfl) ?_
    refine lv_iadd hx hb dL_yard_817 ?_
    refine lv_iload hx hb dL_yard_818 (lv_at hl 0 rfl) ?_
    refine sV_g hC hK hP hD hS (ix_c (z := 2) rfl (by decide) (in_low (n := 3) rfl (by decide)) (by decide) (by decide)) dL_yard_820 (fun H locs hP hD hS => ?_)
    have hP : va_P g.1 vwCl (cV g ad (σ.1, ((upd (L_g σ.2) (2 + (mL_low x3 3)).toNatClampNeg ((if (mL_low x3 3) = 0 then (mL_low (x3 >>> ((2 : Int32) &&& 31)) 10) else ((if (mL_low x3 3) = 1 then (1 + (mL_low (x3 >>> ((2 : Int32) &&& 31)) 9)) else (10 + (mL_low (x3 >>> ((2 : Int32) &&& 31)) 21))) : Int32)) : Int32)), (L_b σ.2), (L_t σ.2), (L_r σ.2)))) H := hP
    have hD : va_D A (cV g ad (σ.1, ((upd (L_g σ.2) (2 + (mL_low x3 3)).toNatClampNeg ((if (mL_low x3 3) = 0 then (mL_low (x3 >>> ((2 : Int32) &&& 31)) 10) else ((if (mL_low x3 3) = 1 then (1 + (mL_low (x3 >>> ((2 : Int32) &&& 31)) 9)) else (10 + (mL_low (x3 >>> ((2 : Int32) &&& 31)) 21))) : Int32)) : Int32)), (L_b σ.2), (L_t σ.2), (L_r σ.2)))) := hD
    refine lv_aload_n hx hb dL_yard_821 rfl (lv_at hl 5 rfl) ?_
    refine lv_iload hx hb dL_yard_822 (lv_at hl 2 rfl) ?_
    refine lv_iload hx hb dL_yard_824 (lv_at hl 0 rfl) ?_
    refine callWrR hC (k_X3_set l g ad.1 σ.1 (mL_low x3 3) ((if (mL_low x3 3) = 0 then (mL_low (x3 >>> ((2 : Int32) &&& 31)) 10) else ((if (mL_low x3 3) = 1 then (1 + (mL_low (x3 >>> ((2 : Int32) &&& 31)) 9)) else (10 + (mL_low (x3 >>> ((2 : Int32) &&& 31)) 21))) : Int32)) : Int32) h_hok) ci_X3_set lk_L_60 ⟨Nat.le_of_ble_eq_true rfl, Nat.le_of_ble_eq_true rfl⟩ hP hD hK hE hS hA (q0 := 0) rfl rfl rfl rfl hl.1 rfl (Nat.le_of_ble_eq_true rfl) dL_yard_826 ⟨Nat.zero_le _, Nat.zero_le _⟩ (fun H locs hP hD hS => ?_)
    have hP : va_P g.1 vwCl (cV g ad ((mX3_set σ.1 (mL_low x3 3) ((if (mL_low x3 3) = 0 then (mL_low (x3 >>> ((2 : Int32) &&& 31)) 10) else ((if (mL_low x3 3) = 1 then (1 + (mL_low (x3 >>> ((2 : Int32) &&& 31)) 9)) else (10 + (mL_low (x3 >>> ((2 : Int32) &&& 31)) 21))) : Int32)) : Int32)).2, ((upd (L_g σ.2) (2 + (mL_low x3 3)).toNatClampNeg ((if (mL_low x3 3) = 0 then (mL_low (x3 >>> ((2 : Int32) &&& 31)) 10) else ((if (mL_low x3 3) = 1 then (1 + (mL_low (x3 >>> ((2 : Int32) &&& 31)) 9)) else (10 + (mL_low (x3 >>> ((2 : Int32) &&& 31)) 21))) : Int32)) : Int32)), (L_b σ.2), (L_t σ.2), (L_r σ.2)))) H := hP
    have hD : va_D A (cV g ad ((mX3_set σ.1 (mL_low x3 3) ((if (mL_low x3 3) = 0 then (mL_low (x3 >>> ((2 : Int32) &&& 31)) 10) else ((if (mL_low x3 3) = 1 then (1 + (mL_low (x3 >>> ((2 : Int32) &&& 31)) 9)) else (10 + (mL_low (x3 >>> ((2 : Int32) &&& 31)) 21))) : Int32)) : Int32)).2, ((upd (L_g σ.2) (2 + (mL_low x3 3)).toNatClampNeg ((if (mL_low x3 3) = 0 then (mL_low (x3 >>> ((2 : Int32) &&& 31)) 10) else ((if (mL_low x3 3) = 1 then (1 + (mL_low (x3 >>> ((2 : Int32) &&& 31)) 9)) else (10 + (mL_low (x3 >>> ((2 : Int32) &&& 31)) 21))) : Int32)) : Int32)), (L_b σ.2), (L_t σ.2), (L_r σ.2)))) := hD
    refine lv_iload hx hb dL_yard_829 (lv_at hl 0 rfl) ?_
    refine lv_iload hx hb dL_yard_831 (lv_at hl 1 rfl) ?_
    refine dia (J := 843) (V := ((if ((if (mL_low x3 3) = 0 then (mL_low (x3 >>> ((2 : Int32) &&& 31)) 10) else ((if (mL_low x3 3) = 1 then (1 + (mL_low (x3 >>> ((2 : Int32) &&& 31)) 9)) else (10 + (mL_low (x3 >>> ((2 : Int32) &&& 31)) 21))) : Int32)) : Int32) = ((L_g σ.2) (2 + (mL_low x3 3)).toNatClampNeg) then (-5) else ((L_g σ.2) (2 + (mL_low x3 3)).toNatClampNeg)) : Int32)) (rest := [.int (mX3_set σ.1 (mL_low x3 3) ((if (mL_low x3 3) = 0 then (mL_low (x3 >>> ((2 : Int32) &&& 31)) 10) else ((if (mL_low x3 3) = 1 then (1 + (mL_low (x3 >>> ((2 : Int32) &&& 31)) 9)) else (10 + (mL_low (x3 >>> ((2 : Int32) &&& 31)) 21))) : Int32)) : Int32)).1]) (fun kk_23 => ?_) ?_
    · refine lv_icmp_ne (tgt := 841) hx hb dL_yard_833 (by decide) (fun c_24 => ?_) (fun c_24 => ?_)
      · refine lv_iload hx hb dL_yard_841 (lv_at hl 1 rfl) ?_
        exact kk_23 _ (if_neg c_24)
      · refine lv_bipush (v := (-5)) hx hb dL_yard_836 (by decide) ?_
        refine lv_goto (tgt := 843) hx hb dL_yard_838 (by decide) ?_
        exact kk_23 _ (if_pos c_24)
    refine lv_icmp_ne (tgt := 871) hx hb dL_yard_843 (by decide) (fun c_25 => ?_) (fun c_25 => ?_)
    · refine lv_iconst (v := 0) hx hb dL_yard_871 (by decide) ?_
      have hm : r = (0, ((mX3_set σ.1 (mL_low x3 3) ((if (mL_low x3 3) = 0 then (mL_low (x3 >>> ((2 : Int32) &&& 31)) 10) else ((if (mL_low x3 3) = 1 then (1 + (mL_low (x3 >>> ((2 : Int32) &&& 31)) 9)) else (10 + (mL_low (x3 >>> ((2 : Int32) &&& 31)) 21))) : Int32)) : Int32)).2, ((upd (L_g σ.2) (2 + (mL_low x3 3)).toNatClampNeg ((if (mL_low x3 3) = 0 then (mL_low (x3 >>> ((2 : Int32) &&& 31)) 10) else ((if (mL_low x3 3) = 1 then (1 + (mL_low (x3 >>> ((2 : Int32) &&& 31)) 9)) else (10 + (mL_low (x3 >>> ((2 : Int32) &&& 31)) 21))) : Int32)) : Int32)), (L_b σ.2), (L_t σ.2), (L_r σ.2)))) := by rw [hR, mL_yard_J743, if_pos c_5, if_neg c_25]
      exact wr_zret hC hP (hAe ▸ hD) (hAe ▸ hS) dL_yard_872 rfl (by rw [hm]) (by rw [hm])
    · refine lv_aload_n hx hb dL_yard_846 rfl (lv_at hl 5 rfl) ?_
      refine lv_iconst (v := 3) hx hb dL_yard_847 (by decide) ?_
      refine lv_iconst (v := 0) hx hb dL_yard_848 (by decide) ?_
      refine callWrR hC (k_X3_set l g ad.1 (mX3_set σ.1 (mL_low x3 3) ((if (mL_low x3 3) = 0 then (mL_low (x3 >>> ((2 : Int32) &&& 31)) 10) else ((if (mL_low x3 3) = 1 then (1 + (mL_low (x3 >>> ((2 : Int32) &&& 31)) 9)) else (10 + (mL_low (x3 >>> ((2 : Int32) &&& 31)) 21))) : Int32)) : Int32)).2 3 0 (hok_set h_hok)) ci_X3_set lk_L_60 ⟨Nat.le_of_ble_eq_true rfl, Nat.le_of_ble_eq_true rfl⟩ hP hD hK hE hS hA (q0 := 0) rfl rfl rfl rfl hl.1 rfl (Nat.le_of_ble_eq_true rfl) dL_yard_849 ⟨Nat.zero_le _, Nat.zero_le _⟩ (fun H locs hP hD hS => ?_)
      have hP : va_P g.1 vwCl (cV g ad ((mX3_set (mX3_set σ.1 (mL_low x3 3) ((if (mL_low x3 3) = 0 then (mL_low (x3 >>> ((2 : Int32) &&& 31)) 10) else ((if (mL_low x3 3) = 1 then (1 + (mL_low (x3 >>> ((2 : Int32) &&& 31)) 9)) else (10 + (mL_low (x3 >>> ((2 : Int32) &&& 31)) 21))) : Int32)) : Int32)).2 3 0).2, ((upd (L_g σ.2) (2 + (mL_low x3 3)).toNatClampNeg ((if (mL_low x3 3) = 0 then (mL_low (x3 >>> ((2 : Int32) &&& 31)) 10) else ((if (mL_low x3 3) = 1 then (1 + (mL_low (x3 >>> ((2 : Int32) &&& 31)) 9)) else (10 + (mL_low (x3 >>> ((2 : Int32) &&& 31)) 21))) : Int32)) : Int32)), (L_b σ.2), (L_t σ.2), (L_r σ.2)))) H := hP
      have hD : va_D A (cV g ad ((mX3_set (mX3_set σ.1 (mL_low x3 3) ((if (mL_low x3 3) = 0 then (mL_low (x3 >>> ((2 : Int32) &&& 31)) 10) else ((if (mL_low x3 3) = 1 then (1 + (mL_low (x3 >>> ((2 : Int32) &&& 31)) 9)) else (10 + (mL_low (x3 >>> ((2 : Int32) &&& 31)) 21))) : Int32)) : Int32)).2 3 0).2, ((upd (L_g σ.2) (2 + (mL_low x3 3)).toNatClampNeg ((if (mL_low x3 3) = 0 then (mL_low (x3 >>> ((2 : Int32) &&& 31)) 10) else ((if (mL_low x3 3) = 1 then (1 + (mL_low (x3 >>> ((2 : Int32) &&& 31)) 9)) else (10 + (mL_low (x3 >>> ((2 : Int32) &&& 31)) 21))) : Int32)) : Int32)), (L_b σ.2), (L_t σ.2), (L_r σ.2)))) := hD
      refine lv_iconst (v := (-1)) hx hb dL_yard_852 (by decide) ?_
      refine lv_icmp_ne (tgt := 871) hx hb dL_yard_853 (by decide) (fun c_26 => ?_) (fun c_26 => ?_)
      · refine lv_iconst (v := 0) hx hb dL_yard_871 (by decide) ?_
        have hm : r = (0, ((mX3_set (mX3_set σ.1 (mL_low x3 3) ((if (mL_low x3 3) = 0 then (mL_low (x3 >>> ((2 : Int32) &&& 31)) 10) else ((if (mL_low x3 3) = 1 then (1 + (mL_low (x3 >>> ((2 : Int32) &&& 31)) 9)) else (10 + (mL_low (x3 >>> ((2 : Int32) &&& 31)) 21))) : Int32)) : Int32)).2 3 0).2, ((upd (L_g σ.2) (2 + (mL_low x3 3)).toNatClampNeg ((if (mL_low x3 3) = 0 then (mL_low (x3 >>> ((2 : Int32) &&& 31)) 10) else ((if (mL_low x3 3) = 1 then (1 + (mL_low (x3 >>> ((2 : Int32) &&& 31)) 9)) else (10 + (mL_low (x3 >>> ((2 : Int32) &&& 31)) 21))) : Int32)) : Int32)), (L_b σ.2), (L_t σ.2), (L_r σ.2)))) := by rw [hR, mL_yard_J743, if_pos c_5, if_pos c_25, if_neg c_26]
        exact wr_zret hC hP (hAe ▸ hD) (hAe ▸ hS) dL_yard_872 rfl (by rw [hm]) (by rw [hm])
      · refine lv_aload_n hx hb dL_yard_856 rfl (lv_at hl 5 rfl) ?_
        refine lv_iconst (v := 1) hx hb dL_yard_857 (by decide) ?_
        refine lv_iconst (v := 0) hx hb dL_yard_858 (by decide) ?_
        refine callWrR hC (k_X3_set l g ad.1 (mX3_set (mX3_set σ.1 (mL_low x3 3) ((if (mL_low x3 3) = 0 then (mL_low (x3 >>> ((2 : Int32) &&& 31)) 10) else ((if (mL_low x3 3) = 1 then (1 + (mL_low (x3 >>> ((2 : Int32) &&& 31)) 9)) else (10 + (mL_low (x3 >>> ((2 : Int32) &&& 31)) 21))) : Int32)) : Int32)).2 3 0).2 1 0 (hok_set (hok_set h_hok))) ci_X3_set lk_L_60 ⟨Nat.le_of_ble_eq_true rfl, Nat.le_of_ble_eq_true rfl⟩ hP hD hK hE hS hA (q0 := 0) rfl rfl rfl rfl hl.1 rfl (Nat.le_of_ble_eq_true rfl) dL_yard_859 ⟨Nat.zero_le _, Nat.zero_le _⟩ (fun H locs hP hD hS => ?_)
        have hP : va_P g.1 vwCl (cV g ad ((mX3_set (mX3_set (mX3_set σ.1 (mL_low x3 3) ((if (mL_low x3 3) = 0 then (mL_low (x3 >>> ((2 : Int32) &&& 31)) 10) else ((if (mL_low x3 3) = 1 then (1 + (mL_low (x3 >>> ((2 : Int32) &&& 31)) 9)) else (10 + (mL_low (x3 >>> ((2 : Int32) &&& 31)) 21))) : Int32)) : Int32)).2 3 0).2 1 0).2, ((upd (L_g σ.2) (2 + (mL_low x3 3)).toNatClampNeg ((if (mL_low x3 3) = 0 then (mL_low (x3 >>> ((2 : Int32) &&& 31)) 10) else ((if (mL_low x3 3) = 1 then (1 + (mL_low (x3 >>> ((2 : Int32) &&& 31)) 9)) else (10 + (mL_low (x3 >>> ((2 : Int32) &&& 31)) 21))) : Int32)) : Int32)), (L_b σ.2), (L_t σ.2), (L_r σ.2)))) H := hP
        have hD : va_D A (cV g ad ((mX3_set (mX3_set (mX3_set σ.1 (mL_low x3 3) ((if (mL_low x3 3) = 0 then (mL_low (x3 >>> ((2 : Int32) &&& 31)) 10) else ((if (mL_low x3 3) = 1 then (1 + (mL_low (x3 >>> ((2 : Int32) &&& 31)) 9)) else (10 + (mL_low (x3 >>> ((2 : Int32) &&& 31)) 21))) : Int32)) : Int32)).2 3 0).2 1 0).2, ((upd (L_g σ.2) (2 + (mL_low x3 3)).toNatClampNeg ((if (mL_low x3 3) = 0 then (mL_low (x3 >>> ((2 : Int32) &&& 31)) 10) else ((if (mL_low x3 3) = 1 then (1 + (mL_low (x3 >>> ((2 : Int32) &&& 31)) 9)) else (10 + (mL_low (x3 >>> ((2 : Int32) &&& 31)) 21))) : Int32)) : Int32)), (L_b σ.2), (L_t σ.2), (L_r σ.2)))) := hD
        refine lv_bipush (v := (-2)) hx hb dL_yard_862 (by decide) ?_
        refine lv_icmp_ne (tgt := 871) hx hb dL_yard_864 (by decide) (fun c_27 => ?_) (fun c_27 => ?_)
        · refine lv_iconst (v := 0) hx hb dL_yard_871 (by decide) ?_
          have hm : r = (0, ((mX3_set (mX3_set (mX3_set σ.1 (mL_low x3 3) ((if (mL_low x3 3) = 0 then (mL_low (x3 >>> ((2 : Int32) &&& 31)) 10) else ((if (mL_low x3 3) = 1 then (1 + (mL_low (x3 >>> ((2 : Int32) &&& 31)) 9)) else (10 + (mL_low (x3 >>> ((2 : Int32) &&& 31)) 21))) : Int32)) : Int32)).2 3 0).2 1 0).2, ((upd (L_g σ.2) (2 + (mL_low x3 3)).toNatClampNeg ((if (mL_low x3 3) = 0 then (mL_low (x3 >>> ((2 : Int32) &&& 31)) 10) else ((if (mL_low x3 3) = 1 then (1 + (mL_low (x3 >>> ((2 : Int32) &&& 31)) 9)) else (10 + (mL_low (x3 >>> ((2 : Int32) &&& 31)) 21))) : Int32)) : Int32)), (L_b σ.2), (L_t σ.2), (L_r σ.2)))) := by rw [hR, mL_yard_J743, if_pos c_5, if_pos c_25, if_pos c_26, if_neg c_27]
          exact wr_zret hC hP (hAe ▸ hD) (hAe ▸ hS) dL_yard_872 rfl (by rw [hm]) (by rw [hm])
        · refine lv_iconst (v := 1) hx hb dL_yard_867 (by decide) ?_
          refine lv_goto (tgt := 872) hx hb dL_yard_868 (by decide) ?_
          have hm : r = (1, ((mX3_set (mX3_set (mX3_set σ.1 (mL_low x3 3) ((if (mL_low x3 3) = 0 then (mL_low (x3 >>> ((2 : Int32) &&& 31)) 10) else ((if (mL_low x3 3) = 1 then (1 + (mL_low (x3 >>> ((2 : Int32) &&& 31)) 9)) else (10 + (mL_low (x3 >>> ((2 : Int32) &&& 31)) 21))) : Int32)) : Int32)).2 3 0).2 1 0).2, ((upd (L_g σ.2) (2 + (mL_low x3 3)).toNatClampNeg ((if (mL_low x3 3) = 0 then (mL_low (x3 >>> ((2 : Int32) &&& 31)) 10) else ((if (mL_low x3 3) = 1 then (1 + (mL_low (x3 >>> ((2 : Int32) &&& 31)) 9)) else (10 + (mL_low (x3 >>> ((2 : Int32) &&& 31)) 21))) : Int32)) : Int32)), (L_b σ.2), (L_t σ.2), (L_r σ.2)))) := by rw [hR, mL_yard_J743, if_pos c_5, if_pos c_25, if_pos c_26, if_pos c_27]
          exact wr_zret hC hP (hAe ▸ hD) (hAe ▸ hS) dL_yard_872 rfl (by rw [hm]) (by rw [hm])
def mL_yard_J607 (σ : VS) (x2 : Int32) (x3 : Int32) : Int32 × VS := (if (mL_low x2 9) = 5 then (if 0 ≤ (((mL_room σ.2 (mL_low x3 4)) - ((L_g σ.2) (10 + (mL_low x3 4)).toNatClampNeg)) + (10 + (mL_low (x3 >>> ((2 : Int32) &&& 31)) 51))) then (if (mX3_setRow σ.1 (mL_low x3 4) (10 + (mL_low (x3 >>> ((2 : Int32) &&& 31)) 51))).1 = ((if (10 + (mL_low (x3 >>> ((2 : Int32) &&& 31)) 51)) = ((L_g σ.2) (10 + (mL_low x3 4)).toNatClampNeg) then (-5) else ((L_g σ.2) (10 + (mL_low x3 4)).toNatClampNeg)) : Int32) then (if (mX3_setRow (mX3_setRow σ.1 (mL_low x3 4) (10 + (mL_low (x3 >>> ((2 : Int32) &&& 31)) 51))).2 4 9).1 = (-1) then (if (mX3_setRow (mX3_setRow (mX3_setRow σ.1 (mL_low x3 4) (10 + (mL_low (x3 >>> ((2 : Int32) &&& 31)) 51))).2 4 9).2 3 9).1 = (-2) then (1, ((mX3_setRow (mX3_setRow (mX3_setRow σ.1 (mL_low x3 4) (10 + (mL_low (x3 >>> ((2 : Int32) &&& 31)) 51))).2 4 9).2 3 9).2, ((upd (L_g σ.2) (10 + (mL_low x3 4)).toNatClampNeg (10 + (mL_low (x3 >>> ((2 : Int32) &&& 31)) 51))), (L_b σ.2), (L_t σ.2), (L_r σ.2)))) else (0, ((mX3_setRow (mX3_setRow (mX3_setRow σ.1 (mL_low x3 4) (10 + (mL_low (x3 >>> ((2 : Int32) &&& 31)) 51))).2 4 9).2 3 9).2, ((upd (L_g σ.2) (10 + (mL_low x3 4)).toNatClampNeg (10 + (mL_low (x3 >>> ((2 : Int32) &&& 31)) 51))), (L_b σ.2), (L_t σ.2), (L_r σ.2))))) else (0, ((mX3_setRow (mX3_setRow σ.1 (mL_low x3 4) (10 + (mL_low (x3 >>> ((2 : Int32) &&& 31)) 51))).2 4 9).2, ((upd (L_g σ.2) (10 + (mL_low x3 4)).toNatClampNeg (10 + (mL_low (x3 >>> ((2 : Int32) &&& 31)) 51))), (L_b σ.2), (L_t σ.2), (L_r σ.2))))) else (0, ((mX3_setRow σ.1 (mL_low x3 4) (10 + (mL_low (x3 >>> ((2 : Int32) &&& 31)) 51))).2, ((upd (L_g σ.2) (10 + (mL_low x3 4)).toNatClampNeg (10 + (mL_low (x3 >>> ((2 : Int32) &&& 31)) 51))), (L_b σ.2), (L_t σ.2), (L_r σ.2))))) else (if (mX3_setRow σ.1 (mL_low x3 4) (10 + (mL_low (x3 >>> ((2 : Int32) &&& 31)) 51))).1 = (-4) then (1, ((mX3_setRow σ.1 (mL_low x3 4) (10 + (mL_low (x3 >>> ((2 : Int32) &&& 31)) 51))).2, σ.2)) else (0, ((mX3_setRow σ.1 (mL_low x3 4) (10 + (mL_low (x3 >>> ((2 : Int32) &&& 31)) 51))).2, σ.2)))) else (mL_yard_J743 σ x2 x3))
set_option maxHeartbeats 4000000 in
set_option maxRecDepth 100000 in
theorem j_L_yard_607 {p : Program} {e : Env} {s : State} {m : MethodId} {args : Array Value} {below : List Frame} {meth : Method} {c : Code} (l : Launch) (g : WG) (ad : AV) (σ : VS) (x2 : Int32) (x3 : Int32) (h_vok : VOK σ) (h_hok : HOK (W_hist σ.1)) (c_1 : (3 ≤ (mL_low x2 9))) (c_2 : ¬ ((mL_low x2 9) = 3)) (c_3 : ¬ ((mL_low x2 9) = 4)) (hC : Cx p s m args meth c yL_yard cL_yard 12 (some .boolean)) (hK : va_K g.1 vwCl (tysW g) s) {A : Nat → Prop} {ws0 : va_W} (hE : Ex A s s.heap) (hA : ∀ q : Nat, s.heap.size ≤ q → A q) (hAe : A = va_A ws0 s.heap.size) (H : Heap) (locs : List Loc) (hP : va_P g.1 vwCl (cV g ad σ) H) (hD : va_D A (cV g ad σ)) (hS : va_S A s.heap H locs) {r : Int32 × VS} (hR : r = mL_yard_J607 σ x2 x3) (ls : Array Slot) (hl : lv_has ls 12 [(8, .int (mL_low x3 6)), (7, .int (mL_low x2 9)), (0, .ref ad.1.1), (1, .int x2), (2, .int x3), (3, .ref ad.2.1), (4, .ref ad.2.2.1), (5, .ref ad.2.2.2.1), (6, .ref ad.2.2.2.2)]) : W p l e (rk 7) s m args below meth c H locs 0 0 (MQ below (va_Qi (fun x _ => x = r.1) (Bw g ws0 (cV g ad r.2) s.heap.size) (va_A ws0 s.heap.size)) args s 0 0 (va_A ws0 s.heap.size)) (F0 m 607 ls []) := by
  obtain ⟨hx, hb, hml, hr, hown, hts, hlk, hnm⟩ := id hC
  refine lv_iload hx hb dL_yard_607 (lv_at hl 1 rfl) ?_
  refine lv_iconst (v := 5) hx hb dL_yard_609 (by decide) ?_
  refine lv_icmp_ne (tgt := 743) hx hb dL_yard_610 (by decide) (fun c_4 => ?_) (fun c_4 => ?_)
  · refine j_L_yard_743 l g ad σ x2 x3 h_vok h_hok c_1 c_2 c_3 c_4 hC hK hE hA hAe _ _ hP hD hS ?_ _ (lv_sub hl [0, 1, 2, 3, 4, 5, 6, 7, 8] rfl)
    exact by rw [hR, mL_yard_J607, if_neg c_4]
  · refine lv_iload_n hx hb dL_yard_613 rfl (lv_at hl 4 rfl) ?_
    refine lv_iconst (v := 4) hx hb dL_yard_614 (by decide) ?_
    refine callRs hC (k_L_low l g x3 4 (by first | decide | (split <;> decide))) ci_L_low lk_L_41 ⟨Nat.le_of_ble_eq_true rfl, Nat.le_of_ble_eq_true rfl⟩ hK (hE.S hS).none rfl hl.1 rfl (Nat.le_of_ble_eq_true rfl) dL_yard_615 ⟨Nat.zero_le _, Nat.zero_le _⟩ ?_
    refine lv_istore (lv' := [(9, .int (mL_low x3 4)), (8, .int (mL_low x3 6)), (7, .int (mL_low x2 9)), (0, .ref ad.1.1), (1, .int x2), (2, .int x3), (3, .ref ad.2.1), (4, .ref ad.2.2.1), (5, .ref ad.2.2.2.1), (6, .ref ad.2.2.2.2)]) hx hb dL_yard_618 hl (by decide) rfl (fun ls hl => ?_)
    refine lv_bipush (v := 10) hx hb dL_yard_620 (by decide) ?_
    refine lv_iload_n hx hb dL_yard_622 rfl (lv_at hl 5 rfl) ?_
    refine lv_iconst (v := 2) hx hb dL_yard_623 (by decide) ?_
    refine lv_ishr hx hb dL_yard_624 ?_
    refine lv_bipush (v := 51) hx hb dL_yard_625 (by decide) ?_
    refine callRs hC (k_L_low l g (x3 >>> ((2 : Int32) &&& 31)) 51 (by first | decide | (split <;> decide))) ci_L_low lk_L_41 ⟨Nat.le_of_ble_eq_true rfl, Nat.le_of_ble_eq_true rfl⟩ hK (hE.S hS).none rfl hl.1 rfl (Nat.le_of_ble_eq_true rfl) dL_yard_627 ⟨Nat.zero_le _, Nat.zero_le _⟩ ?_
    refine lv_iadd hx hb dL_yard_630 ?_
    refine lv_istore (lv' := [(10, .int (10 + (mL_low (x3 >>> ((2 : Int32) &&& 31)) 51))), (9, .int (mL_low x3 4)), (8, .int (mL_low x3 6)), (7, .int (mL_low x2 9)), (0, .ref ad.1.1), (1, .int x2), (2, .int x3), (3, .ref ad.2.1), (4, .ref ad.2.2.1), (5, .ref ad.2.2.2.1), (6, .ref ad.2.2.2.2)]) hx hb dL_yard_631 hl (by decide) rfl (fun ls hl => ?_)
    refine lv_aload_n hx hb dL_yard_633 rfl (lv_at hl 7 rfl) ?_
    refine lv_bipush (v := 10) hx hb dL_yard_634 (by decide) ?_
    refine lv_iload hx hb dL_yard_636 (lv_at hl 1 rfl) ?_
    refine lv_iadd hx hb dL_yard_638 ?_
    refine lV_g hC hK hP (ix_c (z := 10) rfl (by decide) (in_low (n := 4) rfl (by decide)) (by decide) (by decide)) dL_yard_639 ?_
    refine lv_istore (lv' := [(11, .int ((L_g σ.2) (10 + (mL_low x3 4)).toNatClampNeg)), (10, .int (10 + (mL_low (x3 >>> ((2 : Int32) &&& 31)) 51))), (9, .int (mL_low x3 4)), (8, .int (mL_low x3 6)), (7, .int (mL_low x2 9)), (0, .ref ad.1.1), (1, .int x2), (2, .int x3), (3, .ref ad.2.1), (4, .ref ad.2.2.1), (5, .ref ad.2.2.2.1), (6, .ref ad.2.2.2.2)]) hx hb dL_yard_640 hl (by decide) rfl (fun ls hl => ?_)
    refine lv_iload hx hb dL_yard_642 (lv_at hl 2 rfl) ?_
    refine lv_aload_n hx hb dL_yard_644 rfl (lv_at hl 8 rfl) ?_
    refine lv_aload hx hb dL_yard_645 (lv_at hl 9 rfl) ?_
    refine lv_aload hx hb dL_yard_647 (lv_at hl 11 rfl) ?_
    refine callSd hC (k_L_room l g ad.2 σ.2 (mL_low x3 4) (in_low (n := 4) rfl (by decide)) h_vok.2.2.1) ci_L_room lk_L_30 ⟨Nat.le_of_ble_eq_true rfl, Nat.le_of_ble_eq_true rfl⟩ (P_left hP) hK (hE.S hS).none rfl hl.1 rfl (Nat.le_of_ble_eq_true rfl) dL_yard_649 ⟨Nat.zero_le _, Nat.zero_le _⟩ ?_
    refine lv_iload hx hb dL_yard_652 (lv_at hl 0 rfl) ?_
    refine lv_isub hx hb dL_yard_654 ?_
    refine lv_iload hx hb dL_yard_655 (lv_at hl 1 rfl) ?_
    refine lv_iadd hx hb dL_yard_657 ?_
    refine lv_if_ge (tgt := 680) hx hb dL_yard_658 (by decide) (fun c_28 => ?_) (fun c_28 => ?_)
    · refine lv_aload_n hx hb dL_yard_680 rfl (lv_at hl 8 rfl) ?_
      refine lv_bipush (v := 10) hx hb dL_yard_681 (by decide) ?_
      refine lv_iload hx hb dL_yard_683 (lv_at hl 2 rfl) ?_
      refine lv_iadd hx hb dL_yard_685 ?_
      refine lv_iload hx hb dL_yard_686 (lv_at hl 1 rfl) ?_
      refine sV_g hC hK hP hD hS (ix_c (z := 10) rfl (by decide) (in_low (n := 4) rfl (by decide)) (by decide) (by decide)) dL_yard_688 (fun H locs hP hD hS => ?_)
      have hP : va_P g.1 vwCl (cV g ad (σ.1, ((upd (L_g σ.2) (10 + (mL_low x3 4)).toNatClampNeg (10 + (mL_low (x3 >>> ((2 : Int32) &&& 31)) 51))), (L_b σ.2), (L_t σ.2), (L_r σ.2)))) H := hP
      have hD : va_D A (cV g ad (σ.1, ((upd (L_g σ.2) (10 + (mL_low x3 4)).toNatClampNeg (10 + (mL_low (x3 >>> ((2 : Int32) &&& 31)) 51))), (L_b σ.2), (L_t σ.2), (L_r σ.2)))) := hD
      refine lv_aload_n hx hb dL_yard_689 rfl (lv_at hl 5 rfl) ?_
      refine lv_iload hx hb dL_yard_690 (lv_at hl 2 rfl) ?_
      refine lv_iload hx hb dL_yard_692 (lv_at hl 1 rfl) ?_
      refine callWrR hC (k_X3_setRow l g ad.1 σ.1 (mL_low x3 4) (10 + (mL_low (x3 >>> ((2 : Int32) &&& 31)) 51)) h_hok) ci_X3_setRow lk_L_57 ⟨Nat.le_of_ble_eq_true rfl, Nat.le_of_ble_eq_true rfl⟩ hP hD hK hE hS hA (q0 := 0) rfl rfl rfl rfl hl.1 rfl (Nat.le_of_ble_eq_true rfl) dL_yard_694 ⟨Nat.zero_le _, Nat.zero_le _⟩ (fun H locs hP hD hS => ?_)
      have hP : va_P g.1 vwCl (cV g ad ((mX3_setRow σ.1 (mL_low x3 4) (10 + (mL_low (x3 >>> ((2 : Int32) &&& 31)) 51))).2, ((upd (L_g σ.2) (10 + (mL_low x3 4)).toNatClampNeg (10 + (mL_low (x3 >>> ((2 : Int32) &&& 31)) 51))), (L_b σ.2), (L_t σ.2), (L_r σ.2)))) H := hP
      have hD : va_D A (cV g ad ((mX3_setRow σ.1 (mL_low x3 4) (10 + (mL_low (x3 >>> ((2 : Int32) &&& 31)) 51))).2, ((upd (L_g σ.2) (10 + (mL_low x3 4)).toNatClampNeg (10 + (mL_low (x3 >>> ((2 : Int32) &&& 31)) 51))), (L_b σ.2), (L_t σ.2), (L_r σ.2)))) := hD
      refine lv_iload hx hb dL_yard_697 (lv_at hl 1 rfl) ?_
      refine lv_iload hx hb dL_yard_699 (lv_at hl 0 rfl) ?_
      refine dia (J := 711) (V := ((if (10 + (mL_low (x3 >>> ((2 : Int32) &&& 31)) 51)) = ((L_g σ.2) (10 + (mL_low x3 4)).toNatClampNeg) then (-5) else ((L_g σ.2) (10 + (mL_low x3 4)).toNatClampNeg)) : Int32)) (rest := [.int (mX3_setRow σ.1 (mL_low x3 4) (10 + (mL_low (x3 >>> ((2 : Int32) &&& 31)) 51))).1]) (fun kk_30 => ?_) ?_
      · refine lv_icmp_ne (tgt := 709) hx hb dL_yard_701 (by decide) (fun c_31 => ?_) (fun c_31 => ?_)
        · refine lv_iload hx hb dL_yard_709 (lv_at hl 0 rfl) ?_
          exact kk_30 _ (if_neg c_31)
        · refine lv_bipush (v := (-5)) hx hb dL_yard_704 (by decide) ?_
          refine lv_goto (tgt := 711) hx hb dL_yard_706 (by decide) ?_
          exact kk_30 _ (if_pos c_31)
      refine lv_icmp_ne (tgt := 741) hx hb dL_yard_711 (by decide) (fun c_32 => ?_) (fun c_32 => ?_)
      · refine lv_iconst (v := 0) hx hb dL_yard_741 (by decide) ?_
        have hm : r = (0, ((mX3_setRow σ.1 (mL_low x3 4) (10 + (mL_low (x3 >>> ((2 : Int32) &&& 31)) 51))).2, ((upd (L_g σ.2) (10 + (mL_low x3 4)).toNatClampNeg (10 + (mL_low (x3 >>> ((2 : Int32) &&& 31)) 51))), (L_b σ.2), (L_t σ.2), (L_r σ.2)))) := by rw [hR, mL_yard_J607, if_pos c_4, if_pos c_28, if_neg c_32]
        exact wr_zret hC hP (hAe ▸ hD) (hAe ▸ hS) dL_yard_742 rfl (by rw [hm]) (by rw [hm])
      · refine lv_aload_n hx hb dL_yard_714 rfl (lv_at hl 5 rfl) ?_
        refine lv_iconst (v := 4) hx hb dL_yard_715 (by decide) ?_
        refine lv_bipush (v := 9) hx hb dL_yard_716 (by decide) ?_
        refine callWrR hC (k_X3_setRow l g ad.1 (mX3_setRow σ.1 (mL_low x3 4) (10 + (mL_low (x3 >>> ((2 : Int32) &&& 31)) 51))).2 4 9 (hok_setRow h_hok)) ci_X3_setRow lk_L_57 ⟨Nat.le_of_ble_eq_true rfl, Nat.le_of_ble_eq_true rfl⟩ hP hD hK hE hS hA (q0 := 0) rfl rfl rfl rfl hl.1 rfl (Nat.le_of_ble_eq_true rfl) dL_yard_718 ⟨Nat.zero_le _, Nat.zero_le _⟩ (fun H locs hP hD hS => ?_)
        have hP : va_P g.1 vwCl (cV g ad ((mX3_setRow (mX3_setRow σ.1 (mL_low x3 4) (10 + (mL_low (x3 >>> ((2 : Int32) &&& 31)) 51))).2 4 9).2, ((upd (L_g σ.2) (10 + (mL_low x3 4)).toNatClampNeg (10 + (mL_low (x3 >>> ((2 : Int32) &&& 31)) 51))), (L_b σ.2), (L_t σ.2), (L_r σ.2)))) H := hP
        have hD : va_D A (cV g ad ((mX3_setRow (mX3_setRow σ.1 (mL_low x3 4) (10 + (mL_low (x3 >>> ((2 : Int32) &&& 31)) 51))).2 4 9).2, ((upd (L_g σ.2) (10 + (mL_low x3 4)).toNatClampNeg (10 + (mL_low (x3 >>> ((2 : Int32) &&& 31)) 51))), (L_b σ.2), (L_t σ.2), (L_r σ.2)))) := hD
        refine lv_iconst (v := (-1)) hx hb dL_yard_721 (by decide) ?_
        refine lv_icmp_ne (tgt := 741) hx hb dL_yard_722 (by decide) (fun c_33 => ?_) (fun c_33 => ?_)
        · refine lv_iconst (v := 0) hx hb dL_yard_741 (by decide) ?_
          have hm : r = (0, ((mX3_setRow (mX3_setRow σ.1 (mL_low x3 4) (10 + (mL_low (x3 >>> ((2 : Int32) &&& 31)) 51))).2 4 9).2, ((upd (L_g σ.2) (10 + (mL_low x3 4)).toNatClampNeg (10 + (mL_low (x3 >>> ((2 : Int32) &&& 31)) 51))), (L_b σ.2), (L_t σ.2), (L_r σ.2)))) := by rw [hR, mL_yard_J607, if_pos c_4, if_pos c_28, if_pos c_32, if_neg c_33]
          exact wr_zret hC hP (hAe ▸ hD) (hAe ▸ hS) dL_yard_742 rfl (by rw [hm]) (by rw [hm])
        · refine lv_aload_n hx hb dL_yard_725 rfl (lv_at hl 5 rfl) ?_
          refine lv_iconst (v := 3) hx hb dL_yard_726 (by decide) ?_
          refine lv_bipush (v := 9) hx hb dL_yard_727 (by decide) ?_
          refine callWrR hC (k_X3_setRow l g ad.1 (mX3_setRow (mX3_setRow σ.1 (mL_low x3 4) (10 + (mL_low (x3 >>> ((2 : Int32) &&& 31)) 51))).2 4 9).2 3 9 (hok_setRow (hok_setRow h_hok))) ci_X3_setRow lk_L_57 ⟨Nat.le_of_ble_eq_true rfl, Nat.le_of_ble_eq_true rfl⟩ hP hD hK hE hS hA (q0 := 0) rfl rfl rfl rfl hl.1 rfl (Nat.le_of_ble_eq_true rfl) dL_yard_729 ⟨Nat.zero_le _, Nat.zero_le _⟩ (fun H locs hP hD hS => ?_)
          have hP : va_P g.1 vwCl (cV g ad ((mX3_setRow (mX3_setRow (mX3_setRow σ.1 (mL_low x3 4) (10 + (mL_low (x3 >>> ((2 : Int32) &&& 31)) 51))).2 4 9).2 3 9).2, ((upd (L_g σ.2) (10 + (mL_low x3 4)).toNatClampNeg (10 + (mL_low (x3 >>> ((2 : Int32) &&& 31)) 51))), (L_b σ.2), (L_t σ.2), (L_r σ.2)))) H := hP
          have hD : va_D A (cV g ad ((mX3_setRow (mX3_setRow (mX3_setRow σ.1 (mL_low x3 4) (10 + (mL_low (x3 >>> ((2 : Int32) &&& 31)) 51))).2 4 9).2 3 9).2, ((upd (L_g σ.2) (10 + (mL_low x3 4)).toNatClampNeg (10 + (mL_low (x3 >>> ((2 : Int32) &&& 31)) 51))), (L_b σ.2), (L_t σ.2), (L_r σ.2)))) := hD
          refine lv_bipush (v := (-2)) hx hb dL_yard_732 (by decide) ?_
          refine lv_icmp_ne (tgt := 741) hx hb dL_yard_734 (by decide) (fun c_34 => ?_) (fun c_34 => ?_)
          · refine lv_iconst (v := 0) hx hb dL_yard_741 (by decide) ?_
            have hm : r = (0, ((mX3_setRow (mX3_setRow (mX3_setRow σ.1 (mL_low x3 4) (10 + (mL_low (x3 >>> ((2 : Int32) &&& 31)) 51))).2 4 9).2 3 9).2, ((upd (L_g σ.2) (10 + (mL_low x3 4)).toNatClampNeg (10 + (mL_low (x3 >>> ((2 : Int32) &&& 31)) 51))), (L_b σ.2), (L_t σ.2), (L_r σ.2)))) := by rw [hR, mL_yard_J607, if_pos c_4, if_pos c_28, if_pos c_32, if_pos c_33, if_neg c_34]
            exact wr_zret hC hP (hAe ▸ hD) (hAe ▸ hS) dL_yard_742 rfl (by rw [hm]) (by rw [hm])
          · refine lv_iconst (v := 1) hx hb dL_yard_737 (by decide) ?_
            refine lv_goto (tgt := 742) hx hb dL_yard_738 (by decide) ?_
            have hm : r = (1, ((mX3_setRow (mX3_setRow (mX3_setRow σ.1 (mL_low x3 4) (10 + (mL_low (x3 >>> ((2 : Int32) &&& 31)) 51))).2 4 9).2 3 9).2, ((upd (L_g σ.2) (10 + (mL_low x3 4)).toNatClampNeg (10 + (mL_low (x3 >>> ((2 : Int32) &&& 31)) 51))), (L_b σ.2), (L_t σ.2), (L_r σ.2)))) := by rw [hR, mL_yard_J607, if_pos c_4, if_pos c_28, if_pos c_32, if_pos c_33, if_pos c_34]
            exact wr_zret hC hP (hAe ▸ hD) (hAe ▸ hS) dL_yard_742 rfl (by rw [hm]) (by rw [hm])
    · refine lv_aload_n hx hb dL_yard_661 rfl (lv_at hl 5 rfl) ?_
      refine lv_iload hx hb dL_yard_662 (lv_at hl 2 rfl) ?_
      refine lv_iload hx hb dL_yard_664 (lv_at hl 1 rfl) ?_
      refine callWrR hC (k_X3_setRow l g ad.1 σ.1 (mL_low x3 4) (10 + (mL_low (x3 >>> ((2 : Int32) &&& 31)) 51)) h_hok) ci_X3_setRow lk_L_57 ⟨Nat.le_of_ble_eq_true rfl, Nat.le_of_ble_eq_true rfl⟩ hP hD hK hE hS hA (q0 := 0) rfl rfl rfl rfl hl.1 rfl (Nat.le_of_ble_eq_true rfl) dL_yard_666 ⟨Nat.zero_le _, Nat.zero_le _⟩ (fun H locs hP hD hS => ?_)
      have hP : va_P g.1 vwCl (cV g ad ((mX3_setRow σ.1 (mL_low x3 4) (10 + (mL_low (x3 >>> ((2 : Int32) &&& 31)) 51))).2, σ.2)) H := hP
      have hD : va_D A (cV g ad ((mX3_setRow σ.1 (mL_low x3 4) (10 + (mL_low (x3 >>> ((2 : Int32) &&& 31)) 51))).2, σ.2)) := hD
      refine lv_bipush (v := (-4)) hx hb dL_yard_669 (by decide) ?_
      refine lv_icmp_ne (tgt := 678) hx hb dL_yard_671 (by decide) (fun c_35 => ?_) (fun c_35 => ?_)
      · refine lv_iconst (v := 0) hx hb dL_yard_678 (by decide) ?_
        have hm : r = (0, ((mX3_setRow σ.1 (mL_low x3 4) (10 + (mL_low (x3 >>> ((2 : Int32) &&& 31)) 51))).2, σ.2)) := by rw [hR, mL_yard_J607, if_pos c_4, if_neg c_28, if_neg c_35]
        exact wr_zret hC hP (hAe ▸ hD) (hAe ▸ hS) dL_yard_679 rfl (by rw [hm]) (by rw [hm])
      · refine lv_iconst (v := 1) hx hb dL_yard_674 (by decide) ?_
        refine lv_goto (tgt := 679) hx hb dL_yard_675 (by decide) ?_
        have hm : r = (1, ((mX3_setRow σ.1 (mL_low x3 4) (10 + (mL_low (x3 >>> ((2 : Int32) &&& 31)) 51))).2, σ.2)) := by rw [hR, mL_yard_J607, if_pos c_4, if_neg c_28, if_pos c_35]
        exact wr_zret hC hP (hAe ▸ hD) (hAe ▸ hS) dL_yard_679 rfl (by rw [hm]) (by rw [hm])
def mL_yard_J481 (σ : VS) (x2 : Int32) (x3 : Int32) : Int32 × VS := (if (mL_low x2 9) = 4 then (if (mL_taken σ.2 (mL_low x3 3)) ≤ (mL_low (x3 >>> ((2 : Int32) &&& 31)) 10) then (if (mX3_setCradles σ.1 (mL_low x3 3) (mL_low (x3 >>> ((2 : Int32) &&& 31)) 10)).1 = ((if (mL_low (x3 >>> ((2 : Int32) &&& 31)) 10) = ((L_g σ.2) (7 + (mL_low x3 3)).toNatClampNeg) then (-5) else ((L_g σ.2) (7 + (mL_low x3 3)).toNatClampNeg)) : Int32) then (if (mX3_setCradles (mX3_setCradles σ.1 (mL_low x3 3) (mL_low (x3 >>> ((2 : Int32) &&& 31)) 10)).2 3 10).1 = (-1) then (if (mX3_setCradles (mX3_setCradles (mX3_setCradles σ.1 (mL_low x3 3) (mL_low (x3 >>> ((2 : Int32) &&& 31)) 10)).2 3 10).2 0 10).1 = (-2) then (1, ((mX3_setCradles (mX3_setCradles (mX3_setCradles σ.1 (mL_low x3 3) (mL_low (x3 >>> ((2 : Int32) &&& 31)) 10)).2 3 10).2 0 10).2, ((upd (L_g σ.2) (7 + (mL_low x3 3)).toNatClampNeg (mL_low (x3 >>> ((2 : Int32) &&& 31)) 10)), (L_b σ.2), (L_t σ.2), (L_r σ.2)))) else (0, ((mX3_setCradles (mX3_setCradles (mX3_setCradles σ.1 (mL_low x3 3) (mL_low (x3 >>> ((2 : Int32) &&& 31)) 10)).2 3 10).2 0 10).2, ((upd (L_g σ.2) (7 + (mL_low x3 3)).toNatClampNeg (mL_low (x3 >>> ((2 : Int32) &&& 31)) 10)), (L_b σ.2), (L_t σ.2), (L_r σ.2))))) else (0, ((mX3_setCradles (mX3_setCradles σ.1 (mL_low x3 3) (mL_low (x3 >>> ((2 : Int32) &&& 31)) 10)).2 3 10).2, ((upd (L_g σ.2) (7 + (mL_low x3 3)).toNatClampNeg (mL_low (x3 >>> ((2 : Int32) &&& 31)) 10)), (L_b σ.2), (L_t σ.2), (L_r σ.2))))) else (0, ((mX3_setCradles σ.1 (mL_low x3 3) (mL_low (x3 >>> ((2 : Int32) &&& 31)) 10)).2, ((upd (L_g σ.2) (7 + (mL_low x3 3)).toNatClampNeg (mL_low (x3 >>> ((2 : Int32) &&& 31)) 10)), (L_b σ.2), (L_t σ.2), (L_r σ.2))))) else (if (mX3_setCradles σ.1 (mL_low x3 3) (mL_low (x3 >>> ((2 : Int32) &&& 31)) 10)).1 = (-4) then (1, ((mX3_setCradles σ.1 (mL_low x3 3) (mL_low (x3 >>> ((2 : Int32) &&& 31)) 10)).2, σ.2)) else (0, ((mX3_setCradles σ.1 (mL_low x3 3) (mL_low (x3 >>> ((2 : Int32) &&& 31)) 10)).2, σ.2)))) else (mL_yard_J607 σ x2 x3))
set_option maxHeartbeats 4000000 in
set_option maxRecDepth 100000 in
theorem j_L_yard_481 {p : Program} {e : Env} {s : State} {m : MethodId} {args : Array Value} {below : List Frame} {meth : Method} {c : Code} (l : Launch) (g : WG) (ad : AV) (σ : VS) (x2 : Int32) (x3 : Int32) (h_vok : VOK σ) (h_hok : HOK (W_hist σ.1)) (c_1 : (3 ≤ (mL_low x2 9))) (c_2 : ¬ ((mL_low x2 9) = 3)) (hC : Cx p s m args meth c yL_yard cL_yard 12 (some .boolean)) (hK : va_K g.1 vwCl (tysW g) s) {A : Nat → Prop} {ws0 : va_W} (hE : Ex A s s.heap) (hA : ∀ q : Nat, s.heap.size ≤ q → A q) (hAe : A = va_A ws0 s.heap.size) (H : Heap) (locs : List Loc) (hP : va_P g.1 vwCl (cV g ad σ) H) (hD : va_D A (cV g ad σ)) (hS : va_S A s.heap H locs) {r : Int32 × VS} (hR : r = mL_yard_J481 σ x2 x3) (ls : Array Slot) (hl : lv_has ls 12 [(8, .int (mL_low x3 6)), (7, .int (mL_low x2 9)), (0, .ref ad.1.1), (1, .int x2), (2, .int x3), (3, .ref ad.2.1), (4, .ref ad.2.2.1), (5, .ref ad.2.2.2.1), (6, .ref ad.2.2.2.2)]) : W p l e (rk 7) s m args below meth c H locs 0 0 (MQ below (va_Qi (fun x _ => x = r.1) (Bw g ws0 (cV g ad r.2) s.heap.size) (va_A ws0 s.heap.size)) args s 0 0 (va_A ws0 s.heap.size)) (F0 m 481 ls []) := by
  obtain ⟨hx, hb, hml, hr, hown, hts, hlk, hnm⟩ := id hC
  refine lv_iload hx hb dL_yard_481 (lv_at hl 1 rfl) ?_
  refine lv_iconst (v := 4) hx hb dL_yard_483 (by decide) ?_
  refine lv_icmp_ne (tgt := 607) hx hb dL_yard_484 (by decide) (fun c_3 => ?_) (fun c_3 => ?_)
  · refine j_L_yard_607 l g ad σ x2 x3 h_vok h_hok c_1 c_2 c_3 hC hK hE hA hAe _ _ hP hD hS ?_ _ (lv_sub hl [0, 1, 2, 3, 4, 5, 6, 7, 8] rfl)
    exact by rw [hR, mL_yard_J481, if_neg c_3]
  · refine lv_iload_n hx hb dL_yard_487 rfl (lv_at hl 4 rfl) ?_
    refine lv_iconst (v := 3) hx hb dL_yard_488 (by decide) ?_
    refine callRs hC (k_L_low l g x3 3 (by first | decide | (split <;> decide))) ci_L_low lk_L_41 ⟨Nat.le_of_ble_eq_true rfl, Nat.le_of_ble_eq_true rfl⟩ hK (hE.S hS).none rfl hl.1 rfl (Nat.le_of_ble_eq_true rfl) dL_yard_489 ⟨Nat.zero_le _, Nat.zero_le _⟩ ?_
    refine lv_istore (lv' := [(9, .int (mL_low x3 3)), (8, .int (mL_low x3 6)), (7, .int (mL_low x2 9)), (0, .ref ad.1.1), (1, .int x2), (2, .int x3), (3, .ref ad.2.1), (4, .ref ad.2.2.1), (5, .ref ad.2.2.2.1), (6, .ref ad.2.2.2.2)]) hx hb dL_yard_492 hl (by decide) rfl (fun ls hl => ?_)
    refine lv_iload_n hx hb dL_yard_494 rfl (lv_at hl 5 rfl) ?_
    refine lv_iconst (v := 2) hx hb dL_yard_495 (by decide) ?_
    refine lv_ishr hx hb dL_yard_496 ?_
    refine lv_bipush (v := 10) hx hb dL_yard_497 (by decide) ?_
    refine callRs hC (k_L_low l g (x3 >>> ((2 : Int32) &&& 31)) 10 (by first | decide | (split <;> decide))) ci_L_low lk_L_41 ⟨Nat.le_of_ble_eq_true rfl, Nat.le_of_ble_eq_true rfl⟩ hK (hE.S hS).none rfl hl.1 rfl (Nat.le_of_ble_eq_true rfl) dL_yard_499 ⟨Nat.zero_le _, Nat.zero_le _⟩ ?_
    refine lv_istore (lv' := [(10, .int (mL_low (x3 >>> ((2 : Int32) &&& 31)) 10)), (9, .int (mL_low x3 3)), (8, .int (mL_low x3 6)), (7, .int (mL_low x2 9)), (0, .ref ad.1.1), (1, .int x2), (2, .int x3), (3, .ref ad.2.1), (4, .ref ad.2.2.1), (5, .ref ad.2.2.2.1), (6, .ref ad.2.2.2.2)]) hx hb dL_yard_502 hl (by decide) rfl (fun ls hl => ?_)
    refine lv_aload_n hx hb dL_yard_504 rfl (lv_at hl 7 rfl) ?_
    refine lv_bipush (v := 7) hx hb dL_yard_505 (by decide) ?_
    refine lv_iload hx hb dL_yard_507 (lv_at hl 1 rfl) ?_
    refine lv_iadd hx hb dL_yard_509 ?_
    refine lV_g hC hK hP (ix_c (z := 7) rfl (by decide) (in_low (n := 3) rfl (by decide)) (by decide) (by decide)) dL_yard_510 ?_
    refine lv_istore (lv' := [(11, .int ((L_g σ.2) (7 + (mL_low x3 3)).toNatClampNeg)), (10, .int (mL_low (x3 >>> ((2 : Int32) &&& 31)) 10)), (9, .int (mL_low x3 3)), (8, .int (mL_low x3 6)), (7, .int (mL_low x2 9)), (0, .ref ad.1.1), (1, .int x2), (2, .int x3), (3, .ref ad.2.1), (4, .ref ad.2.2.1), (5, .ref ad.2.2.2.1), (6, .ref ad.2.2.2.2)]) hx hb dL_yard_511 hl (by decide) rfl (fun ls hl => ?_)
    refine lv_iload hx hb dL_yard_513 (lv_at hl 2 rfl) ?_
    refine lv_aload hx hb dL_yard_515 (lv_at hl 9 rfl) ?_
    refine callSd hC (k_L_taken l g ad.2 σ.2 (mL_low x3 3)) ci_L_taken lk_L_15 ⟨Nat.le_of_ble_eq_true rfl, Nat.le_of_ble_eq_true rfl⟩ (P_left hP) hK (hE.S hS).none rfl hl.1 rfl (Nat.le_of_ble_eq_true rfl) dL_yard_517 ⟨Nat.zero_le _, Nat.zero_le _⟩ ?_
    refine lv_iload hx hb dL_yard_520 (lv_at hl 1 rfl) ?_
    refine lv_icmp_le (tgt := 544) hx hb dL_yard_522 (by decide) (fun c_36 => ?_) (fun c_36 => ?_)
    · refine lv_aload_n hx hb dL_yard_544 rfl (lv_at hl 8 rfl) ?_
      refine lv_bipush (v := 7) hx hb dL_yard_545 (by decide) ?_
      refine lv_iload hx hb dL_yard_547 (lv_at hl 2 rfl) ?_
      refine lv_iadd hx hb dL_yard_549 ?_
      refine lv_iload hx hb dL_yard_550 (lv_at hl 1 rfl) ?_
      refine sV_g hC hK hP hD hS (ix_c (z := 7) rfl (by decide) (in_low (n := 3) rfl (by decide)) (by decide) (by decide)) dL_yard_552 (fun H locs hP hD hS => ?_)
      have hP : va_P g.1 vwCl (cV g ad (σ.1, ((upd (L_g σ.2) (7 + (mL_low x3 3)).toNatClampNeg (mL_low (x3 >>> ((2 : Int32) &&& 31)) 10)), (L_b σ.2), (L_t σ.2), (L_r σ.2)))) H := hP
      have hD : va_D A (cV g ad (σ.1, ((upd (L_g σ.2) (7 + (mL_low x3 3)).toNatClampNeg (mL_low (x3 >>> ((2 : Int32) &&& 31)) 10)), (L_b σ.2), (L_t σ.2), (L_r σ.2)))) := hD
      refine lv_aload_n hx hb dL_yard_553 rfl (lv_at hl 5 rfl) ?_
      refine lv_iload hx hb dL_yard_554 (lv_at hl 2 rfl) ?_
      refine lv_iload hx hb dL_yard_556 (lv_at hl 1 rfl) ?_
      refine callWrR hC (k_X3_setCradles l g ad.1 σ.1 (mL_low x3 3) (mL_low (x3 >>> ((2 : Int32) &&& 31)) 10) h_hok) ci_X3_setCradles lk_L_54 ⟨Nat.le_of_ble_eq_true rfl, Nat.le_of_ble_eq_true rfl⟩ hP hD hK hE hS hA (q0 := 0) rfl rfl rfl rfl hl.1 rfl (Nat.le_of_ble_eq_true rfl) dL_yard_558 ⟨Nat.zero_le _, Nat.zero_le _⟩ (fun H locs hP hD hS => ?_)
      have hP : va_P g.1 vwCl (cV g ad ((mX3_setCradles σ.1 (mL_low x3 3) (mL_low (x3 >>> ((2 : Int32) &&& 31)) 10)).2, ((upd (L_g σ.2) (7 + (mL_low x3 3)).toNatClampNeg (mL_low (x3 >>> ((2 : Int32) &&& 31)) 10)), (L_b σ.2), (L_t σ.2), (L_r σ.2)))) H := hP
      have hD : va_D A (cV g ad ((mX3_setCradles σ.1 (mL_low x3 3) (mL_low (x3 >>> ((2 : Int32) &&& 31)) 10)).2, ((upd (L_g σ.2) (7 + (mL_low x3 3)).toNatClampNeg (mL_low (x3 >>> ((2 : Int32) &&& 31)) 10)), (L_b σ.2), (L_t σ.2), (L_r σ.2)))) := hD
      refine lv_iload hx hb dL_yard_561 (lv_at hl 1 rfl) ?_
      refine lv_iload hx hb dL_yard_563 (lv_at hl 0 rfl) ?_
      refine dia (J := 575) (V := ((if (mL_low (x3 >>> ((2 : Int32) &&& 31)) 10) = ((L_g σ.2) (7 + (mL_low x3 3)).toNatClampNeg) then (-5) else ((L_g σ.2) (7 + (mL_low x3 3)).toNatClampNeg)) : Int32)) (rest := [.int (mX3_setCradles σ.1 (mL_low x3 3) (mL_low (x3 >>> ((2 : Int32) &&& 31)) 10)).1]) (fun kk_38 => ?_) ?_
      · refine lv_icmp_ne (tgt := 573) hx hb dL_yard_565 (by decide) (fun c_39 => ?_) (fun c_39 => ?_)
        · refine lv_iload hx hb dL_yard_573 (lv_at hl 0 rfl) ?_
          exact kk_38 _ (if_neg c_39)
        · refine lv_bipush (v := (-5)) hx hb dL_yard_568 (by decide) ?_
          refine lv_goto (tgt := 575) hx hb dL_yard_570 (by decide) ?_
          exact kk_38 _ (if_pos c_39)
      refine lv_icmp_ne (tgt := 605) hx hb dL_yard_575 (by decide) (fun c_40 => ?_) (fun c_40 => ?_)
      · refine lv_iconst (v := 0) hx hb dL_yard_605 (by decide) ?_
        have hm : r = (0, ((mX3_setCradles σ.1 (mL_low x3 3) (mL_low (x3 >>> ((2 : Int32) &&& 31)) 10)).2, ((upd (L_g σ.2) (7 + (mL_low x3 3)).toNatClampNeg (mL_low (x3 >>> ((2 : Int32) &&& 31)) 10)), (L_b σ.2), (L_t σ.2), (L_r σ.2)))) := by rw [hR, mL_yard_J481, if_pos c_3, if_pos c_36, if_neg c_40]
        exact wr_zret hC hP (hAe ▸ hD) (hAe ▸ hS) dL_yard_606 rfl (by rw [hm]) (by rw [hm])
      · refine lv_aload_n hx hb dL_yard_578 rfl (lv_at hl 5 rfl) ?_
        refine lv_iconst (v := 3) hx hb dL_yard_579 (by decide) ?_
        refine lv_bipush (v := 10) hx hb dL_yard_580 (by decide) ?_
        refine callWrR hC (k_X3_setCradles l g ad.1 (mX3_setCradles σ.1 (mL_low x3 3) (mL_low (x3 >>> ((2 : Int32) &&& 31)) 10)).2 3 10 (hok_setCradles h_hok)) ci_X3_setCradles lk_L_54 ⟨Nat.le_of_ble_eq_true rfl, Nat.le_of_ble_eq_true rfl⟩ hP hD hK hE hS hA (q0 := 0) rfl rfl rfl rfl hl.1 rfl (Nat.le_of_ble_eq_true rfl) dL_yard_582 ⟨Nat.zero_le _, Nat.zero_le _⟩ (fun H locs hP hD hS => ?_)
        have hP : va_P g.1 vwCl (cV g ad ((mX3_setCradles (mX3_setCradles σ.1 (mL_low x3 3) (mL_low (x3 >>> ((2 : Int32) &&& 31)) 10)).2 3 10).2, ((upd (L_g σ.2) (7 + (mL_low x3 3)).toNatClampNeg (mL_low (x3 >>> ((2 : Int32) &&& 31)) 10)), (L_b σ.2), (L_t σ.2), (L_r σ.2)))) H := hP
        have hD : va_D A (cV g ad ((mX3_setCradles (mX3_setCradles σ.1 (mL_low x3 3) (mL_low (x3 >>> ((2 : Int32) &&& 31)) 10)).2 3 10).2, ((upd (L_g σ.2) (7 + (mL_low x3 3)).toNatClampNeg (mL_low (x3 >>> ((2 : Int32) &&& 31)) 10)), (L_b σ.2), (L_t σ.2), (L_r σ.2)))) := hD
        refine lv_iconst (v := (-1)) hx hb dL_yard_585 (by decide) ?_
        refine lv_icmp_ne (tgt := 605) hx hb dL_yard_586 (by decide) (fun c_41 => ?_) (fun c_41 => ?_)
        · refine lv_iconst (v := 0) hx hb dL_yard_605 (by decide) ?_
          have hm : r = (0, ((mX3_setCradles (mX3_setCradles σ.1 (mL_low x3 3) (mL_low (x3 >>> ((2 : Int32) &&& 31)) 10)).2 3 10).2, ((upd (L_g σ.2) (7 + (mL_low x3 3)).toNatClampNeg (mL_low (x3 >>> ((2 : Int32) &&& 31)) 10)), (L_b σ.2), (L_t σ.2), (L_r σ.2)))) := by rw [hR, mL_yard_J481, if_pos c_3, if_pos c_36, if_pos c_40, if_neg c_41]
          exact wr_zret hC hP (hAe ▸ hD) (hAe ▸ hS) dL_yard_606 rfl (by rw [hm]) (by rw [hm])
        · refine lv_aload_n hx hb dL_yard_589 rfl (lv_at hl 5 rfl) ?_
          refine lv_iconst (v := 0) hx hb dL_yard_590 (by decide) ?_
          refine lv_bipush (v := 10) hx hb dL_yard_591 (by decide) ?_
          refine callWrR hC (k_X3_setCradles l g ad.1 (mX3_setCradles (mX3_setCradles σ.1 (mL_low x3 3) (mL_low (x3 >>> ((2 : Int32) &&& 31)) 10)).2 3 10).2 0 10 (hok_setCradles (hok_setCradles h_hok))) ci_X3_setCradles lk_L_54 ⟨Nat.le_of_ble_eq_true rfl, Nat.le_of_ble_eq_true rfl⟩ hP hD hK hE hS hA (q0 := 0) rfl rfl rfl rfl hl.1 rfl (Nat.le_of_ble_eq_true rfl) dL_yard_593 ⟨Nat.zero_le _, Nat.zero_le _⟩ (fun H locs hP hD hS => ?_)
          have hP : va_P g.1 vwCl (cV g ad ((mX3_setCradles (mX3_setCradles (mX3_setCradles σ.1 (mL_low x3 3) (mL_low (x3 >>> ((2 : Int32) &&& 31)) 10)).2 3 10).2 0 10).2, ((upd (L_g σ.2) (7 + (mL_low x3 3)).toNatClampNeg (mL_low (x3 >>> ((2 : Int32) &&& 31)) 10)), (L_b σ.2), (L_t σ.2), (L_r σ.2)))) H := hP
          have hD : va_D A (cV g ad ((mX3_setCradles (mX3_setCradles (mX3_setCradles σ.1 (mL_low x3 3) (mL_low (x3 >>> ((2 : Int32) &&& 31)) 10)).2 3 10).2 0 10).2, ((upd (L_g σ.2) (7 + (mL_low x3 3)).toNatClampNeg (mL_low (x3 >>> ((2 : Int32) &&& 31)) 10)), (L_b σ.2), (L_t σ.2), (L_r σ.2)))) := hD
          refine lv_bipush (v := (-2)) hx hb dL_yard_596 (by decide) ?_
          refine lv_icmp_ne (tgt := 605) hx hb dL_yard_598 (by decide) (fun c_42 => ?_) (fun c_42 => ?_)
          · refine lv_iconst (v := 0) hx hb dL_yard_605 (by decide) ?_
            have hm : r = (0, ((mX3_setCradles (mX3_setCradles (mX3_setCradles σ.1 (mL_low x3 3) (mL_low (x3 >>> ((2 : Int32) &&& 31)) 10)).2 3 10).2 0 10).2, ((upd (L_g σ.2) (7 + (mL_low x3 3)).toNatClampNeg (mL_low (x3 >>> ((2 : Int32) &&& 31)) 10)), (L_b σ.2), (L_t σ.2), (L_r σ.2)))) := by rw [hR, mL_yard_J481, if_pos c_3, if_pos c_36, if_pos c_40, if_pos c_41, if_neg c_42]
            exact wr_zret hC hP (hAe ▸ hD) (hAe ▸ hS) dL_yard_606 rfl (by rw [hm]) (by rw [hm])
          · refine lv_iconst (v := 1) hx hb dL_yard_601 (by decide) ?_
            refine lv_goto (tgt := 606) hx hb dL_yard_602 (by decide) ?_
            have hm : r = (1, ((mX3_setCradles (mX3_setCradles (mX3_setCradles σ.1 (mL_low x3 3) (mL_low (x3 >>> ((2 : Int32) &&& 31)) 10)).2 3 10).2 0 10).2, ((upd (L_g σ.2) (7 + (mL_low x3 3)).toNatClampNeg (mL_low (x3 >>> ((2 : Int32) &&& 31)) 10)), (L_b σ.2), (L_t σ.2), (L_r σ.2)))) := by rw [hR, mL_yard_J481, if_pos c_3, if_pos c_36, if_pos c_40, if_pos c_41, if_pos c_42]
            exact wr_zret hC hP (hAe ▸ hD) (hAe ▸ hS) dL_yard_606 rfl (by rw [hm]) (by rw [hm])
    · refine lv_aload_n hx hb dL_yard_525 rfl (lv_at hl 5 rfl) ?_
      refine lv_iload hx hb dL_yard_526 (lv_at hl 2 rfl) ?_
      refine lv_iload hx hb dL_yard_528 (lv_at hl 1 rfl) ?_
      refine callWrR hC (k_X3_setCradles l g ad.1 σ.1 (mL_low x3 3) (mL_low (x3 >>> ((2 : Int32) &&& 31)) 10) h_hok) ci_X3_setCradles lk_L_54 ⟨Nat.le_of_ble_eq_true rfl, Nat.le_of_ble_eq_true rfl⟩ hP hD hK hE hS hA (q0 := 0) rfl rfl rfl rfl hl.1 rfl (Nat.le_of_ble_eq_true rfl) dL_yard_530 ⟨Nat.zero_le _, Nat.zero_le _⟩ (fun H locs hP hD hS => ?_)
      have hP : va_P g.1 vwCl (cV g ad ((mX3_setCradles σ.1 (mL_low x3 3) (mL_low (x3 >>> ((2 : Int32) &&& 31)) 10)).2, σ.2)) H := hP
      have hD : va_D A (cV g ad ((mX3_setCradles σ.1 (mL_low x3 3) (mL_low (x3 >>> ((2 : Int32) &&& 31)) 10)).2, σ.2)) := hD
      refine lv_bipush (v := (-4)) hx hb dL_yard_533 (by decide) ?_
      refine lv_icmp_ne (tgt := 542) hx hb dL_yard_535 (by decide) (fun c_43 => ?_) (fun c_43 => ?_)
      · refine lv_iconst (v := 0) hx hb dL_yard_542 (by decide) ?_
        have hm : r = (0, ((mX3_setCradles σ.1 (mL_low x3 3) (mL_low (x3 >>> ((2 : Int32) &&& 31)) 10)).2, σ.2)) := by rw [hR, mL_yard_J481, if_pos c_3, if_neg c_36, if_neg c_43]
        exact wr_zret hC hP (hAe ▸ hD) (hAe ▸ hS) dL_yard_543 rfl (by rw [hm]) (by rw [hm])
      · refine lv_iconst (v := 1) hx hb dL_yard_538 (by decide) ?_
        refine lv_goto (tgt := 543) hx hb dL_yard_539 (by decide) ?_
        have hm : r = (1, ((mX3_setCradles σ.1 (mL_low x3 3) (mL_low (x3 >>> ((2 : Int32) &&& 31)) 10)).2, σ.2)) := by rw [hR, mL_yard_J481, if_pos c_3, if_neg c_36, if_pos c_43]
        exact wr_zret hC hP (hAe ▸ hD) (hAe ▸ hS) dL_yard_543 rfl (by rw [hm]) (by rw [hm])
def mL_yard_L438 (x2 : Int32) (x3 : Int32) (w8 : Int32) (w7 : Int32) : Nat → VS → Int32 → Int32 → Int32 × VS
  | 0, σ, _, _ => (0, σ)
  | n + 1, σ, u10, u9 => (if 6 ≤ u10 then (if (mX3_goAway σ.1 w8).1 = u9 then (1, ((mX3_goAway σ.1 w8).2, σ.2)) else (0, ((mX3_goAway σ.1 w8).2, σ.2))) else (mL_yard_L438 x2 x3 w8 w7 n σ (u10 + 1) (u9 + (mL_of σ.2 u10 0))))
set_option maxHeartbeats 4000000 in
set_option maxRecDepth 100000 in
theorem q_L_yard_438 {p : Program} {e : Env} {s : State} {m : MethodId} {args : Array Value} {below : List Frame} {meth : Method} {c : Code} (l : Launch) (g : WG) (ad : AV) (x2 : Int32) (x3 : Int32) (w8 : Int32) (w7 : Int32) (hC : Cx p s m args meth c yL_yard cL_yard 12 (some .boolean)) (hK : va_K g.1 vwCl (tysW g) s) {A : Nat → Prop} {ws0 : va_W} (hE : Ex A s s.heap) (hA : ∀ q : Nat, s.heap.size ≤ q → A q) (hAe : A = va_A ws0 s.heap.size) {r : Int32 × VS} : ∀ (n : Nat) (σ : VS) (H : Heap) (locs : List Loc) (hP : va_P g.1 vwCl (cV g ad σ) H) (hD : va_D A (cV g ad σ)) (hS : va_S A s.heap H locs) (u10 : Int32) (u9 : Int32) (hi0 : 0 ≤ u10.toInt) (hi1 : u10.toInt ≤ 6) (hhk : HOK (W_hist σ.1)) (hm : ((7 : Int) - u10.toInt).toNat < n) (hR : r = mL_yard_L438 x2 x3 w8 w7 n σ u10 u9) (ls : Array Slot) (hl : lv_has ls 12 [(10, .int u10), (9, .int u9), (8, .int w8), (7, .int w7), (0, .ref ad.1.1), (1, .int x2), (2, .int x3), (3, .ref ad.2.1), (4, .ref ad.2.2.1), (5, .ref ad.2.2.2.1), (6, .ref ad.2.2.2.2)]), W p l e (rk 7) s m args below meth c H locs 0 0 (MQ below (va_Qi (fun x _ => x = r.1) (Bw g ws0 (cV g ad r.2) s.heap.size) (va_A ws0 s.heap.size)) args s 0 0 (va_A ws0 s.heap.size)) (F0 m 438 ls []) := by
  obtain ⟨hx, hb, hml, hr, hown, hts, hlk, hnm⟩ := id hC
  intro n
  induction n with
  | zero => intro σ H locs hP hD hS u10 u9 hi0 hi1 hhk hm hR ls hl; exact absurd hm (Nat.not_lt_zero _)
  | succ n ih =>
    intro σ H locs hP hD hS u10 u9 hi0 hi1 hhk hm hR ls hl
    refine lv_iload hx hb dL_yard_438 (lv_at hl 0 rfl) ?_
    refine lv_bipush (v := 6) hx hb dL_yard_440 (by decide) ?_
    refine lv_icmp_ge (tgt := 464) hx hb dL_yard_442 (by decide) (fun c_49 => ?_) (fun c_49 => ?_)
    · refine lv_aload_n hx hb dL_yard_464 rfl (lv_at hl 4 rfl) ?_
      refine lv_iload hx hb dL_yard_465 (lv_at hl 2 rfl) ?_
      refine callWrR hC (k_X3_goAway l g ad.1 σ.1 w8 hhk) ci_X3_goAway lk_L_51 ⟨Nat.le_of_ble_eq_true rfl, Nat.le_of_ble_eq_true rfl⟩ hP hD hK hE hS hA (q0 := 0) rfl rfl rfl rfl hl.1 rfl (Nat.le_of_ble_eq_true rfl) dL_yard_467 ⟨Nat.zero_le _, Nat.zero_le _⟩ (fun H locs hP hD hS => ?_)
      have hP : va_P g.1 vwCl (cV g ad ((mX3_goAway σ.1 w8).2, σ.2)) H := hP
      have hD : va_D A (cV g ad ((mX3_goAway σ.1 w8).2, σ.2)) := hD
      refine lv_iload hx hb dL_yard_470 (lv_at hl 1 rfl) ?_
      refine lv_icmp_ne (tgt := 479) hx hb dL_yard_472 (by decide) (fun c_50 => ?_) (fun c_50 => ?_)
      · refine lv_iconst (v := 0) hx hb dL_yard_479 (by decide) ?_
        have hm : r = (0, ((mX3_goAway σ.1 w8).2, σ.2)) := by rw [hR, mL_yard_L438, if_pos c_49, if_neg c_50]
        exact wr_zret hC hP (hAe ▸ hD) (hAe ▸ hS) dL_yard_480 rfl (by rw [hm]) (by rw [hm])
      · refine lv_iconst (v := 1) hx hb dL_yard_475 (by decide) ?_
        refine lv_goto (tgt := 480) hx hb dL_yard_476 (by decide) ?_
        have hm : r = (1, ((mX3_goAway σ.1 w8).2, σ.2)) := by rw [hR, mL_yard_L438, if_pos c_49, if_pos c_50]
        exact wr_zret hC hP (hAe ▸ hD) (hAe ▸ hS) dL_yard_480 rfl (by rw [hm]) (by rw [hm])
    · refine lv_iload hx hb dL_yard_445 (lv_at hl 1 rfl) ?_
      refine lv_aload hx hb dL_yard_447 (lv_at hl 8 rfl) ?_
      refine lv_iload hx hb dL_yard_449 (lv_at hl 0 rfl) ?_
      refine lv_iconst (v := 0) hx hb dL_yard_451 (by decide) ?_
      refine callSd hC (k_L_of l g ad.2 σ.2 u10 0 (in_up (n := 6) rfl hi0 c_49) (in_iff.mpr (by decide))) ci_L_of lk_L_9 ⟨Nat.le_of_ble_eq_true rfl, Nat.le_of_ble_eq_true rfl⟩ (P_left hP) hK (hE.S hS).none rfl hl.1 rfl (Nat.le_of_ble_eq_true rfl) dL_yard_452 ⟨Nat.zero_le _, Nat.zero_le _⟩ ?_
      refine lv_iadd hx hb dL_yard_455 ?_
      refine lv_istore (lv' := [(9, .int (u9 + (mL_of σ.2 u10 0))), (10, .int u10), (8, .int w8), (7, .int w7), (0, .ref ad.1.1), (1, .int x2), (2, .int x3), (3, .ref ad.2.1), (4, .ref ad.2.2.1), (5, .ref ad.2.2.2.1), (6, .ref ad.2.2.2.2)]) hx hb dL_yard_456 hl (by decide) rfl (fun ls hl => ?_)
      refine lv_iinc (v := (u10 + 1)) (lv' := [(10, .int (u10 + 1)), (9, .int (u9 + (mL_of σ.2 u10 0))), (8, .int w8), (7, .int w7), (0, .ref ad.1.1), (1, .int x2), (2, .int x3), (3, .ref ad.2.1), (4, .ref ad.2.2.1), (5, .ref ad.2.2.2.1), (6, .ref ad.2.2.2.2)]) hx hb dL_yard_458 hl (k := 1) rfl rfl (by decide) rfl (fun ls hl => ?_)
      refine lv_goto (tgt := 438) hx hb dL_yard_461 (by decide) ?_
      have e9 := up_add (d := 1) (k := 1) (M := 6) rfl hi0 hi1 (by decide) (by decide)
      have e8 := nle_ti (k := 6) rfl c_49
      exact ih σ _ _ hP hD hS (u10 + 1) (u9 + (mL_of σ.2 u10 0)) (by rw [e9]; omega) (by rw [e9]; omega) hhk (by rw [e9]; omega) (by rw [hR, mL_yard_L438, if_neg c_49]) _ (lv_sub hl [0, 1, 2, 3, 4, 5, 6, 7, 8, 9, 10] rfl)
def mL_yard_J327 (σ : VS) (x2 : Int32) (x3 : Int32) : Int32 × VS := (if (mL_low x2 9) = 3 then (if (mL_of σ.2 (mL_low x3 6) 0) = 0 then (if (mX3_goAway σ.1 (mL_low x3 6)).1 = (-1) then (1, ((mX3_goAway σ.1 (mL_low x3 6)).2, σ.2)) else (0, ((mX3_goAway σ.1 (mL_low x3 6)).2, σ.2))) else (if (x3 &&& 24) ≤ 0 then (if 0 ≤ (mL_of σ.2 (mL_low x3 6) 5) then (if (mX3_goAway σ.1 (mL_low x3 6)).1 = (-4) then (1, ((mX3_goAway σ.1 (mL_low x3 6)).2, σ.2)) else (0, ((mX3_goAway σ.1 (mL_low x3 6)).2, σ.2))) else (if (mL_of σ.2 (mL_low x3 6) 7) < 0 then (mL_yard_L438 x2 x3 (mL_low x3 6) (mL_low x2 9) 8 (σ.1, ((L_g σ.2), (upd (L_b σ.2) (10 * (mL_low x3 6)).toNatClampNeg 0), (L_t σ.2), (L_r σ.2))) 0 0) else (if (mX3_goAway σ.1 (mL_low x3 6)).1 = (-4) then (1, ((mX3_goAway σ.1 (mL_low x3 6)).2, σ.2)) else (0, ((mX3_goAway σ.1 (mL_low x3 6)).2, σ.2))))) else (if (mX3_goAway σ.1 6).1 = (-1) then (1, ((mX3_goAway σ.1 6).2, σ.2)) else (0, ((mX3_goAway σ.1 6).2, σ.2))))) else (mL_yard_J481 σ x2 x3))
set_option maxHeartbeats 4000000 in
set_option maxRecDepth 100000 in
theorem j_L_yard_327 {p : Program} {e : Env} {s : State} {m : MethodId} {args : Array Value} {below : List Frame} {meth : Method} {c : Code} (l : Launch) (g : WG) (ad : AV) (σ : VS) (x2 : Int32) (x3 : Int32) (h_vok : VOK σ) (h_hok : HOK (W_hist σ.1)) (c_1 : (3 ≤ (mL_low x2 9))) (hC : Cx p s m args meth c yL_yard cL_yard 12 (some .boolean)) (hK : va_K g.1 vwCl (tysW g) s) {A : Nat → Prop} {ws0 : va_W} (hE : Ex A s s.heap) (hA : ∀ q : Nat, s.heap.size ≤ q → A q) (hAe : A = va_A ws0 s.heap.size) (H : Heap) (locs : List Loc) (hP : va_P g.1 vwCl (cV g ad σ) H) (hD : va_D A (cV g ad σ)) (hS : va_S A s.heap H locs) {r : Int32 × VS} (hR : r = mL_yard_J327 σ x2 x3) (ls : Array Slot) (hl : lv_has ls 12 [(8, .int (mL_low x3 6)), (7, .int (mL_low x2 9)), (0, .ref ad.1.1), (1, .int x2), (2, .int x3), (3, .ref ad.2.1), (4, .ref ad.2.2.1), (5, .ref ad.2.2.2.1), (6, .ref ad.2.2.2.2)]) : W p l e (rk 7) s m args below meth c H locs 0 0 (MQ below (va_Qi (fun x _ => x = r.1) (Bw g ws0 (cV g ad r.2) s.heap.size) (va_A ws0 s.heap.size)) args s 0 0 (va_A ws0 s.heap.size)) (F0 m 327 ls []) := by
  obtain ⟨hx, hb, hml, hr, hown, hts, hlk, hnm⟩ := id hC
  refine lv_iload hx hb dL_yard_327 (lv_at hl 1 rfl) ?_
  refine lv_iconst (v := 3) hx hb dL_yard_329 (by decide) ?_
  refine lv_icmp_ne (tgt := 481) hx hb dL_yard_330 (by decide) (fun c_2 => ?_) (fun c_2 => ?_)
  · refine j_L_yard_481 l g ad σ x2 x3 h_vok h_hok c_1 c_2 hC hK hE hA hAe _ _ hP hD hS ?_ _ (lv_sub hl [0, 1, 2, 3, 4, 5, 6, 7, 8] rfl)
    exact by rw [hR, mL_yard_J327, if_neg c_2]
  · refine lv_aload hx hb dL_yard_333 (lv_at hl 6 rfl) ?_
    refine lv_iload hx hb dL_yard_335 (lv_at hl 0 rfl) ?_
    refine lv_iconst (v := 0) hx hb dL_yard_337 (by decide) ?_
    refine callSd hC (k_L_of l g ad.2 σ.2 (mL_low x3 6) 0 (in_low (n := 6) rfl (by decide)) (in_iff.mpr (by decide))) ci_L_of lk_L_9 ⟨Nat.le_of_ble_eq_true rfl, Nat.le_of_ble_eq_true rfl⟩ (P_left hP) hK (hE.S hS).none rfl hl.1 rfl (Nat.le_of_ble_eq_true rfl) dL_yard_338 ⟨Nat.zero_le _, Nat.zero_le _⟩ ?_
    refine lv_if_ne (tgt := 360) hx hb dL_yard_341 (by decide) (fun c_44 => ?_) (fun c_44 => ?_)
    · refine lv_iload_n hx hb dL_yard_360 rfl (lv_at hl 4 rfl) ?_
      refine lv_bipush (v := 24) hx hb dL_yard_361 (by decide) ?_
      refine lv_iand hx hb dL_yard_363 ?_
      refine lv_if_le (tgt := 383) hx hb dL_yard_364 (by decide) (fun c_45 => ?_) (fun c_45 => ?_)
      · refine lv_aload hx hb dL_yard_383 (lv_at hl 6 rfl) ?_
        refine lv_iload hx hb dL_yard_385 (lv_at hl 0 rfl) ?_
        refine lv_iconst (v := 5) hx hb dL_yard_387 (by decide) ?_
        refine callSd hC (k_L_of l g ad.2 σ.2 (mL_low x3 6) 5 (in_low (n := 6) rfl (by decide)) (in_iff.mpr (by decide))) ci_L_of lk_L_9 ⟨Nat.le_of_ble_eq_true rfl, Nat.le_of_ble_eq_true rfl⟩ (P_left hP) hK (hE.S hS).none rfl hl.1 rfl (Nat.le_of_ble_eq_true rfl) dL_yard_388 ⟨Nat.zero_le _, Nat.zero_le _⟩ ?_
        refine lv_if_ge (tgt := 406) hx hb dL_yard_391 (by decide) (fun c_46 => ?_) (fun c_46 => ?_)
        · refine lv_aload_n hx hb dL_yard_406 rfl (lv_at hl 2 rfl) ?_
          refine lv_iload hx hb dL_yard_407 (lv_at hl 0 rfl) ?_
          refine callWrR hC (k_X3_goAway l g ad.1 σ.1 (mL_low x3 6) h_hok) ci_X3_goAway lk_L_51 ⟨Nat.le_of_ble_eq_true rfl, Nat.le_of_ble_eq_true rfl⟩ hP hD hK hE hS hA (q0 := 0) rfl rfl rfl rfl hl.1 rfl (Nat.le_of_ble_eq_true rfl) dL_yard_409 ⟨Nat.zero_le _, Nat.zero_le _⟩ (fun H locs hP hD hS => ?_)
          have hP : va_P g.1 vwCl (cV g ad ((mX3_goAway σ.1 (mL_low x3 6)).2, σ.2)) H := hP
          have hD : va_D A (cV g ad ((mX3_goAway σ.1 (mL_low x3 6)).2, σ.2)) := hD
          refine lv_bipush (v := (-4)) hx hb dL_yard_412 (by decide) ?_
          refine lv_icmp_ne (tgt := 421) hx hb dL_yard_414 (by decide) (fun c_47 => ?_) (fun c_47 => ?_)
          · refine lv_iconst (v := 0) hx hb dL_yard_421 (by decide) ?_
            have hm : r = (0, ((mX3_goAway σ.1 (mL_low x3 6)).2, σ.2)) := by rw [hR, mL_yard_J327, if_pos c_2, if_neg c_44, if_pos c_45, if_pos c_46, if_neg c_47]
            exact wr_zret hC hP (hAe ▸ hD) (hAe ▸ hS) dL_yard_422 rfl (by rw [hm]) (by rw [hm])
          · refine lv_iconst (v := 1) hx hb dL_yard_417 (by decide) ?_
            refine lv_goto (tgt := 422) hx hb dL_yard_418 (by decide) ?_
            have hm : r = (1, ((mX3_goAway σ.1 (mL_low x3 6)).2, σ.2)) := by rw [hR, mL_yard_J327, if_pos c_2, if_neg c_44, if_pos c_45, if_pos c_46, if_pos c_47]
            exact wr_zret hC hP (hAe ▸ hD) (hAe ▸ hS) dL_yard_422 rfl (by rw [hm]) (by rw [hm])
        · refine lv_aload hx hb dL_yard_394 (lv_at hl 6 rfl) ?_
          refine lv_iload hx hb dL_yard_396 (lv_at hl 0 rfl) ?_
          refine lv_bipush (v := 7) hx hb dL_yard_398 (by decide) ?_
          refine callSd hC (k_L_of l g ad.2 σ.2 (mL_low x3 6) 7 (in_low (n := 6) rfl (by decide)) (in_iff.mpr (by decide))) ci_L_of lk_L_9 ⟨Nat.le_of_ble_eq_true rfl, Nat.le_of_ble_eq_true rfl⟩ (P_left hP) hK (hE.S hS).none rfl hl.1 rfl (Nat.le_of_ble_eq_true rfl) dL_yard_400 ⟨Nat.zero_le _, Nat.zero_le _⟩ ?_
          refine lv_if_lt (tgt := 423) hx hb dL_yard_403 (by decide) (fun c_48 => ?_) (fun c_48 => ?_)
          · refine lv_aload hx hb dL_yard_423 (lv_at hl 6 rfl) ?_
            refine lv_bipush (v := 10) hx hb dL_yard_425 (by decide) ?_
            refine lv_iload hx hb dL_yard_427 (lv_at hl 0 rfl) ?_
            refine lv_imul hx hb dL_yard_429 ?_
            refine lv_iconst (v := 0) hx hb dL_yard_430 (by decide) ?_
            refine sV_b hC hK hP hD hS (ix_100 (in_low (n := 6) rfl (by decide))) dL_yard_431 (fun H locs hP hD hS => ?_)
            have hP : va_P g.1 vwCl (cV g ad (σ.1, ((L_g σ.2), (upd (L_b σ.2) (10 * (mL_low x3 6)).toNatClampNeg 0), (L_t σ.2), (L_r σ.2)))) H := hP
            have hD : va_D A (cV g ad (σ.1, ((L_g σ.2), (upd (L_b σ.2) (10 * (mL_low x3 6)).toNatClampNeg 0), (L_t σ.2), (L_r σ.2)))) := hD
            refine lv_iconst (v := 0) hx hb dL_yard_432 (by decide) ?_
            refine lv_istore (lv' := [(9, .int 0), (8, .int (mL_low x3 6)), (7, .int (mL_low x2 9)), (0, .ref ad.1.1), (1, .int x2), (2, .int x3), (3, .ref ad.2.1), (4, .ref ad.2.2.1), (5, .ref ad.2.2.2.1), (6, .ref ad.2.2.2.2)]) hx hb dL_yard_433 hl (by decide) rfl (fun ls hl => ?_)
            refine lv_iconst (v := 0) hx hb dL_yard_435 (by decide) ?_
            refine lv_istore (lv' := [(10, .int 0), (9, .int 0), (8, .int (mL_low x3 6)), (7, .int (mL_low x2 9)), (0, .ref ad.1.1), (1, .int x2), (2, .int x3), (3, .ref ad.2.1), (4, .ref ad.2.2.1), (5, .ref ad.2.2.2.1), (6, .ref ad.2.2.2.2)]) hx hb dL_yard_436 hl (by decide) rfl (fun ls hl => ?_)
            refine q_L_yard_438 l g ad x2 x3 (mL_low x3 6) (mL_low x2 9) hC hK hE hA hAe 8 (σ.1, ((L_g σ.2), (upd (L_b σ.2) (10 * (mL_low x3 6)).toNatClampNeg 0), (L_t σ.2), (L_r σ.2))) _ _ hP hD hS 0 0 (by decide) (by decide) h_hok (by decide) ?_ _ (lv_sub hl [0, 1, 2, 3, 4, 5, 6, 7, 8, 9, 10] rfl)
            exact by rw [hR, mL_yard_J327, if_pos c_2, if_neg c_44, if_pos c_45, if_neg c_46, if_pos c_48]
          · refine lv_aload_n hx hb dL_yard_406 rfl (lv_at hl 2 rfl) ?_
            refine lv_iload hx hb dL_yard_407 (lv_at hl 0 rfl) ?_
            refine callWrR hC (k_X3_goAway l g ad.1 σ.1 (mL_low x3 6) h_hok) ci_X3_goAway lk_L_51 ⟨Nat.le_of_ble_eq_true rfl, Nat.le_of_ble_eq_true rfl⟩ hP hD hK hE hS hA (q0 := 0) rfl rfl rfl rfl hl.1 rfl (Nat.le_of_ble_eq_true rfl) dL_yard_409 ⟨Nat.zero_le _, Nat.zero_le _⟩ (fun H locs hP hD hS => ?_)
            have hP : va_P g.1 vwCl (cV g ad ((mX3_goAway σ.1 (mL_low x3 6)).2, σ.2)) H := hP
            have hD : va_D A (cV g ad ((mX3_goAway σ.1 (mL_low x3 6)).2, σ.2)) := hD
            refine lv_bipush (v := (-4)) hx hb dL_yard_412 (by decide) ?_
            refine lv_icmp_ne (tgt := 421) hx hb dL_yard_414 (by decide) (fun c_51 => ?_) (fun c_51 => ?_)
            · refine lv_iconst (v := 0) hx hb dL_yard_421 (by decide) ?_
              have hm : r = (0, ((mX3_goAway σ.1 (mL_low x3 6)).2, σ.2)) := by rw [hR, mL_yard_J327, if_pos c_2, if_neg c_44, if_pos c_45, if_neg c_46, if_neg c_48, if_neg c_51]
              exact wr_zret hC hP (hAe ▸ hD) (hAe ▸ hS) dL_yard_422 rfl (by rw [hm]) (by rw [hm])
            · refine lv_iconst (v := 1) hx hb dL_yard_417 (by decide) ?_
              refine lv_goto (tgt := 422) hx hb dL_yard_418 (by decide) ?_
              have hm : r = (1, ((mX3_goAway σ.1 (mL_low x3 6)).2, σ.2)) := by rw [hR, mL_yard_J327, if_pos c_2, if_neg c_44, if_pos c_45, if_neg c_46, if_neg c_48, if_pos c_51]
              exact wr_zret hC hP (hAe ▸ hD) (hAe ▸ hS) dL_yard_422 rfl (by rw [hm]) (by rw [hm])
      · refine lv_aload_n hx hb dL_yard_367 rfl (lv_at hl 2 rfl) ?_
        refine lv_bipush (v := 6) hx hb dL_yard_368 (by decide) ?_
        refine callWrR hC (k_X3_goAway l g ad.1 σ.1 6 h_hok) ci_X3_goAway lk_L_51 ⟨Nat.le_of_ble_eq_true rfl, Nat.le_of_ble_eq_true rfl⟩ hP hD hK hE hS hA (q0 := 0) rfl rfl rfl rfl hl.1 rfl (Nat.le_of_ble_eq_true rfl) dL_yard_370 ⟨Nat.zero_le _, Nat.zero_le _⟩ (fun H locs hP hD hS => ?_)
        have hP : va_P g.1 vwCl (cV g ad ((mX3_goAway σ.1 6).2, σ.2)) H := hP
        have hD : va_D A (cV g ad ((mX3_goAway σ.1 6).2, σ.2)) := hD
        refine lv_iconst (v := (-1)) hx hb dL_yard_373 (by decide) ?_
        refine lv_icmp_ne (tgt := 381) hx hb dL_yard_374 (by decide) (fun c_52 => ?_) (fun c_52 => ?_)
        · refine lv_iconst (v := 0) hx hb dL_yard_381 (by decide) ?_
          have hm : r = (0, ((mX3_goAway σ.1 6).2, σ.2)) := by rw [hR, mL_yard_J327, if_pos c_2, if_neg c_44, if_neg c_45, if_neg c_52]
          exact wr_zret hC hP (hAe ▸ hD) (hAe ▸ hS) dL_yard_382 rfl (by rw [hm]) (by rw [hm])
        · refine lv_iconst (v := 1) hx hb dL_yard_377 (by decide) ?_
          refine lv_goto (tgt := 382) hx hb dL_yard_378 (by decide) ?_
          have hm : r = (1, ((mX3_goAway σ.1 6).2, σ.2)) := by rw [hR, mL_yard_J327, if_pos c_2, if_neg c_44, if_neg c_45, if_pos c_52]
          exact wr_zret hC hP (hAe ▸ hD) (hAe ▸ hS) dL_yard_382 rfl (by rw [hm]) (by rw [hm])
    · refine lv_aload_n hx hb dL_yard_344 rfl (lv_at hl 2 rfl) ?_
      refine lv_iload hx hb dL_yard_345 (lv_at hl 0 rfl) ?_
      refine callWrR hC (k_X3_goAway l g ad.1 σ.1 (mL_low x3 6) h_hok) ci_X3_goAway lk_L_51 ⟨Nat.le_of_ble_eq_true rfl, Nat.le_of_ble_eq_true rfl⟩ hP hD hK hE hS hA (q0 := 0) rfl rfl rfl rfl hl.1 rfl (Nat.le_of_ble_eq_true rfl) dL_yard_347 ⟨Nat.zero_le _, Nat.zero_le _⟩ (fun H locs hP hD hS => ?_)
      have hP : va_P g.1 vwCl (cV g ad ((mX3_goAway σ.1 (mL_low x3 6)).2, σ.2)) H := hP
      have hD : va_D A (cV g ad ((mX3_goAway σ.1 (mL_low x3 6)).2, σ.2)) := hD
      refine lv_iconst (v := (-1)) hx hb dL_yard_350 (by decide) ?_
      refine lv_icmp_ne (tgt := 358) hx hb dL_yard_351 (by decide) (fun c_53 => ?_) (fun c_53 => ?_)
      · refine lv_iconst (v := 0) hx hb dL_yard_358 (by decide) ?_
        have hm : r = (0, ((mX3_goAway σ.1 (mL_low x3 6)).2, σ.2)) := by rw [hR, mL_yard_J327, if_pos c_2, if_pos c_44, if_neg c_53]
        exact wr_zret hC hP (hAe ▸ hD) (hAe ▸ hS) dL_yard_359 rfl (by rw [hm]) (by rw [hm])
      · refine lv_iconst (v := 1) hx hb dL_yard_354 (by decide) ?_
        refine lv_goto (tgt := 359) hx hb dL_yard_355 (by decide) ?_
        have hm : r = (1, ((mX3_goAway σ.1 (mL_low x3 6)).2, σ.2)) := by rw [hR, mL_yard_J327, if_pos c_2, if_pos c_44, if_pos c_53]
        exact wr_zret hC hP (hAe ▸ hD) (hAe ▸ hS) dL_yard_359 rfl (by rw [hm]) (by rw [hm])
def mL_yard_L25 (x2 : Int32) (x3 : Int32) (w8 : Int32) (w7 : Int32) : Nat → VS → Int32 → Int32 × VS
  | 0, σ, _ => (0, σ)
  | n + 1, σ, u9 => (if 6 ≤ u9 then (if u9 = 6 then (if (mX3_come σ.1 3 5 1 3).1 = (-1) then (if (mX3_come (mX3_come σ.1 3 5 1 3).2 2 5 1 0).1 = (-2) then (if (mX3_come (mX3_come (mX3_come σ.1 3 5 1 3).2 2 5 1 0).2 3 41 1 0).1 = (-2) then (1, ((mX3_come (mX3_come (mX3_come σ.1 3 5 1 3).2 2 5 1 0).2 3 41 1 0).2, σ.2)) else (0, ((mX3_come (mX3_come (mX3_come σ.1 3 5 1 3).2 2 5 1 0).2 3 41 1 0).2, σ.2))) else (0, ((mX3_come (mX3_come σ.1 3 5 1 3).2 2 5 1 0).2, σ.2))) else (0, ((mX3_come σ.1 3 5 1 3).2, σ.2))) else (if (mX3_come σ.1 (mL_of ((L_g σ.2), (upd (upd (upd (upd (upd (upd (upd (upd (upd (upd (L_b σ.2) (10 * u9).toNatClampNeg 1) ((10 * u9) + 1).toNatClampNeg (3 + (mL_low x3 18))) ((10 * u9) + 2).toNatClampNeg (5 + (mL_low (x3 >>> ((5 : Int32) &&& 31)) ((if ((x3 >>> ((4 : Int32) &&& 31)) &&& 3) = 0 then 36 else 27) : Int32)))) ((10 * u9) + 3).toNatClampNeg (1 + (mL_low (x3 >>> ((8 : Int32) &&& 31)) ((if ((x3 >>> ((7 : Int32) &&& 31)) &&& 3) = 0 then 30 else 16) : Int32)))) ((10 * u9) + 4).toNatClampNeg (mL_low (x3 >>> ((12 : Int32) &&& 31)) 3)) ((10 * u9) + 5).toNatClampNeg (-1)) ((10 * u9) + 6).toNatClampNeg (-1)) ((10 * u9) + 7).toNatClampNeg (-1)) ((10 * u9) + 8).toNatClampNeg 0) ((10 * u9) + 9).toNatClampNeg 0), (upd (L_t σ.2) u9.toNatClampNeg 0), (L_r σ.2)) u9 1) (mL_of ((L_g σ.2), (upd (upd (upd (upd (upd (upd (upd (upd (upd (upd (L_b σ.2) (10 * u9).toNatClampNeg 1) ((10 * u9) + 1).toNatClampNeg (3 + (mL_low x3 18))) ((10 * u9) + 2).toNatClampNeg (5 + (mL_low (x3 >>> ((5 : Int32) &&& 31)) ((if ((x3 >>> ((4 : Int32) &&& 31)) &&& 3) = 0 then 36 else 27) : Int32)))) ((10 * u9) + 3).toNatClampNeg (1 + (mL_low (x3 >>> ((8 : Int32) &&& 31)) ((if ((x3 >>> ((7 : Int32) &&& 31)) &&& 3) = 0 then 30 else 16) : Int32)))) ((10 * u9) + 4).toNatClampNeg (mL_low (x3 >>> ((12 : Int32) &&& 31)) 3)) ((10 * u9) + 5).toNatClampNeg (-1)) ((10 * u9) + 6).toNatClampNeg (-1)) ((10 * u9) + 7).toNatClampNeg (-1)) ((10 * u9) + 8).toNatClampNeg 0) ((10 * u9) + 9).toNatClampNeg 0), (upd (L_t σ.2) u9.toNatClampNeg 0), (L_r σ.2)) u9 2) (mL_of ((L_g σ.2), (upd (upd (upd (upd (upd (upd (upd (upd (upd (upd (L_b σ.2) (10 * u9).toNatClampNeg 1) ((10 * u9) + 1).toNatClampNeg (3 + (mL_low x3 18))) ((10 * u9) + 2).toNatClampNeg (5 + (mL_low (x3 >>> ((5 : Int32) &&& 31)) ((if ((x3 >>> ((4 : Int32) &&& 31)) &&& 3) = 0 then 36 else 27) : Int32)))) ((10 * u9) + 3).toNatClampNeg (1 + (mL_low (x3 >>> ((8 : Int32) &&& 31)) ((if ((x3 >>> ((7 : Int32) &&& 31)) &&& 3) = 0 then 30 else 16) : Int32)))) ((10 * u9) + 4).toNatClampNeg (mL_low (x3 >>> ((12 : Int32) &&& 31)) 3)) ((10 * u9) + 5).toNatClampNeg (-1)) ((10 * u9) + 6).toNatClampNeg (-1)) ((10 * u9) + 7).toNatClampNeg (-1)) ((10 * u9) + 8).toNatClampNeg 0) ((10 * u9) + 9).toNatClampNeg 0), (upd (L_t σ.2) u9.toNatClampNeg 0), (L_r σ.2)) u9 3) (mL_of ((L_g σ.2), (upd (upd (upd (upd (upd (upd (upd (upd (upd (upd (L_b σ.2) (10 * u9).toNatClampNeg 1) ((10 * u9) + 1).toNatClampNeg (3 + (mL_low x3 18))) ((10 * u9) + 2).toNatClampNeg (5 + (mL_low (x3 >>> ((5 : Int32) &&& 31)) ((if ((x3 >>> ((4 : Int32) &&& 31)) &&& 3) = 0 then 36 else 27) : Int32)))) ((10 * u9) + 3).toNatClampNeg (1 + (mL_low (x3 >>> ((8 : Int32) &&& 31)) ((if ((x3 >>> ((7 : Int32) &&& 31)) &&& 3) = 0 then 30 else 16) : Int32)))) ((10 * u9) + 4).toNatClampNeg (mL_low (x3 >>> ((12 : Int32) &&& 31)) 3)) ((10 * u9) + 5).toNatClampNeg (-1)) ((10 * u9) + 6).toNatClampNeg (-1)) ((10 * u9) + 7).toNatClampNeg (-1)) ((10 * u9) + 8).toNatClampNeg 0) ((10 * u9) + 9).toNatClampNeg 0), (upd (L_t σ.2) u9.toNatClampNeg 0), (L_r σ.2)) u9 4)).1 = u9 then (1, ((mX3_come σ.1 (mL_of ((L_g σ.2), (upd (upd (upd (upd (upd (upd (upd (upd (upd (upd (L_b σ.2) (10 * u9).toNatClampNeg 1) ((10 * u9) + 1).toNatClampNeg (3 + (mL_low x3 18))) ((10 * u9) + 2).toNatClampNeg (5 + (mL_low (x3 >>> ((5 : Int32) &&& 31)) ((if ((x3 >>> ((4 : Int32) &&& 31)) &&& 3) = 0 then 36 else 27) : Int32)))) ((10 * u9) + 3).toNatClampNeg (1 + (mL_low (x3 >>> ((8 : Int32) &&& 31)) ((if ((x3 >>> ((7 : Int32) &&& 31)) &&& 3) = 0 then 30 else 16) : Int32)))) ((10 * u9) + 4).toNatClampNeg (mL_low (x3 >>> ((12 : Int32) &&& 31)) 3)) ((10 * u9) + 5).toNatClampNeg (-1)) ((10 * u9) + 6).toNatClampNeg (-1)) ((10 * u9) + 7).toNatClampNeg (-1)) ((10 * u9) + 8).toNatClampNeg 0) ((10 * u9) + 9).toNatClampNeg 0), (upd (L_t σ.2) u9.toNatClampNeg 0), (L_r σ.2)) u9 1) (mL_of ((L_g σ.2), (upd (upd (upd (upd (upd (upd (upd (upd (upd (upd (L_b σ.2) (10 * u9).toNatClampNeg 1) ((10 * u9) + 1).toNatClampNeg (3 + (mL_low x3 18))) ((10 * u9) + 2).toNatClampNeg (5 + (mL_low (x3 >>> ((5 : Int32) &&& 31)) ((if ((x3 >>> ((4 : Int32) &&& 31)) &&& 3) = 0 then 36 else 27) : Int32)))) ((10 * u9) + 3).toNatClampNeg (1 + (mL_low (x3 >>> ((8 : Int32) &&& 31)) ((if ((x3 >>> ((7 : Int32) &&& 31)) &&& 3) = 0 then 30 else 16) : Int32)))) ((10 * u9) + 4).toNatClampNeg (mL_low (x3 >>> ((12 : Int32) &&& 31)) 3)) ((10 * u9) + 5).toNatClampNeg (-1)) ((10 * u9) + 6).toNatClampNeg (-1)) ((10 * u9) + 7).toNatClampNeg (-1)) ((10 * u9) + 8).toNatClampNeg 0) ((10 * u9) + 9).toNatClampNeg 0), (upd (L_t σ.2) u9.toNatClampNeg 0), (L_r σ.2)) u9 2) (mL_of ((L_g σ.2), (upd (upd (upd (upd (upd (upd (upd (upd (upd (upd (L_b σ.2) (10 * u9).toNatClampNeg 1) ((10 * u9) + 1).toNatClampNeg (3 + (mL_low x3 18))) ((10 * u9) + 2).toNatClampNeg (5 + (mL_low (x3 >>> ((5 : Int32) &&& 31)) ((if ((x3 >>> ((4 : Int32) &&& 31)) &&& 3) = 0 then 36 else 27) : Int32)))) ((10 * u9) + 3).toNatClampNeg (1 + (mL_low (x3 >>> ((8 : Int32) &&& 31)) ((if ((x3 >>> ((7 : Int32) &&& 31)) &&& 3) = 0 then 30 else 16) : Int32)))) ((10 * u9) + 4).toNatClampNeg (mL_low (x3 >>> ((12 : Int32) &&& 31)) 3)) ((10 * u9) + 5).toNatClampNeg (-1)) ((10 * u9) + 6).toNatClampNeg (-1)) ((10 * u9) + 7).toNatClampNeg (-1)) ((10 * u9) + 8).toNatClampNeg 0) ((10 * u9) + 9).toNatClampNeg 0), (upd (L_t σ.2) u9.toNatClampNeg 0), (L_r σ.2)) u9 3) (mL_of ((L_g σ.2), (upd (upd (upd (upd (upd (upd (upd (upd (upd (upd (L_b σ.2) (10 * u9).toNatClampNeg 1) ((10 * u9) + 1).toNatClampNeg (3 + (mL_low x3 18))) ((10 * u9) + 2).toNatClampNeg (5 + (mL_low (x3 >>> ((5 : Int32) &&& 31)) ((if ((x3 >>> ((4 : Int32) &&& 31)) &&& 3) = 0 then 36 else 27) : Int32)))) ((10 * u9) + 3).toNatClampNeg (1 + (mL_low (x3 >>> ((8 : Int32) &&& 31)) ((if ((x3 >>> ((7 : Int32) &&& 31)) &&& 3) = 0 then 30 else 16) : Int32)))) ((10 * u9) + 4).toNatClampNeg (mL_low (x3 >>> ((12 : Int32) &&& 31)) 3)) ((10 * u9) + 5).toNatClampNeg (-1)) ((10 * u9) + 6).toNatClampNeg (-1)) ((10 * u9) + 7).toNatClampNeg (-1)) ((10 * u9) + 8).toNatClampNeg 0) ((10 * u9) + 9).toNatClampNeg 0), (upd (L_t σ.2) u9.toNatClampNeg 0), (L_r σ.2)) u9 4)).2, ((L_g σ.2), (upd (upd (upd (upd (upd (upd (upd (upd (upd (upd (L_b σ.2) (10 * u9).toNatClampNeg 1) ((10 * u9) + 1).toNatClampNeg (3 + (mL_low x3 18))) ((10 * u9) + 2).toNatClampNeg (5 + (mL_low (x3 >>> ((5 : Int32) &&& 31)) ((if ((x3 >>> ((4 : Int32) &&& 31)) &&& 3) = 0 then 36 else 27) : Int32)))) ((10 * u9) + 3).toNatClampNeg (1 + (mL_low (x3 >>> ((8 : Int32) &&& 31)) ((if ((x3 >>> ((7 : Int32) &&& 31)) &&& 3) = 0 then 30 else 16) : Int32)))) ((10 * u9) + 4).toNatClampNeg (mL_low (x3 >>> ((12 : Int32) &&& 31)) 3)) ((10 * u9) + 5).toNatClampNeg (-1)) ((10 * u9) + 6).toNatClampNeg (-1)) ((10 * u9) + 7).toNatClampNeg (-1)) ((10 * u9) + 8).toNatClampNeg 0) ((10 * u9) + 9).toNatClampNeg 0), (upd (L_t σ.2) u9.toNatClampNeg 0), (L_r σ.2)))) else (0, ((mX3_come σ.1 (mL_of ((L_g σ.2), (upd (upd (upd (upd (upd (upd (upd (upd (upd (upd (L_b σ.2) (10 * u9).toNatClampNeg 1) ((10 * u9) + 1).toNatClampNeg (3 + (mL_low x3 18))) ((10 * u9) + 2).toNatClampNeg (5 + (mL_low (x3 >>> ((5 : Int32) &&& 31)) ((if ((x3 >>> ((4 : Int32) &&& 31)) &&& 3) = 0 then 36 else 27) : Int32)))) ((10 * u9) + 3).toNatClampNeg (1 + (mL_low (x3 >>> ((8 : Int32) &&& 31)) ((if ((x3 >>> ((7 : Int32) &&& 31)) &&& 3) = 0 then 30 else 16) : Int32)))) ((10 * u9) + 4).toNatClampNeg (mL_low (x3 >>> ((12 : Int32) &&& 31)) 3)) ((10 * u9) + 5).toNatClampNeg (-1)) ((10 * u9) + 6).toNatClampNeg (-1)) ((10 * u9) + 7).toNatClampNeg (-1)) ((10 * u9) + 8).toNatClampNeg 0) ((10 * u9) + 9).toNatClampNeg 0), (upd (L_t σ.2) u9.toNatClampNeg 0), (L_r σ.2)) u9 1) (mL_of ((L_g σ.2), (upd (upd (upd (upd (upd (upd (upd (upd (upd (upd (L_b σ.2) (10 * u9).toNatClampNeg 1) ((10 * u9) + 1).toNatClampNeg (3 + (mL_low x3 18))) ((10 * u9) + 2).toNatClampNeg (5 + (mL_low (x3 >>> ((5 : Int32) &&& 31)) ((if ((x3 >>> ((4 : Int32) &&& 31)) &&& 3) = 0 then 36 else 27) : Int32)))) ((10 * u9) + 3).toNatClampNeg (1 + (mL_low (x3 >>> ((8 : Int32) &&& 31)) ((if ((x3 >>> ((7 : Int32) &&& 31)) &&& 3) = 0 then 30 else 16) : Int32)))) ((10 * u9) + 4).toNatClampNeg (mL_low (x3 >>> ((12 : Int32) &&& 31)) 3)) ((10 * u9) + 5).toNatClampNeg (-1)) ((10 * u9) + 6).toNatClampNeg (-1)) ((10 * u9) + 7).toNatClampNeg (-1)) ((10 * u9) + 8).toNatClampNeg 0) ((10 * u9) + 9).toNatClampNeg 0), (upd (L_t σ.2) u9.toNatClampNeg 0), (L_r σ.2)) u9 2) (mL_of ((L_g σ.2), (upd (upd (upd (upd (upd (upd (upd (upd (upd (upd (L_b σ.2) (10 * u9).toNatClampNeg 1) ((10 * u9) + 1).toNatClampNeg (3 + (mL_low x3 18))) ((10 * u9) + 2).toNatClampNeg (5 + (mL_low (x3 >>> ((5 : Int32) &&& 31)) ((if ((x3 >>> ((4 : Int32) &&& 31)) &&& 3) = 0 then 36 else 27) : Int32)))) ((10 * u9) + 3).toNatClampNeg (1 + (mL_low (x3 >>> ((8 : Int32) &&& 31)) ((if ((x3 >>> ((7 : Int32) &&& 31)) &&& 3) = 0 then 30 else 16) : Int32)))) ((10 * u9) + 4).toNatClampNeg (mL_low (x3 >>> ((12 : Int32) &&& 31)) 3)) ((10 * u9) + 5).toNatClampNeg (-1)) ((10 * u9) + 6).toNatClampNeg (-1)) ((10 * u9) + 7).toNatClampNeg (-1)) ((10 * u9) + 8).toNatClampNeg 0) ((10 * u9) + 9).toNatClampNeg 0), (upd (L_t σ.2) u9.toNatClampNeg 0), (L_r σ.2)) u9 3) (mL_of ((L_g σ.2), (upd (upd (upd (upd (upd (upd (upd (upd (upd (upd (L_b σ.2) (10 * u9).toNatClampNeg 1) ((10 * u9) + 1).toNatClampNeg (3 + (mL_low x3 18))) ((10 * u9) + 2).toNatClampNeg (5 + (mL_low (x3 >>> ((5 : Int32) &&& 31)) ((if ((x3 >>> ((4 : Int32) &&& 31)) &&& 3) = 0 then 36 else 27) : Int32)))) ((10 * u9) + 3).toNatClampNeg (1 + (mL_low (x3 >>> ((8 : Int32) &&& 31)) ((if ((x3 >>> ((7 : Int32) &&& 31)) &&& 3) = 0 then 30 else 16) : Int32)))) ((10 * u9) + 4).toNatClampNeg (mL_low (x3 >>> ((12 : Int32) &&& 31)) 3)) ((10 * u9) + 5).toNatClampNeg (-1)) ((10 * u9) + 6).toNatClampNeg (-1)) ((10 * u9) + 7).toNatClampNeg (-1)) ((10 * u9) + 8).toNatClampNeg 0) ((10 * u9) + 9).toNatClampNeg 0), (upd (L_t σ.2) u9.toNatClampNeg 0), (L_r σ.2)) u9 4)).2, ((L_g σ.2), (upd (upd (upd (upd (upd (upd (upd (upd (upd (upd (L_b σ.2) (10 * u9).toNatClampNeg 1) ((10 * u9) + 1).toNatClampNeg (3 + (mL_low x3 18))) ((10 * u9) + 2).toNatClampNeg (5 + (mL_low (x3 >>> ((5 : Int32) &&& 31)) ((if ((x3 >>> ((4 : Int32) &&& 31)) &&& 3) = 0 then 36 else 27) : Int32)))) ((10 * u9) + 3).toNatClampNeg (1 + (mL_low (x3 >>> ((8 : Int32) &&& 31)) ((if ((x3 >>> ((7 : Int32) &&& 31)) &&& 3) = 0 then 30 else 16) : Int32)))) ((10 * u9) + 4).toNatClampNeg (mL_low (x3 >>> ((12 : Int32) &&& 31)) 3)) ((10 * u9) + 5).toNatClampNeg (-1)) ((10 * u9) + 6).toNatClampNeg (-1)) ((10 * u9) + 7).toNatClampNeg (-1)) ((10 * u9) + 8).toNatClampNeg 0) ((10 * u9) + 9).toNatClampNeg 0), (upd (L_t σ.2) u9.toNatClampNeg 0), (L_r σ.2)))))) else (if (mL_of σ.2 u9 0) = 1 then (mL_yard_L25 x2 x3 w8 w7 n σ (u9 + 1)) else (if u9 = 6 then (if (mX3_come σ.1 3 5 1 3).1 = (-1) then (if (mX3_come (mX3_come σ.1 3 5 1 3).2 2 5 1 0).1 = (-2) then (if (mX3_come (mX3_come (mX3_come σ.1 3 5 1 3).2 2 5 1 0).2 3 41 1 0).1 = (-2) then (1, ((mX3_come (mX3_come (mX3_come σ.1 3 5 1 3).2 2 5 1 0).2 3 41 1 0).2, σ.2)) else (0, ((mX3_come (mX3_come (mX3_come σ.1 3 5 1 3).2 2 5 1 0).2 3 41 1 0).2, σ.2))) else (0, ((mX3_come (mX3_come σ.1 3 5 1 3).2 2 5 1 0).2, σ.2))) else (0, ((mX3_come σ.1 3 5 1 3).2, σ.2))) else (if (mX3_come σ.1 (mL_of ((L_g σ.2), (upd (upd (upd (upd (upd (upd (upd (upd (upd (upd (L_b σ.2) (10 * u9).toNatClampNeg 1) ((10 * u9) + 1).toNatClampNeg (3 + (mL_low x3 18))) ((10 * u9) + 2).toNatClampNeg (5 + (mL_low (x3 >>> ((5 : Int32) &&& 31)) ((if ((x3 >>> ((4 : Int32) &&& 31)) &&& 3) = 0 then 36 else 27) : Int32)))) ((10 * u9) + 3).toNatClampNeg (1 + (mL_low (x3 >>> ((8 : Int32) &&& 31)) ((if ((x3 >>> ((7 : Int32) &&& 31)) &&& 3) = 0 then 30 else 16) : Int32)))) ((10 * u9) + 4).toNatClampNeg (mL_low (x3 >>> ((12 : Int32) &&& 31)) 3)) ((10 * u9) + 5).toNatClampNeg (-1)) ((10 * u9) + 6).toNatClampNeg (-1)) ((10 * u9) + 7).toNatClampNeg (-1)) ((10 * u9) + 8).toNatClampNeg 0) ((10 * u9) + 9).toNatClampNeg 0), (upd (L_t σ.2) u9.toNatClampNeg 0), (L_r σ.2)) u9 1) (mL_of ((L_g σ.2), (upd (upd (upd (upd (upd (upd (upd (upd (upd (upd (L_b σ.2) (10 * u9).toNatClampNeg 1) ((10 * u9) + 1).toNatClampNeg (3 + (mL_low x3 18))) ((10 * u9) + 2).toNatClampNeg (5 + (mL_low (x3 >>> ((5 : Int32) &&& 31)) ((if ((x3 >>> ((4 : Int32) &&& 31)) &&& 3) = 0 then 36 else 27) : Int32)))) ((10 * u9) + 3).toNatClampNeg (1 + (mL_low (x3 >>> ((8 : Int32) &&& 31)) ((if ((x3 >>> ((7 : Int32) &&& 31)) &&& 3) = 0 then 30 else 16) : Int32)))) ((10 * u9) + 4).toNatClampNeg (mL_low (x3 >>> ((12 : Int32) &&& 31)) 3)) ((10 * u9) + 5).toNatClampNeg (-1)) ((10 * u9) + 6).toNatClampNeg (-1)) ((10 * u9) + 7).toNatClampNeg (-1)) ((10 * u9) + 8).toNatClampNeg 0) ((10 * u9) + 9).toNatClampNeg 0), (upd (L_t σ.2) u9.toNatClampNeg 0), (L_r σ.2)) u9 2) (mL_of ((L_g σ.2), (upd (upd (upd (upd (upd (upd (upd (upd (upd (upd (L_b σ.2) (10 * u9).toNatClampNeg 1) ((10 * u9) + 1).toNatClampNeg (3 + (mL_low x3 18))) ((10 * u9) + 2).toNatClampNeg (5 + (mL_low (x3 >>> ((5 : Int32) &&& 31)) ((if ((x3 >>> ((4 : Int32) &&& 31)) &&& 3) = 0 then 36 else 27) : Int32)))) ((10 * u9) + 3).toNatClampNeg (1 + (mL_low (x3 >>> ((8 : Int32) &&& 31)) ((if ((x3 >>> ((7 : Int32) &&& 31)) &&& 3) = 0 then 30 else 16) : Int32)))) ((10 * u9) + 4).toNatClampNeg (mL_low (x3 >>> ((12 : Int32) &&& 31)) 3)) ((10 * u9) + 5).toNatClampNeg (-1)) ((10 * u9) + 6).toNatClampNeg (-1)) ((10 * u9) + 7).toNatClampNeg (-1)) ((10 * u9) + 8).toNatClampNeg 0) ((10 * u9) + 9).toNatClampNeg 0), (upd (L_t σ.2) u9.toNatClampNeg 0), (L_r σ.2)) u9 3) (mL_of ((L_g σ.2), (upd (upd (upd (upd (upd (upd (upd (upd (upd (upd (L_b σ.2) (10 * u9).toNatClampNeg 1) ((10 * u9) + 1).toNatClampNeg (3 + (mL_low x3 18))) ((10 * u9) + 2).toNatClampNeg (5 + (mL_low (x3 >>> ((5 : Int32) &&& 31)) ((if ((x3 >>> ((4 : Int32) &&& 31)) &&& 3) = 0 then 36 else 27) : Int32)))) ((10 * u9) + 3).toNatClampNeg (1 + (mL_low (x3 >>> ((8 : Int32) &&& 31)) ((if ((x3 >>> ((7 : Int32) &&& 31)) &&& 3) = 0 then 30 else 16) : Int32)))) ((10 * u9) + 4).toNatClampNeg (mL_low (x3 >>> ((12 : Int32) &&& 31)) 3)) ((10 * u9) + 5).toNatClampNeg (-1)) ((10 * u9) + 6).toNatClampNeg (-1)) ((10 * u9) + 7).toNatClampNeg (-1)) ((10 * u9) + 8).toNatClampNeg 0) ((10 * u9) + 9).toNatClampNeg 0), (upd (L_t σ.2) u9.toNatClampNeg 0), (L_r σ.2)) u9 4)).1 = u9 then (1, ((mX3_come σ.1 (mL_of ((L_g σ.2), (upd (upd (upd (upd (upd (upd (upd (upd (upd (upd (L_b σ.2) (10 * u9).toNatClampNeg 1) ((10 * u9) + 1).toNatClampNeg (3 + (mL_low x3 18))) ((10 * u9) + 2).toNatClampNeg (5 + (mL_low (x3 >>> ((5 : Int32) &&& 31)) ((if ((x3 >>> ((4 : Int32) &&& 31)) &&& 3) = 0 then 36 else 27) : Int32)))) ((10 * u9) + 3).toNatClampNeg (1 + (mL_low (x3 >>> ((8 : Int32) &&& 31)) ((if ((x3 >>> ((7 : Int32) &&& 31)) &&& 3) = 0 then 30 else 16) : Int32)))) ((10 * u9) + 4).toNatClampNeg (mL_low (x3 >>> ((12 : Int32) &&& 31)) 3)) ((10 * u9) + 5).toNatClampNeg (-1)) ((10 * u9) + 6).toNatClampNeg (-1)) ((10 * u9) + 7).toNatClampNeg (-1)) ((10 * u9) + 8).toNatClampNeg 0) ((10 * u9) + 9).toNatClampNeg 0), (upd (L_t σ.2) u9.toNatClampNeg 0), (L_r σ.2)) u9 1) (mL_of ((L_g σ.2), (upd (upd (upd (upd (upd (upd (upd (upd (upd (upd (L_b σ.2) (10 * u9).toNatClampNeg 1) ((10 * u9) + 1).toNatClampNeg (3 + (mL_low x3 18))) ((10 * u9) + 2).toNatClampNeg (5 + (mL_low (x3 >>> ((5 : Int32) &&& 31)) ((if ((x3 >>> ((4 : Int32) &&& 31)) &&& 3) = 0 then 36 else 27) : Int32)))) ((10 * u9) + 3).toNatClampNeg (1 + (mL_low (x3 >>> ((8 : Int32) &&& 31)) ((if ((x3 >>> ((7 : Int32) &&& 31)) &&& 3) = 0 then 30 else 16) : Int32)))) ((10 * u9) + 4).toNatClampNeg (mL_low (x3 >>> ((12 : Int32) &&& 31)) 3)) ((10 * u9) + 5).toNatClampNeg (-1)) ((10 * u9) + 6).toNatClampNeg (-1)) ((10 * u9) + 7).toNatClampNeg (-1)) ((10 * u9) + 8).toNatClampNeg 0) ((10 * u9) + 9).toNatClampNeg 0), (upd (L_t σ.2) u9.toNatClampNeg 0), (L_r σ.2)) u9 2) (mL_of ((L_g σ.2), (upd (upd (upd (upd (upd (upd (upd (upd (upd (upd (L_b σ.2) (10 * u9).toNatClampNeg 1) ((10 * u9) + 1).toNatClampNeg (3 + (mL_low x3 18))) ((10 * u9) + 2).toNatClampNeg (5 + (mL_low (x3 >>> ((5 : Int32) &&& 31)) ((if ((x3 >>> ((4 : Int32) &&& 31)) &&& 3) = 0 then 36 else 27) : Int32)))) ((10 * u9) + 3).toNatClampNeg (1 + (mL_low (x3 >>> ((8 : Int32) &&& 31)) ((if ((x3 >>> ((7 : Int32) &&& 31)) &&& 3) = 0 then 30 else 16) : Int32)))) ((10 * u9) + 4).toNatClampNeg (mL_low (x3 >>> ((12 : Int32) &&& 31)) 3)) ((10 * u9) + 5).toNatClampNeg (-1)) ((10 * u9) + 6).toNatClampNeg (-1)) ((10 * u9) + 7).toNatClampNeg (-1)) ((10 * u9) + 8).toNatClampNeg 0) ((10 * u9) + 9).toNatClampNeg 0), (upd (L_t σ.2) u9.toNatClampNeg 0), (L_r σ.2)) u9 3) (mL_of ((L_g σ.2), (upd (upd (upd (upd (upd (upd (upd (upd (upd (upd (L_b σ.2) (10 * u9).toNatClampNeg 1) ((10 * u9) + 1).toNatClampNeg (3 + (mL_low x3 18))) ((10 * u9) + 2).toNatClampNeg (5 + (mL_low (x3 >>> ((5 : Int32) &&& 31)) ((if ((x3 >>> ((4 : Int32) &&& 31)) &&& 3) = 0 then 36 else 27) : Int32)))) ((10 * u9) + 3).toNatClampNeg (1 + (mL_low (x3 >>> ((8 : Int32) &&& 31)) ((if ((x3 >>> ((7 : Int32) &&& 31)) &&& 3) = 0 then 30 else 16) : Int32)))) ((10 * u9) + 4).toNatClampNeg (mL_low (x3 >>> ((12 : Int32) &&& 31)) 3)) ((10 * u9) + 5).toNatClampNeg (-1)) ((10 * u9) + 6).toNatClampNeg (-1)) ((10 * u9) + 7).toNatClampNeg (-1)) ((10 * u9) + 8).toNatClampNeg 0) ((10 * u9) + 9).toNatClampNeg 0), (upd (L_t σ.2) u9.toNatClampNeg 0), (L_r σ.2)) u9 4)).2, ((L_g σ.2), (upd (upd (upd (upd (upd (upd (upd (upd (upd (upd (L_b σ.2) (10 * u9).toNatClampNeg 1) ((10 * u9) + 1).toNatClampNeg (3 + (mL_low x3 18))) ((10 * u9) + 2).toNatClampNeg (5 + (mL_low (x3 >>> ((5 : Int32) &&& 31)) ((if ((x3 >>> ((4 : Int32) &&& 31)) &&& 3) = 0 then 36 else 27) : Int32)))) ((10 * u9) + 3).toNatClampNeg (1 + (mL_low (x3 >>> ((8 : Int32) &&& 31)) ((if ((x3 >>> ((7 : Int32) &&& 31)) &&& 3) = 0 then 30 else 16) : Int32)))) ((10 * u9) + 4).toNatClampNeg (mL_low (x3 >>> ((12 : Int32) &&& 31)) 3)) ((10 * u9) + 5).toNatClampNeg (-1)) ((10 * u9) + 6).toNatClampNeg (-1)) ((10 * u9) + 7).toNatClampNeg (-1)) ((10 * u9) + 8).toNatClampNeg 0) ((10 * u9) + 9).toNatClampNeg 0), (upd (L_t σ.2) u9.toNatClampNeg 0), (L_r σ.2)))) else (0, ((mX3_come σ.1 (mL_of ((L_g σ.2), (upd (upd (upd (upd (upd (upd (upd (upd (upd (upd (L_b σ.2) (10 * u9).toNatClampNeg 1) ((10 * u9) + 1).toNatClampNeg (3 + (mL_low x3 18))) ((10 * u9) + 2).toNatClampNeg (5 + (mL_low (x3 >>> ((5 : Int32) &&& 31)) ((if ((x3 >>> ((4 : Int32) &&& 31)) &&& 3) = 0 then 36 else 27) : Int32)))) ((10 * u9) + 3).toNatClampNeg (1 + (mL_low (x3 >>> ((8 : Int32) &&& 31)) ((if ((x3 >>> ((7 : Int32) &&& 31)) &&& 3) = 0 then 30 else 16) : Int32)))) ((10 * u9) + 4).toNatClampNeg (mL_low (x3 >>> ((12 : Int32) &&& 31)) 3)) ((10 * u9) + 5).toNatClampNeg (-1)) ((10 * u9) + 6).toNatClampNeg (-1)) ((10 * u9) + 7).toNatClampNeg (-1)) ((10 * u9) + 8).toNatClampNeg 0) ((10 * u9) + 9).toNatClampNeg 0), (upd (L_t σ.2) u9.toNatClampNeg 0), (L_r σ.2)) u9 1) (mL_of ((L_g σ.2), (upd (upd (upd (upd (upd (upd (upd (upd (upd (upd (L_b σ.2) (10 * u9).toNatClampNeg 1) ((10 * u9) + 1).toNatClampNeg (3 + (mL_low x3 18))) ((10 * u9) + 2).toNatClampNeg (5 + (mL_low (x3 >>> ((5 : Int32) &&& 31)) ((if ((x3 >>> ((4 : Int32) &&& 31)) &&& 3) = 0 then 36 else 27) : Int32)))) ((10 * u9) + 3).toNatClampNeg (1 + (mL_low (x3 >>> ((8 : Int32) &&& 31)) ((if ((x3 >>> ((7 : Int32) &&& 31)) &&& 3) = 0 then 30 else 16) : Int32)))) ((10 * u9) + 4).toNatClampNeg (mL_low (x3 >>> ((12 : Int32) &&& 31)) 3)) ((10 * u9) + 5).toNatClampNeg (-1)) ((10 * u9) + 6).toNatClampNeg (-1)) ((10 * u9) + 7).toNatClampNeg (-1)) ((10 * u9) + 8).toNatClampNeg 0) ((10 * u9) + 9).toNatClampNeg 0), (upd (L_t σ.2) u9.toNatClampNeg 0), (L_r σ.2)) u9 2) (mL_of ((L_g σ.2), (upd (upd (upd (upd (upd (upd (upd (upd (upd (upd (L_b σ.2) (10 * u9).toNatClampNeg 1) ((10 * u9) + 1).toNatClampNeg (3 + (mL_low x3 18))) ((10 * u9) + 2).toNatClampNeg (5 + (mL_low (x3 >>> ((5 : Int32) &&& 31)) ((if ((x3 >>> ((4 : Int32) &&& 31)) &&& 3) = 0 then 36 else 27) : Int32)))) ((10 * u9) + 3).toNatClampNeg (1 + (mL_low (x3 >>> ((8 : Int32) &&& 31)) ((if ((x3 >>> ((7 : Int32) &&& 31)) &&& 3) = 0 then 30 else 16) : Int32)))) ((10 * u9) + 4).toNatClampNeg (mL_low (x3 >>> ((12 : Int32) &&& 31)) 3)) ((10 * u9) + 5).toNatClampNeg (-1)) ((10 * u9) + 6).toNatClampNeg (-1)) ((10 * u9) + 7).toNatClampNeg (-1)) ((10 * u9) + 8).toNatClampNeg 0) ((10 * u9) + 9).toNatClampNeg 0), (upd (L_t σ.2) u9.toNatClampNeg 0), (L_r σ.2)) u9 3) (mL_of ((L_g σ.2), (upd (upd (upd (upd (upd (upd (upd (upd (upd (upd (L_b σ.2) (10 * u9).toNatClampNeg 1) ((10 * u9) + 1).toNatClampNeg (3 + (mL_low x3 18))) ((10 * u9) + 2).toNatClampNeg (5 + (mL_low (x3 >>> ((5 : Int32) &&& 31)) ((if ((x3 >>> ((4 : Int32) &&& 31)) &&& 3) = 0 then 36 else 27) : Int32)))) ((10 * u9) + 3).toNatClampNeg (1 + (mL_low (x3 >>> ((8 : Int32) &&& 31)) ((if ((x3 >>> ((7 : Int32) &&& 31)) &&& 3) = 0 then 30 else 16) : Int32)))) ((10 * u9) + 4).toNatClampNeg (mL_low (x3 >>> ((12 : Int32) &&& 31)) 3)) ((10 * u9) + 5).toNatClampNeg (-1)) ((10 * u9) + 6).toNatClampNeg (-1)) ((10 * u9) + 7).toNatClampNeg (-1)) ((10 * u9) + 8).toNatClampNeg 0) ((10 * u9) + 9).toNatClampNeg 0), (upd (L_t σ.2) u9.toNatClampNeg 0), (L_r σ.2)) u9 4)).2, ((L_g σ.2), (upd (upd (upd (upd (upd (upd (upd (upd (upd (upd (L_b σ.2) (10 * u9).toNatClampNeg 1) ((10 * u9) + 1).toNatClampNeg (3 + (mL_low x3 18))) ((10 * u9) + 2).toNatClampNeg (5 + (mL_low (x3 >>> ((5 : Int32) &&& 31)) ((if ((x3 >>> ((4 : Int32) &&& 31)) &&& 3) = 0 then 36 else 27) : Int32)))) ((10 * u9) + 3).toNatClampNeg (1 + (mL_low (x3 >>> ((8 : Int32) &&& 31)) ((if ((x3 >>> ((7 : Int32) &&& 31)) &&& 3) = 0 then 30 else 16) : Int32)))) ((10 * u9) + 4).toNatClampNeg (mL_low (x3 >>> ((12 : Int32) &&& 31)) 3)) ((10 * u9) + 5).toNatClampNeg (-1)) ((10 * u9) + 6).toNatClampNeg (-1)) ((10 * u9) + 7).toNatClampNeg (-1)) ((10 * u9) + 8).toNatClampNeg 0) ((10 * u9) + 9).toNatClampNeg 0), (upd (L_t σ.2) u9.toNatClampNeg 0), (L_r σ.2))))))))
set_option maxHeartbeats 4000000 in
set_option maxRecDepth 100000 in
theorem q_L_yard_25 {p : Program} {e : Env} {s : State} {m : MethodId} {args : Array Value} {below : List Frame} {meth : Method} {c : Code} (l : Launch) (g : WG) (ad : AV) (x2 : Int32) (x3 : Int32) (w8 : Int32) (w7 : Int32) (hC : Cx p s m args meth c yL_yard cL_yard 12 (some .boolean)) (hK : va_K g.1 vwCl (tysW g) s) {A : Nat → Prop} {ws0 : va_W} (hE : Ex A s s.heap) (hA : ∀ q : Nat, s.heap.size ≤ q → A q) (hAe : A = va_A ws0 s.heap.size) {r : Int32 × VS} : ∀ (n : Nat) (σ : VS) (H : Heap) (locs : List Loc) (hP : va_P g.1 vwCl (cV g ad σ) H) (hD : va_D A (cV g ad σ)) (hS : va_S A s.heap H locs) (u9 : Int32) (hi0 : 0 ≤ u9.toInt) (hi1 : u9.toInt ≤ 6) (hhk : HOK (W_hist σ.1)) (hm : ((7 : Int) - u9.toInt).toNat < n) (hR : r = mL_yard_L25 x2 x3 w8 w7 n σ u9) (ls : Array Slot) (hl : lv_has ls 12 [(9, .int u9), (8, .int w8), (7, .int w7), (0, .ref ad.1.1), (1, .int x2), (2, .int x3), (3, .ref ad.2.1), (4, .ref ad.2.2.1), (5, .ref ad.2.2.2.1), (6, .ref ad.2.2.2.2)]), W p l e (rk 7) s m args below meth c H locs 0 0 (MQ below (va_Qi (fun x _ => x = r.1) (Bw g ws0 (cV g ad r.2) s.heap.size) (va_A ws0 s.heap.size)) args s 0 0 (va_A ws0 s.heap.size)) (F0 m 25 ls []) := by
  obtain ⟨hx, hb, hml, hr, hown, hts, hlk, hnm⟩ := id hC
  intro n
  induction n with
  | zero => intro σ H locs hP hD hS u9 hi0 hi1 hhk hm hR ls hl; exact absurd hm (Nat.not_lt_zero _)
  | succ n ih =>
    intro σ H locs hP hD hS u9 hi0 hi1 hhk hm hR ls hl
    refine lv_iload hx hb dL_yard_25 (lv_at hl 0 rfl) ?_
    refine lv_bipush (v := 6) hx hb dL_yard_27 (by decide) ?_
    refine lv_icmp_ge (tgt := 50) hx hb dL_yard_29 (by decide) (fun c_54 => ?_) (fun c_54 => ?_)
    · refine lv_iload hx hb dL_yard_50 (lv_at hl 0 rfl) ?_
      refine lv_bipush (v := 6) hx hb dL_yard_52 (by decide) ?_
      refine lv_icmp_ne (tgt := 102) hx hb dL_yard_54 (by decide) (fun c_55 => ?_) (fun c_55 => ?_)
      · refine lv_aload hx hb dL_yard_102 (lv_at hl 7 rfl) ?_
        refine lv_bipush (v := 10) hx hb dL_yard_104 (by decide) ?_
        refine lv_iload hx hb dL_yard_106 (lv_at hl 0 rfl) ?_
        refine lv_imul hx hb dL_yard_108 ?_
        refine lv_iconst (v := 1) hx hb dL_yard_109 (by decide) ?_
        refine sV_b hC hK hP hD hS (ix_100 (fr_in hi0 hi1 c_55)) dL_yard_110 (fun H locs hP hD hS => ?_)
        have hP : va_P g.1 vwCl (cV g ad (σ.1, ((L_g σ.2), (upd (L_b σ.2) (10 * u9).toNatClampNeg 1), (L_t σ.2), (L_r σ.2)))) H := hP
        have hD : va_D A (cV g ad (σ.1, ((L_g σ.2), (upd (L_b σ.2) (10 * u9).toNatClampNeg 1), (L_t σ.2), (L_r σ.2)))) := hD
        refine lv_aload hx hb dL_yard_111 (lv_at hl 7 rfl) ?_
        refine lv_bipush (v := 10) hx hb dL_yard_113 (by decide) ?_
        refine lv_iload hx hb dL_yard_115 (lv_at hl 0 rfl) ?_
        refine lv_imul hx hb dL_yard_117 ?_
        refine lv_iconst (v := 1) hx hb dL_yard_118 (by decide) ?_
        refine lv_iadd hx hb dL_yard_119 ?_
        refine lv_iconst (v := 3) hx hb dL_yard_120 (by decide) ?_
        refine lv_iload_n hx hb dL_yard_121 rfl (lv_at hl 5 rfl) ?_
        refine lv_bipush (v := 18) hx hb dL_yard_122 (by decide) ?_
        refine callRs hC (k_L_low l g x3 18 (by first | decide | (split <;> decide))) ci_L_low lk_L_41 ⟨Nat.le_of_ble_eq_true rfl, Nat.le_of_ble_eq_true rfl⟩ hK (hE.S hS).none rfl hl.1 rfl (Nat.le_of_ble_eq_true rfl) dL_yard_124 ⟨Nat.zero_le _, Nat.zero_le _⟩ ?_
        refine lv_iadd hx hb dL_yard_127 ?_
        refine sV_b hC hK hP hD hS (ix_10 (fr_in hi0 hi1 c_55) (in_iff.mpr (by decide))) dL_yard_128 (fun H locs hP hD hS => ?_)
        have hP : va_P g.1 vwCl (cV g ad (σ.1, ((L_g σ.2), (upd (upd (L_b σ.2) (10 * u9).toNatClampNeg 1) ((10 * u9) + 1).toNatClampNeg (3 + (mL_low x3 18))), (L_t σ.2), (L_r σ.2)))) H := hP
        have hD : va_D A (cV g ad (σ.1, ((L_g σ.2), (upd (upd (L_b σ.2) (10 * u9).toNatClampNeg 1) ((10 * u9) + 1).toNatClampNeg (3 + (mL_low x3 18))), (L_t σ.2), (L_r σ.2)))) := hD
        refine lv_aload hx hb dL_yard_129 (lv_at hl 7 rfl) ?_
        refine lv_bipush (v := 10) hx hb dL_yard_131 (by decide) ?_
        refine lv_iload hx hb dL_yard_133 (lv_at hl 0 rfl) ?_
        refine lv_imul hx hb dL_yard_135 ?_
        refine lv_iconst (v := 2) hx hb dL_yard_136 (by decide) ?_
        refine lv_iadd hx hb dL_yard_137 ?_
        refine lv_iconst (v := 5) hx hb dL_yard_138 (by decide) ?_
        refine lv_iload_n hx hb dL_yard_139 rfl (lv_at hl 5 rfl) ?_
        refine lv_iconst (v := 5) hx hb dL_yard_140 (by decide) ?_
        refine lv_ishr hx hb dL_yard_141 ?_
        refine lv_iload_n hx hb dL_yard_142 rfl (lv_at hl 5 rfl) ?_
        refine lv_iconst (v := 4) hx hb dL_yard_143 (by decide) ?_
        refine lv_ishr hx hb dL_yard_144 ?_
        refine lv_iconst (v := 3) hx hb dL_yard_145 (by decide) ?_
        refine lv_iand hx hb dL_yard_146 ?_
        refine dia (J := 157) (V := ((if ((x3 >>> ((4 : Int32) &&& 31)) &&& 3) = 0 then 36 else 27) : Int32)) (rest := [.int (x3 >>> ((5 : Int32) &&& 31)), .int 5, .int ((10 * u9) + 2), .ref ad.2.2.1]) (fun kk_57 => ?_) ?_
        · refine lv_if_ne (tgt := 155) hx hb dL_yard_147 (by decide) (fun c_58 => ?_) (fun c_58 => ?_)
          · refine lv_bipush (v := 27) hx hb dL_yard_155 (by decide) ?_
            exact kk_57 _ (if_neg c_58)
          · refine lv_bipush (v := 36) hx hb dL_yard_150 (by decide) ?_
            refine lv_goto (tgt := 157) hx hb dL_yard_152 (by decide) ?_
            exact kk_57 _ (if_pos c_58)
        refine callRs hC (k_L_low l g (x3 >>> ((5 : Int32) &&& 31)) ((if ((x3 >>> ((4 : Int32) &&& 31)) &&& 3) = 0 then 36 else 27) : Int32) (by first | decide | (split <;> decide))) ci_L_low lk_L_41 ⟨Nat.le_of_ble_eq_true rfl, Nat.le_of_ble_eq_true rfl⟩ hK (hE.S hS).none rfl hl.1 rfl (Nat.le_of_ble_eq_true rfl) dL_yard_157 ⟨Nat.zero_le _, Nat.zero_le _⟩ ?_
        refine lv_iadd hx hb dL_yard_160 ?_
        refine sV_b hC hK hP hD hS (ix_10 (fr_in hi0 hi1 c_55) (in_iff.mpr (by decide))) dL_yard_161 (fun H locs hP hD hS => ?_)
        have hP : va_P g.1 vwCl (cV g ad (σ.1, ((L_g σ.2), (upd (upd (upd (L_b σ.2) (10 * u9).toNatClampNeg 1) ((10 * u9) + 1).toNatClampNeg (3 + (mL_low x3 18))) ((10 * u9) + 2).toNatClampNeg (5 + (mL_low (x3 >>> ((5 : Int32) &&& 31)) ((if ((x3 >>> ((4 : Int32) &&& 31)) &&& 3) = 0 then 36 else 27) : Int32)))), (L_t σ.2), (L_r σ.2)))) H := hP
        have hD : va_D A (cV g ad (σ.1, ((L_g σ.2), (upd (upd (upd (L_b σ.2) (10 * u9).toNatClampNeg 1) ((10 * u9) + 1).toNatClampNeg (3 + (mL_low x3 18))) ((10 * u9) + 2).toNatClampNeg (5 + (mL_low (x3 >>> ((5 : Int32) &&& 31)) ((if ((x3 >>> ((4 : Int32) &&& 31)) &&& 3) = 0 then 36 else 27) : Int32)))), (L_t σ.2), (L_r σ.2)))) := hD
        refine lv_aload hx hb dL_yard_162 (lv_at hl 7 rfl) ?_
        refine lv_bipush (v := 10) hx hb dL_yard_164 (by decide) ?_
        refine lv_iload hx hb dL_yard_166 (lv_at hl 0 rfl) ?_
        refine lv_imul hx hb dL_yard_168 ?_
        refine lv_iconst (v := 3) hx hb dL_yard_169 (by decide) ?_
        refine lv_iadd hx hb dL_yard_170 ?_
        refine lv_iconst (v := 1) hx hb dL_yard_171 (by decide) ?_
        refine lv_iload_n hx hb dL_yard_172 rfl (lv_at hl 5 rfl) ?_
        refine lv_bipush (v := 8) hx hb dL_yard_173 (by decide) ?_
        refine lv_ishr hx hb dL_yard_175 ?_
        refine lv_iload_n hx hb dL_yard_176 rfl (lv_at hl 5 rfl) ?_
        refine lv_bipush (v := 7) hx hb dL_yard_177 (by decide) ?_
        refine lv_ishr hx hb dL_yard_179 ?_
        refine lv_iconst (v := 3) hx hb dL_yard_180 (by decide) ?_
        refine lv_iand hx hb dL_yard_181 ?_
        refine dia (J := 192) (V := ((if ((x3 >>> ((7 : Int32) &&& 31)) &&& 3) = 0 then 30 else 16) : Int32)) (rest := [.int (x3 >>> ((8 : Int32) &&& 31)), .int 1, .int ((10 * u9) + 3), .ref ad.2.2.1]) (fun kk_60 => ?_) ?_
        · refine lv_if_ne (tgt := 190) hx hb dL_yard_182 (by decide) (fun c_61 => ?_) (fun c_61 => ?_)
          · refine lv_bipush (v := 16) hx hb dL_yard_190 (by decide) ?_
            exact kk_60 _ (if_neg c_61)
          · refine lv_bipush (v := 30) hx hb dL_yard_185 (by decide) ?_
            refine lv_goto (tgt := 192) hx hb dL_yard_187 (by decide) ?_
            exact kk_60 _ (if_pos c_61)
        refine callRs hC (k_L_low l g (x3 >>> ((8 : Int32) &&& 31)) ((if ((x3 >>> ((7 : Int32) &&& 31)) &&& 3) = 0 then 30 else 16) : Int32) (by first | decide | (split <;> decide))) ci_L_low lk_L_41 ⟨Nat.le_of_ble_eq_true rfl, Nat.le_of_ble_eq_true rfl⟩ hK (hE.S hS).none rfl hl.1 rfl (Nat.le_of_ble_eq_true rfl) dL_yard_192 ⟨Nat.zero_le _, Nat.zero_le _⟩ ?_
        refine lv_iadd hx hb dL_yard_195 ?_
        refine sV_b hC hK hP hD hS (ix_10 (fr_in hi0 hi1 c_55) (in_iff.mpr (by decide))) dL_yard_196 (fun H locs hP hD hS => ?_)
        have hP : va_P g.1 vwCl (cV g ad (σ.1, ((L_g σ.2), (upd (upd (upd (upd (L_b σ.2) (10 * u9).toNatClampNeg 1) ((10 * u9) + 1).toNatClampNeg (3 + (mL_low x3 18))) ((10 * u9) + 2).toNatClampNeg (5 + (mL_low (x3 >>> ((5 : Int32) &&& 31)) ((if ((x3 >>> ((4 : Int32) &&& 31)) &&& 3) = 0 then 36 else 27) : Int32)))) ((10 * u9) + 3).toNatClampNeg (1 + (mL_low (x3 >>> ((8 : Int32) &&& 31)) ((if ((x3 >>> ((7 : Int32) &&& 31)) &&& 3) = 0 then 30 else 16) : Int32)))), (L_t σ.2), (L_r σ.2)))) H := hP
        have hD : va_D A (cV g ad (σ.1, ((L_g σ.2), (upd (upd (upd (upd (L_b σ.2) (10 * u9).toNatClampNeg 1) ((10 * u9) + 1).toNatClampNeg (3 + (mL_low x3 18))) ((10 * u9) + 2).toNatClampNeg (5 + (mL_low (x3 >>> ((5 : Int32) &&& 31)) ((if ((x3 >>> ((4 : Int32) &&& 31)) &&& 3) = 0 then 36 else 27) : Int32)))) ((10 * u9) + 3).toNatClampNeg (1 + (mL_low (x3 >>> ((8 : Int32) &&& 31)) ((if ((x3 >>> ((7 : Int32) &&& 31)) &&& 3) = 0 then 30 else 16) : Int32)))), (L_t σ.2), (L_r σ.2)))) := hD
        refine lv_aload hx hb dL_yard_197 (lv_at hl 7 rfl) ?_
        refine lv_bipush (v := 10) hx hb dL_yard_199 (by decide) ?_
        refine lv_iload hx hb dL_yard_201 (lv_at hl 0 rfl) ?_
        refine lv_imul hx hb dL_yard_203 ?_
        refine lv_iconst (v := 4) hx hb dL_yard_204 (by decide) ?_
        refine lv_iadd hx hb dL_yard_205 ?_
        refine lv_iload_n hx hb dL_yard_206 rfl (lv_at hl 5 rfl) ?_
        refine lv_bipush (v := 12) hx hb dL_yard_207 (by decide) ?_
        refine lv_ishr hx hb dL_yard_209 ?_
        refine lv_iconst (v := 3) hx hb dL_yard_210 (by decide) ?_
        refine callRs hC (k_L_low l g (x3 >>> ((12 : Int32) &&& 31)) 3 (by first | decide | (split <;> decide))) ci_L_low lk_L_41 ⟨Nat.le_of_ble_eq_true rfl, Nat.le_of_ble_eq_true rfl⟩ hK (hE.S hS).none rfl hl.1 rfl (Nat.le_of_ble_eq_true rfl) dL_yard_211 ⟨Nat.zero_le _, Nat.zero_le _⟩ ?_
        refine sV_b hC hK hP hD hS (ix_10 (fr_in hi0 hi1 c_55) (in_iff.mpr (by decide))) dL_yard_214 (fun H locs hP hD hS => ?_)
        have hP : va_P g.1 vwCl (cV g ad (σ.1, ((L_g σ.2), (upd (upd (upd (upd (upd (L_b σ.2) (10 * u9).toNatClampNeg 1) ((10 * u9) + 1).toNatClampNeg (3 + (mL_low x3 18))) ((10 * u9) + 2).toNatClampNeg (5 + (mL_low (x3 >>> ((5 : Int32) &&& 31)) ((if ((x3 >>> ((4 : Int32) &&& 31)) &&& 3) = 0 then 36 else 27) : Int32)))) ((10 * u9) + 3).toNatClampNeg (1 + (mL_low (x3 >>> ((8 : Int32) &&& 31)) ((if ((x3 >>> ((7 : Int32) &&& 31)) &&& 3) = 0 then 30 else 16) : Int32)))) ((10 * u9) + 4).toNatClampNeg (mL_low (x3 >>> ((12 : Int32) &&& 31)) 3)), (L_t σ.2), (L_r σ.2)))) H := hP
        have hD : va_D A (cV g ad (σ.1, ((L_g σ.2), (upd (upd (upd (upd (upd (L_b σ.2) (10 * u9).toNatClampNeg 1) ((10 * u9) + 1).toNatClampNeg (3 + (mL_low x3 18))) ((10 * u9) + 2).toNatClampNeg (5 + (mL_low (x3 >>> ((5 : Int32) &&& 31)) ((if ((x3 >>> ((4 : Int32) &&& 31)) &&& 3) = 0 then 36 else 27) : Int32)))) ((10 * u9) + 3).toNatClampNeg (1 + (mL_low (x3 >>> ((8 : Int32) &&& 31)) ((if ((x3 >>> ((7 : Int32) &&& 31)) &&& 3) = 0 then 30 else 16) : Int32)))) ((10 * u9) + 4).toNatClampNeg (mL_low (x3 >>> ((12 : Int32) &&& 31)) 3)), (L_t σ.2), (L_r σ.2)))) := hD
        refine lv_aload hx hb dL_yard_215 (lv_at hl 7 rfl) ?_
        refine lv_bipush (v := 10) hx hb dL_yard_217 (by decide) ?_
        refine lv_iload hx hb dL_yard_219 (lv_at hl 0 rfl) ?_
        refine lv_imul hx hb dL_yard_221 ?_
        refine lv_iconst (v := 5) hx hb dL_yard_222 (by decide) ?_
        refine lv_iadd hx hb dL_yard_223 ?_
        refine lv_iconst (v := (-1)) hx hb dL_yard_224 (by decide) ?_
        refine sV_b hC hK hP hD hS (ix_10 (fr_in hi0 hi1 c_55) (in_iff.mpr (by decide))) dL_yard_225 (fun H locs hP hD hS => ?_)
        have hP : va_P g.1 vwCl (cV g ad (σ.1, ((L_g σ.2), (upd (upd (upd (upd (upd (upd (L_b σ.2) (10 * u9).toNatClampNeg 1) ((10 * u9) + 1).toNatClampNeg (3 + (mL_low x3 18))) ((10 * u9) + 2).toNatClampNeg (5 + (mL_low (x3 >>> ((5 : Int32) &&& 31)) ((if ((x3 >>> ((4 : Int32) &&& 31)) &&& 3) = 0 then 36 else 27) : Int32)))) ((10 * u9) + 3).toNatClampNeg (1 + (mL_low (x3 >>> ((8 : Int32) &&& 31)) ((if ((x3 >>> ((7 : Int32) &&& 31)) &&& 3) = 0 then 30 else 16) : Int32)))) ((10 * u9) + 4).toNatClampNeg (mL_low (x3 >>> ((12 : Int32) &&& 31)) 3)) ((10 * u9) + 5).toNatClampNeg (-1)), (L_t σ.2), (L_r σ.2)))) H := hP
        have hD : va_D A (cV g ad (σ.1, ((L_g σ.2), (upd (upd (upd (upd (upd (upd (L_b σ.2) (10 * u9).toNatClampNeg 1) ((10 * u9) + 1).toNatClampNeg (3 + (mL_low x3 18))) ((10 * u9) + 2).toNatClampNeg (5 + (mL_low (x3 >>> ((5 : Int32) &&& 31)) ((if ((x3 >>> ((4 : Int32) &&& 31)) &&& 3) = 0 then 36 else 27) : Int32)))) ((10 * u9) + 3).toNatClampNeg (1 + (mL_low (x3 >>> ((8 : Int32) &&& 31)) ((if ((x3 >>> ((7 : Int32) &&& 31)) &&& 3) = 0 then 30 else 16) : Int32)))) ((10 * u9) + 4).toNatClampNeg (mL_low (x3 >>> ((12 : Int32) &&& 31)) 3)) ((10 * u9) + 5).toNatClampNeg (-1)), (L_t σ.2), (L_r σ.2)))) := hD
        refine lv_aload hx hb dL_yard_226 (lv_at hl 7 rfl) ?_
        refine lv_bipush (v := 10) hx hb dL_yard_228 (by decide) ?_
        refine lv_iload hx hb dL_yard_230 (lv_at hl 0 rfl) ?_
        refine lv_imul hx hb dL_yard_232 ?_
        refine lv_bipush (v := 6) hx hb dL_yard_233 (by decide) ?_
        refine lv_iadd hx hb dL_yard_235 ?_
        refine lv_iconst (v := (-1)) hx hb dL_yard_236 (by decide) ?_
        refine sV_b hC hK hP hD hS (ix_10 (fr_in hi0 hi1 c_55) (in_iff.mpr (by decide))) dL_yard_237 (fun H locs hP hD hS => ?_)
        have hP : va_P g.1 vwCl (cV g ad (σ.1, ((L_g σ.2), (upd (upd (upd (upd (upd (upd (upd (L_b σ.2) (10 * u9).toNatClampNeg 1) ((10 * u9) + 1).toNatClampNeg (3 + (mL_low x3 18))) ((10 * u9) + 2).toNatClampNeg (5 + (mL_low (x3 >>> ((5 : Int32) &&& 31)) ((if ((x3 >>> ((4 : Int32) &&& 31)) &&& 3) = 0 then 36 else 27) : Int32)))) ((10 * u9) + 3).toNatClampNeg (1 + (mL_low (x3 >>> ((8 : Int32) &&& 31)) ((if ((x3 >>> ((7 : Int32) &&& 31)) &&& 3) = 0 then 30 else 16) : Int32)))) ((10 * u9) + 4).toNatClampNeg (mL_low (x3 >>> ((12 : Int32) &&& 31)) 3)) ((10 * u9) + 5).toNatClampNeg (-1)) ((10 * u9) + 6).toNatClampNeg (-1)), (L_t σ.2), (L_r σ.2)))) H := hP
        have hD : va_D A (cV g ad (σ.1, ((L_g σ.2), (upd (upd (upd (upd (upd (upd (upd (L_b σ.2) (10 * u9).toNatClampNeg 1) ((10 * u9) + 1).toNatClampNeg (3 + (mL_low x3 18))) ((10 * u9) + 2).toNatClampNeg (5 + (mL_low (x3 >>> ((5 : Int32) &&& 31)) ((if ((x3 >>> ((4 : Int32) &&& 31)) &&& 3) = 0 then 36 else 27) : Int32)))) ((10 * u9) + 3).toNatClampNeg (1 + (mL_low (x3 >>> ((8 : Int32) &&& 31)) ((if ((x3 >>> ((7 : Int32) &&& 31)) &&& 3) = 0 then 30 else 16) : Int32)))) ((10 * u9) + 4).toNatClampNeg (mL_low (x3 >>> ((12 : Int32) &&& 31)) 3)) ((10 * u9) + 5).toNatClampNeg (-1)) ((10 * u9) + 6).toNatClampNeg (-1)), (L_t σ.2), (L_r σ.2)))) := hD
        refine lv_aload hx hb dL_yard_238 (lv_at hl 7 rfl) ?_
        refine lv_bipush (v := 10) hx hb dL_yard_240 (by decide) ?_
        refine lv_iload hx hb dL_yard_242 (lv_at hl 0 rfl) ?_
        refine lv_imul hx hb dL_yard_244 ?_
        refine lv_bipush (v := 7) hx hb dL_yard_245 (by decide) ?_
        refine lv_iadd hx hb dL_yard_247 ?_
        refine lv_iconst (v := (-1)) hx hb dL_yard_248 (by decide) ?_
        refine sV_b hC hK hP hD hS (ix_10 (fr_in hi0 hi1 c_55) (in_iff.mpr (by decide))) dL_yard_249 (fun H locs hP hD hS => ?_)
        have hP : va_P g.1 vwCl (cV g ad (σ.1, ((L_g σ.2), (upd (upd (upd (upd (upd (upd (upd (upd (L_b σ.2) (10 * u9).toNatClampNeg 1) ((10 * u9) + 1).toNatClampNeg (3 + (mL_low x3 18))) ((10 * u9) + 2).toNatClampNeg (5 + (mL_low (x3 >>> ((5 : Int32) &&& 31)) ((if ((x3 >>> ((4 : Int32) &&& 31)) &&& 3) = 0 then 36 else 27) : Int32)))) ((10 * u9) + 3).toNatClampNeg (1 + (mL_low (x3 >>> ((8 : Int32) &&& 31)) ((if ((x3 >>> ((7 : Int32) &&& 31)) &&& 3) = 0 then 30 else 16) : Int32)))) ((10 * u9) + 4).toNatClampNeg (mL_low (x3 >>> ((12 : Int32) &&& 31)) 3)) ((10 * u9) + 5).toNatClampNeg (-1)) ((10 * u9) + 6).toNatClampNeg (-1)) ((10 * u9) + 7).toNatClampNeg (-1)), (L_t σ.2), (L_r σ.2)))) H := hP
        have hD : va_D A (cV g ad (σ.1, ((L_g σ.2), (upd (upd (upd (upd (upd (upd (upd (upd (L_b σ.2) (10 * u9).toNatClampNeg 1) ((10 * u9) + 1).toNatClampNeg (3 + (mL_low x3 18))) ((10 * u9) + 2).toNatClampNeg (5 + (mL_low (x3 >>> ((5 : Int32) &&& 31)) ((if ((x3 >>> ((4 : Int32) &&& 31)) &&& 3) = 0 then 36 else 27) : Int32)))) ((10 * u9) + 3).toNatClampNeg (1 + (mL_low (x3 >>> ((8 : Int32) &&& 31)) ((if ((x3 >>> ((7 : Int32) &&& 31)) &&& 3) = 0 then 30 else 16) : Int32)))) ((10 * u9) + 4).toNatClampNeg (mL_low (x3 >>> ((12 : Int32) &&& 31)) 3)) ((10 * u9) + 5).toNatClampNeg (-1)) ((10 * u9) + 6).toNatClampNeg (-1)) ((10 * u9) + 7).toNatClampNeg (-1)), (L_t σ.2), (L_r σ.2)))) := hD
        refine lv_aload hx hb dL_yard_250 (lv_at hl 7 rfl) ?_
        refine lv_bipush (v := 10) hx hb dL_yard_252 (by decide) ?_
        refine lv_iload hx hb dL_yard_254 (lv_at hl 0 rfl) ?_
        refine lv_imul hx hb dL_yard_256 ?_
        refine lv_bipush (v := 8) hx hb dL_yard_257 (by decide) ?_
        refine lv_iadd hx hb dL_yard_259 ?_
        refine lv_iconst (v := 0) hx hb dL_yard_260 (by decide) ?_
        refine sV_b hC hK hP hD hS (ix_10 (fr_in hi0 hi1 c_55) (in_iff.mpr (by decide))) dL_yard_261 (fun H locs hP hD hS => ?_)
        have hP : va_P g.1 vwCl (cV g ad (σ.1, ((L_g σ.2), (upd (upd (upd (upd (upd (upd (upd (upd (upd (L_b σ.2) (10 * u9).toNatClampNeg 1) ((10 * u9) + 1).toNatClampNeg (3 + (mL_low x3 18))) ((10 * u9) + 2).toNatClampNeg (5 + (mL_low (x3 >>> ((5 : Int32) &&& 31)) ((if ((x3 >>> ((4 : Int32) &&& 31)) &&& 3) = 0 then 36 else 27) : Int32)))) ((10 * u9) + 3).toNatClampNeg (1 + (mL_low (x3 >>> ((8 : Int32) &&& 31)) ((if ((x3 >>> ((7 : Int32) &&& 31)) &&& 3) = 0 then 30 else 16) : Int32)))) ((10 * u9) + 4).toNatClampNeg (mL_low (x3 >>> ((12 : Int32) &&& 31)) 3)) ((10 * u9) + 5).toNatClampNeg (-1)) ((10 * u9) + 6).toNatClampNeg (-1)) ((10 * u9) + 7).toNatClampNeg (-1)) ((10 * u9) + 8).toNatClampNeg 0), (L_t σ.2), (L_r σ.2)))) H := hP
        have hD : va_D A (cV g ad (σ.1, ((L_g σ.2), (upd (upd (upd (upd (upd (upd (upd (upd (upd (L_b σ.2) (10 * u9).toNatClampNeg 1) ((10 * u9) + 1).toNatClampNeg (3 + (mL_low x3 18))) ((10 * u9) + 2).toNatClampNeg (5 + (mL_low (x3 >>> ((5 : Int32) &&& 31)) ((if ((x3 >>> ((4 : Int32) &&& 31)) &&& 3) = 0 then 36 else 27) : Int32)))) ((10 * u9) + 3).toNatClampNeg (1 + (mL_low (x3 >>> ((8 : Int32) &&& 31)) ((if ((x3 >>> ((7 : Int32) &&& 31)) &&& 3) = 0 then 30 else 16) : Int32)))) ((10 * u9) + 4).toNatClampNeg (mL_low (x3 >>> ((12 : Int32) &&& 31)) 3)) ((10 * u9) + 5).toNatClampNeg (-1)) ((10 * u9) + 6).toNatClampNeg (-1)) ((10 * u9) + 7).toNatClampNeg (-1)) ((10 * u9) + 8).toNatClampNeg 0), (L_t σ.2), (L_r σ.2)))) := hD
        refine lv_aload hx hb dL_yard_262 (lv_at hl 7 rfl) ?_
        refine lv_bipush (v := 10) hx hb dL_yard_264 (by decide) ?_
        refine lv_iload hx hb dL_yard_266 (lv_at hl 0 rfl) ?_
        refine lv_imul hx hb dL_yard_268 ?_
        refine lv_bipush (v := 9) hx hb dL_yard_269 (by decide) ?_
        refine lv_iadd hx hb dL_yard_271 ?_
        refine lv_iconst (v := 0) hx hb dL_yard_272 (by decide) ?_
        refine sV_b hC hK hP hD hS (ix_10 (fr_in hi0 hi1 c_55) (in_iff.mpr (by decide))) dL_yard_273 (fun H locs hP hD hS => ?_)
        have hP : va_P g.1 vwCl (cV g ad (σ.1, ((L_g σ.2), (upd (upd (upd (upd (upd (upd (upd (upd (upd (upd (L_b σ.2) (10 * u9).toNatClampNeg 1) ((10 * u9) + 1).toNatClampNeg (3 + (mL_low x3 18))) ((10 * u9) + 2).toNatClampNeg (5 + (mL_low (x3 >>> ((5 : Int32) &&& 31)) ((if ((x3 >>> ((4 : Int32) &&& 31)) &&& 3) = 0 then 36 else 27) : Int32)))) ((10 * u9) + 3).toNatClampNeg (1 + (mL_low (x3 >>> ((8 : Int32) &&& 31)) ((if ((x3 >>> ((7 : Int32) &&& 31)) &&& 3) = 0 then 30 else 16) : Int32)))) ((10 * u9) + 4).toNatClampNeg (mL_low (x3 >>> ((12 : Int32) &&& 31)) 3)) ((10 * u9) + 5).toNatClampNeg (-1)) ((10 * u9) + 6).toNatClampNeg (-1)) ((10 * u9) + 7).toNatClampNeg (-1)) ((10 * u9) + 8).toNatClampNeg 0) ((10 * u9) + 9).toNatClampNeg 0), (L_t σ.2), (L_r σ.2)))) H := hP
        have hD : va_D A (cV g ad (σ.1, ((L_g σ.2), (upd (upd (upd (upd (upd (upd (upd (upd (upd (upd (L_b σ.2) (10 * u9).toNatClampNeg 1) ((10 * u9) + 1).toNatClampNeg (3 + (mL_low x3 18))) ((10 * u9) + 2).toNatClampNeg (5 + (mL_low (x3 >>> ((5 : Int32) &&& 31)) ((if ((x3 >>> ((4 : Int32) &&& 31)) &&& 3) = 0 then 36 else 27) : Int32)))) ((10 * u9) + 3).toNatClampNeg (1 + (mL_low (x3 >>> ((8 : Int32) &&& 31)) ((if ((x3 >>> ((7 : Int32) &&& 31)) &&& 3) = 0 then 30 else 16) : Int32)))) ((10 * u9) + 4).toNatClampNeg (mL_low (x3 >>> ((12 : Int32) &&& 31)) 3)) ((10 * u9) + 5).toNatClampNeg (-1)) ((10 * u9) + 6).toNatClampNeg (-1)) ((10 * u9) + 7).toNatClampNeg (-1)) ((10 * u9) + 8).toNatClampNeg 0) ((10 * u9) + 9).toNatClampNeg 0), (L_t σ.2), (L_r σ.2)))) := hD
        refine lv_aload hx hb dL_yard_274 (lv_at hl 8 rfl) ?_
        refine lv_iload hx hb dL_yard_276 (lv_at hl 0 rfl) ?_
        refine lv_iconst (v := 0) hx hb dL_yard_278 (by decide) ?_
        refine sV_t hC hK hP hD hS (fr_in hi0 hi1 c_55) dL_yard_279 (fun H locs hP hD hS => ?_)
        have hP : va_P g.1 vwCl (cV g ad (σ.1, ((L_g σ.2), (upd (upd (upd (upd (upd (upd (upd (upd (upd (upd (L_b σ.2) (10 * u9).toNatClampNeg 1) ((10 * u9) + 1).toNatClampNeg (3 + (mL_low x3 18))) ((10 * u9) + 2).toNatClampNeg (5 + (mL_low (x3 >>> ((5 : Int32) &&& 31)) ((if ((x3 >>> ((4 : Int32) &&& 31)) &&& 3) = 0 then 36 else 27) : Int32)))) ((10 * u9) + 3).toNatClampNeg (1 + (mL_low (x3 >>> ((8 : Int32) &&& 31)) ((if ((x3 >>> ((7 : Int32) &&& 31)) &&& 3) = 0 then 30 else 16) : Int32)))) ((10 * u9) + 4).toNatClampNeg (mL_low (x3 >>> ((12 : Int32) &&& 31)) 3)) ((10 * u9) + 5).toNatClampNeg (-1)) ((10 * u9) + 6).toNatClampNeg (-1)) ((10 * u9) + 7).toNatClampNeg (-1)) ((10 * u9) + 8).toNatClampNeg 0) ((10 * u9) + 9).toNatClampNeg 0), (upd (L_t σ.2) u9.toNatClampNeg 0), (L_r σ.2)))) H := hP
        have hD : va_D A (cV g ad (σ.1, ((L_g σ.2), (upd (upd (upd (upd (upd (upd (upd (upd (upd (upd (L_b σ.2) (10 * u9).toNatClampNeg 1) ((10 * u9) + 1).toNatClampNeg (3 + (mL_low x3 18))) ((10 * u9) + 2).toNatClampNeg (5 + (mL_low (x3 >>> ((5 : Int32) &&& 31)) ((if ((x3 >>> ((4 : Int32) &&& 31)) &&& 3) = 0 then 36 else 27) : Int32)))) ((10 * u9) + 3).toNatClampNeg (1 + (mL_low (x3 >>> ((8 : Int32) &&& 31)) ((if ((x3 >>> ((7 : Int32) &&& 31)) &&& 3) = 0 then 30 else 16) : Int32)))) ((10 * u9) + 4).toNatClampNeg (mL_low (x3 >>> ((12 : Int32) &&& 31)) 3)) ((10 * u9) + 5).toNatClampNeg (-1)) ((10 * u9) + 6).toNatClampNeg (-1)) ((10 * u9) + 7).toNatClampNeg (-1)) ((10 * u9) + 8).toNatClampNeg 0) ((10 * u9) + 9).toNatClampNeg 0), (upd (L_t σ.2) u9.toNatClampNeg 0), (L_r σ.2)))) := hD
        refine lv_aload_n hx hb dL_yard_280 rfl (lv_at hl 3 rfl) ?_
        refine lv_aload hx hb dL_yard_281 (lv_at hl 7 rfl) ?_
        refine lv_iload hx hb dL_yard_283 (lv_at hl 0 rfl) ?_
        refine lv_iconst (v := 1) hx hb dL_yard_285 (by decide) ?_
        refine callSd hC (k_L_of l g ad.2 ((L_g σ.2), (upd (upd (upd (upd (upd (upd (upd (upd (upd (upd (L_b σ.2) (10 * u9).toNatClampNeg 1) ((10 * u9) + 1).toNatClampNeg (3 + (mL_low x3 18))) ((10 * u9) + 2).toNatClampNeg (5 + (mL_low (x3 >>> ((5 : Int32) &&& 31)) ((if ((x3 >>> ((4 : Int32) &&& 31)) &&& 3) = 0 then 36 else 27) : Int32)))) ((10 * u9) + 3).toNatClampNeg (1 + (mL_low (x3 >>> ((8 : Int32) &&& 31)) ((if ((x3 >>> ((7 : Int32) &&& 31)) &&& 3) = 0 then 30 else 16) : Int32)))) ((10 * u9) + 4).toNatClampNeg (mL_low (x3 >>> ((12 : Int32) &&& 31)) 3)) ((10 * u9) + 5).toNatClampNeg (-1)) ((10 * u9) + 6).toNatClampNeg (-1)) ((10 * u9) + 7).toNatClampNeg (-1)) ((10 * u9) + 8).toNatClampNeg 0) ((10 * u9) + 9).toNatClampNeg 0), (upd (L_t σ.2) u9.toNatClampNeg 0), (L_r σ.2)) u9 1 (fr_in hi0 hi1 c_55) (in_iff.mpr (by decide))) ci_L_of lk_L_9 ⟨Nat.le_of_ble_eq_true rfl, Nat.le_of_ble_eq_true rfl⟩ (P_left hP) hK (hE.S hS).none rfl hl.1 rfl (Nat.le_of_ble_eq_true rfl) dL_yard_286 ⟨Nat.zero_le _, Nat.zero_le _⟩ ?_
        refine lv_aload hx hb dL_yard_289 (lv_at hl 7 rfl) ?_
        refine lv_iload hx hb dL_yard_291 (lv_at hl 0 rfl) ?_
        refine lv_iconst (v := 2) hx hb dL_yard_293 (by decide) ?_
        refine callSd hC (k_L_of l g ad.2 ((L_g σ.2), (upd (upd (upd (upd (upd (upd (upd (upd (upd (upd (L_b σ.2) (10 * u9).toNatClampNeg 1) ((10 * u9) + 1).toNatClampNeg (3 + (mL_low x3 18))) ((10 * u9) + 2).toNatClampNeg (5 + (mL_low (x3 >>> ((5 : Int32) &&& 31)) ((if ((x3 >>> ((4 : Int32) &&& 31)) &&& 3) = 0 then 36 else 27) : Int32)))) ((10 * u9) + 3).toNatClampNeg (1 + (mL_low (x3 >>> ((8 : Int32) &&& 31)) ((if ((x3 >>> ((7 : Int32) &&& 31)) &&& 3) = 0 then 30 else 16) : Int32)))) ((10 * u9) + 4).toNatClampNeg (mL_low (x3 >>> ((12 : Int32) &&& 31)) 3)) ((10 * u9) + 5).toNatClampNeg (-1)) ((10 * u9) + 6).toNatClampNeg (-1)) ((10 * u9) + 7).toNatClampNeg (-1)) ((10 * u9) + 8).toNatClampNeg 0) ((10 * u9) + 9).toNatClampNeg 0), (upd (L_t σ.2) u9.toNatClampNeg 0), (L_r σ.2)) u9 2 (fr_in hi0 hi1 c_55) (in_iff.mpr (by decide))) ci_L_of lk_L_9 ⟨Nat.le_of_ble_eq_true rfl, Nat.le_of_ble_eq_true rfl⟩ (P_left hP) hK (hE.S hS).none rfl hl.1 rfl (Nat.le_of_ble_eq_true rfl) dL_yard_294 ⟨Nat.zero_le _, Nat.zero_le _⟩ ?_
        refine lv_aload hx hb dL_yard_297 (lv_at hl 7 rfl) ?_
        refine lv_iload hx hb dL_yard_299 (lv_at hl 0 rfl) ?_
        refine lv_iconst (v := 3) hx hb dL_yard_301 (by decide) ?_
        refine callSd hC (k_L_of l g ad.2 ((L_g σ.2), (upd (upd (upd (upd (upd (upd (upd (upd (upd (upd (L_b σ.2) (10 * u9).toNatClampNeg 1) ((10 * u9) + 1).toNatClampNeg (3 + (mL_low x3 18))) ((10 * u9) + 2).toNatClampNeg (5 + (mL_low (x3 >>> ((5 : Int32) &&& 31)) ((if ((x3 >>> ((4 : Int32) &&& 31)) &&& 3) = 0 then 36 else 27) : Int32)))) ((10 * u9) + 3).toNatClampNeg (1 + (mL_low (x3 >>> ((8 : Int32) &&& 31)) ((if ((x3 >>> ((7 : Int32) &&& 31)) &&& 3) = 0 then 30 else 16) : Int32)))) ((10 * u9) + 4).toNatClampNeg (mL_low (x3 >>> ((12 : Int32) &&& 31)) 3)) ((10 * u9) + 5).toNatClampNeg (-1)) ((10 * u9) + 6).toNatClampNeg (-1)) ((10 * u9) + 7).toNatClampNeg (-1)) ((10 * u9) + 8).toNatClampNeg 0) ((10 * u9) + 9).toNatClampNeg 0), (upd (L_t σ.2) u9.toNatClampNeg 0), (L_r σ.2)) u9 3 (fr_in hi0 hi1 c_55) (in_iff.mpr (by decide))) ci_L_of lk_L_9 ⟨Nat.le_of_ble_eq_true rfl, Nat.le_of_ble_eq_true rfl⟩ (P_left hP) hK (hE.S hS).none rfl hl.1 rfl (Nat.le_of_ble_eq_true rfl) dL_yard_302 ⟨Nat.zero_le _, Nat.zero_le _⟩ ?_
        refine lv_aload hx hb dL_yard_305 (lv_at hl 7 rfl) ?_
        refine lv_iload hx hb dL_yard_307 (lv_at hl 0 rfl) ?_
        refine lv_iconst (v := 4) hx hb dL_yard_309 (by decide) ?_
        refine callSd hC (k_L_of l g ad.2 ((L_g σ.2), (upd (upd (upd (upd (upd (upd (upd (upd (upd (upd (L_b σ.2) (10 * u9).toNatClampNeg 1) ((10 * u9) + 1).toNatClampNeg (3 + (mL_low x3 18))) ((10 * u9) + 2).toNatClampNeg (5 + (mL_low (x3 >>> ((5 : Int32) &&& 31)) ((if ((x3 >>> ((4 : Int32) &&& 31)) &&& 3) = 0 then 36 else 27) : Int32)))) ((10 * u9) + 3).toNatClampNeg (1 + (mL_low (x3 >>> ((8 : Int32) &&& 31)) ((if ((x3 >>> ((7 : Int32) &&& 31)) &&& 3) = 0 then 30 else 16) : Int32)))) ((10 * u9) + 4).toNatClampNeg (mL_low (x3 >>> ((12 : Int32) &&& 31)) 3)) ((10 * u9) + 5).toNatClampNeg (-1)) ((10 * u9) + 6).toNatClampNeg (-1)) ((10 * u9) + 7).toNatClampNeg (-1)) ((10 * u9) + 8).toNatClampNeg 0) ((10 * u9) + 9).toNatClampNeg 0), (upd (L_t σ.2) u9.toNatClampNeg 0), (L_r σ.2)) u9 4 (fr_in hi0 hi1 c_55) (in_iff.mpr (by decide))) ci_L_of lk_L_9 ⟨Nat.le_of_ble_eq_true rfl, Nat.le_of_ble_eq_true rfl⟩ (P_left hP) hK (hE.S hS).none rfl hl.1 rfl (Nat.le_of_ble_eq_true rfl) dL_yard_310 ⟨Nat.zero_le _, Nat.zero_le _⟩ ?_
        refine callWrR hC (k_X3_come l g ad.1 σ.1 (mL_of ((L_g σ.2), (upd (upd (upd (upd (upd (upd (upd (upd (upd (upd (L_b σ.2) (10 * u9).toNatClampNeg 1) ((10 * u9) + 1).toNatClampNeg (3 + (mL_low x3 18))) ((10 * u9) + 2).toNatClampNeg (5 + (mL_low (x3 >>> ((5 : Int32) &&& 31)) ((if ((x3 >>> ((4 : Int32) &&& 31)) &&& 3) = 0 then 36 else 27) : Int32)))) ((10 * u9) + 3).toNatClampNeg (1 + (mL_low (x3 >>> ((8 : Int32) &&& 31)) ((if ((x3 >>> ((7 : Int32) &&& 31)) &&& 3) = 0 then 30 else 16) : Int32)))) ((10 * u9) + 4).toNatClampNeg (mL_low (x3 >>> ((12 : Int32) &&& 31)) 3)) ((10 * u9) + 5).toNatClampNeg (-1)) ((10 * u9) + 6).toNatClampNeg (-1)) ((10 * u9) + 7).toNatClampNeg (-1)) ((10 * u9) + 8).toNatClampNeg 0) ((10 * u9) + 9).toNatClampNeg 0), (upd (L_t σ.2) u9.toNatClampNeg 0), (L_r σ.2)) u9 1) (mL_of ((L_g σ.2), (upd (upd (upd (upd (upd (upd (upd (upd (upd (upd (L_b σ.2) (10 * u9).toNatClampNeg 1) ((10 * u9) + 1).toNatClampNeg (3 + (mL_low x3 18))) ((10 * u9) + 2).toNatClampNeg (5 + (mL_low (x3 >>> ((5 : Int32) &&& 31)) ((if ((x3 >>> ((4 : Int32) &&& 31)) &&& 3) = 0 then 36 else 27) : Int32)))) ((10 * u9) + 3).toNatClampNeg (1 + (mL_low (x3 >>> ((8 : Int32) &&& 31)) ((if ((x3 >>> ((7 : Int32) &&& 31)) &&& 3) = 0 then 30 else 16) : Int32)))) ((10 * u9) + 4).toNatClampNeg (mL_low (x3 >>> ((12 : Int32) &&& 31)) 3)) ((10 * u9) + 5).toNatClampNeg (-1)) ((10 * u9) + 6).toNatClampNeg (-1)) ((10 * u9) + 7).toNatClampNeg (-1)) ((10 * u9) + 8).toNatClampNeg 0) ((10 * u9) + 9).toNatClampNeg 0), (upd (L_t σ.2) u9.toNatClampNeg 0), (L_r σ.2)) u9 2) (mL_of ((L_g σ.2), (upd (upd (upd (upd (upd (upd (upd (upd (upd (upd (L_b σ.2) (10 * u9).toNatClampNeg 1) ((10 * u9) + 1).toNatClampNeg (3 + (mL_low x3 18))) ((10 * u9) + 2).toNatClampNeg (5 + (mL_low (x3 >>> ((5 : Int32) &&& 31)) ((if ((x3 >>> ((4 : Int32) &&& 31)) &&& 3) = 0 then 36 else 27) : Int32)))) ((10 * u9) + 3).toNatClampNeg (1 + (mL_low (x3 >>> ((8 : Int32) &&& 31)) ((if ((x3 >>> ((7 : Int32) &&& 31)) &&& 3) = 0 then 30 else 16) : Int32)))) ((10 * u9) + 4).toNatClampNeg (mL_low (x3 >>> ((12 : Int32) &&& 31)) 3)) ((10 * u9) + 5).toNatClampNeg (-1)) ((10 * u9) + 6).toNatClampNeg (-1)) ((10 * u9) + 7).toNatClampNeg (-1)) ((10 * u9) + 8).toNatClampNeg 0) ((10 * u9) + 9).toNatClampNeg 0), (upd (L_t σ.2) u9.toNatClampNeg 0), (L_r σ.2)) u9 3) (mL_of ((L_g σ.2), (upd (upd (upd (upd (upd (upd (upd (upd (upd (upd (L_b σ.2) (10 * u9).toNatClampNeg 1) ((10 * u9) + 1).toNatClampNeg (3 + (mL_low x3 18))) ((10 * u9) + 2).toNatClampNeg (5 + (mL_low (x3 >>> ((5 : Int32) &&& 31)) ((if ((x3 >>> ((4 : Int32) &&& 31)) &&& 3) = 0 then 36 else 27) : Int32)))) ((10 * u9) + 3).toNatClampNeg (1 + (mL_low (x3 >>> ((8 : Int32) &&& 31)) ((if ((x3 >>> ((7 : Int32) &&& 31)) &&& 3) = 0 then 30 else 16) : Int32)))) ((10 * u9) + 4).toNatClampNeg (mL_low (x3 >>> ((12 : Int32) &&& 31)) 3)) ((10 * u9) + 5).toNatClampNeg (-1)) ((10 * u9) + 6).toNatClampNeg (-1)) ((10 * u9) + 7).toNatClampNeg (-1)) ((10 * u9) + 8).toNatClampNeg 0) ((10 * u9) + 9).toNatClampNeg 0), (upd (L_t σ.2) u9.toNatClampNeg 0), (L_r σ.2)) u9 4) hhk) ci_X3_come lk_L_45 ⟨Nat.le_of_ble_eq_true rfl, Nat.le_of_ble_eq_true rfl⟩ hP hD hK hE hS hA (q0 := 0) rfl rfl rfl rfl hl.1 rfl (Nat.le_of_ble_eq_true rfl) dL_yard_313 ⟨Nat.zero_le _, Nat.zero_le _⟩ (fun H locs hP hD hS => ?_)
        have hP : va_P g.1 vwCl (cV g ad ((mX3_come σ.1 (mL_of ((L_g σ.2), (upd (upd (upd (upd (upd (upd (upd (upd (upd (upd (L_b σ.2) (10 * u9).toNatClampNeg 1) ((10 * u9) + 1).toNatClampNeg (3 + (mL_low x3 18))) ((10 * u9) + 2).toNatClampNeg (5 + (mL_low (x3 >>> ((5 : Int32) &&& 31)) ((if ((x3 >>> ((4 : Int32) &&& 31)) &&& 3) = 0 then 36 else 27) : Int32)))) ((10 * u9) + 3).toNatClampNeg (1 + (mL_low (x3 >>> ((8 : Int32) &&& 31)) ((if ((x3 >>> ((7 : Int32) &&& 31)) &&& 3) = 0 then 30 else 16) : Int32)))) ((10 * u9) + 4).toNatClampNeg (mL_low (x3 >>> ((12 : Int32) &&& 31)) 3)) ((10 * u9) + 5).toNatClampNeg (-1)) ((10 * u9) + 6).toNatClampNeg (-1)) ((10 * u9) + 7).toNatClampNeg (-1)) ((10 * u9) + 8).toNatClampNeg 0) ((10 * u9) + 9).toNatClampNeg 0), (upd (L_t σ.2) u9.toNatClampNeg 0), (L_r σ.2)) u9 1) (mL_of ((L_g σ.2), (upd (upd (upd (upd (upd (upd (upd (upd (upd (upd (L_b σ.2) (10 * u9).toNatClampNeg 1) ((10 * u9) + 1).toNatClampNeg (3 + (mL_low x3 18))) ((10 * u9) + 2).toNatClampNeg (5 + (mL_low (x3 >>> ((5 : Int32) &&& 31)) ((if ((x3 >>> ((4 : Int32) &&& 31)) &&& 3) = 0 then 36 else 27) : Int32)))) ((10 * u9) + 3).toNatClampNeg (1 + (mL_low (x3 >>> ((8 : Int32) &&& 31)) ((if ((x3 >>> ((7 : Int32) &&& 31)) &&& 3) = 0 then 30 else 16) : Int32)))) ((10 * u9) + 4).toNatClampNeg (mL_low (x3 >>> ((12 : Int32) &&& 31)) 3)) ((10 * u9) + 5).toNatClampNeg (-1)) ((10 * u9) + 6).toNatClampNeg (-1)) ((10 * u9) + 7).toNatClampNeg (-1)) ((10 * u9) + 8).toNatClampNeg 0) ((10 * u9) + 9).toNatClampNeg 0), (upd (L_t σ.2) u9.toNatClampNeg 0), (L_r σ.2)) u9 2) (mL_of ((L_g σ.2), (upd (upd (upd (upd (upd (upd (upd (upd (upd (upd (L_b σ.2) (10 * u9).toNatClampNeg 1) ((10 * u9) + 1).toNatClampNeg (3 + (mL_low x3 18))) ((10 * u9) + 2).toNatClampNeg (5 + (mL_low (x3 >>> ((5 : Int32) &&& 31)) ((if ((x3 >>> ((4 : Int32) &&& 31)) &&& 3) = 0 then 36 else 27) : Int32)))) ((10 * u9) + 3).toNatClampNeg (1 + (mL_low (x3 >>> ((8 : Int32) &&& 31)) ((if ((x3 >>> ((7 : Int32) &&& 31)) &&& 3) = 0 then 30 else 16) : Int32)))) ((10 * u9) + 4).toNatClampNeg (mL_low (x3 >>> ((12 : Int32) &&& 31)) 3)) ((10 * u9) + 5).toNatClampNeg (-1)) ((10 * u9) + 6).toNatClampNeg (-1)) ((10 * u9) + 7).toNatClampNeg (-1)) ((10 * u9) + 8).toNatClampNeg 0) ((10 * u9) + 9).toNatClampNeg 0), (upd (L_t σ.2) u9.toNatClampNeg 0), (L_r σ.2)) u9 3) (mL_of ((L_g σ.2), (upd (upd (upd (upd (upd (upd (upd (upd (upd (upd (L_b σ.2) (10 * u9).toNatClampNeg 1) ((10 * u9) + 1).toNatClampNeg (3 + (mL_low x3 18))) ((10 * u9) + 2).toNatClampNeg (5 + (mL_low (x3 >>> ((5 : Int32) &&& 31)) ((if ((x3 >>> ((4 : Int32) &&& 31)) &&& 3) = 0 then 36 else 27) : Int32)))) ((10 * u9) + 3).toNatClampNeg (1 + (mL_low (x3 >>> ((8 : Int32) &&& 31)) ((if ((x3 >>> ((7 : Int32) &&& 31)) &&& 3) = 0 then 30 else 16) : Int32)))) ((10 * u9) + 4).toNatClampNeg (mL_low (x3 >>> ((12 : Int32) &&& 31)) 3)) ((10 * u9) + 5).toNatClampNeg (-1)) ((10 * u9) + 6).toNatClampNeg (-1)) ((10 * u9) + 7).toNatClampNeg (-1)) ((10 * u9) + 8).toNatClampNeg 0) ((10 * u9) + 9).toNatClampNeg 0), (upd (L_t σ.2) u9.toNatClampNeg 0), (L_r σ.2)) u9 4)).2, ((L_g σ.2), (upd (upd (upd (upd (upd (upd (upd (upd (upd (upd (L_b σ.2) (10 * u9).toNatClampNeg 1) ((10 * u9) + 1).toNatClampNeg (3 + (mL_low x3 18))) ((10 * u9) + 2).toNatClampNeg (5 + (mL_low (x3 >>> ((5 : Int32) &&& 31)) ((if ((x3 >>> ((4 : Int32) &&& 31)) &&& 3) = 0 then 36 else 27) : Int32)))) ((10 * u9) + 3).toNatClampNeg (1 + (mL_low (x3 >>> ((8 : Int32) &&& 31)) ((if ((x3 >>> ((7 : Int32) &&& 31)) &&& 3) = 0 then 30 else 16) : Int32)))) ((10 * u9) + 4).toNatClampNeg (mL_low (x3 >>> ((12 : Int32) &&& 31)) 3)) ((10 * u9) + 5).toNatClampNeg (-1)) ((10 * u9) + 6).toNatClampNeg (-1)) ((10 * u9) + 7).toNatClampNeg (-1)) ((10 * u9) + 8).toNatClampNeg 0) ((10 * u9) + 9).toNatClampNeg 0), (upd (L_t σ.2) u9.toNatClampNeg 0), (L_r σ.2)))) H := hP
        have hD : va_D A (cV g ad ((mX3_come σ.1 (mL_of ((L_g σ.2), (upd (upd (upd (upd (upd (upd (upd (upd (upd (upd (L_b σ.2) (10 * u9).toNatClampNeg 1) ((10 * u9) + 1).toNatClampNeg (3 + (mL_low x3 18))) ((10 * u9) + 2).toNatClampNeg (5 + (mL_low (x3 >>> ((5 : Int32) &&& 31)) ((if ((x3 >>> ((4 : Int32) &&& 31)) &&& 3) = 0 then 36 else 27) : Int32)))) ((10 * u9) + 3).toNatClampNeg (1 + (mL_low (x3 >>> ((8 : Int32) &&& 31)) ((if ((x3 >>> ((7 : Int32) &&& 31)) &&& 3) = 0 then 30 else 16) : Int32)))) ((10 * u9) + 4).toNatClampNeg (mL_low (x3 >>> ((12 : Int32) &&& 31)) 3)) ((10 * u9) + 5).toNatClampNeg (-1)) ((10 * u9) + 6).toNatClampNeg (-1)) ((10 * u9) + 7).toNatClampNeg (-1)) ((10 * u9) + 8).toNatClampNeg 0) ((10 * u9) + 9).toNatClampNeg 0), (upd (L_t σ.2) u9.toNatClampNeg 0), (L_r σ.2)) u9 1) (mL_of ((L_g σ.2), (upd (upd (upd (upd (upd (upd (upd (upd (upd (upd (L_b σ.2) (10 * u9).toNatClampNeg 1) ((10 * u9) + 1).toNatClampNeg (3 + (mL_low x3 18))) ((10 * u9) + 2).toNatClampNeg (5 + (mL_low (x3 >>> ((5 : Int32) &&& 31)) ((if ((x3 >>> ((4 : Int32) &&& 31)) &&& 3) = 0 then 36 else 27) : Int32)))) ((10 * u9) + 3).toNatClampNeg (1 + (mL_low (x3 >>> ((8 : Int32) &&& 31)) ((if ((x3 >>> ((7 : Int32) &&& 31)) &&& 3) = 0 then 30 else 16) : Int32)))) ((10 * u9) + 4).toNatClampNeg (mL_low (x3 >>> ((12 : Int32) &&& 31)) 3)) ((10 * u9) + 5).toNatClampNeg (-1)) ((10 * u9) + 6).toNatClampNeg (-1)) ((10 * u9) + 7).toNatClampNeg (-1)) ((10 * u9) + 8).toNatClampNeg 0) ((10 * u9) + 9).toNatClampNeg 0), (upd (L_t σ.2) u9.toNatClampNeg 0), (L_r σ.2)) u9 2) (mL_of ((L_g σ.2), (upd (upd (upd (upd (upd (upd (upd (upd (upd (upd (L_b σ.2) (10 * u9).toNatClampNeg 1) ((10 * u9) + 1).toNatClampNeg (3 + (mL_low x3 18))) ((10 * u9) + 2).toNatClampNeg (5 + (mL_low (x3 >>> ((5 : Int32) &&& 31)) ((if ((x3 >>> ((4 : Int32) &&& 31)) &&& 3) = 0 then 36 else 27) : Int32)))) ((10 * u9) + 3).toNatClampNeg (1 + (mL_low (x3 >>> ((8 : Int32) &&& 31)) ((if ((x3 >>> ((7 : Int32) &&& 31)) &&& 3) = 0 then 30 else 16) : Int32)))) ((10 * u9) + 4).toNatClampNeg (mL_low (x3 >>> ((12 : Int32) &&& 31)) 3)) ((10 * u9) + 5).toNatClampNeg (-1)) ((10 * u9) + 6).toNatClampNeg (-1)) ((10 * u9) + 7).toNatClampNeg (-1)) ((10 * u9) + 8).toNatClampNeg 0) ((10 * u9) + 9).toNatClampNeg 0), (upd (L_t σ.2) u9.toNatClampNeg 0), (L_r σ.2)) u9 3) (mL_of ((L_g σ.2), (upd (upd (upd (upd (upd (upd (upd (upd (upd (upd (L_b σ.2) (10 * u9).toNatClampNeg 1) ((10 * u9) + 1).toNatClampNeg (3 + (mL_low x3 18))) ((10 * u9) + 2).toNatClampNeg (5 + (mL_low (x3 >>> ((5 : Int32) &&& 31)) ((if ((x3 >>> ((4 : Int32) &&& 31)) &&& 3) = 0 then 36 else 27) : Int32)))) ((10 * u9) + 3).toNatClampNeg (1 + (mL_low (x3 >>> ((8 : Int32) &&& 31)) ((if ((x3 >>> ((7 : Int32) &&& 31)) &&& 3) = 0 then 30 else 16) : Int32)))) ((10 * u9) + 4).toNatClampNeg (mL_low (x3 >>> ((12 : Int32) &&& 31)) 3)) ((10 * u9) + 5).toNatClampNeg (-1)) ((10 * u9) + 6).toNatClampNeg (-1)) ((10 * u9) + 7).toNatClampNeg (-1)) ((10 * u9) + 8).toNatClampNeg 0) ((10 * u9) + 9).toNatClampNeg 0), (upd (L_t σ.2) u9.toNatClampNeg 0), (L_r σ.2)) u9 4)).2, ((L_g σ.2), (upd (upd (upd (upd (upd (upd (upd (upd (upd (upd (L_b σ.2) (10 * u9).toNatClampNeg 1) ((10 * u9) + 1).toNatClampNeg (3 + (mL_low x3 18))) ((10 * u9) + 2).toNatClampNeg (5 + (mL_low (x3 >>> ((5 : Int32) &&& 31)) ((if ((x3 >>> ((4 : Int32) &&& 31)) &&& 3) = 0 then 36 else 27) : Int32)))) ((10 * u9) + 3).toNatClampNeg (1 + (mL_low (x3 >>> ((8 : Int32) &&& 31)) ((if ((x3 >>> ((7 : Int32) &&& 31)) &&& 3) = 0 then 30 else 16) : Int32)))) ((10 * u9) + 4).toNatClampNeg (mL_low (x3 >>> ((12 : Int32) &&& 31)) 3)) ((10 * u9) + 5).toNatClampNeg (-1)) ((10 * u9) + 6).toNatClampNeg (-1)) ((10 * u9) + 7).toNatClampNeg (-1)) ((10 * u9) + 8).toNatClampNeg 0) ((10 * u9) + 9).toNatClampNeg 0), (upd (L_t σ.2) u9.toNatClampNeg 0), (L_r σ.2)))) := hD
        refine lv_iload hx hb dL_yard_316 (lv_at hl 0 rfl) ?_
        refine lv_icmp_ne (tgt := 325) hx hb dL_yard_318 (by decide) (fun c_62 => ?_) (fun c_62 => ?_)
        · refine lv_iconst (v := 0) hx hb dL_yard_325 (by decide) ?_
          have hm : r = (0, ((mX3_come σ.1 (mL_of ((L_g σ.2), (upd (upd (upd (upd (upd (upd (upd (upd (upd (upd (L_b σ.2) (10 * u9).toNatClampNeg 1) ((10 * u9) + 1).toNatClampNeg (3 + (mL_low x3 18))) ((10 * u9) + 2).toNatClampNeg (5 + (mL_low (x3 >>> ((5 : Int32) &&& 31)) ((if ((x3 >>> ((4 : Int32) &&& 31)) &&& 3) = 0 then 36 else 27) : Int32)))) ((10 * u9) + 3).toNatClampNeg (1 + (mL_low (x3 >>> ((8 : Int32) &&& 31)) ((if ((x3 >>> ((7 : Int32) &&& 31)) &&& 3) = 0 then 30 else 16) : Int32)))) ((10 * u9) + 4).toNatClampNeg (mL_low (x3 >>> ((12 : Int32) &&& 31)) 3)) ((10 * u9) + 5).toNatClampNeg (-1)) ((10 * u9) + 6).toNatClampNeg (-1)) ((10 * u9) + 7).toNatClampNeg (-1)) ((10 * u9) + 8).toNatClampNeg 0) ((10 * u9) + 9).toNatClampNeg 0), (upd (L_t σ.2) u9.toNatClampNeg 0), (L_r σ.2)) u9 1) (mL_of ((L_g σ.2), (upd (upd (upd (upd (upd (upd (upd (upd (upd (upd (L_b σ.2) (10 * u9).toNatClampNeg 1) ((10 * u9) + 1).toNatClampNeg (3 + (mL_low x3 18))) ((10 * u9) + 2).toNatClampNeg (5 + (mL_low (x3 >>> ((5 : Int32) &&& 31)) ((if ((x3 >>> ((4 : Int32) &&& 31)) &&& 3) = 0 then 36 else 27) : Int32)))) ((10 * u9) + 3).toNatClampNeg (1 + (mL_low (x3 >>> ((8 : Int32) &&& 31)) ((if ((x3 >>> ((7 : Int32) &&& 31)) &&& 3) = 0 then 30 else 16) : Int32)))) ((10 * u9) + 4).toNatClampNeg (mL_low (x3 >>> ((12 : Int32) &&& 31)) 3)) ((10 * u9) + 5).toNatClampNeg (-1)) ((10 * u9) + 6).toNatClampNeg (-1)) ((10 * u9) + 7).toNatClampNeg (-1)) ((10 * u9) + 8).toNatClampNeg 0) ((10 * u9) + 9).toNatClampNeg 0), (upd (L_t σ.2) u9.toNatClampNeg 0), (L_r σ.2)) u9 2) (mL_of ((L_g σ.2), (upd (upd (upd (upd (upd (upd (upd (upd (upd (upd (L_b σ.2) (10 * u9).toNatClampNeg 1) ((10 * u9) + 1).toNatClampNeg (3 + (mL_low x3 18))) ((10 * u9) + 2).toNatClampNeg (5 + (mL_low (x3 >>> ((5 : Int32) &&& 31)) ((if ((x3 >>> ((4 : Int32) &&& 31)) &&& 3) = 0 then 36 else 27) : Int32)))) ((10 * u9) + 3).toNatClampNeg (1 + (mL_low (x3 >>> ((8 : Int32) &&& 31)) ((if ((x3 >>> ((7 : Int32) &&& 31)) &&& 3) = 0 then 30 else 16) : Int32)))) ((10 * u9) + 4).toNatClampNeg (mL_low (x3 >>> ((12 : Int32) &&& 31)) 3)) ((10 * u9) + 5).toNatClampNeg (-1)) ((10 * u9) + 6).toNatClampNeg (-1)) ((10 * u9) + 7).toNatClampNeg (-1)) ((10 * u9) + 8).toNatClampNeg 0) ((10 * u9) + 9).toNatClampNeg 0), (upd (L_t σ.2) u9.toNatClampNeg 0), (L_r σ.2)) u9 3) (mL_of ((L_g σ.2), (upd (upd (upd (upd (upd (upd (upd (upd (upd (upd (L_b σ.2) (10 * u9).toNatClampNeg 1) ((10 * u9) + 1).toNatClampNeg (3 + (mL_low x3 18))) ((10 * u9) + 2).toNatClampNeg (5 + (mL_low (x3 >>> ((5 : Int32) &&& 31)) ((if ((x3 >>> ((4 : Int32) &&& 31)) &&& 3) = 0 then 36 else 27) : Int32)))) ((10 * u9) + 3).toNatClampNeg (1 + (mL_low (x3 >>> ((8 : Int32) &&& 31)) ((if ((x3 >>> ((7 : Int32) &&& 31)) &&& 3) = 0 then 30 else 16) : Int32)))) ((10 * u9) + 4).toNatClampNeg (mL_low (x3 >>> ((12 : Int32) &&& 31)) 3)) ((10 * u9) + 5).toNatClampNeg (-1)) ((10 * u9) + 6).toNatClampNeg (-1)) ((10 * u9) + 7).toNatClampNeg (-1)) ((10 * u9) + 8).toNatClampNeg 0) ((10 * u9) + 9).toNatClampNeg 0), (upd (L_t σ.2) u9.toNatClampNeg 0), (L_r σ.2)) u9 4)).2, ((L_g σ.2), (upd (upd (upd (upd (upd (upd (upd (upd (upd (upd (L_b σ.2) (10 * u9).toNatClampNeg 1) ((10 * u9) + 1).toNatClampNeg (3 + (mL_low x3 18))) ((10 * u9) + 2).toNatClampNeg (5 + (mL_low (x3 >>> ((5 : Int32) &&& 31)) ((if ((x3 >>> ((4 : Int32) &&& 31)) &&& 3) = 0 then 36 else 27) : Int32)))) ((10 * u9) + 3).toNatClampNeg (1 + (mL_low (x3 >>> ((8 : Int32) &&& 31)) ((if ((x3 >>> ((7 : Int32) &&& 31)) &&& 3) = 0 then 30 else 16) : Int32)))) ((10 * u9) + 4).toNatClampNeg (mL_low (x3 >>> ((12 : Int32) &&& 31)) 3)) ((10 * u9) + 5).toNatClampNeg (-1)) ((10 * u9) + 6).toNatClampNeg (-1)) ((10 * u9) + 7).toNatClampNeg (-1)) ((10 * u9) + 8).toNatClampNeg 0) ((10 * u9) + 9).toNatClampNeg 0), (upd (L_t σ.2) u9.toNatClampNeg 0), (L_r σ.2)))) := by rw [hR, mL_yard_L25, if_pos c_54, if_neg c_55, if_neg c_62]
          exact wr_zret hC hP (hAe ▸ hD) (hAe ▸ hS) dL_yard_326 rfl (by rw [hm]) (by rw [hm])
        · refine lv_iconst (v := 1) hx hb dL_yard_321 (by decide) ?_
          refine lv_goto (tgt := 326) hx hb dL_yard_322 (by decide) ?_
          have hm : r = (1, ((mX3_come σ.1 (mL_of ((L_g σ.2), (upd (upd (upd (upd (upd (upd (upd (upd (upd (upd (L_b σ.2) (10 * u9).toNatClampNeg 1) ((10 * u9) + 1).toNatClampNeg (3 + (mL_low x3 18))) ((10 * u9) + 2).toNatClampNeg (5 + (mL_low (x3 >>> ((5 : Int32) &&& 31)) ((if ((x3 >>> ((4 : Int32) &&& 31)) &&& 3) = 0 then 36 else 27) : Int32)))) ((10 * u9) + 3).toNatClampNeg (1 + (mL_low (x3 >>> ((8 : Int32) &&& 31)) ((if ((x3 >>> ((7 : Int32) &&& 31)) &&& 3) = 0 then 30 else 16) : Int32)))) ((10 * u9) + 4).toNatClampNeg (mL_low (x3 >>> ((12 : Int32) &&& 31)) 3)) ((10 * u9) + 5).toNatClampNeg (-1)) ((10 * u9) + 6).toNatClampNeg (-1)) ((10 * u9) + 7).toNatClampNeg (-1)) ((10 * u9) + 8).toNatClampNeg 0) ((10 * u9) + 9).toNatClampNeg 0), (upd (L_t σ.2) u9.toNatClampNeg 0), (L_r σ.2)) u9 1) (mL_of ((L_g σ.2), (upd (upd (upd (upd (upd (upd (upd (upd (upd (upd (L_b σ.2) (10 * u9).toNatClampNeg 1) ((10 * u9) + 1).toNatClampNeg (3 + (mL_low x3 18))) ((10 * u9) + 2).toNatClampNeg (5 + (mL_low (x3 >>> ((5 : Int32) &&& 31)) ((if ((x3 >>> ((4 : Int32) &&& 31)) &&& 3) = 0 then 36 else 27) : Int32)))) ((10 * u9) + 3).toNatClampNeg (1 + (mL_low (x3 >>> ((8 : Int32) &&& 31)) ((if ((x3 >>> ((7 : Int32) &&& 31)) &&& 3) = 0 then 30 else 16) : Int32)))) ((10 * u9) + 4).toNatClampNeg (mL_low (x3 >>> ((12 : Int32) &&& 31)) 3)) ((10 * u9) + 5).toNatClampNeg (-1)) ((10 * u9) + 6).toNatClampNeg (-1)) ((10 * u9) + 7).toNatClampNeg (-1)) ((10 * u9) + 8).toNatClampNeg 0) ((10 * u9) + 9).toNatClampNeg 0), (upd (L_t σ.2) u9.toNatClampNeg 0), (L_r σ.2)) u9 2) (mL_of ((L_g σ.2), (upd (upd (upd (upd (upd (upd (upd (upd (upd (upd (L_b σ.2) (10 * u9).toNatClampNeg 1) ((10 * u9) + 1).toNatClampNeg (3 + (mL_low x3 18))) ((10 * u9) + 2).toNatClampNeg (5 + (mL_low (x3 >>> ((5 : Int32) &&& 31)) ((if ((x3 >>> ((4 : Int32) &&& 31)) &&& 3) = 0 then 36 else 27) : Int32)))) ((10 * u9) + 3).toNatClampNeg (1 + (mL_low (x3 >>> ((8 : Int32) &&& 31)) ((if ((x3 >>> ((7 : Int32) &&& 31)) &&& 3) = 0 then 30 else 16) : Int32)))) ((10 * u9) + 4).toNatClampNeg (mL_low (x3 >>> ((12 : Int32) &&& 31)) 3)) ((10 * u9) + 5).toNatClampNeg (-1)) ((10 * u9) + 6).toNatClampNeg (-1)) ((10 * u9) + 7).toNatClampNeg (-1)) ((10 * u9) + 8).toNatClampNeg 0) ((10 * u9) + 9).toNatClampNeg 0), (upd (L_t σ.2) u9.toNatClampNeg 0), (L_r σ.2)) u9 3) (mL_of ((L_g σ.2), (upd (upd (upd (upd (upd (upd (upd (upd (upd (upd (L_b σ.2) (10 * u9).toNatClampNeg 1) ((10 * u9) + 1).toNatClampNeg (3 + (mL_low x3 18))) ((10 * u9) + 2).toNatClampNeg (5 + (mL_low (x3 >>> ((5 : Int32) &&& 31)) ((if ((x3 >>> ((4 : Int32) &&& 31)) &&& 3) = 0 then 36 else 27) : Int32)))) ((10 * u9) + 3).toNatClampNeg (1 + (mL_low (x3 >>> ((8 : Int32) &&& 31)) ((if ((x3 >>> ((7 : Int32) &&& 31)) &&& 3) = 0 then 30 else 16) : Int32)))) ((10 * u9) + 4).toNatClampNeg (mL_low (x3 >>> ((12 : Int32) &&& 31)) 3)) ((10 * u9) + 5).toNatClampNeg (-1)) ((10 * u9) + 6).toNatClampNeg (-1)) ((10 * u9) + 7).toNatClampNeg (-1)) ((10 * u9) + 8).toNatClampNeg 0) ((10 * u9) + 9).toNatClampNeg 0), (upd (L_t σ.2) u9.toNatClampNeg 0), (L_r σ.2)) u9 4)).2, ((L_g σ.2), (upd (upd (upd (upd (upd (upd (upd (upd (upd (upd (L_b σ.2) (10 * u9).toNatClampNeg 1) ((10 * u9) + 1).toNatClampNeg (3 + (mL_low x3 18))) ((10 * u9) + 2).toNatClampNeg (5 + (mL_low (x3 >>> ((5 : Int32) &&& 31)) ((if ((x3 >>> ((4 : Int32) &&& 31)) &&& 3) = 0 then 36 else 27) : Int32)))) ((10 * u9) + 3).toNatClampNeg (1 + (mL_low (x3 >>> ((8 : Int32) &&& 31)) ((if ((x3 >>> ((7 : Int32) &&& 31)) &&& 3) = 0 then 30 else 16) : Int32)))) ((10 * u9) + 4).toNatClampNeg (mL_low (x3 >>> ((12 : Int32) &&& 31)) 3)) ((10 * u9) + 5).toNatClampNeg (-1)) ((10 * u9) + 6).toNatClampNeg (-1)) ((10 * u9) + 7).toNatClampNeg (-1)) ((10 * u9) + 8).toNatClampNeg 0) ((10 * u9) + 9).toNatClampNeg 0), (upd (L_t σ.2) u9.toNatClampNeg 0), (L_r σ.2)))) := by rw [hR, mL_yard_L25, if_pos c_54, if_neg c_55, if_pos c_62]
          exact wr_zret hC hP (hAe ▸ hD) (hAe ▸ hS) dL_yard_326 rfl (by rw [hm]) (by rw [hm])
      · refine lv_aload_n hx hb dL_yard_57 rfl (lv_at hl 3 rfl) ?_
        refine lv_iconst (v := 3) hx hb dL_yard_58 (by decide) ?_
        refine lv_iconst (v := 5) hx hb dL_yard_59 (by decide) ?_
        refine lv_iconst (v := 1) hx hb dL_yard_60 (by decide) ?_
        refine lv_iconst (v := 3) hx hb dL_yard_61 (by decide) ?_
        refine callWrR hC (k_X3_come l g ad.1 σ.1 3 5 1 3 hhk) ci_X3_come lk_L_45 ⟨Nat.le_of_ble_eq_true rfl, Nat.le_of_ble_eq_true rfl⟩ hP hD hK hE hS hA (q0 := 0) rfl rfl rfl rfl hl.1 rfl (Nat.le_of_ble_eq_true rfl) dL_yard_62 ⟨Nat.zero_le _, Nat.zero_le _⟩ (fun H locs hP hD hS => ?_)
        have hP : va_P g.1 vwCl (cV g ad ((mX3_come σ.1 3 5 1 3).2, σ.2)) H := hP
        have hD : va_D A (cV g ad ((mX3_come σ.1 3 5 1 3).2, σ.2)) := hD
        refine lv_iconst (v := (-1)) hx hb dL_yard_65 (by decide) ?_
        refine lv_icmp_ne (tgt := 100) hx hb dL_yard_66 (by decide) (fun c_63 => ?_) (fun c_63 => ?_)
        · refine lv_iconst (v := 0) hx hb dL_yard_100 (by decide) ?_
          have hm : r = (0, ((mX3_come σ.1 3 5 1 3).2, σ.2)) := by rw [hR, mL_yard_L25, if_pos c_54, if_pos c_55, if_neg c_63]
          exact wr_zret hC hP (hAe ▸ hD) (hAe ▸ hS) dL_yard_101 rfl (by rw [hm]) (by rw [hm])
        · refine lv_aload_n hx hb dL_yard_69 rfl (lv_at hl 3 rfl) ?_
          refine lv_iconst (v := 2) hx hb dL_yard_70 (by decide) ?_
          refine lv_iconst (v := 5) hx hb dL_yard_71 (by decide) ?_
          refine lv_iconst (v := 1) hx hb dL_yard_72 (by decide) ?_
          refine lv_iconst (v := 0) hx hb dL_yard_73 (by decide) ?_
          refine callWrR hC (k_X3_come l g ad.1 (mX3_come σ.1 3 5 1 3).2 2 5 1 0 (hok_come hhk)) ci_X3_come lk_L_45 ⟨Nat.le_of_ble_eq_true rfl, Nat.le_of_ble_eq_true rfl⟩ hP hD hK hE hS hA (q0 := 0) rfl rfl rfl rfl hl.1 rfl (Nat.le_of_ble_eq_true rfl) dL_yard_74 ⟨Nat.zero_le _, Nat.zero_le _⟩ (fun H locs hP hD hS => ?_)
          have hP : va_P g.1 vwCl (cV g ad ((mX3_come (mX3_come σ.1 3 5 1 3).2 2 5 1 0).2, σ.2)) H := hP
          have hD : va_D A (cV g ad ((mX3_come (mX3_come σ.1 3 5 1 3).2 2 5 1 0).2, σ.2)) := hD
          refine lv_bipush (v := (-2)) hx hb dL_yard_77 (by decide) ?_
          refine lv_icmp_ne (tgt := 100) hx hb dL_yard_79 (by decide) (fun c_64 => ?_) (fun c_64 => ?_)
          · refine lv_iconst (v := 0) hx hb dL_yard_100 (by decide) ?_
            have hm : r = (0, ((mX3_come (mX3_come σ.1 3 5 1 3).2 2 5 1 0).2, σ.2)) := by rw [hR, mL_yard_L25, if_pos c_54, if_pos c_55, if_pos c_63, if_neg c_64]
            exact wr_zret hC hP (hAe ▸ hD) (hAe ▸ hS) dL_yard_101 rfl (by rw [hm]) (by rw [hm])
          · refine lv_aload_n hx hb dL_yard_82 rfl (lv_at hl 3 rfl) ?_
            refine lv_iconst (v := 3) hx hb dL_yard_83 (by decide) ?_
            refine lv_bipush (v := 41) hx hb dL_yard_84 (by decide) ?_
            refine lv_iconst (v := 1) hx hb dL_yard_86 (by decide) ?_
            refine lv_iconst (v := 0) hx hb dL_yard_87 (by decide) ?_
            refine callWrR hC (k_X3_come l g ad.1 (mX3_come (mX3_come σ.1 3 5 1 3).2 2 5 1 0).2 3 41 1 0 (hok_come (hok_come hhk))) ci_X3_come lk_L_45 ⟨Nat.le_of_ble_eq_true rfl, Nat.le_of_ble_eq_true rfl⟩ hP hD hK hE hS hA (q0 := 0) rfl rfl rfl rfl hl.1 rfl (Nat.le_of_ble_eq_true rfl) dL_yard_88 ⟨Nat.zero_le _, Nat.zero_le _⟩ (fun H locs hP hD hS => ?_)
            have hP : va_P g.1 vwCl (cV g ad ((mX3_come (mX3_come (mX3_come σ.1 3 5 1 3).2 2 5 1 0).2 3 41 1 0).2, σ.2)) H := hP
            have hD : va_D A (cV g ad ((mX3_come (mX3_come (mX3_come σ.1 3 5 1 3).2 2 5 1 0).2 3 41 1 0).2, σ.2)) := hD
            refine lv_bipush (v := (-2)) hx hb dL_yard_91 (by decide) ?_
            refine lv_icmp_ne (tgt := 100) hx hb dL_yard_93 (by decide) (fun c_65 => ?_) (fun c_65 => ?_)
            · refine lv_iconst (v := 0) hx hb dL_yard_100 (by decide) ?_
              have hm : r = (0, ((mX3_come (mX3_come (mX3_come σ.1 3 5 1 3).2 2 5 1 0).2 3 41 1 0).2, σ.2)) := by rw [hR, mL_yard_L25, if_pos c_54, if_pos c_55, if_pos c_63, if_pos c_64, if_neg c_65]
              exact wr_zret hC hP (hAe ▸ hD) (hAe ▸ hS) dL_yard_101 rfl (by rw [hm]) (by rw [hm])
            · refine lv_iconst (v := 1) hx hb dL_yard_96 (by decide) ?_
              refine lv_goto (tgt := 101) hx hb dL_yard_97 (by decide) ?_
              have hm : r = (1, ((mX3_come (mX3_come (mX3_come σ.1 3 5 1 3).2 2 5 1 0).2 3 41 1 0).2, σ.2)) := by rw [hR, mL_yard_L25, if_pos c_54, if_pos c_55, if_pos c_63, if_pos c_64, if_pos c_65]
              exact wr_zret hC hP (hAe ▸ hD) (hAe ▸ hS) dL_yard_101 rfl (by rw [hm]) (by rw [hm])
    · refine lv_aload hx hb dL_yard_32 (lv_at hl 7 rfl) ?_
      refine lv_iload hx hb dL_yard_34 (lv_at hl 0 rfl) ?_
      refine lv_iconst (v := 0) hx hb dL_yard_36 (by decide) ?_
      refine callSd hC (k_L_of l g ad.2 σ.2 u9 0 (in_up (n := 6) rfl hi0 c_54) (in_iff.mpr (by decide))) ci_L_of lk_L_9 ⟨Nat.le_of_ble_eq_true rfl, Nat.le_of_ble_eq_true rfl⟩ (P_left hP) hK (hE.S hS).none rfl hl.1 rfl (Nat.le_of_ble_eq_true rfl) dL_yard_37 ⟨Nat.zero_le _, Nat.zero_le _⟩ ?_
      refine lv_iconst (v := 1) hx hb dL_yard_40 (by decide) ?_
      refine lv_icmp_ne (tgt := 50) hx hb dL_yard_41 (by decide) (fun c_66 => ?_) (fun c_66 => ?_)
      · refine lv_iload hx hb dL_yard_50 (lv_at hl 0 rfl) ?_
        refine lv_bipush (v := 6) hx hb dL_yard_52 (by decide) ?_
        refine lv_icmp_ne (tgt := 102) hx hb dL_yard_54 (by decide) (fun c_67 => ?_) (fun c_67 => ?_)
        · refine lv_aload hx hb dL_yard_102 (lv_at hl 7 rfl) ?_
          refine lv_bipush (v := 10) hx hb dL_yard_104 (by decide) ?_
          refine lv_iload hx hb dL_yard_106 (lv_at hl 0 rfl) ?_
          refine lv_imul hx hb dL_yard_108 ?_
          refine lv_iconst (v := 1) hx hb dL_yard_109 (by decide) ?_
          refine sV_b hC hK hP hD hS (ix_100 (fr_in hi0 hi1 c_67)) dL_yard_110 (fun H locs hP hD hS => ?_)
          have hP : va_P g.1 vwCl (cV g ad (σ.1, ((L_g σ.2), (upd (L_b σ.2) (10 * u9).toNatClampNeg 1), (L_t σ.2), (L_r σ.2)))) H := hP
          have hD : va_D A (cV g ad (σ.1, ((L_g σ.2), (upd (L_b σ.2) (10 * u9).toNatClampNeg 1), (L_t σ.2), (L_r σ.2)))) := hD
          refine lv_aload hx hb dL_yard_111 (lv_at hl 7 rfl) ?_
          refine lv_bipush (v := 10) hx hb dL_yard_113 (by decide) ?_
          refine lv_iload hx hb dL_yard_115 (lv_at hl 0 rfl) ?_
          refine lv_imul hx hb dL_yard_117 ?_
          refine lv_iconst (v := 1) hx hb dL_yard_118 (by decide) ?_
          refine lv_iadd hx hb dL_yard_119 ?_
          refine lv_iconst (v := 3) hx hb dL_yard_120 (by decide) ?_
          refine lv_iload_n hx hb dL_yard_121 rfl (lv_at hl 5 rfl) ?_
          refine lv_bipush (v := 18) hx hb dL_yard_122 (by decide) ?_
          refine callRs hC (k_L_low l g x3 18 (by first | decide | (split <;> decide))) ci_L_low lk_L_41 ⟨Nat.le_of_ble_eq_true rfl, Nat.le_of_ble_eq_true rfl⟩ hK (hE.S hS).none rfl hl.1 rfl (Nat.le_of_ble_eq_true rfl) dL_yard_124 ⟨Nat.zero_le _, Nat.zero_le _⟩ ?_
          refine lv_iadd hx hb dL_yard_127 ?_
          refine sV_b hC hK hP hD hS (ix_10 (fr_in hi0 hi1 c_67) (in_iff.mpr (by decide))) dL_yard_128 (fun H locs hP hD hS => ?_)
          have hP : va_P g.1 vwCl (cV g ad (σ.1, ((L_g σ.2), (upd (upd (L_b σ.2) (10 * u9).toNatClampNeg 1) ((10 * u9) + 1).toNatClampNeg (3 + (mL_low x3 18))), (L_t σ.2), (L_r σ.2)))) H := hP
          have hD : va_D A (cV g ad (σ.1, ((L_g σ.2), (upd (upd (L_b σ.2) (10 * u9).toNatClampNeg 1) ((10 * u9) + 1).toNatClampNeg (3 + (mL_low x3 18))), (L_t σ.2), (L_r σ.2)))) := hD
          refine lv_aload hx hb dL_yard_129 (lv_at hl 7 rfl) ?_
          refine lv_bipush (v := 10) hx hb dL_yard_131 (by decide) ?_
          refine lv_iload hx hb dL_yard_133 (lv_at hl 0 rfl) ?_
          refine lv_imul hx hb dL_yard_135 ?_
          refine lv_iconst (v := 2) hx hb dL_yard_136 (by decide) ?_
          refine lv_iadd hx hb dL_yard_137 ?_
          refine lv_iconst (v := 5) hx hb dL_yard_138 (by decide) ?_
          refine lv_iload_n hx hb dL_yard_139 rfl (lv_at hl 5 rfl) ?_
          refine lv_iconst (v := 5) hx hb dL_yard_140 (by decide) ?_
          refine lv_ishr hx hb dL_yard_141 ?_
          refine lv_iload_n hx hb dL_yard_142 rfl (lv_at hl 5 rfl) ?_
          refine lv_iconst (v := 4) hx hb dL_yard_143 (by decide) ?_
          refine lv_ishr hx hb dL_yard_144 ?_
          refine lv_iconst (v := 3) hx hb dL_yard_145 (by decide) ?_
          refine lv_iand hx hb dL_yard_146 ?_
          refine dia (J := 157) (V := ((if ((x3 >>> ((4 : Int32) &&& 31)) &&& 3) = 0 then 36 else 27) : Int32)) (rest := [.int (x3 >>> ((5 : Int32) &&& 31)), .int 5, .int ((10 * u9) + 2), .ref ad.2.2.1]) (fun kk_69 => ?_) ?_
          · refine lv_if_ne (tgt := 155) hx hb dL_yard_147 (by decide) (fun c_70 => ?_) (fun c_70 => ?_)
            · refine lv_bipush (v := 27) hx hb dL_yard_155 (by decide) ?_
              exact kk_69 _ (if_neg c_70)
            · refine lv_bipush (v := 36) hx hb dL_yard_150 (by decide) ?_
              refine lv_goto (tgt := 157) hx hb dL_yard_152 (by decide) ?_
              exact kk_69 _ (if_pos c_70)
          refine callRs hC (k_L_low l g (x3 >>> ((5 : Int32) &&& 31)) ((if ((x3 >>> ((4 : Int32) &&& 31)) &&& 3) = 0 then 36 else 27) : Int32) (by first | decide | (split <;> decide))) ci_L_low lk_L_41 ⟨Nat.le_of_ble_eq_true rfl, Nat.le_of_ble_eq_true rfl⟩ hK (hE.S hS).none rfl hl.1 rfl (Nat.le_of_ble_eq_true rfl) dL_yard_157 ⟨Nat.zero_le _, Nat.zero_le _⟩ ?_
          refine lv_iadd hx hb dL_yard_160 ?_
          refine sV_b hC hK hP hD hS (ix_10 (fr_in hi0 hi1 c_67) (in_iff.mpr (by decide))) dL_yard_161 (fun H locs hP hD hS => ?_)
          have hP : va_P g.1 vwCl (cV g ad (σ.1, ((L_g σ.2), (upd (upd (upd (L_b σ.2) (10 * u9).toNatClampNeg 1) ((10 * u9) + 1).toNatClampNeg (3 + (mL_low x3 18))) ((10 * u9) + 2).toNatClampNeg (5 + (mL_low (x3 >>> ((5 : Int32) &&& 31)) ((if ((x3 >>> ((4 : Int32) &&& 31)) &&& 3) = 0 then 36 else 27) : Int32)))), (L_t σ.2), (L_r σ.2)))) H := hP
          have hD : va_D A (cV g ad (σ.1, ((L_g σ.2), (upd (upd (upd (L_b σ.2) (10 * u9).toNatClampNeg 1) ((10 * u9) + 1).toNatClampNeg (3 + (mL_low x3 18))) ((10 * u9) + 2).toNatClampNeg (5 + (mL_low (x3 >>> ((5 : Int32) &&& 31)) ((if ((x3 >>> ((4 : Int32) &&& 31)) &&& 3) = 0 then 36 else 27) : Int32)))), (L_t σ.2), (L_r σ.2)))) := hD
          refine lv_aload hx hb dL_yard_162 (lv_at hl 7 rfl) ?_
          refine lv_bipush (v := 10) hx hb dL_yard_164 (by decide) ?_
          refine lv_iload hx hb dL_yard_166 (lv_at hl 0 rfl) ?_
          refine lv_imul hx hb dL_yard_168 ?_
          refine lv_iconst (v := 3) hx hb dL_yard_169 (by decide) ?_
          refine lv_iadd hx hb dL_yard_170 ?_
          refine lv_iconst (v := 1) hx hb dL_yard_171 (by decide) ?_
          refine lv_iload_n hx hb dL_yard_172 rfl (lv_at hl 5 rfl) ?_
          refine lv_bipush (v := 8) hx hb dL_yard_173 (by decide) ?_
          refine lv_ishr hx hb dL_yard_175 ?_
          refine lv_iload_n hx hb dL_yard_176 rfl (lv_at hl 5 rfl) ?_
          refine lv_bipush (v := 7) hx hb dL_yard_177 (by decide) ?_
          refine lv_ishr hx hb dL_yard_179 ?_
          refine lv_iconst (v := 3) hx hb dL_yard_180 (by decide) ?_
          refine lv_iand hx hb dL_yard_181 ?_
          refine dia (J := 192) (V := ((if ((x3 >>> ((7 : Int32) &&& 31)) &&& 3) = 0 then 30 else 16) : Int32)) (rest := [.int (x3 >>> ((8 : Int32) &&& 31)), .int 1, .int ((10 * u9) + 3), .ref ad.2.2.1]) (fun kk_72 => ?_) ?_
          · refine lv_if_ne (tgt := 190) hx hb dL_yard_182 (by decide) (fun c_73 => ?_) (fun c_73 => ?_)
            · refine lv_bipush (v := 16) hx hb dL_yard_190 (by decide) ?_
              exact kk_72 _ (if_neg c_73)
            · refine lv_bipush (v := 30) hx hb dL_yard_185 (by decide) ?_
              refine lv_goto (tgt := 192) hx hb dL_yard_187 (by decide) ?_
              exact kk_72 _ (if_pos c_73)
          refine callRs hC (k_L_low l g (x3 >>> ((8 : Int32) &&& 31)) ((if ((x3 >>> ((7 : Int32) &&& 31)) &&& 3) = 0 then 30 else 16) : Int32) (by first | decide | (split <;> decide))) ci_L_low lk_L_41 ⟨Nat.le_of_ble_eq_true rfl, Nat.le_of_ble_eq_true rfl⟩ hK (hE.S hS).none rfl hl.1 rfl (Nat.le_of_ble_eq_true rfl) dL_yard_192 ⟨Nat.zero_le _, Nat.zero_le _⟩ ?_
          refine lv_iadd hx hb dL_yard_195 ?_
          refine sV_b hC hK hP hD hS (ix_10 (fr_in hi0 hi1 c_67) (in_iff.mpr (by decide))) dL_yard_196 (fun H locs hP hD hS => ?_)
          have hP : va_P g.1 vwCl (cV g ad (σ.1, ((L_g σ.2), (upd (upd (upd (upd (L_b σ.2) (10 * u9).toNatClampNeg 1) ((10 * u9) + 1).toNatClampNeg (3 + (mL_low x3 18))) ((10 * u9) + 2).toNatClampNeg (5 + (mL_low (x3 >>> ((5 : Int32) &&& 31)) ((if ((x3 >>> ((4 : Int32) &&& 31)) &&& 3) = 0 then 36 else 27) : Int32)))) ((10 * u9) + 3).toNatClampNeg (1 + (mL_low (x3 >>> ((8 : Int32) &&& 31)) ((if ((x3 >>> ((7 : Int32) &&& 31)) &&& 3) = 0 then 30 else 16) : Int32)))), (L_t σ.2), (L_r σ.2)))) H := hP
          have hD : va_D A (cV g ad (σ.1, ((L_g σ.2), (upd (upd (upd (upd (L_b σ.2) (10 * u9).toNatClampNeg 1) ((10 * u9) + 1).toNatClampNeg (3 + (mL_low x3 18))) ((10 * u9) + 2).toNatClampNeg (5 + (mL_low (x3 >>> ((5 : Int32) &&& 31)) ((if ((x3 >>> ((4 : Int32) &&& 31)) &&& 3) = 0 then 36 else 27) : Int32)))) ((10 * u9) + 3).toNatClampNeg (1 + (mL_low (x3 >>> ((8 : Int32) &&& 31)) ((if ((x3 >>> ((7 : Int32) &&& 31)) &&& 3) = 0 then 30 else 16) : Int32)))), (L_t σ.2), (L_r σ.2)))) := hD
          refine lv_aload hx hb dL_yard_197 (lv_at hl 7 rfl) ?_
          refine lv_bipush (v := 10) hx hb dL_yard_199 (by decide) ?_
          refine lv_iload hx hb dL_yard_201 (lv_at hl 0 rfl) ?_
          refine lv_imul hx hb dL_yard_203 ?_
          refine lv_iconst (v := 4) hx hb dL_yard_204 (by decide) ?_
          refine lv_iadd hx hb dL_yard_205 ?_
          refine lv_iload_n hx hb dL_yard_206 rfl (lv_at hl 5 rfl) ?_
          refine lv_bipush (v := 12) hx hb dL_yard_207 (by decide) ?_
          refine lv_ishr hx hb dL_yard_209 ?_
          refine lv_iconst (v := 3) hx hb dL_yard_210 (by decide) ?_
          refine callRs hC (k_L_low l g (x3 >>> ((12 : Int32) &&& 31)) 3 (by first | decide | (split <;> decide))) ci_L_low lk_L_41 ⟨Nat.le_of_ble_eq_true rfl, Nat.le_of_ble_eq_true rfl⟩ hK (hE.S hS).none rfl hl.1 rfl (Nat.le_of_ble_eq_true rfl) dL_yard_211 ⟨Nat.zero_le _, Nat.zero_le _⟩ ?_
          refine sV_b hC hK hP hD hS (ix_10 (fr_in hi0 hi1 c_67) (in_iff.mpr (by decide))) dL_yard_214 (fun H locs hP hD hS => ?_)
          have hP : va_P g.1 vwCl (cV g ad (σ.1, ((L_g σ.2), (upd (upd (upd (upd (upd (L_b σ.2) (10 * u9).toNatClampNeg 1) ((10 * u9) + 1).toNatClampNeg (3 + (mL_low x3 18))) ((10 * u9) + 2).toNatClampNeg (5 + (mL_low (x3 >>> ((5 : Int32) &&& 31)) ((if ((x3 >>> ((4 : Int32) &&& 31)) &&& 3) = 0 then 36 else 27) : Int32)))) ((10 * u9) + 3).toNatClampNeg (1 + (mL_low (x3 >>> ((8 : Int32) &&& 31)) ((if ((x3 >>> ((7 : Int32) &&& 31)) &&& 3) = 0 then 30 else 16) : Int32)))) ((10 * u9) + 4).toNatClampNeg (mL_low (x3 >>> ((12 : Int32) &&& 31)) 3)), (L_t σ.2), (L_r σ.2)))) H := hP
          have hD : va_D A (cV g ad (σ.1, ((L_g σ.2), (upd (upd (upd (upd (upd (L_b σ.2) (10 * u9).toNatClampNeg 1) ((10 * u9) + 1).toNatClampNeg (3 + (mL_low x3 18))) ((10 * u9) + 2).toNatClampNeg (5 + (mL_low (x3 >>> ((5 : Int32) &&& 31)) ((if ((x3 >>> ((4 : Int32) &&& 31)) &&& 3) = 0 then 36 else 27) : Int32)))) ((10 * u9) + 3).toNatClampNeg (1 + (mL_low (x3 >>> ((8 : Int32) &&& 31)) ((if ((x3 >>> ((7 : Int32) &&& 31)) &&& 3) = 0 then 30 else 16) : Int32)))) ((10 * u9) + 4).toNatClampNeg (mL_low (x3 >>> ((12 : Int32) &&& 31)) 3)), (L_t σ.2), (L_r σ.2)))) := hD
          refine lv_aload hx hb dL_yard_215 (lv_at hl 7 rfl) ?_
          refine lv_bipush (v := 10) hx hb dL_yard_217 (by decide) ?_
          refine lv_iload hx hb dL_yard_219 (lv_at hl 0 rfl) ?_
          refine lv_imul hx hb dL_yard_221 ?_
          refine lv_iconst (v := 5) hx hb dL_yard_222 (by decide) ?_
          refine lv_iadd hx hb dL_yard_223 ?_
          refine lv_iconst (v := (-1)) hx hb dL_yard_224 (by decide) ?_
          refine sV_b hC hK hP hD hS (ix_10 (fr_in hi0 hi1 c_67) (in_iff.mpr (by decide))) dL_yard_225 (fun H locs hP hD hS => ?_)
          have hP : va_P g.1 vwCl (cV g ad (σ.1, ((L_g σ.2), (upd (upd (upd (upd (upd (upd (L_b σ.2) (10 * u9).toNatClampNeg 1) ((10 * u9) + 1).toNatClampNeg (3 + (mL_low x3 18))) ((10 * u9) + 2).toNatClampNeg (5 + (mL_low (x3 >>> ((5 : Int32) &&& 31)) ((if ((x3 >>> ((4 : Int32) &&& 31)) &&& 3) = 0 then 36 else 27) : Int32)))) ((10 * u9) + 3).toNatClampNeg (1 + (mL_low (x3 >>> ((8 : Int32) &&& 31)) ((if ((x3 >>> ((7 : Int32) &&& 31)) &&& 3) = 0 then 30 else 16) : Int32)))) ((10 * u9) + 4).toNatClampNeg (mL_low (x3 >>> ((12 : Int32) &&& 31)) 3)) ((10 * u9) + 5).toNatClampNeg (-1)), (L_t σ.2), (L_r σ.2)))) H := hP
          have hD : va_D A (cV g ad (σ.1, ((L_g σ.2), (upd (upd (upd (upd (upd (upd (L_b σ.2) (10 * u9).toNatClampNeg 1) ((10 * u9) + 1).toNatClampNeg (3 + (mL_low x3 18))) ((10 * u9) + 2).toNatClampNeg (5 + (mL_low (x3 >>> ((5 : Int32) &&& 31)) ((if ((x3 >>> ((4 : Int32) &&& 31)) &&& 3) = 0 then 36 else 27) : Int32)))) ((10 * u9) + 3).toNatClampNeg (1 + (mL_low (x3 >>> ((8 : Int32) &&& 31)) ((if ((x3 >>> ((7 : Int32) &&& 31)) &&& 3) = 0 then 30 else 16) : Int32)))) ((10 * u9) + 4).toNatClampNeg (mL_low (x3 >>> ((12 : Int32) &&& 31)) 3)) ((10 * u9) + 5).toNatClampNeg (-1)), (L_t σ.2), (L_r σ.2)))) := hD
          refine lv_aload hx hb dL_yard_226 (lv_at hl 7 rfl) ?_
          refine lv_bipush (v := 10) hx hb dL_yard_228 (by decide) ?_
          refine lv_iload hx hb dL_yard_230 (lv_at hl 0 rfl) ?_
          refine lv_imul hx hb dL_yard_232 ?_
          refine lv_bipush (v := 6) hx hb dL_yard_233 (by decide) ?_
          refine lv_iadd hx hb dL_yard_235 ?_
          refine lv_iconst (v := (-1)) hx hb dL_yard_236 (by decide) ?_
          refine sV_b hC hK hP hD hS (ix_10 (fr_in hi0 hi1 c_67) (in_iff.mpr (by decide))) dL_yard_237 (fun H locs hP hD hS => ?_)
          have hP : va_P g.1 vwCl (cV g ad (σ.1, ((L_g σ.2), (upd (upd (upd (upd (upd (upd (upd (L_b σ.2) (10 * u9).toNatClampNeg 1) ((10 * u9) + 1).toNatClampNeg (3 + (mL_low x3 18))) ((10 * u9) + 2).toNatClampNeg (5 + (mL_low (x3 >>> ((5 : Int32) &&& 31)) ((if ((x3 >>> ((4 : Int32) &&& 31)) &&& 3) = 0 then 36 else 27) : Int32)))) ((10 * u9) + 3).toNatClampNeg (1 + (mL_low (x3 >>> ((8 : Int32) &&& 31)) ((if ((x3 >>> ((7 : Int32) &&& 31)) &&& 3) = 0 then 30 else 16) : Int32)))) ((10 * u9) + 4).toNatClampNeg (mL_low (x3 >>> ((12 : Int32) &&& 31)) 3)) ((10 * u9) + 5).toNatClampNeg (-1)) ((10 * u9) + 6).toNatClampNeg (-1)), (L_t σ.2), (L_r σ.2)))) H := hP
          have hD : va_D A (cV g ad (σ.1, ((L_g σ.2), (upd (upd (upd (upd (upd (upd (upd (L_b σ.2) (10 * u9).toNatClampNeg 1) ((10 * u9) + 1).toNatClampNeg (3 + (mL_low x3 18))) ((10 * u9) + 2).toNatClampNeg (5 + (mL_low (x3 >>> ((5 : Int32) &&& 31)) ((if ((x3 >>> ((4 : Int32) &&& 31)) &&& 3) = 0 then 36 else 27) : Int32)))) ((10 * u9) + 3).toNatClampNeg (1 + (mL_low (x3 >>> ((8 : Int32) &&& 31)) ((if ((x3 >>> ((7 : Int32) &&& 31)) &&& 3) = 0 then 30 else 16) : Int32)))) ((10 * u9) + 4).toNatClampNeg (mL_low (x3 >>> ((12 : Int32) &&& 31)) 3)) ((10 * u9) + 5).toNatClampNeg (-1)) ((10 * u9) + 6).toNatClampNeg (-1)), (L_t σ.2), (L_r σ.2)))) := hD
          refine lv_aload hx hb dL_yard_238 (lv_at hl 7 rfl) ?_
          refine lv_bipush (v := 10) hx hb dL_yard_240 (by decide) ?_
          refine lv_iload hx hb dL_yard_242 (lv_at hl 0 rfl) ?_
          refine lv_imul hx hb dL_yard_244 ?_
          refine lv_bipush (v := 7) hx hb dL_yard_245 (by decide) ?_
          refine lv_iadd hx hb dL_yard_247 ?_
          refine lv_iconst (v := (-1)) hx hb dL_yard_248 (by decide) ?_
          refine sV_b hC hK hP hD hS (ix_10 (fr_in hi0 hi1 c_67) (in_iff.mpr (by decide))) dL_yard_249 (fun H locs hP hD hS => ?_)
          have hP : va_P g.1 vwCl (cV g ad (σ.1, ((L_g σ.2), (upd (upd (upd (upd (upd (upd (upd (upd (L_b σ.2) (10 * u9).toNatClampNeg 1) ((10 * u9) + 1).toNatClampNeg (3 + (mL_low x3 18))) ((10 * u9) + 2).toNatClampNeg (5 + (mL_low (x3 >>> ((5 : Int32) &&& 31)) ((if ((x3 >>> ((4 : Int32) &&& 31)) &&& 3) = 0 then 36 else 27) : Int32)))) ((10 * u9) + 3).toNatClampNeg (1 + (mL_low (x3 >>> ((8 : Int32) &&& 31)) ((if ((x3 >>> ((7 : Int32) &&& 31)) &&& 3) = 0 then 30 else 16) : Int32)))) ((10 * u9) + 4).toNatClampNeg (mL_low (x3 >>> ((12 : Int32) &&& 31)) 3)) ((10 * u9) + 5).toNatClampNeg (-1)) ((10 * u9) + 6).toNatClampNeg (-1)) ((10 * u9) + 7).toNatClampNeg (-1)), (L_t σ.2), (L_r σ.2)))) H := hP
          have hD : va_D A (cV g ad (σ.1, ((L_g σ.2), (upd (upd (upd (upd (upd (upd (upd (upd (L_b σ.2) (10 * u9).toNatClampNeg 1) ((10 * u9) + 1).toNatClampNeg (3 + (mL_low x3 18))) ((10 * u9) + 2).toNatClampNeg (5 + (mL_low (x3 >>> ((5 : Int32) &&& 31)) ((if ((x3 >>> ((4 : Int32) &&& 31)) &&& 3) = 0 then 36 else 27) : Int32)))) ((10 * u9) + 3).toNatClampNeg (1 + (mL_low (x3 >>> ((8 : Int32) &&& 31)) ((if ((x3 >>> ((7 : Int32) &&& 31)) &&& 3) = 0 then 30 else 16) : Int32)))) ((10 * u9) + 4).toNatClampNeg (mL_low (x3 >>> ((12 : Int32) &&& 31)) 3)) ((10 * u9) + 5).toNatClampNeg (-1)) ((10 * u9) + 6).toNatClampNeg (-1)) ((10 * u9) + 7).toNatClampNeg (-1)), (L_t σ.2), (L_r σ.2)))) := hD
          refine lv_aload hx hb dL_yard_250 (lv_at hl 7 rfl) ?_
          refine lv_bipush (v := 10) hx hb dL_yard_252 (by decide) ?_
          refine lv_iload hx hb dL_yard_254 (lv_at hl 0 rfl) ?_
          refine lv_imul hx hb dL_yard_256 ?_
          refine lv_bipush (v := 8) hx hb dL_yard_257 (by decide) ?_
          refine lv_iadd hx hb dL_yard_259 ?_
          refine lv_iconst (v := 0) hx hb dL_yard_260 (by decide) ?_
          refine sV_b hC hK hP hD hS (ix_10 (fr_in hi0 hi1 c_67) (in_iff.mpr (by decide))) dL_yard_261 (fun H locs hP hD hS => ?_)
          have hP : va_P g.1 vwCl (cV g ad (σ.1, ((L_g σ.2), (upd (upd (upd (upd (upd (upd (upd (upd (upd (L_b σ.2) (10 * u9).toNatClampNeg 1) ((10 * u9) + 1).toNatClampNeg (3 + (mL_low x3 18))) ((10 * u9) + 2).toNatClampNeg (5 + (mL_low (x3 >>> ((5 : Int32) &&& 31)) ((if ((x3 >>> ((4 : Int32) &&& 31)) &&& 3) = 0 then 36 else 27) : Int32)))) ((10 * u9) + 3).toNatClampNeg (1 + (mL_low (x3 >>> ((8 : Int32) &&& 31)) ((if ((x3 >>> ((7 : Int32) &&& 31)) &&& 3) = 0 then 30 else 16) : Int32)))) ((10 * u9) + 4).toNatClampNeg (mL_low (x3 >>> ((12 : Int32) &&& 31)) 3)) ((10 * u9) + 5).toNatClampNeg (-1)) ((10 * u9) + 6).toNatClampNeg (-1)) ((10 * u9) + 7).toNatClampNeg (-1)) ((10 * u9) + 8).toNatClampNeg 0), (L_t σ.2), (L_r σ.2)))) H := hP
          have hD : va_D A (cV g ad (σ.1, ((L_g σ.2), (upd (upd (upd (upd (upd (upd (upd (upd (upd (L_b σ.2) (10 * u9).toNatClampNeg 1) ((10 * u9) + 1).toNatClampNeg (3 + (mL_low x3 18))) ((10 * u9) + 2).toNatClampNeg (5 + (mL_low (x3 >>> ((5 : Int32) &&& 31)) ((if ((x3 >>> ((4 : Int32) &&& 31)) &&& 3) = 0 then 36 else 27) : Int32)))) ((10 * u9) + 3).toNatClampNeg (1 + (mL_low (x3 >>> ((8 : Int32) &&& 31)) ((if ((x3 >>> ((7 : Int32) &&& 31)) &&& 3) = 0 then 30 else 16) : Int32)))) ((10 * u9) + 4).toNatClampNeg (mL_low (x3 >>> ((12 : Int32) &&& 31)) 3)) ((10 * u9) + 5).toNatClampNeg (-1)) ((10 * u9) + 6).toNatClampNeg (-1)) ((10 * u9) + 7).toNatClampNeg (-1)) ((10 * u9) + 8).toNatClampNeg 0), (L_t σ.2), (L_r σ.2)))) := hD
          refine lv_aload hx hb dL_yard_262 (lv_at hl 7 rfl) ?_
          refine lv_bipush (v := 10) hx hb dL_yard_264 (by decide) ?_
          refine lv_iload hx hb dL_yard_266 (lv_at hl 0 rfl) ?_
          refine lv_imul hx hb dL_yard_268 ?_
          refine lv_bipush (v := 9) hx hb dL_yard_269 (by decide) ?_
          refine lv_iadd hx hb dL_yard_271 ?_
          refine lv_iconst (v := 0) hx hb dL_yard_272 (by decide) ?_
          refine sV_b hC hK hP hD hS (ix_10 (fr_in hi0 hi1 c_67) (in_iff.mpr (by decide))) dL_yard_273 (fun H locs hP hD hS => ?_)
          have hP : va_P g.1 vwCl (cV g ad (σ.1, ((L_g σ.2), (upd (upd (upd (upd (upd (upd (upd (upd (upd (upd (L_b σ.2) (10 * u9).toNatClampNeg 1) ((10 * u9) + 1).toNatClampNeg (3 + (mL_low x3 18))) ((10 * u9) + 2).toNatClampNeg (5 + (mL_low (x3 >>> ((5 : Int32) &&& 31)) ((if ((x3 >>> ((4 : Int32) &&& 31)) &&& 3) = 0 then 36 else 27) : Int32)))) ((10 * u9) + 3).toNatClampNeg (1 + (mL_low (x3 >>> ((8 : Int32) &&& 31)) ((if ((x3 >>> ((7 : Int32) &&& 31)) &&& 3) = 0 then 30 else 16) : Int32)))) ((10 * u9) + 4).toNatClampNeg (mL_low (x3 >>> ((12 : Int32) &&& 31)) 3)) ((10 * u9) + 5).toNatClampNeg (-1)) ((10 * u9) + 6).toNatClampNeg (-1)) ((10 * u9) + 7).toNatClampNeg (-1)) ((10 * u9) + 8).toNatClampNeg 0) ((10 * u9) + 9).toNatClampNeg 0), (L_t σ.2), (L_r σ.2)))) H := hP
          have hD : va_D A (cV g ad (σ.1, ((L_g σ.2), (upd (upd (upd (upd (upd (upd (upd (upd (upd (upd (L_b σ.2) (10 * u9).toNatClampNeg 1) ((10 * u9) + 1).toNatClampNeg (3 + (mL_low x3 18))) ((10 * u9) + 2).toNatClampNeg (5 + (mL_low (x3 >>> ((5 : Int32) &&& 31)) ((if ((x3 >>> ((4 : Int32) &&& 31)) &&& 3) = 0 then 36 else 27) : Int32)))) ((10 * u9) + 3).toNatClampNeg (1 + (mL_low (x3 >>> ((8 : Int32) &&& 31)) ((if ((x3 >>> ((7 : Int32) &&& 31)) &&& 3) = 0 then 30 else 16) : Int32)))) ((10 * u9) + 4).toNatClampNeg (mL_low (x3 >>> ((12 : Int32) &&& 31)) 3)) ((10 * u9) + 5).toNatClampNeg (-1)) ((10 * u9) + 6).toNatClampNeg (-1)) ((10 * u9) + 7).toNatClampNeg (-1)) ((10 * u9) + 8).toNatClampNeg 0) ((10 * u9) + 9).toNatClampNeg 0), (L_t σ.2), (L_r σ.2)))) := hD
          refine lv_aload hx hb dL_yard_274 (lv_at hl 8 rfl) ?_
          refine lv_iload hx hb dL_yard_276 (lv_at hl 0 rfl) ?_
          refine lv_iconst (v := 0) hx hb dL_yard_278 (by decide) ?_
          refine sV_t hC hK hP hD hS (fr_in hi0 hi1 c_67) dL_yard_279 (fun H locs hP hD hS => ?_)
          have hP : va_P g.1 vwCl (cV g ad (σ.1, ((L_g σ.2), (upd (upd (upd (upd (upd (upd (upd (upd (upd (upd (L_b σ.2) (10 * u9).toNatClampNeg 1) ((10 * u9) + 1).toNatClampNeg (3 + (mL_low x3 18))) ((10 * u9) + 2).toNatClampNeg (5 + (mL_low (x3 >>> ((5 : Int32) &&& 31)) ((if ((x3 >>> ((4 : Int32) &&& 31)) &&& 3) = 0 then 36 else 27) : Int32)))) ((10 * u9) + 3).toNatClampNeg (1 + (mL_low (x3 >>> ((8 : Int32) &&& 31)) ((if ((x3 >>> ((7 : Int32) &&& 31)) &&& 3) = 0 then 30 else 16) : Int32)))) ((10 * u9) + 4).toNatClampNeg (mL_low (x3 >>> ((12 : Int32) &&& 31)) 3)) ((10 * u9) + 5).toNatClampNeg (-1)) ((10 * u9) + 6).toNatClampNeg (-1)) ((10 * u9) + 7).toNatClampNeg (-1)) ((10 * u9) + 8).toNatClampNeg 0) ((10 * u9) + 9).toNatClampNeg 0), (upd (L_t σ.2) u9.toNatClampNeg 0), (L_r σ.2)))) H := hP
          have hD : va_D A (cV g ad (σ.1, ((L_g σ.2), (upd (upd (upd (upd (upd (upd (upd (upd (upd (upd (L_b σ.2) (10 * u9).toNatClampNeg 1) ((10 * u9) + 1).toNatClampNeg (3 + (mL_low x3 18))) ((10 * u9) + 2).toNatClampNeg (5 + (mL_low (x3 >>> ((5 : Int32) &&& 31)) ((if ((x3 >>> ((4 : Int32) &&& 31)) &&& 3) = 0 then 36 else 27) : Int32)))) ((10 * u9) + 3).toNatClampNeg (1 + (mL_low (x3 >>> ((8 : Int32) &&& 31)) ((if ((x3 >>> ((7 : Int32) &&& 31)) &&& 3) = 0 then 30 else 16) : Int32)))) ((10 * u9) + 4).toNatClampNeg (mL_low (x3 >>> ((12 : Int32) &&& 31)) 3)) ((10 * u9) + 5).toNatClampNeg (-1)) ((10 * u9) + 6).toNatClampNeg (-1)) ((10 * u9) + 7).toNatClampNeg (-1)) ((10 * u9) + 8).toNatClampNeg 0) ((10 * u9) + 9).toNatClampNeg 0), (upd (L_t σ.2) u9.toNatClampNeg 0), (L_r σ.2)))) := hD
          refine lv_aload_n hx hb dL_yard_280 rfl (lv_at hl 3 rfl) ?_
          refine lv_aload hx hb dL_yard_281 (lv_at hl 7 rfl) ?_
          refine lv_iload hx hb dL_yard_283 (lv_at hl 0 rfl) ?_
          refine lv_iconst (v := 1) hx hb dL_yard_285 (by decide) ?_
          refine callSd hC (k_L_of l g ad.2 ((L_g σ.2), (upd (upd (upd (upd (upd (upd (upd (upd (upd (upd (L_b σ.2) (10 * u9).toNatClampNeg 1) ((10 * u9) + 1).toNatClampNeg (3 + (mL_low x3 18))) ((10 * u9) + 2).toNatClampNeg (5 + (mL_low (x3 >>> ((5 : Int32) &&& 31)) ((if ((x3 >>> ((4 : Int32) &&& 31)) &&& 3) = 0 then 36 else 27) : Int32)))) ((10 * u9) + 3).toNatClampNeg (1 + (mL_low (x3 >>> ((8 : Int32) &&& 31)) ((if ((x3 >>> ((7 : Int32) &&& 31)) &&& 3) = 0 then 30 else 16) : Int32)))) ((10 * u9) + 4).toNatClampNeg (mL_low (x3 >>> ((12 : Int32) &&& 31)) 3)) ((10 * u9) + 5).toNatClampNeg (-1)) ((10 * u9) + 6).toNatClampNeg (-1)) ((10 * u9) + 7).toNatClampNeg (-1)) ((10 * u9) + 8).toNatClampNeg 0) ((10 * u9) + 9).toNatClampNeg 0), (upd (L_t σ.2) u9.toNatClampNeg 0), (L_r σ.2)) u9 1 (fr_in hi0 hi1 c_67) (in_iff.mpr (by decide))) ci_L_of lk_L_9 ⟨Nat.le_of_ble_eq_true rfl, Nat.le_of_ble_eq_true rfl⟩ (P_left hP) hK (hE.S hS).none rfl hl.1 rfl (Nat.le_of_ble_eq_true rfl) dL_yard_286 ⟨Nat.zero_le _, Nat.zero_le _⟩ ?_
          refine lv_aload hx hb dL_yard_289 (lv_at hl 7 rfl) ?_
          refine lv_iload hx hb dL_yard_291 (lv_at hl 0 rfl) ?_
          refine lv_iconst (v := 2) hx hb dL_yard_293 (by decide) ?_
          refine callSd hC (k_L_of l g ad.2 ((L_g σ.2), (upd (upd (upd (upd (upd (upd (upd (upd (upd (upd (L_b σ.2) (10 * u9).toNatClampNeg 1) ((10 * u9) + 1).toNatClampNeg (3 + (mL_low x3 18))) ((10 * u9) + 2).toNatClampNeg (5 + (mL_low (x3 >>> ((5 : Int32) &&& 31)) ((if ((x3 >>> ((4 : Int32) &&& 31)) &&& 3) = 0 then 36 else 27) : Int32)))) ((10 * u9) + 3).toNatClampNeg (1 + (mL_low (x3 >>> ((8 : Int32) &&& 31)) ((if ((x3 >>> ((7 : Int32) &&& 31)) &&& 3) = 0 then 30 else 16) : Int32)))) ((10 * u9) + 4).toNatClampNeg (mL_low (x3 >>> ((12 : Int32) &&& 31)) 3)) ((10 * u9) + 5).toNatClampNeg (-1)) ((10 * u9) + 6).toNatClampNeg (-1)) ((10 * u9) + 7).toNatClampNeg (-1)) ((10 * u9) + 8).toNatClampNeg 0) ((10 * u9) + 9).toNatClampNeg 0), (upd (L_t σ.2) u9.toNatClampNeg 0), (L_r σ.2)) u9 2 (fr_in hi0 hi1 c_67) (in_iff.mpr (by decide))) ci_L_of lk_L_9 ⟨Nat.le_of_ble_eq_true rfl, Nat.le_of_ble_eq_true rfl⟩ (P_left hP) hK (hE.S hS).none rfl hl.1 rfl (Nat.le_of_ble_eq_true rfl) dL_yard_294 ⟨Nat.zero_le _, Nat.zero_le _⟩ ?_
          refine lv_aload hx hb dL_yard_297 (lv_at hl 7 rfl) ?_
          refine lv_iload hx hb dL_yard_299 (lv_at hl 0 rfl) ?_
          refine lv_iconst (v := 3) hx hb dL_yard_301 (by decide) ?_
          refine callSd hC (k_L_of l g ad.2 ((L_g σ.2), (upd (upd (upd (upd (upd (upd (upd (upd (upd (upd (L_b σ.2) (10 * u9).toNatClampNeg 1) ((10 * u9) + 1).toNatClampNeg (3 + (mL_low x3 18))) ((10 * u9) + 2).toNatClampNeg (5 + (mL_low (x3 >>> ((5 : Int32) &&& 31)) ((if ((x3 >>> ((4 : Int32) &&& 31)) &&& 3) = 0 then 36 else 27) : Int32)))) ((10 * u9) + 3).toNatClampNeg (1 + (mL_low (x3 >>> ((8 : Int32) &&& 31)) ((if ((x3 >>> ((7 : Int32) &&& 31)) &&& 3) = 0 then 30 else 16) : Int32)))) ((10 * u9) + 4).toNatClampNeg (mL_low (x3 >>> ((12 : Int32) &&& 31)) 3)) ((10 * u9) + 5).toNatClampNeg (-1)) ((10 * u9) + 6).toNatClampNeg (-1)) ((10 * u9) + 7).toNatClampNeg (-1)) ((10 * u9) + 8).toNatClampNeg 0) ((10 * u9) + 9).toNatClampNeg 0), (upd (L_t σ.2) u9.toNatClampNeg 0), (L_r σ.2)) u9 3 (fr_in hi0 hi1 c_67) (in_iff.mpr (by decide))) ci_L_of lk_L_9 ⟨Nat.le_of_ble_eq_true rfl, Nat.le_of_ble_eq_true rfl⟩ (P_left hP) hK (hE.S hS).none rfl hl.1 rfl (Nat.le_of_ble_eq_true rfl) dL_yard_302 ⟨Nat.zero_le _, Nat.zero_le _⟩ ?_
          refine lv_aload hx hb dL_yard_305 (lv_at hl 7 rfl) ?_
          refine lv_iload hx hb dL_yard_307 (lv_at hl 0 rfl) ?_
          refine lv_iconst (v := 4) hx hb dL_yard_309 (by decide) ?_
          refine callSd hC (k_L_of l g ad.2 ((L_g σ.2), (upd (upd (upd (upd (upd (upd (upd (upd (upd (upd (L_b σ.2) (10 * u9).toNatClampNeg 1) ((10 * u9) + 1).toNatClampNeg (3 + (mL_low x3 18))) ((10 * u9) + 2).toNatClampNeg (5 + (mL_low (x3 >>> ((5 : Int32) &&& 31)) ((if ((x3 >>> ((4 : Int32) &&& 31)) &&& 3) = 0 then 36 else 27) : Int32)))) ((10 * u9) + 3).toNatClampNeg (1 + (mL_low (x3 >>> ((8 : Int32) &&& 31)) ((if ((x3 >>> ((7 : Int32) &&& 31)) &&& 3) = 0 then 30 else 16) : Int32)))) ((10 * u9) + 4).toNatClampNeg (mL_low (x3 >>> ((12 : Int32) &&& 31)) 3)) ((10 * u9) + 5).toNatClampNeg (-1)) ((10 * u9) + 6).toNatClampNeg (-1)) ((10 * u9) + 7).toNatClampNeg (-1)) ((10 * u9) + 8).toNatClampNeg 0) ((10 * u9) + 9).toNatClampNeg 0), (upd (L_t σ.2) u9.toNatClampNeg 0), (L_r σ.2)) u9 4 (fr_in hi0 hi1 c_67) (in_iff.mpr (by decide))) ci_L_of lk_L_9 ⟨Nat.le_of_ble_eq_true rfl, Nat.le_of_ble_eq_true rfl⟩ (P_left hP) hK (hE.S hS).none rfl hl.1 rfl (Nat.le_of_ble_eq_true rfl) dL_yard_310 ⟨Nat.zero_le _, Nat.zero_le _⟩ ?_
          refine callWrR hC (k_X3_come l g ad.1 σ.1 (mL_of ((L_g σ.2), (upd (upd (upd (upd (upd (upd (upd (upd (upd (upd (L_b σ.2) (10 * u9).toNatClampNeg 1) ((10 * u9) + 1).toNatClampNeg (3 + (mL_low x3 18))) ((10 * u9) + 2).toNatClampNeg (5 + (mL_low (x3 >>> ((5 : Int32) &&& 31)) ((if ((x3 >>> ((4 : Int32) &&& 31)) &&& 3) = 0 then 36 else 27) : Int32)))) ((10 * u9) + 3).toNatClampNeg (1 + (mL_low (x3 >>> ((8 : Int32) &&& 31)) ((if ((x3 >>> ((7 : Int32) &&& 31)) &&& 3) = 0 then 30 else 16) : Int32)))) ((10 * u9) + 4).toNatClampNeg (mL_low (x3 >>> ((12 : Int32) &&& 31)) 3)) ((10 * u9) + 5).toNatClampNeg (-1)) ((10 * u9) + 6).toNatClampNeg (-1)) ((10 * u9) + 7).toNatClampNeg (-1)) ((10 * u9) + 8).toNatClampNeg 0) ((10 * u9) + 9).toNatClampNeg 0), (upd (L_t σ.2) u9.toNatClampNeg 0), (L_r σ.2)) u9 1) (mL_of ((L_g σ.2), (upd (upd (upd (upd (upd (upd (upd (upd (upd (upd (L_b σ.2) (10 * u9).toNatClampNeg 1) ((10 * u9) + 1).toNatClampNeg (3 + (mL_low x3 18))) ((10 * u9) + 2).toNatClampNeg (5 + (mL_low (x3 >>> ((5 : Int32) &&& 31)) ((if ((x3 >>> ((4 : Int32) &&& 31)) &&& 3) = 0 then 36 else 27) : Int32)))) ((10 * u9) + 3).toNatClampNeg (1 + (mL_low (x3 >>> ((8 : Int32) &&& 31)) ((if ((x3 >>> ((7 : Int32) &&& 31)) &&& 3) = 0 then 30 else 16) : Int32)))) ((10 * u9) + 4).toNatClampNeg (mL_low (x3 >>> ((12 : Int32) &&& 31)) 3)) ((10 * u9) + 5).toNatClampNeg (-1)) ((10 * u9) + 6).toNatClampNeg (-1)) ((10 * u9) + 7).toNatClampNeg (-1)) ((10 * u9) + 8).toNatClampNeg 0) ((10 * u9) + 9).toNatClampNeg 0), (upd (L_t σ.2) u9.toNatClampNeg 0), (L_r σ.2)) u9 2) (mL_of ((L_g σ.2), (upd (upd (upd (upd (upd (upd (upd (upd (upd (upd (L_b σ.2) (10 * u9).toNatClampNeg 1) ((10 * u9) + 1).toNatClampNeg (3 + (mL_low x3 18))) ((10 * u9) + 2).toNatClampNeg (5 + (mL_low (x3 >>> ((5 : Int32) &&& 31)) ((if ((x3 >>> ((4 : Int32) &&& 31)) &&& 3) = 0 then 36 else 27) : Int32)))) ((10 * u9) + 3).toNatClampNeg (1 + (mL_low (x3 >>> ((8 : Int32) &&& 31)) ((if ((x3 >>> ((7 : Int32) &&& 31)) &&& 3) = 0 then 30 else 16) : Int32)))) ((10 * u9) + 4).toNatClampNeg (mL_low (x3 >>> ((12 : Int32) &&& 31)) 3)) ((10 * u9) + 5).toNatClampNeg (-1)) ((10 * u9) + 6).toNatClampNeg (-1)) ((10 * u9) + 7).toNatClampNeg (-1)) ((10 * u9) + 8).toNatClampNeg 0) ((10 * u9) + 9).toNatClampNeg 0), (upd (L_t σ.2) u9.toNatClampNeg 0), (L_r σ.2)) u9 3) (mL_of ((L_g σ.2), (upd (upd (upd (upd (upd (upd (upd (upd (upd (upd (L_b σ.2) (10 * u9).toNatClampNeg 1) ((10 * u9) + 1).toNatClampNeg (3 + (mL_low x3 18))) ((10 * u9) + 2).toNatClampNeg (5 + (mL_low (x3 >>> ((5 : Int32) &&& 31)) ((if ((x3 >>> ((4 : Int32) &&& 31)) &&& 3) = 0 then 36 else 27) : Int32)))) ((10 * u9) + 3).toNatClampNeg (1 + (mL_low (x3 >>> ((8 : Int32) &&& 31)) ((if ((x3 >>> ((7 : Int32) &&& 31)) &&& 3) = 0 then 30 else 16) : Int32)))) ((10 * u9) + 4).toNatClampNeg (mL_low (x3 >>> ((12 : Int32) &&& 31)) 3)) ((10 * u9) + 5).toNatClampNeg (-1)) ((10 * u9) + 6).toNatClampNeg (-1)) ((10 * u9) + 7).toNatClampNeg (-1)) ((10 * u9) + 8).toNatClampNeg 0) ((10 * u9) + 9).toNatClampNeg 0), (upd (L_t σ.2) u9.toNatClampNeg 0), (L_r σ.2)) u9 4) hhk) ci_X3_come lk_L_45 ⟨Nat.le_of_ble_eq_true rfl, Nat.le_of_ble_eq_true rfl⟩ hP hD hK hE hS hA (q0 := 0) rfl rfl rfl rfl hl.1 rfl (Nat.le_of_ble_eq_true rfl) dL_yard_313 ⟨Nat.zero_le _, Nat.zero_le _⟩ (fun H locs hP hD hS => ?_)
          have hP : va_P g.1 vwCl (cV g ad ((mX3_come σ.1 (mL_of ((L_g σ.2), (upd (upd (upd (upd (upd (upd (upd (upd (upd (upd (L_b σ.2) (10 * u9).toNatClampNeg 1) ((10 * u9) + 1).toNatClampNeg (3 + (mL_low x3 18))) ((10 * u9) + 2).toNatClampNeg (5 + (mL_low (x3 >>> ((5 : Int32) &&& 31)) ((if ((x3 >>> ((4 : Int32) &&& 31)) &&& 3) = 0 then 36 else 27) : Int32)))) ((10 * u9) + 3).toNatClampNeg (1 + (mL_low (x3 >>> ((8 : Int32) &&& 31)) ((if ((x3 >>> ((7 : Int32) &&& 31)) &&& 3) = 0 then 30 else 16) : Int32)))) ((10 * u9) + 4).toNatClampNeg (mL_low (x3 >>> ((12 : Int32) &&& 31)) 3)) ((10 * u9) + 5).toNatClampNeg (-1)) ((10 * u9) + 6).toNatClampNeg (-1)) ((10 * u9) + 7).toNatClampNeg (-1)) ((10 * u9) + 8).toNatClampNeg 0) ((10 * u9) + 9).toNatClampNeg 0), (upd (L_t σ.2) u9.toNatClampNeg 0), (L_r σ.2)) u9 1) (mL_of ((L_g σ.2), (upd (upd (upd (upd (upd (upd (upd (upd (upd (upd (L_b σ.2) (10 * u9).toNatClampNeg 1) ((10 * u9) + 1).toNatClampNeg (3 + (mL_low x3 18))) ((10 * u9) + 2).toNatClampNeg (5 + (mL_low (x3 >>> ((5 : Int32) &&& 31)) ((if ((x3 >>> ((4 : Int32) &&& 31)) &&& 3) = 0 then 36 else 27) : Int32)))) ((10 * u9) + 3).toNatClampNeg (1 + (mL_low (x3 >>> ((8 : Int32) &&& 31)) ((if ((x3 >>> ((7 : Int32) &&& 31)) &&& 3) = 0 then 30 else 16) : Int32)))) ((10 * u9) + 4).toNatClampNeg (mL_low (x3 >>> ((12 : Int32) &&& 31)) 3)) ((10 * u9) + 5).toNatClampNeg (-1)) ((10 * u9) + 6).toNatClampNeg (-1)) ((10 * u9) + 7).toNatClampNeg (-1)) ((10 * u9) + 8).toNatClampNeg 0) ((10 * u9) + 9).toNatClampNeg 0), (upd (L_t σ.2) u9.toNatClampNeg 0), (L_r σ.2)) u9 2) (mL_of ((L_g σ.2), (upd (upd (upd (upd (upd (upd (upd (upd (upd (upd (L_b σ.2) (10 * u9).toNatClampNeg 1) ((10 * u9) + 1).toNatClampNeg (3 + (mL_low x3 18))) ((10 * u9) + 2).toNatClampNeg (5 + (mL_low (x3 >>> ((5 : Int32) &&& 31)) ((if ((x3 >>> ((4 : Int32) &&& 31)) &&& 3) = 0 then 36 else 27) : Int32)))) ((10 * u9) + 3).toNatClampNeg (1 + (mL_low (x3 >>> ((8 : Int32) &&& 31)) ((if ((x3 >>> ((7 : Int32) &&& 31)) &&& 3) = 0 then 30 else 16) : Int32)))) ((10 * u9) + 4).toNatClampNeg (mL_low (x3 >>> ((12 : Int32) &&& 31)) 3)) ((10 * u9) + 5).toNatClampNeg (-1)) ((10 * u9) + 6).toNatClampNeg (-1)) ((10 * u9) + 7).toNatClampNeg (-1)) ((10 * u9) + 8).toNatClampNeg 0) ((10 * u9) + 9).toNatClampNeg 0), (upd (L_t σ.2) u9.toNatClampNeg 0), (L_r σ.2)) u9 3) (mL_of ((L_g σ.2), (upd (upd (upd (upd (upd (upd (upd (upd (upd (upd (L_b σ.2) (10 * u9).toNatClampNeg 1) ((10 * u9) + 1).toNatClampNeg (3 + (mL_low x3 18))) ((10 * u9) + 2).toNatClampNeg (5 + (mL_low (x3 >>> ((5 : Int32) &&& 31)) ((if ((x3 >>> ((4 : Int32) &&& 31)) &&& 3) = 0 then 36 else 27) : Int32)))) ((10 * u9) + 3).toNatClampNeg (1 + (mL_low (x3 >>> ((8 : Int32) &&& 31)) ((if ((x3 >>> ((7 : Int32) &&& 31)) &&& 3) = 0 then 30 else 16) : Int32)))) ((10 * u9) + 4).toNatClampNeg (mL_low (x3 >>> ((12 : Int32) &&& 31)) 3)) ((10 * u9) + 5).toNatClampNeg (-1)) ((10 * u9) + 6).toNatClampNeg (-1)) ((10 * u9) + 7).toNatClampNeg (-1)) ((10 * u9) + 8).toNatClampNeg 0) ((10 * u9) + 9).toNatClampNeg 0), (upd (L_t σ.2) u9.toNatClampNeg 0), (L_r σ.2)) u9 4)).2, ((L_g σ.2), (upd (upd (upd (upd (upd (upd (upd (upd (upd (upd (L_b σ.2) (10 * u9).toNatClampNeg 1) ((10 * u9) + 1).toNatClampNeg (3 + (mL_low x3 18))) ((10 * u9) + 2).toNatClampNeg (5 + (mL_low (x3 >>> ((5 : Int32) &&& 31)) ((if ((x3 >>> ((4 : Int32) &&& 31)) &&& 3) = 0 then 36 else 27) : Int32)))) ((10 * u9) + 3).toNatClampNeg (1 + (mL_low (x3 >>> ((8 : Int32) &&& 31)) ((if ((x3 >>> ((7 : Int32) &&& 31)) &&& 3) = 0 then 30 else 16) : Int32)))) ((10 * u9) + 4).toNatClampNeg (mL_low (x3 >>> ((12 : Int32) &&& 31)) 3)) ((10 * u9) + 5).toNatClampNeg (-1)) ((10 * u9) + 6).toNatClampNeg (-1)) ((10 * u9) + 7).toNatClampNeg (-1)) ((10 * u9) + 8).toNatClampNeg 0) ((10 * u9) + 9).toNatClampNeg 0), (upd (L_t σ.2) u9.toNatClampNeg 0), (L_r σ.2)))) H := hP
          have hD : va_D A (cV g ad ((mX3_come σ.1 (mL_of ((L_g σ.2), (upd (upd (upd (upd (upd (upd (upd (upd (upd (upd (L_b σ.2) (10 * u9).toNatClampNeg 1) ((10 * u9) + 1).toNatClampNeg (3 + (mL_low x3 18))) ((10 * u9) + 2).toNatClampNeg (5 + (mL_low (x3 >>> ((5 : Int32) &&& 31)) ((if ((x3 >>> ((4 : Int32) &&& 31)) &&& 3) = 0 then 36 else 27) : Int32)))) ((10 * u9) + 3).toNatClampNeg (1 + (mL_low (x3 >>> ((8 : Int32) &&& 31)) ((if ((x3 >>> ((7 : Int32) &&& 31)) &&& 3) = 0 then 30 else 16) : Int32)))) ((10 * u9) + 4).toNatClampNeg (mL_low (x3 >>> ((12 : Int32) &&& 31)) 3)) ((10 * u9) + 5).toNatClampNeg (-1)) ((10 * u9) + 6).toNatClampNeg (-1)) ((10 * u9) + 7).toNatClampNeg (-1)) ((10 * u9) + 8).toNatClampNeg 0) ((10 * u9) + 9).toNatClampNeg 0), (upd (L_t σ.2) u9.toNatClampNeg 0), (L_r σ.2)) u9 1) (mL_of ((L_g σ.2), (upd (upd (upd (upd (upd (upd (upd (upd (upd (upd (L_b σ.2) (10 * u9).toNatClampNeg 1) ((10 * u9) + 1).toNatClampNeg (3 + (mL_low x3 18))) ((10 * u9) + 2).toNatClampNeg (5 + (mL_low (x3 >>> ((5 : Int32) &&& 31)) ((if ((x3 >>> ((4 : Int32) &&& 31)) &&& 3) = 0 then 36 else 27) : Int32)))) ((10 * u9) + 3).toNatClampNeg (1 + (mL_low (x3 >>> ((8 : Int32) &&& 31)) ((if ((x3 >>> ((7 : Int32) &&& 31)) &&& 3) = 0 then 30 else 16) : Int32)))) ((10 * u9) + 4).toNatClampNeg (mL_low (x3 >>> ((12 : Int32) &&& 31)) 3)) ((10 * u9) + 5).toNatClampNeg (-1)) ((10 * u9) + 6).toNatClampNeg (-1)) ((10 * u9) + 7).toNatClampNeg (-1)) ((10 * u9) + 8).toNatClampNeg 0) ((10 * u9) + 9).toNatClampNeg 0), (upd (L_t σ.2) u9.toNatClampNeg 0), (L_r σ.2)) u9 2) (mL_of ((L_g σ.2), (upd (upd (upd (upd (upd (upd (upd (upd (upd (upd (L_b σ.2) (10 * u9).toNatClampNeg 1) ((10 * u9) + 1).toNatClampNeg (3 + (mL_low x3 18))) ((10 * u9) + 2).toNatClampNeg (5 + (mL_low (x3 >>> ((5 : Int32) &&& 31)) ((if ((x3 >>> ((4 : Int32) &&& 31)) &&& 3) = 0 then 36 else 27) : Int32)))) ((10 * u9) + 3).toNatClampNeg (1 + (mL_low (x3 >>> ((8 : Int32) &&& 31)) ((if ((x3 >>> ((7 : Int32) &&& 31)) &&& 3) = 0 then 30 else 16) : Int32)))) ((10 * u9) + 4).toNatClampNeg (mL_low (x3 >>> ((12 : Int32) &&& 31)) 3)) ((10 * u9) + 5).toNatClampNeg (-1)) ((10 * u9) + 6).toNatClampNeg (-1)) ((10 * u9) + 7).toNatClampNeg (-1)) ((10 * u9) + 8).toNatClampNeg 0) ((10 * u9) + 9).toNatClampNeg 0), (upd (L_t σ.2) u9.toNatClampNeg 0), (L_r σ.2)) u9 3) (mL_of ((L_g σ.2), (upd (upd (upd (upd (upd (upd (upd (upd (upd (upd (L_b σ.2) (10 * u9).toNatClampNeg 1) ((10 * u9) + 1).toNatClampNeg (3 + (mL_low x3 18))) ((10 * u9) + 2).toNatClampNeg (5 + (mL_low (x3 >>> ((5 : Int32) &&& 31)) ((if ((x3 >>> ((4 : Int32) &&& 31)) &&& 3) = 0 then 36 else 27) : Int32)))) ((10 * u9) + 3).toNatClampNeg (1 + (mL_low (x3 >>> ((8 : Int32) &&& 31)) ((if ((x3 >>> ((7 : Int32) &&& 31)) &&& 3) = 0 then 30 else 16) : Int32)))) ((10 * u9) + 4).toNatClampNeg (mL_low (x3 >>> ((12 : Int32) &&& 31)) 3)) ((10 * u9) + 5).toNatClampNeg (-1)) ((10 * u9) + 6).toNatClampNeg (-1)) ((10 * u9) + 7).toNatClampNeg (-1)) ((10 * u9) + 8).toNatClampNeg 0) ((10 * u9) + 9).toNatClampNeg 0), (upd (L_t σ.2) u9.toNatClampNeg 0), (L_r σ.2)) u9 4)).2, ((L_g σ.2), (upd (upd (upd (upd (upd (upd (upd (upd (upd (upd (L_b σ.2) (10 * u9).toNatClampNeg 1) ((10 * u9) + 1).toNatClampNeg (3 + (mL_low x3 18))) ((10 * u9) + 2).toNatClampNeg (5 + (mL_low (x3 >>> ((5 : Int32) &&& 31)) ((if ((x3 >>> ((4 : Int32) &&& 31)) &&& 3) = 0 then 36 else 27) : Int32)))) ((10 * u9) + 3).toNatClampNeg (1 + (mL_low (x3 >>> ((8 : Int32) &&& 31)) ((if ((x3 >>> ((7 : Int32) &&& 31)) &&& 3) = 0 then 30 else 16) : Int32)))) ((10 * u9) + 4).toNatClampNeg (mL_low (x3 >>> ((12 : Int32) &&& 31)) 3)) ((10 * u9) + 5).toNatClampNeg (-1)) ((10 * u9) + 6).toNatClampNeg (-1)) ((10 * u9) + 7).toNatClampNeg (-1)) ((10 * u9) + 8).toNatClampNeg 0) ((10 * u9) + 9).toNatClampNeg 0), (upd (L_t σ.2) u9.toNatClampNeg 0), (L_r σ.2)))) := hD
          refine lv_iload hx hb dL_yard_316 (lv_at hl 0 rfl) ?_
          refine lv_icmp_ne (tgt := 325) hx hb dL_yard_318 (by decide) (fun c_74 => ?_) (fun c_74 => ?_)
          · refine lv_iconst (v := 0) hx hb dL_yard_325 (by decide) ?_
            have hm : r = (0, ((mX3_come σ.1 (mL_of ((L_g σ.2), (upd (upd (upd (upd (upd (upd (upd (upd (upd (upd (L_b σ.2) (10 * u9).toNatClampNeg 1) ((10 * u9) + 1).toNatClampNeg (3 + (mL_low x3 18))) ((10 * u9) + 2).toNatClampNeg (5 + (mL_low (x3 >>> ((5 : Int32) &&& 31)) ((if ((x3 >>> ((4 : Int32) &&& 31)) &&& 3) = 0 then 36 else 27) : Int32)))) ((10 * u9) + 3).toNatClampNeg (1 + (mL_low (x3 >>> ((8 : Int32) &&& 31)) ((if ((x3 >>> ((7 : Int32) &&& 31)) &&& 3) = 0 then 30 else 16) : Int32)))) ((10 * u9) + 4).toNatClampNeg (mL_low (x3 >>> ((12 : Int32) &&& 31)) 3)) ((10 * u9) + 5).toNatClampNeg (-1)) ((10 * u9) + 6).toNatClampNeg (-1)) ((10 * u9) + 7).toNatClampNeg (-1)) ((10 * u9) + 8).toNatClampNeg 0) ((10 * u9) + 9).toNatClampNeg 0), (upd (L_t σ.2) u9.toNatClampNeg 0), (L_r σ.2)) u9 1) (mL_of ((L_g σ.2), (upd (upd (upd (upd (upd (upd (upd (upd (upd (upd (L_b σ.2) (10 * u9).toNatClampNeg 1) ((10 * u9) + 1).toNatClampNeg (3 + (mL_low x3 18))) ((10 * u9) + 2).toNatClampNeg (5 + (mL_low (x3 >>> ((5 : Int32) &&& 31)) ((if ((x3 >>> ((4 : Int32) &&& 31)) &&& 3) = 0 then 36 else 27) : Int32)))) ((10 * u9) + 3).toNatClampNeg (1 + (mL_low (x3 >>> ((8 : Int32) &&& 31)) ((if ((x3 >>> ((7 : Int32) &&& 31)) &&& 3) = 0 then 30 else 16) : Int32)))) ((10 * u9) + 4).toNatClampNeg (mL_low (x3 >>> ((12 : Int32) &&& 31)) 3)) ((10 * u9) + 5).toNatClampNeg (-1)) ((10 * u9) + 6).toNatClampNeg (-1)) ((10 * u9) + 7).toNatClampNeg (-1)) ((10 * u9) + 8).toNatClampNeg 0) ((10 * u9) + 9).toNatClampNeg 0), (upd (L_t σ.2) u9.toNatClampNeg 0), (L_r σ.2)) u9 2) (mL_of ((L_g σ.2), (upd (upd (upd (upd (upd (upd (upd (upd (upd (upd (L_b σ.2) (10 * u9).toNatClampNeg 1) ((10 * u9) + 1).toNatClampNeg (3 + (mL_low x3 18))) ((10 * u9) + 2).toNatClampNeg (5 + (mL_low (x3 >>> ((5 : Int32) &&& 31)) ((if ((x3 >>> ((4 : Int32) &&& 31)) &&& 3) = 0 then 36 else 27) : Int32)))) ((10 * u9) + 3).toNatClampNeg (1 + (mL_low (x3 >>> ((8 : Int32) &&& 31)) ((if ((x3 >>> ((7 : Int32) &&& 31)) &&& 3) = 0 then 30 else 16) : Int32)))) ((10 * u9) + 4).toNatClampNeg (mL_low (x3 >>> ((12 : Int32) &&& 31)) 3)) ((10 * u9) + 5).toNatClampNeg (-1)) ((10 * u9) + 6).toNatClampNeg (-1)) ((10 * u9) + 7).toNatClampNeg (-1)) ((10 * u9) + 8).toNatClampNeg 0) ((10 * u9) + 9).toNatClampNeg 0), (upd (L_t σ.2) u9.toNatClampNeg 0), (L_r σ.2)) u9 3) (mL_of ((L_g σ.2), (upd (upd (upd (upd (upd (upd (upd (upd (upd (upd (L_b σ.2) (10 * u9).toNatClampNeg 1) ((10 * u9) + 1).toNatClampNeg (3 + (mL_low x3 18))) ((10 * u9) + 2).toNatClampNeg (5 + (mL_low (x3 >>> ((5 : Int32) &&& 31)) ((if ((x3 >>> ((4 : Int32) &&& 31)) &&& 3) = 0 then 36 else 27) : Int32)))) ((10 * u9) + 3).toNatClampNeg (1 + (mL_low (x3 >>> ((8 : Int32) &&& 31)) ((if ((x3 >>> ((7 : Int32) &&& 31)) &&& 3) = 0 then 30 else 16) : Int32)))) ((10 * u9) + 4).toNatClampNeg (mL_low (x3 >>> ((12 : Int32) &&& 31)) 3)) ((10 * u9) + 5).toNatClampNeg (-1)) ((10 * u9) + 6).toNatClampNeg (-1)) ((10 * u9) + 7).toNatClampNeg (-1)) ((10 * u9) + 8).toNatClampNeg 0) ((10 * u9) + 9).toNatClampNeg 0), (upd (L_t σ.2) u9.toNatClampNeg 0), (L_r σ.2)) u9 4)).2, ((L_g σ.2), (upd (upd (upd (upd (upd (upd (upd (upd (upd (upd (L_b σ.2) (10 * u9).toNatClampNeg 1) ((10 * u9) + 1).toNatClampNeg (3 + (mL_low x3 18))) ((10 * u9) + 2).toNatClampNeg (5 + (mL_low (x3 >>> ((5 : Int32) &&& 31)) ((if ((x3 >>> ((4 : Int32) &&& 31)) &&& 3) = 0 then 36 else 27) : Int32)))) ((10 * u9) + 3).toNatClampNeg (1 + (mL_low (x3 >>> ((8 : Int32) &&& 31)) ((if ((x3 >>> ((7 : Int32) &&& 31)) &&& 3) = 0 then 30 else 16) : Int32)))) ((10 * u9) + 4).toNatClampNeg (mL_low (x3 >>> ((12 : Int32) &&& 31)) 3)) ((10 * u9) + 5).toNatClampNeg (-1)) ((10 * u9) + 6).toNatClampNeg (-1)) ((10 * u9) + 7).toNatClampNeg (-1)) ((10 * u9) + 8).toNatClampNeg 0) ((10 * u9) + 9).toNatClampNeg 0), (upd (L_t σ.2) u9.toNatClampNeg 0), (L_r σ.2)))) := by rw [hR, mL_yard_L25, if_neg c_54, if_neg c_66, if_neg c_67, if_neg c_74]
            exact wr_zret hC hP (hAe ▸ hD) (hAe ▸ hS) dL_yard_326 rfl (by rw [hm]) (by rw [hm])
          · refine lv_iconst (v := 1) hx hb dL_yard_321 (by decide) ?_
            refine lv_goto (tgt := 326) hx hb dL_yard_322 (by decide) ?_
            have hm : r = (1, ((mX3_come σ.1 (mL_of ((L_g σ.2), (upd (upd (upd (upd (upd (upd (upd (upd (upd (upd (L_b σ.2) (10 * u9).toNatClampNeg 1) ((10 * u9) + 1).toNatClampNeg (3 + (mL_low x3 18))) ((10 * u9) + 2).toNatClampNeg (5 + (mL_low (x3 >>> ((5 : Int32) &&& 31)) ((if ((x3 >>> ((4 : Int32) &&& 31)) &&& 3) = 0 then 36 else 27) : Int32)))) ((10 * u9) + 3).toNatClampNeg (1 + (mL_low (x3 >>> ((8 : Int32) &&& 31)) ((if ((x3 >>> ((7 : Int32) &&& 31)) &&& 3) = 0 then 30 else 16) : Int32)))) ((10 * u9) + 4).toNatClampNeg (mL_low (x3 >>> ((12 : Int32) &&& 31)) 3)) ((10 * u9) + 5).toNatClampNeg (-1)) ((10 * u9) + 6).toNatClampNeg (-1)) ((10 * u9) + 7).toNatClampNeg (-1)) ((10 * u9) + 8).toNatClampNeg 0) ((10 * u9) + 9).toNatClampNeg 0), (upd (L_t σ.2) u9.toNatClampNeg 0), (L_r σ.2)) u9 1) (mL_of ((L_g σ.2), (upd (upd (upd (upd (upd (upd (upd (upd (upd (upd (L_b σ.2) (10 * u9).toNatClampNeg 1) ((10 * u9) + 1).toNatClampNeg (3 + (mL_low x3 18))) ((10 * u9) + 2).toNatClampNeg (5 + (mL_low (x3 >>> ((5 : Int32) &&& 31)) ((if ((x3 >>> ((4 : Int32) &&& 31)) &&& 3) = 0 then 36 else 27) : Int32)))) ((10 * u9) + 3).toNatClampNeg (1 + (mL_low (x3 >>> ((8 : Int32) &&& 31)) ((if ((x3 >>> ((7 : Int32) &&& 31)) &&& 3) = 0 then 30 else 16) : Int32)))) ((10 * u9) + 4).toNatClampNeg (mL_low (x3 >>> ((12 : Int32) &&& 31)) 3)) ((10 * u9) + 5).toNatClampNeg (-1)) ((10 * u9) + 6).toNatClampNeg (-1)) ((10 * u9) + 7).toNatClampNeg (-1)) ((10 * u9) + 8).toNatClampNeg 0) ((10 * u9) + 9).toNatClampNeg 0), (upd (L_t σ.2) u9.toNatClampNeg 0), (L_r σ.2)) u9 2) (mL_of ((L_g σ.2), (upd (upd (upd (upd (upd (upd (upd (upd (upd (upd (L_b σ.2) (10 * u9).toNatClampNeg 1) ((10 * u9) + 1).toNatClampNeg (3 + (mL_low x3 18))) ((10 * u9) + 2).toNatClampNeg (5 + (mL_low (x3 >>> ((5 : Int32) &&& 31)) ((if ((x3 >>> ((4 : Int32) &&& 31)) &&& 3) = 0 then 36 else 27) : Int32)))) ((10 * u9) + 3).toNatClampNeg (1 + (mL_low (x3 >>> ((8 : Int32) &&& 31)) ((if ((x3 >>> ((7 : Int32) &&& 31)) &&& 3) = 0 then 30 else 16) : Int32)))) ((10 * u9) + 4).toNatClampNeg (mL_low (x3 >>> ((12 : Int32) &&& 31)) 3)) ((10 * u9) + 5).toNatClampNeg (-1)) ((10 * u9) + 6).toNatClampNeg (-1)) ((10 * u9) + 7).toNatClampNeg (-1)) ((10 * u9) + 8).toNatClampNeg 0) ((10 * u9) + 9).toNatClampNeg 0), (upd (L_t σ.2) u9.toNatClampNeg 0), (L_r σ.2)) u9 3) (mL_of ((L_g σ.2), (upd (upd (upd (upd (upd (upd (upd (upd (upd (upd (L_b σ.2) (10 * u9).toNatClampNeg 1) ((10 * u9) + 1).toNatClampNeg (3 + (mL_low x3 18))) ((10 * u9) + 2).toNatClampNeg (5 + (mL_low (x3 >>> ((5 : Int32) &&& 31)) ((if ((x3 >>> ((4 : Int32) &&& 31)) &&& 3) = 0 then 36 else 27) : Int32)))) ((10 * u9) + 3).toNatClampNeg (1 + (mL_low (x3 >>> ((8 : Int32) &&& 31)) ((if ((x3 >>> ((7 : Int32) &&& 31)) &&& 3) = 0 then 30 else 16) : Int32)))) ((10 * u9) + 4).toNatClampNeg (mL_low (x3 >>> ((12 : Int32) &&& 31)) 3)) ((10 * u9) + 5).toNatClampNeg (-1)) ((10 * u9) + 6).toNatClampNeg (-1)) ((10 * u9) + 7).toNatClampNeg (-1)) ((10 * u9) + 8).toNatClampNeg 0) ((10 * u9) + 9).toNatClampNeg 0), (upd (L_t σ.2) u9.toNatClampNeg 0), (L_r σ.2)) u9 4)).2, ((L_g σ.2), (upd (upd (upd (upd (upd (upd (upd (upd (upd (upd (L_b σ.2) (10 * u9).toNatClampNeg 1) ((10 * u9) + 1).toNatClampNeg (3 + (mL_low x3 18))) ((10 * u9) + 2).toNatClampNeg (5 + (mL_low (x3 >>> ((5 : Int32) &&& 31)) ((if ((x3 >>> ((4 : Int32) &&& 31)) &&& 3) = 0 then 36 else 27) : Int32)))) ((10 * u9) + 3).toNatClampNeg (1 + (mL_low (x3 >>> ((8 : Int32) &&& 31)) ((if ((x3 >>> ((7 : Int32) &&& 31)) &&& 3) = 0 then 30 else 16) : Int32)))) ((10 * u9) + 4).toNatClampNeg (mL_low (x3 >>> ((12 : Int32) &&& 31)) 3)) ((10 * u9) + 5).toNatClampNeg (-1)) ((10 * u9) + 6).toNatClampNeg (-1)) ((10 * u9) + 7).toNatClampNeg (-1)) ((10 * u9) + 8).toNatClampNeg 0) ((10 * u9) + 9).toNatClampNeg 0), (upd (L_t σ.2) u9.toNatClampNeg 0), (L_r σ.2)))) := by rw [hR, mL_yard_L25, if_neg c_54, if_neg c_66, if_neg c_67, if_pos c_74]
            exact wr_zret hC hP (hAe ▸ hD) (hAe ▸ hS) dL_yard_326 rfl (by rw [hm]) (by rw [hm])
        · refine lv_aload_n hx hb dL_yard_57 rfl (lv_at hl 3 rfl) ?_
          refine lv_iconst (v := 3) hx hb dL_yard_58 (by decide) ?_
          refine lv_iconst (v := 5) hx hb dL_yard_59 (by decide) ?_
          refine lv_iconst (v := 1) hx hb dL_yard_60 (by decide) ?_
          refine lv_iconst (v := 3) hx hb dL_yard_61 (by decide) ?_
          refine callWrR hC (k_X3_come l g ad.1 σ.1 3 5 1 3 hhk) ci_X3_come lk_L_45 ⟨Nat.le_of_ble_eq_true rfl, Nat.le_of_ble_eq_true rfl⟩ hP hD hK hE hS hA (q0 := 0) rfl rfl rfl rfl hl.1 rfl (Nat.le_of_ble_eq_true rfl) dL_yard_62 ⟨Nat.zero_le _, Nat.zero_le _⟩ (fun H locs hP hD hS => ?_)
          have hP : va_P g.1 vwCl (cV g ad ((mX3_come σ.1 3 5 1 3).2, σ.2)) H := hP
          have hD : va_D A (cV g ad ((mX3_come σ.1 3 5 1 3).2, σ.2)) := hD
          refine lv_iconst (v := (-1)) hx hb dL_yard_65 (by decide) ?_
          refine lv_icmp_ne (tgt := 100) hx hb dL_yard_66 (by decide) (fun c_75 => ?_) (fun c_75 => ?_)
          · refine lv_iconst (v := 0) hx hb dL_yard_100 (by decide) ?_
            have hm : r = (0, ((mX3_come σ.1 3 5 1 3).2, σ.2)) := by rw [hR, mL_yard_L25, if_neg c_54, if_neg c_66, if_pos c_67, if_neg c_75]
            exact wr_zret hC hP (hAe ▸ hD) (hAe ▸ hS) dL_yard_101 rfl (by rw [hm]) (by rw [hm])
          · refine lv_aload_n hx hb dL_yard_69 rfl (lv_at hl 3 rfl) ?_
            refine lv_iconst (v := 2) hx hb dL_yard_70 (by decide) ?_
            refine lv_iconst (v := 5) hx hb dL_yard_71 (by decide) ?_
            refine lv_iconst (v := 1) hx hb dL_yard_72 (by decide) ?_
            refine lv_iconst (v := 0) hx hb dL_yard_73 (by decide) ?_
            refine callWrR hC (k_X3_come l g ad.1 (mX3_come σ.1 3 5 1 3).2 2 5 1 0 (hok_come hhk)) ci_X3_come lk_L_45 ⟨Nat.le_of_ble_eq_true rfl, Nat.le_of_ble_eq_true rfl⟩ hP hD hK hE hS hA (q0 := 0) rfl rfl rfl rfl hl.1 rfl (Nat.le_of_ble_eq_true rfl) dL_yard_74 ⟨Nat.zero_le _, Nat.zero_le _⟩ (fun H locs hP hD hS => ?_)
            have hP : va_P g.1 vwCl (cV g ad ((mX3_come (mX3_come σ.1 3 5 1 3).2 2 5 1 0).2, σ.2)) H := hP
            have hD : va_D A (cV g ad ((mX3_come (mX3_come σ.1 3 5 1 3).2 2 5 1 0).2, σ.2)) := hD
            refine lv_bipush (v := (-2)) hx hb dL_yard_77 (by decide) ?_
            refine lv_icmp_ne (tgt := 100) hx hb dL_yard_79 (by decide) (fun c_76 => ?_) (fun c_76 => ?_)
            · refine lv_iconst (v := 0) hx hb dL_yard_100 (by decide) ?_
              have hm : r = (0, ((mX3_come (mX3_come σ.1 3 5 1 3).2 2 5 1 0).2, σ.2)) := by rw [hR, mL_yard_L25, if_neg c_54, if_neg c_66, if_pos c_67, if_pos c_75, if_neg c_76]
              exact wr_zret hC hP (hAe ▸ hD) (hAe ▸ hS) dL_yard_101 rfl (by rw [hm]) (by rw [hm])
            · refine lv_aload_n hx hb dL_yard_82 rfl (lv_at hl 3 rfl) ?_
              refine lv_iconst (v := 3) hx hb dL_yard_83 (by decide) ?_
              refine lv_bipush (v := 41) hx hb dL_yard_84 (by decide) ?_
              refine lv_iconst (v := 1) hx hb dL_yard_86 (by decide) ?_
              refine lv_iconst (v := 0) hx hb dL_yard_87 (by decide) ?_
              refine callWrR hC (k_X3_come l g ad.1 (mX3_come (mX3_come σ.1 3 5 1 3).2 2 5 1 0).2 3 41 1 0 (hok_come (hok_come hhk))) ci_X3_come lk_L_45 ⟨Nat.le_of_ble_eq_true rfl, Nat.le_of_ble_eq_true rfl⟩ hP hD hK hE hS hA (q0 := 0) rfl rfl rfl rfl hl.1 rfl (Nat.le_of_ble_eq_true rfl) dL_yard_88 ⟨Nat.zero_le _, Nat.zero_le _⟩ (fun H locs hP hD hS => ?_)
              have hP : va_P g.1 vwCl (cV g ad ((mX3_come (mX3_come (mX3_come σ.1 3 5 1 3).2 2 5 1 0).2 3 41 1 0).2, σ.2)) H := hP
              have hD : va_D A (cV g ad ((mX3_come (mX3_come (mX3_come σ.1 3 5 1 3).2 2 5 1 0).2 3 41 1 0).2, σ.2)) := hD
              refine lv_bipush (v := (-2)) hx hb dL_yard_91 (by decide) ?_
              refine lv_icmp_ne (tgt := 100) hx hb dL_yard_93 (by decide) (fun c_77 => ?_) (fun c_77 => ?_)
              · refine lv_iconst (v := 0) hx hb dL_yard_100 (by decide) ?_
                have hm : r = (0, ((mX3_come (mX3_come (mX3_come σ.1 3 5 1 3).2 2 5 1 0).2 3 41 1 0).2, σ.2)) := by rw [hR, mL_yard_L25, if_neg c_54, if_neg c_66, if_pos c_67, if_pos c_75, if_pos c_76, if_neg c_77]
                exact wr_zret hC hP (hAe ▸ hD) (hAe ▸ hS) dL_yard_101 rfl (by rw [hm]) (by rw [hm])
              · refine lv_iconst (v := 1) hx hb dL_yard_96 (by decide) ?_
                refine lv_goto (tgt := 101) hx hb dL_yard_97 (by decide) ?_
                have hm : r = (1, ((mX3_come (mX3_come (mX3_come σ.1 3 5 1 3).2 2 5 1 0).2 3 41 1 0).2, σ.2)) := by rw [hR, mL_yard_L25, if_neg c_54, if_neg c_66, if_pos c_67, if_pos c_75, if_pos c_76, if_pos c_77]
                exact wr_zret hC hP (hAe ▸ hD) (hAe ▸ hS) dL_yard_101 rfl (by rw [hm]) (by rw [hm])
      · refine lv_iinc (v := (u9 + 1)) (lv' := [(9, .int (u9 + 1)), (8, .int w8), (7, .int w7), (0, .ref ad.1.1), (1, .int x2), (2, .int x3), (3, .ref ad.2.1), (4, .ref ad.2.2.1), (5, .ref ad.2.2.2.1), (6, .ref ad.2.2.2.2)]) hx hb dL_yard_44 hl (k := 0) rfl rfl (by decide) rfl (fun ls hl => ?_)
        refine lv_goto (tgt := 25) hx hb dL_yard_47 (by decide) ?_
        have e9 := up_add (d := 1) (k := 1) (M := 6) rfl hi0 hi1 (by decide) (by decide)
        have e8 := nle_ti (k := 6) rfl c_54
        exact ih σ _ _ hP hD hS (u9 + 1) (by rw [e9]; omega) (by rw [e9]; omega) hhk (by rw [e9]; omega) (by rw [hR, mL_yard_L25, if_neg c_54, if_pos c_66]) _ (lv_sub hl [0, 1, 2, 3, 4, 5, 6, 7, 8, 9] rfl)
def mL_yard_J22 (σ : VS) (x2 : Int32) (x3 : Int32) : Int32 × VS := (mL_yard_L25 x2 x3 (mL_low x3 6) (mL_low x2 9) 8 σ 0)
set_option maxHeartbeats 4000000 in
set_option maxRecDepth 100000 in
theorem j_L_yard_22 {p : Program} {e : Env} {s : State} {m : MethodId} {args : Array Value} {below : List Frame} {meth : Method} {c : Code} (l : Launch) (g : WG) (ad : AV) (σ : VS) (x2 : Int32) (x3 : Int32) (h_vok : VOK σ) (h_hok : HOK (W_hist σ.1)) (c_1 : ¬ (3 ≤ (mL_low x2 9))) (hC : Cx p s m args meth c yL_yard cL_yard 12 (some .boolean)) (hK : va_K g.1 vwCl (tysW g) s) {A : Nat → Prop} {ws0 : va_W} (hE : Ex A s s.heap) (hA : ∀ q : Nat, s.heap.size ≤ q → A q) (hAe : A = va_A ws0 s.heap.size) (H : Heap) (locs : List Loc) (hP : va_P g.1 vwCl (cV g ad σ) H) (hD : va_D A (cV g ad σ)) (hS : va_S A s.heap H locs) {r : Int32 × VS} (hR : r = mL_yard_J22 σ x2 x3) (ls : Array Slot) (hl : lv_has ls 12 [(8, .int (mL_low x3 6)), (7, .int (mL_low x2 9)), (0, .ref ad.1.1), (1, .int x2), (2, .int x3), (3, .ref ad.2.1), (4, .ref ad.2.2.1), (5, .ref ad.2.2.2.1), (6, .ref ad.2.2.2.2)]) : W p l e (rk 7) s m args below meth c H locs 0 0 (MQ below (va_Qi (fun x _ => x = r.1) (Bw g ws0 (cV g ad r.2) s.heap.size) (va_A ws0 s.heap.size)) args s 0 0 (va_A ws0 s.heap.size)) (F0 m 22 ls []) := by
  obtain ⟨hx, hb, hml, hr, hown, hts, hlk, hnm⟩ := id hC
  refine lv_iconst (v := 0) hx hb dL_yard_22 (by decide) ?_
  refine lv_istore (lv' := [(9, .int 0), (8, .int (mL_low x3 6)), (7, .int (mL_low x2 9)), (0, .ref ad.1.1), (1, .int x2), (2, .int x3), (3, .ref ad.2.1), (4, .ref ad.2.2.1), (5, .ref ad.2.2.2.1), (6, .ref ad.2.2.2.2)]) hx hb dL_yard_23 hl (by decide) rfl (fun ls hl => ?_)
  refine q_L_yard_25 l g ad x2 x3 (mL_low x3 6) (mL_low x2 9) hC hK hE hA hAe 8 σ _ _ hP hD hS 0 (by decide) (by decide) h_hok (by decide) ?_ _ (lv_sub hl [0, 1, 2, 3, 4, 5, 6, 7, 8, 9] rfl)
  exact by rw [hR, mL_yard_J22]
def mL_yard (σ : VS) (x2 : Int32) (x3 : Int32) : Int32 × VS := (if 3 ≤ (mL_low x2 9) then (mL_yard_J327 σ x2 x3) else (mL_yard_J22 σ x2 x3))
set_option maxHeartbeats 4000000 in
set_option maxRecDepth 100000 in
theorem k_L_yard (l : Launch) (g : WG) (ad : AV) (σ : VS) (x2 : Int32) (x3 : Int32) (h_vok : VOK σ) (h_hok : HOK (W_hist σ.1)) : Wr l yL_yard cL_yard 12 (some .boolean) 7 g (cV g ad σ) (cV g ad (mL_yard σ x2 x3).2) [.ref ad.1.1, .int x2, .int x3, .ref ad.2.1, .ref ad.2.2.1, .ref ad.2.2.2.1, .ref ad.2.2.2.2] (mL_yard σ x2 x3).1 := by
  refine wr_of (by decide) (Nat.le_of_ble_eq_true rfl) ?_
  intro p e s m args below meth c ls A hC hAe hP hD hK hE hA hS hl
  obtain ⟨hx, hb, hml, hr, hown, hts, hlk, hnm⟩ := id hC
  have hl : lv_has ls 12 [(0, .ref ad.1.1), (1, .int x2), (2, .int x3), (3, .ref ad.2.1), (4, .ref ad.2.2.1), (5, .ref ad.2.2.2.1), (6, .ref ad.2.2.2.2)] := hl
  refine lv_iload_n hx hb dL_yard_0 rfl (lv_at hl 1 rfl) ?_
  refine lv_bipush (v := 9) hx hb dL_yard_1 (by decide) ?_
  refine callRs hC (k_L_low l g x2 9 (by first | decide | (split <;> decide))) ci_L_low lk_L_41 ⟨Nat.le_of_ble_eq_true rfl, Nat.le_of_ble_eq_true rfl⟩ hK (hE.S hS).none rfl hl.1 rfl (Nat.le_of_ble_eq_true rfl) dL_yard_3 ⟨Nat.zero_le _, Nat.zero_le _⟩ ?_
  refine lv_istore (lv' := [(7, .int (mL_low x2 9)), (0, .ref ad.1.1), (1, .int x2), (2, .int x3), (3, .ref ad.2.1), (4, .ref ad.2.2.1), (5, .ref ad.2.2.2.1), (6, .ref ad.2.2.2.2)]) hx hb dL_yard_6 hl (by decide) rfl (fun ls hl => ?_)
  refine lv_iload_n hx hb dL_yard_8 rfl (lv_at hl 3 rfl) ?_
  refine lv_bipush (v := 6) hx hb dL_yard_9 (by decide) ?_
  refine callRs hC (k_L_low l g x3 6 (by first | decide | (split <;> decide))) ci_L_low lk_L_41 ⟨Nat.le_of_ble_eq_true rfl, Nat.le_of_ble_eq_true rfl⟩ hK (hE.S hS).none rfl hl.1 rfl (Nat.le_of_ble_eq_true rfl) dL_yard_11 ⟨Nat.zero_le _, Nat.zero_le _⟩ ?_
  refine lv_istore (lv' := [(8, .int (mL_low x3 6)), (7, .int (mL_low x2 9)), (0, .ref ad.1.1), (1, .int x2), (2, .int x3), (3, .ref ad.2.1), (4, .ref ad.2.2.1), (5, .ref ad.2.2.2.1), (6, .ref ad.2.2.2.2)]) hx hb dL_yard_14 hl (by decide) rfl (fun ls hl => ?_)
  refine lv_iload hx hb dL_yard_16 (lv_at hl 1 rfl) ?_
  refine lv_iconst (v := 3) hx hb dL_yard_18 (by decide) ?_
  refine lv_icmp_ge (tgt := 327) hx hb dL_yard_19 (by decide) (fun c_1 => ?_) (fun c_1 => ?_)
  · refine j_L_yard_327 l g ad σ x2 x3 h_vok h_hok c_1 hC hK hE hA hAe _ _ hP hD hS ?_ _ (lv_sub hl [0, 1, 2, 3, 4, 5, 6, 7, 8] rfl)
    exact by unfold mL_yard; rw [if_pos c_1]
  · refine j_L_yard_22 l g ad σ x2 x3 h_vok h_hok c_1 hC hK hE hA hAe _ _ hP hD hS ?_ _ (lv_sub hl [0, 1, 2, 3, 4, 5, 6, 7, 8] rfl)
    exact by unfold mL_yard; rw [if_neg c_1]
def mL_boats_J751 (σ : VS) (x2 : Int32) (x3 : Int32) : Int32 × VS := (if ((mL_of σ.2 (mL_low x3 6) 8) + (1 + (mL_low (x3 >>> ((5 : Int32) &&& 31)) ((if ((x3 >>> ((4 : Int32) &&& 31)) &&& 1) = 0 then 9 else 99) : Int32)))) ≤ 99 then (if (mX3_work σ.1 (mL_low x3 6) (1 + (mL_low (x3 >>> ((5 : Int32) &&& 31)) ((if ((x3 >>> ((4 : Int32) &&& 31)) &&& 1) = 0 then 9 else 99) : Int32)))).1 = (mL_of ((L_g σ.2), (upd (L_b σ.2) ((10 * (mL_low x3 6)) + 8).toNatClampNeg (((L_b σ.2) ((10 * (mL_low x3 6)) + 8).toNatClampNeg) + (1 + (mL_low (x3 >>> ((5 : Int32) &&& 31)) ((if ((x3 >>> ((4 : Int32) &&& 31)) &&& 1) = 0 then 9 else 99) : Int32))))), (L_t σ.2), (L_r σ.2)) (mL_low x3 6) 8) then (1, ((mX3_work σ.1 (mL_low x3 6) (1 + (mL_low (x3 >>> ((5 : Int32) &&& 31)) ((if ((x3 >>> ((4 : Int32) &&& 31)) &&& 1) = 0 then 9 else 99) : Int32)))).2, ((L_g σ.2), (upd (L_b σ.2) ((10 * (mL_low x3 6)) + 8).toNatClampNeg (((L_b σ.2) ((10 * (mL_low x3 6)) + 8).toNatClampNeg) + (1 + (mL_low (x3 >>> ((5 : Int32) &&& 31)) ((if ((x3 >>> ((4 : Int32) &&& 31)) &&& 1) = 0 then 9 else 99) : Int32))))), (L_t σ.2), (L_r σ.2)))) else (0, ((mX3_work σ.1 (mL_low x3 6) (1 + (mL_low (x3 >>> ((5 : Int32) &&& 31)) ((if ((x3 >>> ((4 : Int32) &&& 31)) &&& 1) = 0 then 9 else 99) : Int32)))).2, ((L_g σ.2), (upd (L_b σ.2) ((10 * (mL_low x3 6)) + 8).toNatClampNeg (((L_b σ.2) ((10 * (mL_low x3 6)) + 8).toNatClampNeg) + (1 + (mL_low (x3 >>> ((5 : Int32) &&& 31)) ((if ((x3 >>> ((4 : Int32) &&& 31)) &&& 1) = 0 then 9 else 99) : Int32))))), (L_t σ.2), (L_r σ.2))))) else (if (mX3_work σ.1 (mL_low x3 6) (1 + (mL_low (x3 >>> ((5 : Int32) &&& 31)) ((if ((x3 >>> ((4 : Int32) &&& 31)) &&& 1) = 0 then 9 else 99) : Int32)))).1 = (-3) then (if (mX3_work (mX3_work σ.1 (mL_low x3 6) (1 + (mL_low (x3 >>> ((5 : Int32) &&& 31)) ((if ((x3 >>> ((4 : Int32) &&& 31)) &&& 1) = 0 then 9 else 99) : Int32)))).2 (mL_low x3 6) 100).1 = (-2) then (1, ((mX3_work (mX3_work σ.1 (mL_low x3 6) (1 + (mL_low (x3 >>> ((5 : Int32) &&& 31)) ((if ((x3 >>> ((4 : Int32) &&& 31)) &&& 1) = 0 then 9 else 99) : Int32)))).2 (mL_low x3 6) 100).2, σ.2)) else (0, ((mX3_work (mX3_work σ.1 (mL_low x3 6) (1 + (mL_low (x3 >>> ((5 : Int32) &&& 31)) ((if ((x3 >>> ((4 : Int32) &&& 31)) &&& 1) = 0 then 9 else 99) : Int32)))).2 (mL_low x3 6) 100).2, σ.2))) else (0, ((mX3_work σ.1 (mL_low x3 6) (1 + (mL_low (x3 >>> ((5 : Int32) &&& 31)) ((if ((x3 >>> ((4 : Int32) &&& 31)) &&& 1) = 0 then 9 else 99) : Int32)))).2, σ.2))))
set_option maxHeartbeats 4000000 in
set_option maxRecDepth 100000 in
theorem j_L_boats_751 {p : Program} {e : Env} {s : State} {m : MethodId} {args : Array Value} {below : List Frame} {meth : Method} {c : Code} (l : Launch) (g : WG) (ad : AV) (σ : VS) (x2 : Int32) (x3 : Int32) (h_vok : VOK σ) (h_hok : HOK (W_hist σ.1)) (h_free : FRE σ.2) (h_kl2 : ¬ (mL_liftReason σ.2 (mL_low x3 6) (mL_low (x3 >>> ((3 : Int32) &&& 31)) 4)) ≤ 0 → KeelOK (W_yard (mX3_lift σ.1 (mL_low x3 6) (mL_low (x3 >>> ((3 : Int32) &&& 31)) 4)).2)) (c_1 : ¬ ((mL_of σ.2 (mL_low x3 6) 0) = 0)) (c_2 : (3 ≤ (mL_low x2 9))) (c_3 : (5 ≤ (mL_low x2 9))) (c_4 : ¬ ((mL_low x2 9) = 5)) (c_5 : (8 ≤ (mL_low x2 9))) (hC : Cx p s m args meth c yL_boats cL_boats 13 (some .boolean)) (hK : va_K g.1 vwCl (tysW g) s) {A : Nat → Prop} {ws0 : va_W} (hE : Ex A s s.heap) (hA : ∀ q : Nat, s.heap.size ≤ q → A q) (hAe : A = va_A ws0 s.heap.size) (H : Heap) (locs : List Loc) (hP : va_P g.1 vwCl (cV g ad σ) H) (hD : va_D A (cV g ad σ)) (hS : va_S A s.heap H locs) {r : Int32 × VS} (hR : r = mL_boats_J751 σ x2 x3) (ls : Array Slot) (hl : lv_has ls 13 [(9, .int (mL_low (x3 >>> ((3 : Int32) &&& 31)) 4)), (8, .int (mL_low x3 6)), (7, .int (mL_low x2 9)), (0, .ref ad.1.1), (1, .int x2), (2, .int x3), (3, .ref ad.2.1), (4, .ref ad.2.2.1), (5, .ref ad.2.2.2.1), (6, .ref ad.2.2.2.2)]) : W p l e (rk 7) s m args below meth c H locs 0 0 (MQ below (va_Qi (fun x _ => x = r.1) (Bw g ws0 (cV g ad r.2) s.heap.size) (va_A ws0 s.heap.size)) args s 0 0 (va_A ws0 s.heap.size)) (F0 m 751 ls []) := by
  obtain ⟨hx, hb, hml, hr, hown, hts, hlk, hnm⟩ := id hC
  refine lv_iconst (v := 1) hx hb dL_boats_751 (by decide) ?_
  refine lv_iload_n hx hb dL_boats_752 rfl (lv_at hl 5 rfl) ?_
  refine lv_iconst (v := 5) hx hb dL_boats_753 (by decide) ?_
  refine lv_ishr hx hb dL_boats_754 ?_
  refine lv_iload_n hx hb dL_boats_755 rfl (lv_at hl 5 rfl) ?_
  refine lv_iconst (v := 4) hx hb dL_boats_756 (by decide) ?_
  refine lv_ishr hx hb dL_boats_757 ?_
  refine lv_iconst (v := 1) hx hb dL_boats_758 (by decide) ?_
  refine lv_iand hx hb dL_boats_759 ?_
  refine dia (J := 770) (V := ((if ((x3 >>> ((4 : Int32) &&& 31)) &&& 1) = 0 then 9 else 99) : Int32)) (rest := [.int (x3 >>> ((5 : Int32) &&& 31)), .int 1]) (fun kk_7 => ?_) ?_
  · refine lv_if_ne (tgt := 768) hx hb dL_boats_760 (by decide) (fun c_8 => ?_) (fun c_8 => ?_)
    · refine lv_bipush (v := 99) hx hb dL_boats_768 (by decide) ?_
      exact kk_7 _ (if_neg c_8)
    · refine lv_bipush (v := 9) hx hb dL_boats_763 (by decide) ?_
      refine lv_goto (tgt := 770) hx hb dL_boats_765 (by decide) ?_
      exact kk_7 _ (if_pos c_8)
  refine callRs hC (k_L_low l g (x3 >>> ((5 : Int32) &&& 31)) ((if ((x3 >>> ((4 : Int32) &&& 31)) &&& 1) = 0 then 9 else 99) : Int32) (by first | decide | (split <;> decide))) ci_L_low lk_L_41 ⟨Nat.le_of_ble_eq_true rfl, Nat.le_of_ble_eq_true rfl⟩ hK (hE.S hS).none rfl hl.1 rfl (Nat.le_of_ble_eq_true rfl) dL_boats_770 ⟨Nat.zero_le _, Nat.zero_le _⟩ ?_
  refine lv_iadd hx hb dL_boats_773 ?_
  refine lv_istore (lv' := [(10, .int (1 + (mL_low (x3 >>> ((5 : Int32) &&& 31)) ((if ((x3 >>> ((4 : Int32) &&& 31)) &&& 1) = 0 then 9 else 99) : Int32)))), (9, .int (mL_low (x3 >>> ((3 : Int32) &&& 31)) 4)), (8, .int (mL_low x3 6)), (7, .int (mL_low x2 9)), (0, .ref ad.1.1), (1, .int x2), (2, .int x3), (3, .ref ad.2.1), (4, .ref ad.2.2.1), (5, .ref ad.2.2.2.1), (6, .ref ad.2.2.2.2)]) hx hb dL_boats_774 hl (by decide) rfl (fun ls hl => ?_)
  refine lv_aload hx hb dL_boats_776 (lv_at hl 8 rfl) ?_
  refine lv_iload hx hb dL_boats_778 (lv_at hl 2 rfl) ?_
  refine lv_bipush (v := 8) hx hb dL_boats_780 (by decide) ?_
  refine callSd hC (k_L_of l g ad.2 σ.2 (mL_low x3 6) 8 (in_low (n := 6) rfl (by decide)) (in_iff.mpr (by decide))) ci_L_of lk_L_9 ⟨Nat.le_of_ble_eq_true rfl, Nat.le_of_ble_eq_true rfl⟩ (P_left hP) hK (hE.S hS).none rfl hl.1 rfl (Nat.le_of_ble_eq_true rfl) dL_boats_782 ⟨Nat.zero_le _, Nat.zero_le _⟩ ?_
  refine lv_iload hx hb dL_boats_785 (lv_at hl 0 rfl) ?_
  refine lv_iadd hx hb dL_boats_787 ?_
  refine lv_bipush (v := 99) hx hb dL_boats_788 (by decide) ?_
  refine lv_icmp_le (tgt := 825) hx hb dL_boats_790 (by decide) (fun c_9 => ?_) (fun c_9 => ?_)
  · refine lv_aload hx hb dL_boats_825 (lv_at hl 8 rfl) ?_
    refine lv_bipush (v := 10) hx hb dL_boats_827 (by decide) ?_
    refine lv_iload hx hb dL_boats_829 (lv_at hl 2 rfl) ?_
    refine lv_imul hx hb dL_boats_831 ?_
    refine lv_bipush (v := 8) hx hb dL_boats_832 (by decide) ?_
    refine lv_iadd hx hb dL_boats_834 ?_
    refine lv_dup2_11 hx hb dL_boats_835 rfl rfl ?_
    refine lV_b hC hK hP (ix_10 (in_low (n := 6) rfl (by decide)) (in_iff.mpr (by decide))) dL_boats_836 ?_
    refine lv_iload hx hb dL_boats_837 (lv_at hl 0 rfl) ?_
    refine lv_iadd hx hb dL_boats_839 ?_
    refine sV_b hC hK hP hD hS (ix_10 (in_low (n := 6) rfl (by decide)) (in_iff.mpr (by decide))) dL_boats_840 (fun H locs hP hD hS => ?_)
    have hP : va_P g.1 vwCl (cV g ad (σ.1, ((L_g σ.2), (upd (L_b σ.2) ((10 * (mL_low x3 6)) + 8).toNatClampNeg (((L_b σ.2) ((10 * (mL_low x3 6)) + 8).toNatClampNeg) + (1 + (mL_low (x3 >>> ((5 : Int32) &&& 31)) ((if ((x3 >>> ((4 : Int32) &&& 31)) &&& 1) = 0 then 9 else 99) : Int32))))), (L_t σ.2), (L_r σ.2)))) H := hP
    have hD : va_D A (cV g ad (σ.1, ((L_g σ.2), (upd (L_b σ.2) ((10 * (mL_low x3 6)) + 8).toNatClampNeg (((L_b σ.2) ((10 * (mL_low x3 6)) + 8).toNatClampNeg) + (1 + (mL_low (x3 >>> ((5 : Int32) &&& 31)) ((if ((x3 >>> ((4 : Int32) &&& 31)) &&& 1) = 0 then 9 else 99) : Int32))))), (L_t σ.2), (L_r σ.2)))) := hD
    refine lv_aload_n hx hb dL_boats_841 rfl (lv_at hl 4 rfl) ?_
    refine lv_iload hx hb dL_boats_842 (lv_at hl 2 rfl) ?_
    refine lv_iload hx hb dL_boats_844 (lv_at hl 0 rfl) ?_
    refine callWrR hC (k_X3_work l g ad.1 σ.1 (mL_low x3 6) (1 + (mL_low (x3 >>> ((5 : Int32) &&& 31)) ((if ((x3 >>> ((4 : Int32) &&& 31)) &&& 1) = 0 then 9 else 99) : Int32))) h_hok) ci_X3_work lk_L_76 ⟨Nat.le_of_ble_eq_true rfl, Nat.le_of_ble_eq_true rfl⟩ hP hD hK hE hS hA (q0 := 0) rfl rfl rfl rfl hl.1 rfl (Nat.le_of_ble_eq_true rfl) dL_boats_846 ⟨Nat.zero_le _, Nat.zero_le _⟩ (fun H locs hP hD hS => ?_)
    have hP : va_P g.1 vwCl (cV g ad ((mX3_work σ.1 (mL_low x3 6) (1 + (mL_low (x3 >>> ((5 : Int32) &&& 31)) ((if ((x3 >>> ((4 : Int32) &&& 31)) &&& 1) = 0 then 9 else 99) : Int32)))).2, ((L_g σ.2), (upd (L_b σ.2) ((10 * (mL_low x3 6)) + 8).toNatClampNeg (((L_b σ.2) ((10 * (mL_low x3 6)) + 8).toNatClampNeg) + (1 + (mL_low (x3 >>> ((5 : Int32) &&& 31)) ((if ((x3 >>> ((4 : Int32) &&& 31)) &&& 1) = 0 then 9 else 99) : Int32))))), (L_t σ.2), (L_r σ.2)))) H := hP
    have hD : va_D A (cV g ad ((mX3_work σ.1 (mL_low x3 6) (1 + (mL_low (x3 >>> ((5 : Int32) &&& 31)) ((if ((x3 >>> ((4 : Int32) &&& 31)) &&& 1) = 0 then 9 else 99) : Int32)))).2, ((L_g σ.2), (upd (L_b σ.2) ((10 * (mL_low x3 6)) + 8).toNatClampNeg (((L_b σ.2) ((10 * (mL_low x3 6)) + 8).toNatClampNeg) + (1 + (mL_low (x3 >>> ((5 : Int32) &&& 31)) ((if ((x3 >>> ((4 : Int32) &&& 31)) &&& 1) = 0 then 9 else 99) : Int32))))), (L_t σ.2), (L_r σ.2)))) := hD
    refine lv_aload hx hb dL_boats_849 (lv_at hl 8 rfl) ?_
    refine lv_iload hx hb dL_boats_851 (lv_at hl 2 rfl) ?_
    refine lv_bipush (v := 8) hx hb dL_boats_853 (by decide) ?_
    refine callSd hC (k_L_of l g ad.2 ((L_g σ.2), (upd (L_b σ.2) ((10 * (mL_low x3 6)) + 8).toNatClampNeg (((L_b σ.2) ((10 * (mL_low x3 6)) + 8).toNatClampNeg) + (1 + (mL_low (x3 >>> ((5 : Int32) &&& 31)) ((if ((x3 >>> ((4 : Int32) &&& 31)) &&& 1) = 0 then 9 else 99) : Int32))))), (L_t σ.2), (L_r σ.2)) (mL_low x3 6) 8 (in_low (n := 6) rfl (by decide)) (in_iff.mpr (by decide))) ci_L_of lk_L_9 ⟨Nat.le_of_ble_eq_true rfl, Nat.le_of_ble_eq_true rfl⟩ (P_left hP) hK (hE.S hS).none rfl hl.1 rfl (Nat.le_of_ble_eq_true rfl) dL_boats_855 ⟨Nat.zero_le _, Nat.zero_le _⟩ ?_
    refine lv_icmp_ne (tgt := 865) hx hb dL_boats_858 (by decide) (fun c_10 => ?_) (fun c_10 => ?_)
    · refine lv_iconst (v := 0) hx hb dL_boats_865 (by decide) ?_
      have hm : r = (0, ((mX3_work σ.1 (mL_low x3 6) (1 + (mL_low (x3 >>> ((5 : Int32) &&& 31)) ((if ((x3 >>> ((4 : Int32) &&& 31)) &&& 1) = 0 then 9 else 99) : Int32)))).2, ((L_g σ.2), (upd (L_b σ.2) ((10 * (mL_low x3 6)) + 8).toNatClampNeg (((L_b σ.2) ((10 * (mL_low x3 6)) + 8).toNatClampNeg) + (1 + (mL_low (x3 >>> ((5 : Int32) &&& 31)) ((if ((x3 >>> ((4 : Int32) &&& 31)) &&& 1) = 0 then 9 else 99) : Int32))))), (L_t σ.2), (L_r σ.2)))) := by rw [hR, mL_boats_J751, if_pos c_9, if_neg c_10]
      exact wr_zret hC hP (hAe ▸ hD) (hAe ▸ hS) dL_boats_866 rfl (by rw [hm]) (by rw [hm])
    · refine lv_iconst (v := 1) hx hb dL_boats_861 (by decide) ?_
      refine lv_goto (tgt := 866) hx hb dL_boats_862 (by decide) ?_
      have hm : r = (1, ((mX3_work σ.1 (mL_low x3 6) (1 + (mL_low (x3 >>> ((5 : Int32) &&& 31)) ((if ((x3 >>> ((4 : Int32) &&& 31)) &&& 1) = 0 then 9 else 99) : Int32)))).2, ((L_g σ.2), (upd (L_b σ.2) ((10 * (mL_low x3 6)) + 8).toNatClampNeg (((L_b σ.2) ((10 * (mL_low x3 6)) + 8).toNatClampNeg) + (1 + (mL_low (x3 >>> ((5 : Int32) &&& 31)) ((if ((x3 >>> ((4 : Int32) &&& 31)) &&& 1) = 0 then 9 else 99) : Int32))))), (L_t σ.2), (L_r σ.2)))) := by rw [hR, mL_boats_J751, if_pos c_9, if_pos c_10]
      exact wr_zret hC hP (hAe ▸ hD) (hAe ▸ hS) dL_boats_866 rfl (by rw [hm]) (by rw [hm])
  · refine lv_aload_n hx hb dL_boats_793 rfl (lv_at hl 4 rfl) ?_
    refine lv_iload hx hb dL_boats_794 (lv_at hl 2 rfl) ?_
    refine lv_iload hx hb dL_boats_796 (lv_at hl 0 rfl) ?_
    refine callWrR hC (k_X3_work l g ad.1 σ.1 (mL_low x3 6) (1 + (mL_low (x3 >>> ((5 : Int32) &&& 31)) ((if ((x3 >>> ((4 : Int32) &&& 31)) &&& 1) = 0 then 9 else 99) : Int32))) h_hok) ci_X3_work lk_L_76 ⟨Nat.le_of_ble_eq_true rfl, Nat.le_of_ble_eq_true rfl⟩ hP hD hK hE hS hA (q0 := 0) rfl rfl rfl rfl hl.1 rfl (Nat.le_of_ble_eq_true rfl) dL_boats_798 ⟨Nat.zero_le _, Nat.zero_le _⟩ (fun H locs hP hD hS => ?_)
    have hP : va_P g.1 vwCl (cV g ad ((mX3_work σ.1 (mL_low x3 6) (1 + (mL_low (x3 >>> ((5 : Int32) &&& 31)) ((if ((x3 >>> ((4 : Int32) &&& 31)) &&& 1) = 0 then 9 else 99) : Int32)))).2, σ.2)) H := hP
    have hD : va_D A (cV g ad ((mX3_work σ.1 (mL_low x3 6) (1 + (mL_low (x3 >>> ((5 : Int32) &&& 31)) ((if ((x3 >>> ((4 : Int32) &&& 31)) &&& 1) = 0 then 9 else 99) : Int32)))).2, σ.2)) := hD
    refine lv_bipush (v := (-3)) hx hb dL_boats_801 (by decide) ?_
    refine lv_icmp_ne (tgt := 823) hx hb dL_boats_803 (by decide) (fun c_11 => ?_) (fun c_11 => ?_)
    · refine lv_iconst (v := 0) hx hb dL_boats_823 (by decide) ?_
      have hm : r = (0, ((mX3_work σ.1 (mL_low x3 6) (1 + (mL_low (x3 >>> ((5 : Int32) &&& 31)) ((if ((x3 >>> ((4 : Int32) &&& 31)) &&& 1) = 0 then 9 else 99) : Int32)))).2, σ.2)) := by rw [hR, mL_boats_J751, if_neg c_9, if_neg c_11]
      exact wr_zret hC hP (hAe ▸ hD) (hAe ▸ hS) dL_boats_824 rfl (by rw [hm]) (by rw [hm])
    · refine lv_aload_n hx hb dL_boats_806 rfl (lv_at hl 4 rfl) ?_
      refine lv_iload hx hb dL_boats_807 (lv_at hl 2 rfl) ?_
      refine lv_bipush (v := 100) hx hb dL_boats_809 (by decide) ?_
      refine callWrR hC (k_X3_work l g ad.1 (mX3_work σ.1 (mL_low x3 6) (1 + (mL_low (x3 >>> ((5 : Int32) &&& 31)) ((if ((x3 >>> ((4 : Int32) &&& 31)) &&& 1) = 0 then 9 else 99) : Int32)))).2 (mL_low x3 6) 100 (hok_work h_hok)) ci_X3_work lk_L_76 ⟨Nat.le_of_ble_eq_true rfl, Nat.le_of_ble_eq_true rfl⟩ hP hD hK hE hS hA (q0 := 0) rfl rfl rfl rfl hl.1 rfl (Nat.le_of_ble_eq_true rfl) dL_boats_811 ⟨Nat.zero_le _, Nat.zero_le _⟩ (fun H locs hP hD hS => ?_)
      have hP : va_P g.1 vwCl (cV g ad ((mX3_work (mX3_work σ.1 (mL_low x3 6) (1 + (mL_low (x3 >>> ((5 : Int32) &&& 31)) ((if ((x3 >>> ((4 : Int32) &&& 31)) &&& 1) = 0 then 9 else 99) : Int32)))).2 (mL_low x3 6) 100).2, σ.2)) H := hP
      have hD : va_D A (cV g ad ((mX3_work (mX3_work σ.1 (mL_low x3 6) (1 + (mL_low (x3 >>> ((5 : Int32) &&& 31)) ((if ((x3 >>> ((4 : Int32) &&& 31)) &&& 1) = 0 then 9 else 99) : Int32)))).2 (mL_low x3 6) 100).2, σ.2)) := hD
      refine lv_bipush (v := (-2)) hx hb dL_boats_814 (by decide) ?_
      refine lv_icmp_ne (tgt := 823) hx hb dL_boats_816 (by decide) (fun c_12 => ?_) (fun c_12 => ?_)
      · refine lv_iconst (v := 0) hx hb dL_boats_823 (by decide) ?_
        have hm : r = (0, ((mX3_work (mX3_work σ.1 (mL_low x3 6) (1 + (mL_low (x3 >>> ((5 : Int32) &&& 31)) ((if ((x3 >>> ((4 : Int32) &&& 31)) &&& 1) = 0 then 9 else 99) : Int32)))).2 (mL_low x3 6) 100).2, σ.2)) := by rw [hR, mL_boats_J751, if_neg c_9, if_pos c_11, if_neg c_12]
        exact wr_zret hC hP (hAe ▸ hD) (hAe ▸ hS) dL_boats_824 rfl (by rw [hm]) (by rw [hm])
      · refine lv_iconst (v := 1) hx hb dL_boats_819 (by decide) ?_
        refine lv_goto (tgt := 824) hx hb dL_boats_820 (by decide) ?_
        have hm : r = (1, ((mX3_work (mX3_work σ.1 (mL_low x3 6) (1 + (mL_low (x3 >>> ((5 : Int32) &&& 31)) ((if ((x3 >>> ((4 : Int32) &&& 31)) &&& 1) = 0 then 9 else 99) : Int32)))).2 (mL_low x3 6) 100).2, σ.2)) := by rw [hR, mL_boats_J751, if_neg c_9, if_pos c_11, if_pos c_12]
        exact wr_zret hC hP (hAe ▸ hD) (hAe ▸ hS) dL_boats_824 rfl (by rw [hm]) (by rw [hm])
def mL_boats_J590 (σ : VS) (x2 : Int32) (x3 : Int32) : Int32 × VS := (if (mL_of σ.2 (mL_low x3 6) 5) < 0 then (if ((if ((x3 >>> ((5 : Int32) &&& 31)) &&& 3) = 0 then 1 else 0) : Int32) = ((if 0 ≤ (mL_of σ.2 (mL_low x3 6) 7) then 0 else 1) : Int32) then (if (mX3_mast σ.1 (mL_low x3 6) ((if ((x3 >>> ((5 : Int32) &&& 31)) &&& 3) = 0 then 1 else 0) : Int32)).1 = (-5) then (1, ((mX3_mast σ.1 (mL_low x3 6) ((if ((x3 >>> ((5 : Int32) &&& 31)) &&& 3) = 0 then 1 else 0) : Int32)).2, σ.2)) else (0, ((mX3_mast σ.1 (mL_low x3 6) ((if ((x3 >>> ((5 : Int32) &&& 31)) &&& 3) = 0 then 1 else 0) : Int32)).2, σ.2))) else (if (mX3_mast σ.1 (mL_low x3 6) ((if ((x3 >>> ((5 : Int32) &&& 31)) &&& 3) = 0 then 1 else 0) : Int32)).1 = ((if ((if ((x3 >>> ((5 : Int32) &&& 31)) &&& 3) = 0 then 1 else 0) : Int32) = 0 then ((if 13 ≤ (mL_of σ.2 (mL_low x3 6) 1) then 1 else 0) : Int32) else (mL_of σ.2 (mL_low x3 6) 7)) : Int32) then (1, ((mX3_mast σ.1 (mL_low x3 6) ((if ((x3 >>> ((5 : Int32) &&& 31)) &&& 3) = 0 then 1 else 0) : Int32)).2, ((L_g σ.2), (upd (L_b σ.2) ((10 * (mL_low x3 6)) + 7).toNatClampNeg ((if ((if ((x3 >>> ((5 : Int32) &&& 31)) &&& 3) = 0 then 1 else 0) : Int32) = 0 then ((if ((if ((x3 >>> ((5 : Int32) &&& 31)) &&& 3) = 0 then 1 else 0) : Int32) = 0 then ((if 13 ≤ (mL_of σ.2 (mL_low x3 6) 1) then 1 else 0) : Int32) else (mL_of σ.2 (mL_low x3 6) 7)) : Int32) else (-1)) : Int32)), (L_t σ.2), (L_r σ.2)))) else (0, ((mX3_mast σ.1 (mL_low x3 6) ((if ((x3 >>> ((5 : Int32) &&& 31)) &&& 3) = 0 then 1 else 0) : Int32)).2, ((L_g σ.2), (upd (L_b σ.2) ((10 * (mL_low x3 6)) + 7).toNatClampNeg ((if ((if ((x3 >>> ((5 : Int32) &&& 31)) &&& 3) = 0 then 1 else 0) : Int32) = 0 then ((if ((if ((x3 >>> ((5 : Int32) &&& 31)) &&& 3) = 0 then 1 else 0) : Int32) = 0 then ((if 13 ≤ (mL_of σ.2 (mL_low x3 6) 1) then 1 else 0) : Int32) else (mL_of σ.2 (mL_low x3 6) 7)) : Int32) else (-1)) : Int32)), (L_t σ.2), (L_r σ.2)))))) else (if (mX3_mast σ.1 (mL_low x3 6) ((if ((x3 >>> ((5 : Int32) &&& 31)) &&& 3) = 0 then 1 else 0) : Int32)).1 = (-4) then (1, ((mX3_mast σ.1 (mL_low x3 6) ((if ((x3 >>> ((5 : Int32) &&& 31)) &&& 3) = 0 then 1 else 0) : Int32)).2, σ.2)) else (0, ((mX3_mast σ.1 (mL_low x3 6) ((if ((x3 >>> ((5 : Int32) &&& 31)) &&& 3) = 0 then 1 else 0) : Int32)).2, σ.2))))
set_option maxHeartbeats 4000000 in
set_option maxRecDepth 100000 in
theorem j_L_boats_590 {p : Program} {e : Env} {s : State} {m : MethodId} {args : Array Value} {below : List Frame} {meth : Method} {c : Code} (l : Launch) (g : WG) (ad : AV) (σ : VS) (x2 : Int32) (x3 : Int32) (h_vok : VOK σ) (h_hok : HOK (W_hist σ.1)) (h_free : FRE σ.2) (h_kl2 : ¬ (mL_liftReason σ.2 (mL_low x3 6) (mL_low (x3 >>> ((3 : Int32) &&& 31)) 4)) ≤ 0 → KeelOK (W_yard (mX3_lift σ.1 (mL_low x3 6) (mL_low (x3 >>> ((3 : Int32) &&& 31)) 4)).2)) (c_1 : ¬ ((mL_of σ.2 (mL_low x3 6) 0) = 0)) (c_2 : (3 ≤ (mL_low x2 9))) (c_3 : (5 ≤ (mL_low x2 9))) (c_4 : ¬ ((mL_low x2 9) = 5)) (c_5 : ¬ (8 ≤ (mL_low x2 9))) (hC : Cx p s m args meth c yL_boats cL_boats 13 (some .boolean)) (hK : va_K g.1 vwCl (tysW g) s) {A : Nat → Prop} {ws0 : va_W} (hE : Ex A s s.heap) (hA : ∀ q : Nat, s.heap.size ≤ q → A q) (hAe : A = va_A ws0 s.heap.size) (H : Heap) (locs : List Loc) (hP : va_P g.1 vwCl (cV g ad σ) H) (hD : va_D A (cV g ad σ)) (hS : va_S A s.heap H locs) {r : Int32 × VS} (hR : r = mL_boats_J590 σ x2 x3) (ls : Array Slot) (hl : lv_has ls 13 [(9, .int (mL_low (x3 >>> ((3 : Int32) &&& 31)) 4)), (8, .int (mL_low x3 6)), (7, .int (mL_low x2 9)), (0, .ref ad.1.1), (1, .int x2), (2, .int x3), (3, .ref ad.2.1), (4, .ref ad.2.2.1), (5, .ref ad.2.2.2.1), (6, .ref ad.2.2.2.2)]) : W p l e (rk 7) s m args below meth c H locs 0 0 (MQ below (va_Qi (fun x _ => x = r.1) (Bw g ws0 (cV g ad r.2) s.heap.size) (va_A ws0 s.heap.size)) args s 0 0 (va_A ws0 s.heap.size)) (F0 m 590 ls []) := by
  obtain ⟨hx, hb, hml, hr, hown, hts, hlk, hnm⟩ := id hC
  refine lv_iload_n hx hb dL_boats_590 rfl (lv_at hl 5 rfl) ?_
  refine lv_iconst (v := 5) hx hb dL_boats_591 (by decide) ?_
  refine lv_ishr hx hb dL_boats_592 ?_
  refine lv_iconst (v := 3) hx hb dL_boats_593 (by decide) ?_
  refine lv_iand hx hb dL_boats_594 ?_
  refine dia (J := 603) (V := ((if ((x3 >>> ((5 : Int32) &&& 31)) &&& 3) = 0 then 1 else 0) : Int32)) (rest := []) (fun kk_14 => ?_) ?_
  · refine lv_if_ne (tgt := 602) hx hb dL_boats_595 (by decide) (fun c_15 => ?_) (fun c_15 => ?_)
    · refine lv_iconst (v := 0) hx hb dL_boats_602 (by decide) ?_
      exact kk_14 _ (if_neg c_15)
    · refine lv_iconst (v := 1) hx hb dL_boats_598 (by decide) ?_
      refine lv_goto (tgt := 603) hx hb dL_boats_599 (by decide) ?_
      exact kk_14 _ (if_pos c_15)
  refine lv_istore (lv' := [(10, .int ((if ((x3 >>> ((5 : Int32) &&& 31)) &&& 3) = 0 then 1 else 0) : Int32)), (9, .int (mL_low (x3 >>> ((3 : Int32) &&& 31)) 4)), (8, .int (mL_low x3 6)), (7, .int (mL_low x2 9)), (0, .ref ad.1.1), (1, .int x2), (2, .int x3), (3, .ref ad.2.1), (4, .ref ad.2.2.1), (5, .ref ad.2.2.2.1), (6, .ref ad.2.2.2.2)]) hx hb dL_boats_603 hl (by decide) rfl (fun ls hl => ?_)
  refine lv_aload hx hb dL_boats_605 (lv_at hl 8 rfl) ?_
  refine lv_iload hx hb dL_boats_607 (lv_at hl 2 rfl) ?_
  refine lv_bipush (v := 7) hx hb dL_boats_609 (by decide) ?_
  refine callSd hC (k_L_of l g ad.2 σ.2 (mL_low x3 6) 7 (in_low (n := 6) rfl (by decide)) (in_iff.mpr (by decide))) ci_L_of lk_L_9 ⟨Nat.le_of_ble_eq_true rfl, Nat.le_of_ble_eq_true rfl⟩ (P_left hP) hK (hE.S hS).none rfl hl.1 rfl (Nat.le_of_ble_eq_true rfl) dL_boats_611 ⟨Nat.zero_le _, Nat.zero_le _⟩ ?_
  refine lv_istore (lv' := [(11, .int (mL_of σ.2 (mL_low x3 6) 7)), (10, .int ((if ((x3 >>> ((5 : Int32) &&& 31)) &&& 3) = 0 then 1 else 0) : Int32)), (9, .int (mL_low (x3 >>> ((3 : Int32) &&& 31)) 4)), (8, .int (mL_low x3 6)), (7, .int (mL_low x2 9)), (0, .ref ad.1.1), (1, .int x2), (2, .int x3), (3, .ref ad.2.1), (4, .ref ad.2.2.1), (5, .ref ad.2.2.2.1), (6, .ref ad.2.2.2.2)]) hx hb dL_boats_614 hl (by decide) rfl (fun ls hl => ?_)
  refine lv_aload hx hb dL_boats_616 (lv_at hl 9 rfl) ?_
  refine lv_iload hx hb dL_boats_618 (lv_at hl 3 rfl) ?_
  refine lv_iconst (v := 5) hx hb dL_boats_620 (by decide) ?_
  refine callSd hC (k_L_of l g ad.2 σ.2 (mL_low x3 6) 5 (in_low (n := 6) rfl (by decide)) (in_iff.mpr (by decide))) ci_L_of lk_L_9 ⟨Nat.le_of_ble_eq_true rfl, Nat.le_of_ble_eq_true rfl⟩ (P_left hP) hK (hE.S hS).none rfl hl.1 rfl (Nat.le_of_ble_eq_true rfl) dL_boats_621 ⟨Nat.zero_le _, Nat.zero_le _⟩ ?_
  refine lv_if_lt (tgt := 646) hx hb dL_boats_624 (by decide) (fun c_16 => ?_) (fun c_16 => ?_)
  · refine lv_iload hx hb dL_boats_646 (lv_at hl 1 rfl) ?_
    refine lv_iload hx hb dL_boats_648 (lv_at hl 0 rfl) ?_
    refine dia (J := 658) (V := ((if 0 ≤ (mL_of σ.2 (mL_low x3 6) 7) then 0 else 1) : Int32)) (rest := [.int ((if ((x3 >>> ((5 : Int32) &&& 31)) &&& 3) = 0 then 1 else 0) : Int32)]) (fun kk_18 => ?_) ?_
    · refine lv_if_ge (tgt := 657) hx hb dL_boats_650 (by decide) (fun c_19 => ?_) (fun c_19 => ?_)
      · refine lv_iconst (v := 0) hx hb dL_boats_657 (by decide) ?_
        exact kk_18 _ (if_pos c_19)
      · refine lv_iconst (v := 1) hx hb dL_boats_653 (by decide) ?_
        refine lv_goto (tgt := 658) hx hb dL_boats_654 (by decide) ?_
        exact kk_18 _ (if_neg c_19)
    refine lv_icmp_ne (tgt := 680) hx hb dL_boats_658 (by decide) (fun c_20 => ?_) (fun c_20 => ?_)
    · refine lv_iload hx hb dL_boats_680 (lv_at hl 1 rfl) ?_
      refine dia (J := 708) (V := ((if ((if ((x3 >>> ((5 : Int32) &&& 31)) &&& 3) = 0 then 1 else 0) : Int32) = 0 then ((if 13 ≤ (mL_of σ.2 (mL_low x3 6) 1) then 1 else 0) : Int32) else (mL_of σ.2 (mL_low x3 6) 7)) : Int32)) (rest := []) (fun kk_22 => ?_) ?_
      · refine lv_if_eq (tgt := 690) hx hb dL_boats_682 (by decide) (fun c_23 => ?_) (fun c_23 => ?_)
        · refine lv_aload hx hb dL_boats_690 (lv_at hl 9 rfl) ?_
          refine lv_iload hx hb dL_boats_692 (lv_at hl 3 rfl) ?_
          refine lv_iconst (v := 1) hx hb dL_boats_694 (by decide) ?_
          refine callSd hC (k_L_of l g ad.2 σ.2 (mL_low x3 6) 1 (in_low (n := 6) rfl (by decide)) (in_iff.mpr (by decide))) ci_L_of lk_L_9 ⟨Nat.le_of_ble_eq_true rfl, Nat.le_of_ble_eq_true rfl⟩ (P_left hP) hK (hE.S hS).none rfl hl.1 rfl (Nat.le_of_ble_eq_true rfl) dL_boats_695 ⟨Nat.zero_le _, Nat.zero_le _⟩ ?_
          refine lv_bipush (v := 13) hx hb dL_boats_698 (by decide) ?_
          refine dia (J := 708) (V := ((if 13 ≤ (mL_of σ.2 (mL_low x3 6) 1) then 1 else 0) : Int32)) (rest := []) (fun kk_25 => ?_) ?_
          · refine lv_icmp_ge (tgt := 707) hx hb dL_boats_700 (by decide) (fun c_26 => ?_) (fun c_26 => ?_)
            · refine lv_iconst (v := 1) hx hb dL_boats_707 (by decide) ?_
              exact kk_25 _ (if_pos c_26)
            · refine lv_iconst (v := 0) hx hb dL_boats_703 (by decide) ?_
              refine lv_goto (tgt := 708) hx hb dL_boats_704 (by decide) ?_
              exact kk_25 _ (if_neg c_26)
          exact kk_22 _ (if_pos c_23)
        · refine lv_iload hx hb dL_boats_685 (lv_at hl 0 rfl) ?_
          refine lv_goto (tgt := 708) hx hb dL_boats_687 (by decide) ?_
          exact kk_22 _ (if_neg c_23)
      refine lv_istore (lv' := [(12, .int ((if ((if ((x3 >>> ((5 : Int32) &&& 31)) &&& 3) = 0 then 1 else 0) : Int32) = 0 then ((if 13 ≤ (mL_of σ.2 (mL_low x3 6) 1) then 1 else 0) : Int32) else (mL_of σ.2 (mL_low x3 6) 7)) : Int32)), (11, .int (mL_of σ.2 (mL_low x3 6) 7)), (10, .int ((if ((x3 >>> ((5 : Int32) &&& 31)) &&& 3) = 0 then 1 else 0) : Int32)), (9, .int (mL_low (x3 >>> ((3 : Int32) &&& 31)) 4)), (8, .int (mL_low x3 6)), (7, .int (mL_low x2 9)), (0, .ref ad.1.1), (1, .int x2), (2, .int x3), (3, .ref ad.2.1), (4, .ref ad.2.2.1), (5, .ref ad.2.2.2.1), (6, .ref ad.2.2.2.2)]) hx hb dL_boats_708 hl (by decide) rfl (fun ls hl => ?_)
      refine lv_aload hx hb dL_boats_710 (lv_at hl 10 rfl) ?_
      refine lv_bipush (v := 10) hx hb dL_boats_712 (by decide) ?_
      refine lv_iload hx hb dL_boats_714 (lv_at hl 4 rfl) ?_
      refine lv_imul hx hb dL_boats_716 ?_
      refine lv_bipush (v := 7) hx hb dL_boats_717 (by decide) ?_
      refine lv_iadd hx hb dL_boats_719 ?_
      refine lv_iload hx hb dL_boats_720 (lv_at hl 2 rfl) ?_
      refine dia (J := 731) (V := ((if ((if ((x3 >>> ((5 : Int32) &&& 31)) &&& 3) = 0 then 1 else 0) : Int32) = 0 then ((if ((if ((x3 >>> ((5 : Int32) &&& 31)) &&& 3) = 0 then 1 else 0) : Int32) = 0 then ((if 13 ≤ (mL_of σ.2 (mL_low x3 6) 1) then 1 else 0) : Int32) else (mL_of σ.2 (mL_low x3 6) 7)) : Int32) else (-1)) : Int32)) (rest := [.int ((10 * (mL_low x3 6)) + 7), .ref ad.2.2.1]) (fun kk_28 => ?_) ?_
      · refine lv_if_eq (tgt := 729) hx hb dL_boats_722 (by decide) (fun c_29 => ?_) (fun c_29 => ?_)
        · refine lv_iload hx hb dL_boats_729 (lv_at hl 0 rfl) ?_
          exact kk_28 _ (if_pos c_29)
        · refine lv_iconst (v := (-1)) hx hb dL_boats_725 (by decide) ?_
          refine lv_goto (tgt := 731) hx hb dL_boats_726 (by decide) ?_
          exact kk_28 _ (if_neg c_29)
      refine sV_b hC hK hP hD hS (ix_10 (in_low (n := 6) rfl (by decide)) (in_iff.mpr (by decide))) dL_boats_731 (fun H locs hP hD hS => ?_)
      have hP : va_P g.1 vwCl (cV g ad (σ.1, ((L_g σ.2), (upd (L_b σ.2) ((10 * (mL_low x3 6)) + 7).toNatClampNeg ((if ((if ((x3 >>> ((5 : Int32) &&& 31)) &&& 3) = 0 then 1 else 0) : Int32) = 0 then ((if ((if ((x3 >>> ((5 : Int32) &&& 31)) &&& 3) = 0 then 1 else 0) : Int32) = 0 then ((if 13 ≤ (mL_of σ.2 (mL_low x3 6) 1) then 1 else 0) : Int32) else (mL_of σ.2 (mL_low x3 6) 7)) : Int32) else (-1)) : Int32)), (L_t σ.2), (L_r σ.2)))) H := hP
      have hD : va_D A (cV g ad (σ.1, ((L_g σ.2), (upd (L_b σ.2) ((10 * (mL_low x3 6)) + 7).toNatClampNeg ((if ((if ((x3 >>> ((5 : Int32) &&& 31)) &&& 3) = 0 then 1 else 0) : Int32) = 0 then ((if ((if ((x3 >>> ((5 : Int32) &&& 31)) &&& 3) = 0 then 1 else 0) : Int32) = 0 then ((if 13 ≤ (mL_of σ.2 (mL_low x3 6) 1) then 1 else 0) : Int32) else (mL_of σ.2 (mL_low x3 6) 7)) : Int32) else (-1)) : Int32)), (L_t σ.2), (L_r σ.2)))) := hD
      refine lv_aload_n hx hb dL_boats_732 rfl (lv_at hl 6 rfl) ?_
      refine lv_iload hx hb dL_boats_733 (lv_at hl 4 rfl) ?_
      refine lv_iload hx hb dL_boats_735 (lv_at hl 2 rfl) ?_
      refine callWrR hC (k_X3_mast l g ad.1 σ.1 (mL_low x3 6) ((if ((x3 >>> ((5 : Int32) &&& 31)) &&& 3) = 0 then 1 else 0) : Int32) h_hok) ci_X3_mast lk_L_72 ⟨Nat.le_of_ble_eq_true rfl, Nat.le_of_ble_eq_true rfl⟩ hP hD hK hE hS hA (q0 := 0) rfl rfl rfl rfl hl.1 rfl (Nat.le_of_ble_eq_true rfl) dL_boats_737 ⟨Nat.zero_le _, Nat.zero_le _⟩ (fun H locs hP hD hS => ?_)
      have hP : va_P g.1 vwCl (cV g ad ((mX3_mast σ.1 (mL_low x3 6) ((if ((x3 >>> ((5 : Int32) &&& 31)) &&& 3) = 0 then 1 else 0) : Int32)).2, ((L_g σ.2), (upd (L_b σ.2) ((10 * (mL_low x3 6)) + 7).toNatClampNeg ((if ((if ((x3 >>> ((5 : Int32) &&& 31)) &&& 3) = 0 then 1 else 0) : Int32) = 0 then ((if ((if ((x3 >>> ((5 : Int32) &&& 31)) &&& 3) = 0 then 1 else 0) : Int32) = 0 then ((if 13 ≤ (mL_of σ.2 (mL_low x3 6) 1) then 1 else 0) : Int32) else (mL_of σ.2 (mL_low x3 6) 7)) : Int32) else (-1)) : Int32)), (L_t σ.2), (L_r σ.2)))) H := hP
      have hD : va_D A (cV g ad ((mX3_mast σ.1 (mL_low x3 6) ((if ((x3 >>> ((5 : Int32) &&& 31)) &&& 3) = 0 then 1 else 0) : Int32)).2, ((L_g σ.2), (upd (L_b σ.2) ((10 * (mL_low x3 6)) + 7).toNatClampNeg ((if ((if ((x3 >>> ((5 : Int32) &&& 31)) &&& 3) = 0 then 1 else 0) : Int32) = 0 then ((if ((if ((x3 >>> ((5 : Int32) &&& 31)) &&& 3) = 0 then 1 else 0) : Int32) = 0 then ((if 13 ≤ (mL_of σ.2 (mL_low x3 6) 1) then 1 else 0) : Int32) else (mL_of σ.2 (mL_low x3 6) 7)) : Int32) else (-1)) : Int32)), (L_t σ.2), (L_r σ.2)))) := hD
      refine lv_iload hx hb dL_boats_740 (lv_at hl 0 rfl) ?_
      refine lv_icmp_ne (tgt := 749) hx hb dL_boats_742 (by decide) (fun c_30 => ?_) (fun c_30 => ?_)
      · refine lv_iconst (v := 0) hx hb dL_boats_749 (by decide) ?_
        have hm : r = (0, ((mX3_mast σ.1 (mL_low x3 6) ((if ((x3 >>> ((5 : Int32) &&& 31)) &&& 3) = 0 then 1 else 0) : Int32)).2, ((L_g σ.2), (upd (L_b σ.2) ((10 * (mL_low x3 6)) + 7).toNatClampNeg ((if ((if ((x3 >>> ((5 : Int32) &&& 31)) &&& 3) = 0 then 1 else 0) : Int32) = 0 then ((if ((if ((x3 >>> ((5 : Int32) &&& 31)) &&& 3) = 0 then 1 else 0) : Int32) = 0 then ((if 13 ≤ (mL_of σ.2 (mL_low x3 6) 1) then 1 else 0) : Int32) else (mL_of σ.2 (mL_low x3 6) 7)) : Int32) else (-1)) : Int32)), (L_t σ.2), (L_r σ.2)))) := by rw [hR, mL_boats_J590, if_pos c_16, if_neg c_20, if_neg c_30]
        exact wr_zret hC hP (hAe ▸ hD) (hAe ▸ hS) dL_boats_750 rfl (by rw [hm]) (by rw [hm])
      · refine lv_iconst (v := 1) hx hb dL_boats_745 (by decide) ?_
        refine lv_goto (tgt := 750) hx hb dL_boats_746 (by decide) ?_
        have hm : r = (1, ((mX3_mast σ.1 (mL_low x3 6) ((if ((x3 >>> ((5 : Int32) &&& 31)) &&& 3) = 0 then 1 else 0) : Int32)).2, ((L_g σ.2), (upd (L_b σ.2) ((10 * (mL_low x3 6)) + 7).toNatClampNeg ((if ((if ((x3 >>> ((5 : Int32) &&& 31)) &&& 3) = 0 then 1 else 0) : Int32) = 0 then ((if ((if ((x3 >>> ((5 : Int32) &&& 31)) &&& 3) = 0 then 1 else 0) : Int32) = 0 then ((if 13 ≤ (mL_of σ.2 (mL_low x3 6) 1) then 1 else 0) : Int32) else (mL_of σ.2 (mL_low x3 6) 7)) : Int32) else (-1)) : Int32)), (L_t σ.2), (L_r σ.2)))) := by rw [hR, mL_boats_J590, if_pos c_16, if_neg c_20, if_pos c_30]
        exact wr_zret hC hP (hAe ▸ hD) (hAe ▸ hS) dL_boats_750 rfl (by rw [hm]) (by rw [hm])
    · refine lv_aload_n hx hb dL_boats_661 rfl (lv_at hl 5 rfl) ?_
      refine lv_iload hx hb dL_boats_662 (lv_at hl 3 rfl) ?_
      refine lv_iload hx hb dL_boats_664 (lv_at hl 1 rfl) ?_
      refine callWrR hC (k_X3_mast l g ad.1 σ.1 (mL_low x3 6) ((if ((x3 >>> ((5 : Int32) &&& 31)) &&& 3) = 0 then 1 else 0) : Int32) h_hok) ci_X3_mast lk_L_72 ⟨Nat.le_of_ble_eq_true rfl, Nat.le_of_ble_eq_true rfl⟩ hP hD hK hE hS hA (q0 := 0) rfl rfl rfl rfl hl.1 rfl (Nat.le_of_ble_eq_true rfl) dL_boats_666 ⟨Nat.zero_le _, Nat.zero_le _⟩ (fun H locs hP hD hS => ?_)
      have hP : va_P g.1 vwCl (cV g ad ((mX3_mast σ.1 (mL_low x3 6) ((if ((x3 >>> ((5 : Int32) &&& 31)) &&& 3) = 0 then 1 else 0) : Int32)).2, σ.2)) H := hP
      have hD : va_D A (cV g ad ((mX3_mast σ.1 (mL_low x3 6) ((if ((x3 >>> ((5 : Int32) &&& 31)) &&& 3) = 0 then 1 else 0) : Int32)).2, σ.2)) := hD
      refine lv_bipush (v := (-5)) hx hb dL_boats_669 (by decide) ?_
      refine lv_icmp_ne (tgt := 678) hx hb dL_boats_671 (by decide) (fun c_31 => ?_) (fun c_31 => ?_)
      · refine lv_iconst (v := 0) hx hb dL_boats_678 (by decide) ?_
        have hm : r = (0, ((mX3_mast σ.1 (mL_low x3 6) ((if ((x3 >>> ((5 : Int32) &&& 31)) &&& 3) = 0 then 1 else 0) : Int32)).2, σ.2)) := by rw [hR, mL_boats_J590, if_pos c_16, if_pos c_20, if_neg c_31]
        exact wr_zret hC hP (hAe ▸ hD) (hAe ▸ hS) dL_boats_679 rfl (by rw [hm]) (by rw [hm])
      · refine lv_iconst (v := 1) hx hb dL_boats_674 (by decide) ?_
        refine lv_goto (tgt := 679) hx hb dL_boats_675 (by decide) ?_
        have hm : r = (1, ((mX3_mast σ.1 (mL_low x3 6) ((if ((x3 >>> ((5 : Int32) &&& 31)) &&& 3) = 0 then 1 else 0) : Int32)).2, σ.2)) := by rw [hR, mL_boats_J590, if_pos c_16, if_pos c_20, if_pos c_31]
        exact wr_zret hC hP (hAe ▸ hD) (hAe ▸ hS) dL_boats_679 rfl (by rw [hm]) (by rw [hm])
  · refine lv_aload_n hx hb dL_boats_627 rfl (lv_at hl 5 rfl) ?_
    refine lv_iload hx hb dL_boats_628 (lv_at hl 3 rfl) ?_
    refine lv_iload hx hb dL_boats_630 (lv_at hl 1 rfl) ?_
    refine callWrR hC (k_X3_mast l g ad.1 σ.1 (mL_low x3 6) ((if ((x3 >>> ((5 : Int32) &&& 31)) &&& 3) = 0 then 1 else 0) : Int32) h_hok) ci_X3_mast lk_L_72 ⟨Nat.le_of_ble_eq_true rfl, Nat.le_of_ble_eq_true rfl⟩ hP hD hK hE hS hA (q0 := 0) rfl rfl rfl rfl hl.1 rfl (Nat.le_of_ble_eq_true rfl) dL_boats_632 ⟨Nat.zero_le _, Nat.zero_le _⟩ (fun H locs hP hD hS => ?_)
    have hP : va_P g.1 vwCl (cV g ad ((mX3_mast σ.1 (mL_low x3 6) ((if ((x3 >>> ((5 : Int32) &&& 31)) &&& 3) = 0 then 1 else 0) : Int32)).2, σ.2)) H := hP
    have hD : va_D A (cV g ad ((mX3_mast σ.1 (mL_low x3 6) ((if ((x3 >>> ((5 : Int32) &&& 31)) &&& 3) = 0 then 1 else 0) : Int32)).2, σ.2)) := hD
    refine lv_bipush (v := (-4)) hx hb dL_boats_635 (by decide) ?_
    refine lv_icmp_ne (tgt := 644) hx hb dL_boats_637 (by decide) (fun c_32 => ?_) (fun c_32 => ?_)
    · refine lv_iconst (v := 0) hx hb dL_boats_644 (by decide) ?_
      have hm : r = (0, ((mX3_mast σ.1 (mL_low x3 6) ((if ((x3 >>> ((5 : Int32) &&& 31)) &&& 3) = 0 then 1 else 0) : Int32)).2, σ.2)) := by rw [hR, mL_boats_J590, if_neg c_16, if_neg c_32]
      exact wr_zret hC hP (hAe ▸ hD) (hAe ▸ hS) dL_boats_645 rfl (by rw [hm]) (by rw [hm])
    · refine lv_iconst (v := 1) hx hb dL_boats_640 (by decide) ?_
      refine lv_goto (tgt := 645) hx hb dL_boats_641 (by decide) ?_
      have hm : r = (1, ((mX3_mast σ.1 (mL_low x3 6) ((if ((x3 >>> ((5 : Int32) &&& 31)) &&& 3) = 0 then 1 else 0) : Int32)).2, σ.2)) := by rw [hR, mL_boats_J590, if_neg c_16, if_pos c_32]
      exact wr_zret hC hP (hAe ▸ hD) (hAe ▸ hS) dL_boats_645 rfl (by rw [hm]) (by rw [hm])
def mL_boats_J583 (σ : VS) (x2 : Int32) (x3 : Int32) : Int32 × VS := (if 8 ≤ (mL_low x2 9) then (mL_boats_J751 σ x2 x3) else (mL_boats_J590 σ x2 x3))
set_option maxHeartbeats 4000000 in
set_option maxRecDepth 100000 in
theorem j_L_boats_583 {p : Program} {e : Env} {s : State} {m : MethodId} {args : Array Value} {below : List Frame} {meth : Method} {c : Code} (l : Launch) (g : WG) (ad : AV) (σ : VS) (x2 : Int32) (x3 : Int32) (h_vok : VOK σ) (h_hok : HOK (W_hist σ.1)) (h_free : FRE σ.2) (h_kl2 : ¬ (mL_liftReason σ.2 (mL_low x3 6) (mL_low (x3 >>> ((3 : Int32) &&& 31)) 4)) ≤ 0 → KeelOK (W_yard (mX3_lift σ.1 (mL_low x3 6) (mL_low (x3 >>> ((3 : Int32) &&& 31)) 4)).2)) (c_1 : ¬ ((mL_of σ.2 (mL_low x3 6) 0) = 0)) (c_2 : (3 ≤ (mL_low x2 9))) (c_3 : (5 ≤ (mL_low x2 9))) (c_4 : ¬ ((mL_low x2 9) = 5)) (hC : Cx p s m args meth c yL_boats cL_boats 13 (some .boolean)) (hK : va_K g.1 vwCl (tysW g) s) {A : Nat → Prop} {ws0 : va_W} (hE : Ex A s s.heap) (hA : ∀ q : Nat, s.heap.size ≤ q → A q) (hAe : A = va_A ws0 s.heap.size) (H : Heap) (locs : List Loc) (hP : va_P g.1 vwCl (cV g ad σ) H) (hD : va_D A (cV g ad σ)) (hS : va_S A s.heap H locs) {r : Int32 × VS} (hR : r = mL_boats_J583 σ x2 x3) (ls : Array Slot) (hl : lv_has ls 13 [(9, .int (mL_low (x3 >>> ((3 : Int32) &&& 31)) 4)), (8, .int (mL_low x3 6)), (7, .int (mL_low x2 9)), (0, .ref ad.1.1), (1, .int x2), (2, .int x3), (3, .ref ad.2.1), (4, .ref ad.2.2.1), (5, .ref ad.2.2.2.1), (6, .ref ad.2.2.2.2)]) : W p l e (rk 7) s m args below meth c H locs 0 0 (MQ below (va_Qi (fun x _ => x = r.1) (Bw g ws0 (cV g ad r.2) s.heap.size) (va_A ws0 s.heap.size)) args s 0 0 (va_A ws0 s.heap.size)) (F0 m 583 ls []) := by
  obtain ⟨hx, hb, hml, hr, hown, hts, hlk, hnm⟩ := id hC
  refine lv_iload hx hb dL_boats_583 (lv_at hl 2 rfl) ?_
  refine lv_bipush (v := 8) hx hb dL_boats_585 (by decide) ?_
  refine lv_icmp_ge (tgt := 751) hx hb dL_boats_587 (by decide) (fun c_5 => ?_) (fun c_5 => ?_)
  · refine j_L_boats_751 l g ad σ x2 x3 h_vok h_hok h_free h_kl2 c_1 c_2 c_3 c_4 c_5 hC hK hE hA hAe _ _ hP hD hS ?_ _ (lv_sub hl [0, 1, 2, 3, 4, 5, 6, 7, 8, 9] rfl)
    exact by rw [hR, mL_boats_J583, if_pos c_5]
  · refine j_L_boats_590 l g ad σ x2 x3 h_vok h_hok h_free h_kl2 c_1 c_2 c_3 c_4 c_5 hC hK hE hA hAe _ _ hP hD hS ?_ _ (lv_sub hl [0, 1, 2, 3, 4, 5, 6, 7, 8, 9] rfl)
    exact by rw [hR, mL_boats_J583, if_neg c_5]
def mL_boats_J442 (σ : VS) (x2 : Int32) (x3 : Int32) : Int32 × VS := (if (mX3_move σ.1 (mL_low x3 6) (mL_low (x3 >>> ((3 : Int32) &&& 31)) 4)).1 = (-4) then (if (mX3_move (mX3_move σ.1 (mL_low x3 6) (mL_low (x3 >>> ((3 : Int32) &&& 31)) 4)).2 (mL_low x3 6) (-1)).1 = (-1) then (1, ((mX3_move (mX3_move σ.1 (mL_low x3 6) (mL_low (x3 >>> ((3 : Int32) &&& 31)) 4)).2 (mL_low x3 6) (-1)).2, σ.2)) else (0, ((mX3_move (mX3_move σ.1 (mL_low x3 6) (mL_low (x3 >>> ((3 : Int32) &&& 31)) 4)).2 (mL_low x3 6) (-1)).2, σ.2))) else (0, ((mX3_move σ.1 (mL_low x3 6) (mL_low (x3 >>> ((3 : Int32) &&& 31)) 4)).2, σ.2)))
set_option maxHeartbeats 4000000 in
set_option maxRecDepth 100000 in
theorem j_L_boats_442 {p : Program} {e : Env} {s : State} {m : MethodId} {args : Array Value} {below : List Frame} {meth : Method} {c : Code} (l : Launch) (g : WG) (ad : AV) (σ : VS) (x2 : Int32) (x3 : Int32) (h_vok : VOK σ) (h_hok : HOK (W_hist σ.1)) (h_free : FRE σ.2) (h_kl2 : ¬ (mL_liftReason σ.2 (mL_low x3 6) (mL_low (x3 >>> ((3 : Int32) &&& 31)) 4)) ≤ 0 → KeelOK (W_yard (mX3_lift σ.1 (mL_low x3 6) (mL_low (x3 >>> ((3 : Int32) &&& 31)) 4)).2)) (hC : Cx p s m args meth c yL_boats cL_boats 13 (some .boolean)) (hK : va_K g.1 vwCl (tysW g) s) {A : Nat → Prop} {ws0 : va_W} (hE : Ex A s s.heap) (hA : ∀ q : Nat, s.heap.size ≤ q → A q) (hAe : A = va_A ws0 s.heap.size) (H : Heap) (locs : List Loc) (hP : va_P g.1 vwCl (cV g ad σ) H) (hD : va_D A (cV g ad σ)) (hS : va_S A s.heap H locs) {r : Int32 × VS} (hR : r = mL_boats_J442 σ x2 x3) (ls : Array Slot) (hl : lv_has ls 13 [(10, .int (mL_of σ.2 (mL_low x3 6) 5)), (9, .int (mL_low (x3 >>> ((3 : Int32) &&& 31)) 4)), (8, .int (mL_low x3 6)), (7, .int (mL_low x2 9)), (0, .ref ad.1.1), (1, .int x2), (2, .int x3), (3, .ref ad.2.1), (4, .ref ad.2.2.1), (5, .ref ad.2.2.2.1), (6, .ref ad.2.2.2.2)]) : W p l e (rk 7) s m args below meth c H locs 0 0 (MQ below (va_Qi (fun x _ => x = r.1) (Bw g ws0 (cV g ad r.2) s.heap.size) (va_A ws0 s.heap.size)) args s 0 0 (va_A ws0 s.heap.size)) (F0 m 442 ls []) := by
  obtain ⟨hx, hb, hml, hr, hown, hts, hlk, hnm⟩ := id hC
  refine lv_aload_n hx hb dL_boats_442 rfl (lv_at hl 4 rfl) ?_
  refine lv_iload hx hb dL_boats_443 (lv_at hl 2 rfl) ?_
  refine lv_iload hx hb dL_boats_445 (lv_at hl 1 rfl) ?_
  refine callWrR hC (k_X3_move l g ad.1 σ.1 (mL_low x3 6) (mL_low (x3 >>> ((3 : Int32) &&& 31)) 4) h_hok) ci_X3_move lk_L_79 ⟨Nat.le_of_ble_eq_true rfl, Nat.le_of_ble_eq_true rfl⟩ hP hD hK hE hS hA (q0 := 0) rfl rfl rfl rfl hl.1 rfl (Nat.le_of_ble_eq_true rfl) dL_boats_447 ⟨Nat.zero_le _, Nat.zero_le _⟩ (fun H locs hP hD hS => ?_)
  have hP : va_P g.1 vwCl (cV g ad ((mX3_move σ.1 (mL_low x3 6) (mL_low (x3 >>> ((3 : Int32) &&& 31)) 4)).2, σ.2)) H := hP
  have hD : va_D A (cV g ad ((mX3_move σ.1 (mL_low x3 6) (mL_low (x3 >>> ((3 : Int32) &&& 31)) 4)).2, σ.2)) := hD
  refine lv_bipush (v := (-4)) hx hb dL_boats_450 (by decide) ?_
  refine lv_icmp_ne (tgt := 470) hx hb dL_boats_452 (by decide) (fun c_34 => ?_) (fun c_34 => ?_)
  · refine lv_iconst (v := 0) hx hb dL_boats_470 (by decide) ?_
    have hm : r = (0, ((mX3_move σ.1 (mL_low x3 6) (mL_low (x3 >>> ((3 : Int32) &&& 31)) 4)).2, σ.2)) := by rw [hR, mL_boats_J442, if_neg c_34]
    exact wr_zret hC hP (hAe ▸ hD) (hAe ▸ hS) dL_boats_471 rfl (by rw [hm]) (by rw [hm])
  · refine lv_aload_n hx hb dL_boats_455 rfl (lv_at hl 4 rfl) ?_
    refine lv_iload hx hb dL_boats_456 (lv_at hl 2 rfl) ?_
    refine lv_iconst (v := (-1)) hx hb dL_boats_458 (by decide) ?_
    refine callWrR hC (k_X3_move l g ad.1 (mX3_move σ.1 (mL_low x3 6) (mL_low (x3 >>> ((3 : Int32) &&& 31)) 4)).2 (mL_low x3 6) (-1) (hok_move h_hok)) ci_X3_move lk_L_79 ⟨Nat.le_of_ble_eq_true rfl, Nat.le_of_ble_eq_true rfl⟩ hP hD hK hE hS hA (q0 := 0) rfl rfl rfl rfl hl.1 rfl (Nat.le_of_ble_eq_true rfl) dL_boats_459 ⟨Nat.zero_le _, Nat.zero_le _⟩ (fun H locs hP hD hS => ?_)
    have hP : va_P g.1 vwCl (cV g ad ((mX3_move (mX3_move σ.1 (mL_low x3 6) (mL_low (x3 >>> ((3 : Int32) &&& 31)) 4)).2 (mL_low x3 6) (-1)).2, σ.2)) H := hP
    have hD : va_D A (cV g ad ((mX3_move (mX3_move σ.1 (mL_low x3 6) (mL_low (x3 >>> ((3 : Int32) &&& 31)) 4)).2 (mL_low x3 6) (-1)).2, σ.2)) := hD
    refine lv_iconst (v := (-1)) hx hb dL_boats_462 (by decide) ?_
    refine lv_icmp_ne (tgt := 470) hx hb dL_boats_463 (by decide) (fun c_35 => ?_) (fun c_35 => ?_)
    · refine lv_iconst (v := 0) hx hb dL_boats_470 (by decide) ?_
      have hm : r = (0, ((mX3_move (mX3_move σ.1 (mL_low x3 6) (mL_low (x3 >>> ((3 : Int32) &&& 31)) 4)).2 (mL_low x3 6) (-1)).2, σ.2)) := by rw [hR, mL_boats_J442, if_pos c_34, if_neg c_35]
      exact wr_zret hC hP (hAe ▸ hD) (hAe ▸ hS) dL_boats_471 rfl (by rw [hm]) (by rw [hm])
    · refine lv_iconst (v := 1) hx hb dL_boats_466 (by decide) ?_
      refine lv_goto (tgt := 471) hx hb dL_boats_467 (by decide) ?_
      have hm : r = (1, ((mX3_move (mX3_move σ.1 (mL_low x3 6) (mL_low (x3 >>> ((3 : Int32) &&& 31)) 4)).2 (mL_low x3 6) (-1)).2, σ.2)) := by rw [hR, mL_boats_J442, if_pos c_34, if_pos c_35]
      exact wr_zret hC hP (hAe ▸ hD) (hAe ▸ hS) dL_boats_471 rfl (by rw [hm]) (by rw [hm])
def mL_boats_J502 (σ : VS) (x2 : Int32) (x3 : Int32) : Int32 × VS := (if (mX3_move σ.1 (mL_low x3 6) (mL_low (x3 >>> ((3 : Int32) &&& 31)) 4)).1 = (-3) then (1, ((mX3_move σ.1 (mL_low x3 6) (mL_low (x3 >>> ((3 : Int32) &&& 31)) 4)).2, σ.2)) else (0, ((mX3_move σ.1 (mL_low x3 6) (mL_low (x3 >>> ((3 : Int32) &&& 31)) 4)).2, σ.2)))
set_option maxHeartbeats 4000000 in
set_option maxRecDepth 100000 in
theorem j_L_boats_502 {p : Program} {e : Env} {s : State} {m : MethodId} {args : Array Value} {below : List Frame} {meth : Method} {c : Code} (l : Launch) (g : WG) (ad : AV) (σ : VS) (x2 : Int32) (x3 : Int32) (h_vok : VOK σ) (h_hok : HOK (W_hist σ.1)) (h_free : FRE σ.2) (h_kl2 : ¬ (mL_liftReason σ.2 (mL_low x3 6) (mL_low (x3 >>> ((3 : Int32) &&& 31)) 4)) ≤ 0 → KeelOK (W_yard (mX3_lift σ.1 (mL_low x3 6) (mL_low (x3 >>> ((3 : Int32) &&& 31)) 4)).2)) (hC : Cx p s m args meth c yL_boats cL_boats 13 (some .boolean)) (hK : va_K g.1 vwCl (tysW g) s) {A : Nat → Prop} {ws0 : va_W} (hE : Ex A s s.heap) (hA : ∀ q : Nat, s.heap.size ≤ q → A q) (hAe : A = va_A ws0 s.heap.size) (H : Heap) (locs : List Loc) (hP : va_P g.1 vwCl (cV g ad σ) H) (hD : va_D A (cV g ad σ)) (hS : va_S A s.heap H locs) {r : Int32 × VS} (hR : r = mL_boats_J502 σ x2 x3) (ls : Array Slot) (hl : lv_has ls 13 [(10, .int (mL_of σ.2 (mL_low x3 6) 5)), (9, .int (mL_low (x3 >>> ((3 : Int32) &&& 31)) 4)), (8, .int (mL_low x3 6)), (7, .int (mL_low x2 9)), (0, .ref ad.1.1), (1, .int x2), (2, .int x3), (3, .ref ad.2.1), (4, .ref ad.2.2.1), (5, .ref ad.2.2.2.1), (6, .ref ad.2.2.2.2)]) : W p l e (rk 7) s m args below meth c H locs 0 0 (MQ below (va_Qi (fun x _ => x = r.1) (Bw g ws0 (cV g ad r.2) s.heap.size) (va_A ws0 s.heap.size)) args s 0 0 (va_A ws0 s.heap.size)) (F0 m 502 ls []) := by
  obtain ⟨hx, hb, hml, hr, hown, hts, hlk, hnm⟩ := id hC
  refine lv_aload_n hx hb dL_boats_502 rfl (lv_at hl 4 rfl) ?_
  refine lv_iload hx hb dL_boats_503 (lv_at hl 2 rfl) ?_
  refine lv_iload hx hb dL_boats_505 (lv_at hl 1 rfl) ?_
  refine callWrR hC (k_X3_move l g ad.1 σ.1 (mL_low x3 6) (mL_low (x3 >>> ((3 : Int32) &&& 31)) 4) h_hok) ci_X3_move lk_L_79 ⟨Nat.le_of_ble_eq_true rfl, Nat.le_of_ble_eq_true rfl⟩ hP hD hK hE hS hA (q0 := 0) rfl rfl rfl rfl hl.1 rfl (Nat.le_of_ble_eq_true rfl) dL_boats_507 ⟨Nat.zero_le _, Nat.zero_le _⟩ (fun H locs hP hD hS => ?_)
  have hP : va_P g.1 vwCl (cV g ad ((mX3_move σ.1 (mL_low x3 6) (mL_low (x3 >>> ((3 : Int32) &&& 31)) 4)).2, σ.2)) H := hP
  have hD : va_D A (cV g ad ((mX3_move σ.1 (mL_low x3 6) (mL_low (x3 >>> ((3 : Int32) &&& 31)) 4)).2, σ.2)) := hD
  refine lv_bipush (v := (-3)) hx hb dL_boats_510 (by decide) ?_
  refine lv_icmp_ne (tgt := 519) hx hb dL_boats_512 (by decide) (fun c_39 => ?_) (fun c_39 => ?_)
  · refine lv_iconst (v := 0) hx hb dL_boats_519 (by decide) ?_
    have hm : r = (0, ((mX3_move σ.1 (mL_low x3 6) (mL_low (x3 >>> ((3 : Int32) &&& 31)) 4)).2, σ.2)) := by rw [hR, mL_boats_J502, if_neg c_39]
    exact wr_zret hC hP (hAe ▸ hD) (hAe ▸ hS) dL_boats_520 rfl (by rw [hm]) (by rw [hm])
  · refine lv_iconst (v := 1) hx hb dL_boats_515 (by decide) ?_
    refine lv_goto (tgt := 520) hx hb dL_boats_516 (by decide) ?_
    have hm : r = (1, ((mX3_move σ.1 (mL_low x3 6) (mL_low (x3 >>> ((3 : Int32) &&& 31)) 4)).2, σ.2)) := by rw [hR, mL_boats_J502, if_pos c_39]
    exact wr_zret hC hP (hAe ▸ hD) (hAe ▸ hS) dL_boats_520 rfl (by rw [hm]) (by rw [hm])
def mL_boats_S544 (σ : VS) (x2 : Int32) (x3 : Int32) : Int32 × VS := (if (mX3_move σ.1 (mL_low x3 6) (mL_low (x3 >>> ((3 : Int32) &&& 31)) 4)).1 = ((L_r σ.2) (7 * (mL_low (x3 >>> ((3 : Int32) &&& 31)) 4)).toNatClampNeg) then (1, ((mX3_move σ.1 (mL_low x3 6) (mL_low (x3 >>> ((3 : Int32) &&& 31)) 4)).2, ((upd (upd (L_g σ.2) (1 : Int32).toNatClampNeg (((L_g σ.2) (1 : Int32).toNatClampNeg) + 1)) (5 : Int32).toNatClampNeg (((upd (L_g σ.2) (1 : Int32).toNatClampNeg (((L_g σ.2) (1 : Int32).toNatClampNeg) + 1)) (5 : Int32).toNatClampNeg) + 1)), (L_b σ.2), (L_t σ.2), (L_r σ.2)))) else (0, ((mX3_move σ.1 (mL_low x3 6) (mL_low (x3 >>> ((3 : Int32) &&& 31)) 4)).2, ((upd (upd (L_g σ.2) (1 : Int32).toNatClampNeg (((L_g σ.2) (1 : Int32).toNatClampNeg) + 1)) (5 : Int32).toNatClampNeg (((upd (L_g σ.2) (1 : Int32).toNatClampNeg (((L_g σ.2) (1 : Int32).toNatClampNeg) + 1)) (5 : Int32).toNatClampNeg) + 1)), (L_b σ.2), (L_t σ.2), (L_r σ.2)))))
set_option maxHeartbeats 4000000 in
set_option maxRecDepth 100000 in
theorem j_L_boats_544 {p : Program} {e : Env} {s : State} {m : MethodId} {args : Array Value} {below : List Frame} {meth : Method} {c : Code} (l : Launch) (g : WG) (ad : AV) (σ : VS) (x2 : Int32) (x3 : Int32) (h_hok : HOK (W_hist σ.1)) (hC : Cx p s m args meth c yL_boats cL_boats 13 (some .boolean)) (hK : va_K g.1 vwCl (tysW g) s) {A : Nat → Prop} {ws0 : va_W} (hE : Ex A s s.heap) (hA : ∀ q : Nat, s.heap.size ≤ q → A q) (hAe : A = va_A ws0 s.heap.size) (H : Heap) (locs : List Loc) (hP : va_P g.1 vwCl (cV g ad σ) H) (hD : va_D A (cV g ad σ)) (hS : va_S A s.heap H locs) {r : Int32 × VS} (hR : r = mL_boats_S544 σ x2 x3) (ls : Array Slot) (hl : lv_has ls 13 [(9, .int (mL_low (x3 >>> ((3 : Int32) &&& 31)) 4)), (8, .int (mL_low x3 6)), (7, .int (mL_low x2 9)), (0, .ref ad.1.1), (1, .int x2), (2, .int x3), (3, .ref ad.2.1), (4, .ref ad.2.2.1), (5, .ref ad.2.2.2.1), (6, .ref ad.2.2.2.2)]) : W p l e (rk 7) s m args below meth c H locs 0 0 (MQ below (va_Qi (fun x _ => x = r.1) (Bw g ws0 (cV g ad r.2) s.heap.size) (va_A ws0 s.heap.size)) args s 0 0 (va_A ws0 s.heap.size)) (F0 m 544 ls []) := by
  obtain ⟨hx, hb, hml, hr, hown, hts, hlk, hnm⟩ := id hC
  refine lv_aload_n hx hb dL_boats_544 rfl (lv_at hl 6 rfl) ?_
  refine lv_iconst (v := 1) hx hb dL_boats_545 (by decide) ?_
  refine lv_dup2_11 hx hb dL_boats_546 rfl rfl ?_
  refine lV_g hC hK hP (in_iff.mpr (by decide)) dL_boats_547 ?_
  refine lv_iconst (v := 1) hx hb dL_boats_548 (by decide) ?_
  refine lv_iadd hx hb dL_boats_549 ?_
  refine sV_g hC hK hP hD hS (in_iff.mpr (by decide)) dL_boats_550 (fun H locs hP hD hS => ?_)
  have hP : va_P g.1 vwCl (cV g ad (σ.1, ((upd (L_g σ.2) (1 : Int32).toNatClampNeg (((L_g σ.2) (1 : Int32).toNatClampNeg) + 1)), (L_b σ.2), (L_t σ.2), (L_r σ.2)))) H := hP
  have hD : va_D A (cV g ad (σ.1, ((upd (L_g σ.2) (1 : Int32).toNatClampNeg (((L_g σ.2) (1 : Int32).toNatClampNeg) + 1)), (L_b σ.2), (L_t σ.2), (L_r σ.2)))) := hD
  refine lv_aload_n hx hb dL_boats_551 rfl (lv_at hl 6 rfl) ?_
  refine lv_iconst (v := 5) hx hb dL_boats_552 (by decide) ?_
  refine lv_dup2_11 hx hb dL_boats_553 rfl rfl ?_
  refine lV_g hC hK hP (in_iff.mpr (by decide)) dL_boats_554 ?_
  refine lv_iconst (v := 1) hx hb dL_boats_555 (by decide) ?_
  refine lv_iadd hx hb dL_boats_556 ?_
  refine sV_g hC hK hP hD hS (in_iff.mpr (by decide)) dL_boats_557 (fun H locs hP hD hS => ?_)
  have hP : va_P g.1 vwCl (cV g ad (σ.1, ((upd (upd (L_g σ.2) (1 : Int32).toNatClampNeg (((L_g σ.2) (1 : Int32).toNatClampNeg) + 1)) (5 : Int32).toNatClampNeg (((upd (L_g σ.2) (1 : Int32).toNatClampNeg (((L_g σ.2) (1 : Int32).toNatClampNeg) + 1)) (5 : Int32).toNatClampNeg) + 1)), (L_b σ.2), (L_t σ.2), (L_r σ.2)))) H := hP
  have hD : va_D A (cV g ad (σ.1, ((upd (upd (L_g σ.2) (1 : Int32).toNatClampNeg (((L_g σ.2) (1 : Int32).toNatClampNeg) + 1)) (5 : Int32).toNatClampNeg (((upd (L_g σ.2) (1 : Int32).toNatClampNeg (((L_g σ.2) (1 : Int32).toNatClampNeg) + 1)) (5 : Int32).toNatClampNeg) + 1)), (L_b σ.2), (L_t σ.2), (L_r σ.2)))) := hD
  refine lv_aload_n hx hb dL_boats_558 rfl (lv_at hl 3 rfl) ?_
  refine lv_iload hx hb dL_boats_559 (lv_at hl 1 rfl) ?_
  refine lv_iload hx hb dL_boats_561 (lv_at hl 0 rfl) ?_
  refine callWrR hC (k_X3_move l g ad.1 σ.1 (mL_low x3 6) (mL_low (x3 >>> ((3 : Int32) &&& 31)) 4) h_hok) ci_X3_move lk_L_79 ⟨Nat.le_of_ble_eq_true rfl, Nat.le_of_ble_eq_true rfl⟩ hP hD hK hE hS hA (q0 := 0) rfl rfl rfl rfl hl.1 rfl (Nat.le_of_ble_eq_true rfl) dL_boats_563 ⟨Nat.zero_le _, Nat.zero_le _⟩ (fun H locs hP hD hS => ?_)
  have hP : va_P g.1 vwCl (cV g ad ((mX3_move σ.1 (mL_low x3 6) (mL_low (x3 >>> ((3 : Int32) &&& 31)) 4)).2, ((upd (upd (L_g σ.2) (1 : Int32).toNatClampNeg (((L_g σ.2) (1 : Int32).toNatClampNeg) + 1)) (5 : Int32).toNatClampNeg (((upd (L_g σ.2) (1 : Int32).toNatClampNeg (((L_g σ.2) (1 : Int32).toNatClampNeg) + 1)) (5 : Int32).toNatClampNeg) + 1)), (L_b σ.2), (L_t σ.2), (L_r σ.2)))) H := hP
  have hD : va_D A (cV g ad ((mX3_move σ.1 (mL_low x3 6) (mL_low (x3 >>> ((3 : Int32) &&& 31)) 4)).2, ((upd (upd (L_g σ.2) (1 : Int32).toNatClampNeg (((L_g σ.2) (1 : Int32).toNatClampNeg) + 1)) (5 : Int32).toNatClampNeg (((upd (L_g σ.2) (1 : Int32).toNatClampNeg (((L_g σ.2) (1 : Int32).toNatClampNeg) + 1)) (5 : Int32).toNatClampNeg) + 1)), (L_b σ.2), (L_t σ.2), (L_r σ.2)))) := hD
  refine lv_aload hx hb dL_boats_566 (lv_at hl 9 rfl) ?_
  refine lv_bipush (v := 7) hx hb dL_boats_568 (by decide) ?_
  refine lv_iload hx hb dL_boats_570 (lv_at hl 0 rfl) ?_
  refine lv_imul hx hb dL_boats_572 ?_
  refine lV_r hC hK hP (ix_70 (in_low (n := 4) rfl (by decide))) dL_boats_573 ?_
  refine lv_icmp_ne (tgt := 581) hx hb dL_boats_574 (by decide) (fun c_41 => ?_) (fun c_41 => ?_)
  · refine lv_iconst (v := 0) hx hb dL_boats_581 (by decide) ?_
    have hm : r = (0, ((mX3_move σ.1 (mL_low x3 6) (mL_low (x3 >>> ((3 : Int32) &&& 31)) 4)).2, ((upd (upd (L_g σ.2) (1 : Int32).toNatClampNeg (((L_g σ.2) (1 : Int32).toNatClampNeg) + 1)) (5 : Int32).toNatClampNeg (((upd (L_g σ.2) (1 : Int32).toNatClampNeg (((L_g σ.2) (1 : Int32).toNatClampNeg) + 1)) (5 : Int32).toNatClampNeg) + 1)), (L_b σ.2), (L_t σ.2), (L_r σ.2)))) := by rw [hR, mL_boats_S544, if_neg c_41]
    exact wr_zret hC hP (hAe ▸ hD) (hAe ▸ hS) dL_boats_582 rfl (by rw [hm]) (by rw [hm])
  · refine lv_iconst (v := 1) hx hb dL_boats_577 (by decide) ?_
    refine lv_goto (tgt := 582) hx hb dL_boats_578 (by decide) ?_
    have hm : r = (1, ((mX3_move σ.1 (mL_low x3 6) (mL_low (x3 >>> ((3 : Int32) &&& 31)) 4)).2, ((upd (upd (L_g σ.2) (1 : Int32).toNatClampNeg (((L_g σ.2) (1 : Int32).toNatClampNeg) + 1)) (5 : Int32).toNatClampNeg (((upd (L_g σ.2) (1 : Int32).toNatClampNeg (((L_g σ.2) (1 : Int32).toNatClampNeg) + 1)) (5 : Int32).toNatClampNeg) + 1)), (L_b σ.2), (L_t σ.2), (L_r σ.2)))) := by rw [hR, mL_boats_S544, if_pos c_41]
    exact wr_zret hC hP (hAe ▸ hD) (hAe ▸ hS) dL_boats_582 rfl (by rw [hm]) (by rw [hm])
def mL_boats_J521 (σ : VS) (x2 : Int32) (x3 : Int32) : Int32 × VS := (mL_boats_S544 (σ.1, (mL_stand ((L_g σ.2), (L_b σ.2), (L_t σ.2), (upd (L_r σ.2) (7 * (mL_of σ.2 (mL_low x3 6) 5)).toNatClampNeg (((L_r σ.2) (7 * (mL_of σ.2 (mL_low x3 6) 5)).toNatClampNeg) - 1))) (mL_low x3 6) (mL_low (x3 >>> ((3 : Int32) &&& 31)) 4))) x2 x3)
set_option maxHeartbeats 4000000 in
set_option maxRecDepth 100000 in
theorem j_L_boats_521 {p : Program} {e : Env} {s : State} {m : MethodId} {args : Array Value} {below : List Frame} {meth : Method} {c : Code} (l : Launch) (g : WG) (ad : AV) (σ : VS) (x2 : Int32) (x3 : Int32) (h_vok : VOK σ) (h_hok : HOK (W_hist σ.1)) (h_free : FRE σ.2) (h_kl2 : ¬ (mL_liftReason σ.2 (mL_low x3 6) (mL_low (x3 >>> ((3 : Int32) &&& 31)) 4)) ≤ 0 → KeelOK (W_yard (mX3_lift σ.1 (mL_low x3 6) (mL_low (x3 >>> ((3 : Int32) &&& 31)) 4)).2)) (c_1 : ¬ ((mL_of σ.2 (mL_low x3 6) 0) = 0)) (c_2 : (3 ≤ (mL_low x2 9))) (c_3 : (5 ≤ (mL_low x2 9))) (c_4 : ((mL_low x2 9) = 5)) (c_33 : ¬ ((mL_of σ.2 (mL_low x3 6) 5) < 0)) (c_36 : ¬ ((mL_of σ.2 (mL_low x3 6) 5) = (mL_low (x3 >>> ((3 : Int32) &&& 31)) 4))) (c_37 : ((((L_r σ.2) (7 * (mL_of σ.2 (mL_low x3 6) 5)).toNatClampNeg) - 1) ≤ (mL_place σ.2 (mL_low x3 6)))) (c_38 : ¬ ((mL_room σ.2 (mL_low (x3 >>> ((3 : Int32) &&& 31)) 4)) < ((mL_of σ.2 (mL_low x3 6) 1) + 1))) (c_40 : ¬ ((mL_left σ.2) = 0)) (hC : Cx p s m args meth c yL_boats cL_boats 13 (some .boolean)) (hK : va_K g.1 vwCl (tysW g) s) {A : Nat → Prop} {ws0 : va_W} (hE : Ex A s s.heap) (hA : ∀ q : Nat, s.heap.size ≤ q → A q) (hAe : A = va_A ws0 s.heap.size) (H : Heap) (locs : List Loc) (hP : va_P g.1 vwCl (cV g ad σ) H) (hD : va_D A (cV g ad σ)) (hS : va_S A s.heap H locs) {r : Int32 × VS} (hR : r = mL_boats_J521 σ x2 x3) (ls : Array Slot) (hl : lv_has ls 13 [(10, .int (mL_of σ.2 (mL_low x3 6) 5)), (9, .int (mL_low (x3 >>> ((3 : Int32) &&& 31)) 4)), (8, .int (mL_low x3 6)), (7, .int (mL_low x2 9)), (0, .ref ad.1.1), (1, .int x2), (2, .int x3), (3, .ref ad.2.1), (4, .ref ad.2.2.1), (5, .ref ad.2.2.2.1), (6, .ref ad.2.2.2.2)]) : W p l e (rk 7) s m args below meth c H locs 0 0 (MQ below (va_Qi (fun x _ => x = r.1) (Bw g ws0 (cV g ad r.2) s.heap.size) (va_A ws0 s.heap.size)) args s 0 0 (va_A ws0 s.heap.size)) (F0 m 521 ls []) := by
  obtain ⟨hx, hb, hml, hr, hown, hts, hlk, hnm⟩ := id hC
  refine lv_aload hx hb dL_boats_521 (lv_at hl 10 rfl) ?_
  refine lv_bipush (v := 7) hx hb dL_boats_523 (by decide) ?_
  refine lv_iload hx hb dL_boats_525 (lv_at hl 0 rfl) ?_
  refine lv_imul hx hb dL_boats_527 ?_
  refine lv_dup2_11 hx hb dL_boats_528 rfl rfl ?_
  refine lV_r hC hK hP (ix_70 (h_vok.2.2.2.2 _ (in_low (n := 6) rfl (by decide)) c_1 (nlt0 c_33)).1) dL_boats_529 ?_
  refine lv_iconst (v := 1) hx hb dL_boats_530 (by decide) ?_
  refine lv_isub hx hb dL_boats_531 ?_
  refine sV_r hC hK hP hD hS (ix_70 (h_vok.2.2.2.2 _ (in_low (n := 6) rfl (by decide)) c_1 (nlt0 c_33)).1) dL_boats_532 (fun H locs hP hD hS => ?_)
  have hP : va_P g.1 vwCl (cV g ad (σ.1, ((L_g σ.2), (L_b σ.2), (L_t σ.2), (upd (L_r σ.2) (7 * (mL_of σ.2 (mL_low x3 6) 5)).toNatClampNeg (((L_r σ.2) (7 * (mL_of σ.2 (mL_low x3 6) 5)).toNatClampNeg) - 1))))) H := hP
  have hD : va_D A (cV g ad (σ.1, ((L_g σ.2), (L_b σ.2), (L_t σ.2), (upd (L_r σ.2) (7 * (mL_of σ.2 (mL_low x3 6) 5)).toNatClampNeg (((L_r σ.2) (7 * (mL_of σ.2 (mL_low x3 6) 5)).toNatClampNeg) - 1))))) := hD
  refine lv_iload hx hb dL_boats_533 (lv_at hl 2 rfl) ?_
  refine lv_iload hx hb dL_boats_535 (lv_at hl 1 rfl) ?_
  refine lv_aload hx hb dL_boats_537 (lv_at hl 8 rfl) ?_
  refine lv_aload hx hb dL_boats_539 (lv_at hl 10 rfl) ?_
  refine callSv hC (k_L_stand l g ad.2 ((L_g σ.2), (L_b σ.2), (L_t σ.2), (upd (L_r σ.2) (7 * (mL_of σ.2 (mL_low x3 6) 5)).toNatClampNeg (((L_r σ.2) (7 * (mL_of σ.2 (mL_low x3 6) 5)).toNatClampNeg) - 1))) (mL_low x3 6) (mL_low (x3 >>> ((3 : Int32) &&& 31)) 4) (in_low (n := 6) rfl (by decide)) (in_low (n := 4) rfl (by decide)) (fr_upd2 (h_vok.2.2.2.2 _ (in_low (n := 6) rfl (by decide)) c_1 (nlt0 c_33)).1 (in_low (n := 4) rfl (by decide)) c_36 (h_free _ _ (in_low (n := 6) rfl (by decide)) (in_low (n := 4) rfl (by decide)) c_1 c_36))) ci_L_stand lk_L_86 ⟨Nat.le_of_ble_eq_true rfl, Nat.le_of_ble_eq_true rfl⟩ hP hD hK hE hS hA rfl hl.1 rfl (Nat.le_of_ble_eq_true rfl) dL_boats_541 ⟨Nat.zero_le _, Nat.zero_le _⟩ (fun H locs hP hD hS => ?_)
  have hP : va_P g.1 vwCl (cV g ad (σ.1, (mL_stand ((L_g σ.2), (L_b σ.2), (L_t σ.2), (upd (L_r σ.2) (7 * (mL_of σ.2 (mL_low x3 6) 5)).toNatClampNeg (((L_r σ.2) (7 * (mL_of σ.2 (mL_low x3 6) 5)).toNatClampNeg) - 1))) (mL_low x3 6) (mL_low (x3 >>> ((3 : Int32) &&& 31)) 4)))) H := hP
  have hD : va_D A (cV g ad (σ.1, (mL_stand ((L_g σ.2), (L_b σ.2), (L_t σ.2), (upd (L_r σ.2) (7 * (mL_of σ.2 (mL_low x3 6) 5)).toNatClampNeg (((L_r σ.2) (7 * (mL_of σ.2 (mL_low x3 6) 5)).toNatClampNeg) - 1))) (mL_low x3 6) (mL_low (x3 >>> ((3 : Int32) &&& 31)) 4)))) := hD
  refine j_L_boats_544 l g ad (σ.1, (mL_stand ((L_g σ.2), (L_b σ.2), (L_t σ.2), (upd (L_r σ.2) (7 * (mL_of σ.2 (mL_low x3 6) 5)).toNatClampNeg (((L_r σ.2) (7 * (mL_of σ.2 (mL_low x3 6) 5)).toNatClampNeg) - 1))) (mL_low x3 6) (mL_low (x3 >>> ((3 : Int32) &&& 31)) 4))) x2 x3 h_hok hC hK hE hA hAe _ _ hP hD hS ?_ _ (lv_sub hl [1, 2, 3, 4, 5, 6, 7, 8, 9, 10] rfl)
  exact by rw [hR, mL_boats_J521]
def mL_boats_J398 (σ : VS) (x2 : Int32) (x3 : Int32) : Int32 × VS := (if (mL_of σ.2 (mL_low x3 6) 5) < 0 then (mL_boats_J442 σ x2 x3) else (if (mL_of σ.2 (mL_low x3 6) 5) = (mL_low (x3 >>> ((3 : Int32) &&& 31)) 4) then (mL_boats_J442 σ x2 x3) else (if (((L_r σ.2) (7 * (mL_of σ.2 (mL_low x3 6) 5)).toNatClampNeg) - 1) ≤ (mL_place σ.2 (mL_low x3 6)) then (if (mL_room σ.2 (mL_low (x3 >>> ((3 : Int32) &&& 31)) 4)) < ((mL_of σ.2 (mL_low x3 6) 1) + 1) then (mL_boats_J502 σ x2 x3) else (if (mL_left σ.2) = 0 then (mL_boats_J502 σ x2 x3) else (mL_boats_J521 σ x2 x3))) else (mL_boats_J442 σ x2 x3))))
set_option maxHeartbeats 4000000 in
set_option maxRecDepth 100000 in
theorem j_L_boats_398 {p : Program} {e : Env} {s : State} {m : MethodId} {args : Array Value} {below : List Frame} {meth : Method} {c : Code} (l : Launch) (g : WG) (ad : AV) (σ : VS) (x2 : Int32) (x3 : Int32) (h_vok : VOK σ) (h_hok : HOK (W_hist σ.1)) (h_free : FRE σ.2) (h_kl2 : ¬ (mL_liftReason σ.2 (mL_low x3 6) (mL_low (x3 >>> ((3 : Int32) &&& 31)) 4)) ≤ 0 → KeelOK (W_yard (mX3_lift σ.1 (mL_low x3 6) (mL_low (x3 >>> ((3 : Int32) &&& 31)) 4)).2)) (c_1 : ¬ ((mL_of σ.2 (mL_low x3 6) 0) = 0)) (c_2 : (3 ≤ (mL_low x2 9))) (c_3 : (5 ≤ (mL_low x2 9))) (c_4 : ((mL_low x2 9) = 5)) (hC : Cx p s m args meth c yL_boats cL_boats 13 (some .boolean)) (hK : va_K g.1 vwCl (tysW g) s) {A : Nat → Prop} {ws0 : va_W} (hE : Ex A s s.heap) (hA : ∀ q : Nat, s.heap.size ≤ q → A q) (hAe : A = va_A ws0 s.heap.size) (H : Heap) (locs : List Loc) (hP : va_P g.1 vwCl (cV g ad σ) H) (hD : va_D A (cV g ad σ)) (hS : va_S A s.heap H locs) {r : Int32 × VS} (hR : r = mL_boats_J398 σ x2 x3) (ls : Array Slot) (hl : lv_has ls 13 [(9, .int (mL_low (x3 >>> ((3 : Int32) &&& 31)) 4)), (8, .int (mL_low x3 6)), (7, .int (mL_low x2 9)), (0, .ref ad.1.1), (1, .int x2), (2, .int x3), (3, .ref ad.2.1), (4, .ref ad.2.2.1), (5, .ref ad.2.2.2.1), (6, .ref ad.2.2.2.2)]) : W p l e (rk 7) s m args below meth c H locs 0 0 (MQ below (va_Qi (fun x _ => x = r.1) (Bw g ws0 (cV g ad r.2) s.heap.size) (va_A ws0 s.heap.size)) args s 0 0 (va_A ws0 s.heap.size)) (F0 m 398 ls []) := by
  obtain ⟨hx, hb, hml, hr, hown, hts, hlk, hnm⟩ := id hC
  refine lv_aload hx hb dL_boats_398 (lv_at hl 7 rfl) ?_
  refine lv_iload hx hb dL_boats_400 (lv_at hl 1 rfl) ?_
  refine lv_iconst (v := 5) hx hb dL_boats_402 (by decide) ?_
  refine callSd hC (k_L_of l g ad.2 σ.2 (mL_low x3 6) 5 (in_low (n := 6) rfl (by decide)) (in_iff.mpr (by decide))) ci_L_of lk_L_9 ⟨Nat.le_of_ble_eq_true rfl, Nat.le_of_ble_eq_true rfl⟩ (P_left hP) hK (hE.S hS).none rfl hl.1 rfl (Nat.le_of_ble_eq_true rfl) dL_boats_403 ⟨Nat.zero_le _, Nat.zero_le _⟩ ?_
  refine lv_istore (lv' := [(10, .int (mL_of σ.2 (mL_low x3 6) 5)), (9, .int (mL_low (x3 >>> ((3 : Int32) &&& 31)) 4)), (8, .int (mL_low x3 6)), (7, .int (mL_low x2 9)), (0, .ref ad.1.1), (1, .int x2), (2, .int x3), (3, .ref ad.2.1), (4, .ref ad.2.2.1), (5, .ref ad.2.2.2.1), (6, .ref ad.2.2.2.2)]) hx hb dL_boats_406 hl (by decide) rfl (fun ls hl => ?_)
  refine lv_iload hx hb dL_boats_408 (lv_at hl 0 rfl) ?_
  refine lv_if_lt (tgt := 442) hx hb dL_boats_410 (by decide) (fun c_33 => ?_) (fun c_33 => ?_)
  · refine j_L_boats_442 l g ad σ x2 x3 h_vok h_hok h_free h_kl2 hC hK hE hA hAe _ _ hP hD hS ?_ _ (lv_sub hl [0, 1, 2, 3, 4, 5, 6, 7, 8, 9, 10] rfl)
    exact by rw [hR, mL_boats_J398, if_pos c_33]
  · refine lv_iload hx hb dL_boats_413 (lv_at hl 0 rfl) ?_
    refine lv_iload hx hb dL_boats_415 (lv_at hl 1 rfl) ?_
    refine lv_icmp_eq (tgt := 442) hx hb dL_boats_417 (by decide) (fun c_36 => ?_) (fun c_36 => ?_)
    · refine j_L_boats_442 l g ad σ x2 x3 h_vok h_hok h_free h_kl2 hC hK hE hA hAe _ _ hP hD hS ?_ _ (lv_sub hl [0, 1, 2, 3, 4, 5, 6, 7, 8, 9, 10] rfl)
      exact by rw [hR, mL_boats_J398, if_neg c_33, if_pos c_36]
    · refine lv_iload hx hb dL_boats_420 (lv_at hl 2 rfl) ?_
      refine lv_aload hx hb dL_boats_422 (lv_at hl 8 rfl) ?_
      refine lv_aload hx hb dL_boats_424 (lv_at hl 10 rfl) ?_
      refine callSd hC (k_L_place l g ad.2 σ.2 (mL_low x3 6) (in_low (n := 6) rfl (by decide)) (h_vok.2.2.2.2 _ (in_low (n := 6) rfl (by decide)) c_1 (nlt0 c_33))) ci_L_place lk_L_38 ⟨Nat.le_of_ble_eq_true rfl, Nat.le_of_ble_eq_true rfl⟩ (P_left hP) hK (hE.S hS).none rfl hl.1 rfl (Nat.le_of_ble_eq_true rfl) dL_boats_426 ⟨Nat.zero_le _, Nat.zero_le _⟩ ?_
      refine lv_aload hx hb dL_boats_429 (lv_at hl 10 rfl) ?_
      refine lv_bipush (v := 7) hx hb dL_boats_431 (by decide) ?_
      refine lv_iload hx hb dL_boats_433 (lv_at hl 0 rfl) ?_
      refine lv_imul hx hb dL_boats_435 ?_
      refine lV_r hC hK hP (ix_70 (h_vok.2.2.2.2 _ (in_low (n := 6) rfl (by decide)) c_1 (nlt0 c_33)).1) dL_boats_436 ?_
      refine lv_iconst (v := 1) hx hb dL_boats_437 (by decide) ?_
      refine lv_isub hx hb dL_boats_438 ?_
      refine lv_icmp_ge (tgt := 472) hx hb dL_boats_439 (by decide) (fun c_37 => ?_) (fun c_37 => ?_)
      · refine lv_iload hx hb dL_boats_472 (lv_at hl 1 rfl) ?_
        refine lv_aload_n hx hb dL_boats_474 rfl (lv_at hl 7 rfl) ?_
        refine lv_aload hx hb dL_boats_475 (lv_at hl 8 rfl) ?_
        refine lv_aload hx hb dL_boats_477 (lv_at hl 10 rfl) ?_
        refine callSd hC (k_L_room l g ad.2 σ.2 (mL_low (x3 >>> ((3 : Int32) &&& 31)) 4) (in_low (n := 4) rfl (by decide)) h_vok.2.2.1) ci_L_room lk_L_30 ⟨Nat.le_of_ble_eq_true rfl, Nat.le_of_ble_eq_true rfl⟩ (P_left hP) hK (hE.S hS).none rfl hl.1 rfl (Nat.le_of_ble_eq_true rfl) dL_boats_479 ⟨Nat.zero_le _, Nat.zero_le _⟩ ?_
        refine lv_aload hx hb dL_boats_482 (lv_at hl 8 rfl) ?_
        refine lv_iload hx hb dL_boats_484 (lv_at hl 2 rfl) ?_
        refine lv_iconst (v := 1) hx hb dL_boats_486 (by decide) ?_
        refine callSd hC (k_L_of l g ad.2 σ.2 (mL_low x3 6) 1 (in_low (n := 6) rfl (by decide)) (in_iff.mpr (by decide))) ci_L_of lk_L_9 ⟨Nat.le_of_ble_eq_true rfl, Nat.le_of_ble_eq_true rfl⟩ (P_left hP) hK (hE.S hS).none rfl hl.1 rfl (Nat.le_of_ble_eq_true rfl) dL_boats_487 ⟨Nat.zero_le _, Nat.zero_le _⟩ ?_
        refine lv_iconst (v := 1) hx hb dL_boats_490 (by decide) ?_
        refine lv_iadd hx hb dL_boats_491 ?_
        refine lv_icmp_lt (tgt := 502) hx hb dL_boats_492 (by decide) (fun c_38 => ?_) (fun c_38 => ?_)
        · refine j_L_boats_502 l g ad σ x2 x3 h_vok h_hok h_free h_kl2 hC hK hE hA hAe _ _ hP hD hS ?_ _ (lv_sub hl [0, 1, 2, 3, 4, 5, 6, 7, 8, 9, 10] rfl)
          exact by rw [hR, mL_boats_J398, if_neg c_33, if_neg c_36, if_pos c_37, if_pos c_38]
        · refine lv_aload_n hx hb dL_boats_495 rfl (lv_at hl 7 rfl) ?_
          refine callSd hC (k_L_left l g ad.2 σ.2) ci_L_left lk_L_34 ⟨Nat.le_of_ble_eq_true rfl, Nat.le_of_ble_eq_true rfl⟩ (P_left hP) hK (hE.S hS).none rfl hl.1 rfl (Nat.le_of_ble_eq_true rfl) dL_boats_496 ⟨Nat.zero_le _, Nat.zero_le _⟩ ?_
          refine lv_if_ne (tgt := 521) hx hb dL_boats_499 (by decide) (fun c_40 => ?_) (fun c_40 => ?_)
          · refine j_L_boats_521 l g ad σ x2 x3 h_vok h_hok h_free h_kl2 c_1 c_2 c_3 c_4 c_33 c_36 c_37 c_38 c_40 hC hK hE hA hAe _ _ hP hD hS ?_ _ (lv_sub hl [0, 1, 2, 3, 4, 5, 6, 7, 8, 9, 10] rfl)
            exact by rw [hR, mL_boats_J398, if_neg c_33, if_neg c_36, if_pos c_37, if_neg c_38, if_neg c_40]
          · refine j_L_boats_502 l g ad σ x2 x3 h_vok h_hok h_free h_kl2 hC hK hE hA hAe _ _ hP hD hS ?_ _ (lv_sub hl [0, 1, 2, 3, 4, 5, 6, 7, 8, 9, 10] rfl)
            exact by rw [hR, mL_boats_J398, if_neg c_33, if_neg c_36, if_pos c_37, if_neg c_38, if_pos c_40]
      · refine j_L_boats_442 l g ad σ x2 x3 h_vok h_hok h_free h_kl2 hC hK hE hA hAe _ _ hP hD hS ?_ _ (lv_sub hl [0, 1, 2, 3, 4, 5, 6, 7, 8, 9, 10] rfl)
        exact by rw [hR, mL_boats_J398, if_neg c_33, if_neg c_36, if_neg c_37]
def mL_boats_J392 (σ : VS) (x2 : Int32) (x3 : Int32) : Int32 × VS := (if (mL_low x2 9) = 5 then (mL_boats_J398 σ x2 x3) else (mL_boats_J583 σ x2 x3))
set_option maxHeartbeats 4000000 in
set_option maxRecDepth 100000 in
theorem j_L_boats_392 {p : Program} {e : Env} {s : State} {m : MethodId} {args : Array Value} {below : List Frame} {meth : Method} {c : Code} (l : Launch) (g : WG) (ad : AV) (σ : VS) (x2 : Int32) (x3 : Int32) (h_vok : VOK σ) (h_hok : HOK (W_hist σ.1)) (h_free : FRE σ.2) (h_kl2 : ¬ (mL_liftReason σ.2 (mL_low x3 6) (mL_low (x3 >>> ((3 : Int32) &&& 31)) 4)) ≤ 0 → KeelOK (W_yard (mX3_lift σ.1 (mL_low x3 6) (mL_low (x3 >>> ((3 : Int32) &&& 31)) 4)).2)) (c_1 : ¬ ((mL_of σ.2 (mL_low x3 6) 0) = 0)) (c_2 : (3 ≤ (mL_low x2 9))) (c_3 : (5 ≤ (mL_low x2 9))) (hC : Cx p s m args meth c yL_boats cL_boats 13 (some .boolean)) (hK : va_K g.1 vwCl (tysW g) s) {A : Nat → Prop} {ws0 : va_W} (hE : Ex A s s.heap) (hA : ∀ q : Nat, s.heap.size ≤ q → A q) (hAe : A = va_A ws0 s.heap.size) (H : Heap) (locs : List Loc) (hP : va_P g.1 vwCl (cV g ad σ) H) (hD : va_D A (cV g ad σ)) (hS : va_S A s.heap H locs) {r : Int32 × VS} (hR : r = mL_boats_J392 σ x2 x3) (ls : Array Slot) (hl : lv_has ls 13 [(9, .int (mL_low (x3 >>> ((3 : Int32) &&& 31)) 4)), (8, .int (mL_low x3 6)), (7, .int (mL_low x2 9)), (0, .ref ad.1.1), (1, .int x2), (2, .int x3), (3, .ref ad.2.1), (4, .ref ad.2.2.1), (5, .ref ad.2.2.2.1), (6, .ref ad.2.2.2.2)]) : W p l e (rk 7) s m args below meth c H locs 0 0 (MQ below (va_Qi (fun x _ => x = r.1) (Bw g ws0 (cV g ad r.2) s.heap.size) (va_A ws0 s.heap.size)) args s 0 0 (va_A ws0 s.heap.size)) (F0 m 392 ls []) := by
  obtain ⟨hx, hb, hml, hr, hown, hts, hlk, hnm⟩ := id hC
  refine lv_iload hx hb dL_boats_392 (lv_at hl 2 rfl) ?_
  refine lv_iconst (v := 5) hx hb dL_boats_394 (by decide) ?_
  refine lv_icmp_ne (tgt := 583) hx hb dL_boats_395 (by decide) (fun c_4 => ?_) (fun c_4 => ?_)
  · refine j_L_boats_583 l g ad σ x2 x3 h_vok h_hok h_free h_kl2 c_1 c_2 c_3 c_4 hC hK hE hA hAe _ _ hP hD hS ?_ _ (lv_sub hl [0, 1, 2, 3, 4, 5, 6, 7, 8, 9] rfl)
    exact by rw [hR, mL_boats_J392, if_neg c_4]
  · refine j_L_boats_398 l g ad σ x2 x3 h_vok h_hok h_free h_kl2 c_1 c_2 c_3 c_4 hC hK hE hA hAe _ _ hP hD hS ?_ _ (lv_sub hl [0, 1, 2, 3, 4, 5, 6, 7, 8, 9] rfl)
    exact by rw [hR, mL_boats_J392, if_pos c_4]
def mL_boats_J252 (σ : VS) (x2 : Int32) (x3 : Int32) : Int32 × VS := (if (mL_launchReason σ.2 (mL_low x3 6)) ≤ 0 then (if (mX3_launch σ.1 (mL_low x3 6)).1 = (mL_of σ.2 (mL_low x3 6) 9) then (1, ((mX3_launch σ.1 (mL_low x3 6)).2, ((upd (upd (upd (L_g σ.2) (1 : Int32).toNatClampNeg (((L_g σ.2) (1 : Int32).toNatClampNeg) + 1)) (5 : Int32).toNatClampNeg (((upd (L_g σ.2) (1 : Int32).toNatClampNeg (((L_g σ.2) (1 : Int32).toNatClampNeg) + 1)) (5 : Int32).toNatClampNeg) + 1)) (6 : Int32).toNatClampNeg (((upd (upd (L_g σ.2) (1 : Int32).toNatClampNeg (((L_g σ.2) (1 : Int32).toNatClampNeg) + 1)) (5 : Int32).toNatClampNeg (((upd (L_g σ.2) (1 : Int32).toNatClampNeg (((L_g σ.2) (1 : Int32).toNatClampNeg) + 1)) (5 : Int32).toNatClampNeg) + 1)) (6 : Int32).toNatClampNeg) + 1)), (upd (upd (upd (L_b σ.2) ((10 * (mL_low x3 6)) + 5).toNatClampNeg (-1)) ((10 * (mL_low x3 6)) + 6).toNatClampNeg (-1)) ((10 * (mL_low x3 6)) + 9).toNatClampNeg 0), (L_t σ.2), (upd (L_r σ.2) (7 * (mL_of σ.2 (mL_low x3 6) 5)).toNatClampNeg (((L_r σ.2) (7 * (mL_of σ.2 (mL_low x3 6) 5)).toNatClampNeg) - 1))))) else (0, ((mX3_launch σ.1 (mL_low x3 6)).2, ((upd (upd (upd (L_g σ.2) (1 : Int32).toNatClampNeg (((L_g σ.2) (1 : Int32).toNatClampNeg) + 1)) (5 : Int32).toNatClampNeg (((upd (L_g σ.2) (1 : Int32).toNatClampNeg (((L_g σ.2) (1 : Int32).toNatClampNeg) + 1)) (5 : Int32).toNatClampNeg) + 1)) (6 : Int32).toNatClampNeg (((upd (upd (L_g σ.2) (1 : Int32).toNatClampNeg (((L_g σ.2) (1 : Int32).toNatClampNeg) + 1)) (5 : Int32).toNatClampNeg (((upd (L_g σ.2) (1 : Int32).toNatClampNeg (((L_g σ.2) (1 : Int32).toNatClampNeg) + 1)) (5 : Int32).toNatClampNeg) + 1)) (6 : Int32).toNatClampNeg) + 1)), (upd (upd (upd (L_b σ.2) ((10 * (mL_low x3 6)) + 5).toNatClampNeg (-1)) ((10 * (mL_low x3 6)) + 6).toNatClampNeg (-1)) ((10 * (mL_low x3 6)) + 9).toNatClampNeg 0), (L_t σ.2), (upd (L_r σ.2) (7 * (mL_of σ.2 (mL_low x3 6) 5)).toNatClampNeg (((L_r σ.2) (7 * (mL_of σ.2 (mL_low x3 6) 5)).toNatClampNeg) - 1)))))) else (if (mX3_launch σ.1 (mL_low x3 6)).1 = ((-10) - (mL_launchReason σ.2 (mL_low x3 6))) then (1, ((mX3_launch σ.1 (mL_low x3 6)).2, σ.2)) else (0, ((mX3_launch σ.1 (mL_low x3 6)).2, σ.2))))
set_option maxHeartbeats 4000000 in
set_option maxRecDepth 100000 in
theorem j_L_boats_252 {p : Program} {e : Env} {s : State} {m : MethodId} {args : Array Value} {below : List Frame} {meth : Method} {c : Code} (l : Launch) (g : WG) (ad : AV) (σ : VS) (x2 : Int32) (x3 : Int32) (h_vok : VOK σ) (h_hok : HOK (W_hist σ.1)) (h_free : FRE σ.2) (h_kl2 : ¬ (mL_liftReason σ.2 (mL_low x3 6) (mL_low (x3 >>> ((3 : Int32) &&& 31)) 4)) ≤ 0 → KeelOK (W_yard (mX3_lift σ.1 (mL_low x3 6) (mL_low (x3 >>> ((3 : Int32) &&& 31)) 4)).2)) (c_1 : ¬ ((mL_of σ.2 (mL_low x3 6) 0) = 0)) (c_2 : (3 ≤ (mL_low x2 9))) (c_3 : ¬ (5 ≤ (mL_low x2 9))) (hC : Cx p s m args meth c yL_boats cL_boats 13 (some .boolean)) (hK : va_K g.1 vwCl (tysW g) s) {A : Nat → Prop} {ws0 : va_W} (hE : Ex A s s.heap) (hA : ∀ q : Nat, s.heap.size ≤ q → A q) (hAe : A = va_A ws0 s.heap.size) (H : Heap) (locs : List Loc) (hP : va_P g.1 vwCl (cV g ad σ) H) (hD : va_D A (cV g ad σ)) (hS : va_S A s.heap H locs) {r : Int32 × VS} (hR : r = mL_boats_J252 σ x2 x3) (ls : Array Slot) (hl : lv_has ls 13 [(9, .int (mL_low (x3 >>> ((3 : Int32) &&& 31)) 4)), (8, .int (mL_low x3 6)), (7, .int (mL_low x2 9)), (0, .ref ad.1.1), (1, .int x2), (2, .int x3), (3, .ref ad.2.1), (4, .ref ad.2.2.1), (5, .ref ad.2.2.2.1), (6, .ref ad.2.2.2.2)]) : W p l e (rk 7) s m args below meth c H locs 0 0 (MQ below (va_Qi (fun x _ => x = r.1) (Bw g ws0 (cV g ad r.2) s.heap.size) (va_A ws0 s.heap.size)) args s 0 0 (va_A ws0 s.heap.size)) (F0 m 252 ls []) := by
  obtain ⟨hx, hb, hml, hr, hown, hts, hlk, hnm⟩ := id hC
  refine lv_iload hx hb dL_boats_252 (lv_at hl 1 rfl) ?_
  refine lv_aload_n hx hb dL_boats_254 rfl (lv_at hl 6 rfl) ?_
  refine lv_aload hx hb dL_boats_255 (lv_at hl 7 rfl) ?_
  refine lv_aload hx hb dL_boats_257 (lv_at hl 9 rfl) ?_
  refine callSd hC (k_L_launchReason l g ad.2 σ.2 (mL_low x3 6) (in_low (n := 6) rfl (by decide)) (h_vok.2.2.2.2 _ (in_low (n := 6) rfl (by decide)) c_1) h_vok.2.2.1) ci_L_launchReason lk_L_90 ⟨Nat.le_of_ble_eq_true rfl, Nat.le_of_ble_eq_true rfl⟩ (P_left hP) hK (hE.S hS).none rfl hl.1 rfl (Nat.le_of_ble_eq_true rfl) dL_boats_259 ⟨Nat.zero_le _, Nat.zero_le _⟩ ?_
  refine lv_istore (lv' := [(10, .int (mL_launchReason σ.2 (mL_low x3 6))), (9, .int (mL_low (x3 >>> ((3 : Int32) &&& 31)) 4)), (8, .int (mL_low x3 6)), (7, .int (mL_low x2 9)), (0, .ref ad.1.1), (1, .int x2), (2, .int x3), (3, .ref ad.2.1), (4, .ref ad.2.2.1), (5, .ref ad.2.2.2.1), (6, .ref ad.2.2.2.2)]) hx hb dL_boats_262 hl (by decide) rfl (fun ls hl => ?_)
  refine lv_iload hx hb dL_boats_264 (lv_at hl 0 rfl) ?_
  refine lv_if_le (tgt := 289) hx hb dL_boats_266 (by decide) (fun c_42 => ?_) (fun c_42 => ?_)
  · refine lv_aload hx hb dL_boats_289 (lv_at hl 8 rfl) ?_
    refine lv_iload hx hb dL_boats_291 (lv_at hl 2 rfl) ?_
    refine lv_bipush (v := 9) hx hb dL_boats_293 (by decide) ?_
    refine callSd hC (k_L_of l g ad.2 σ.2 (mL_low x3 6) 9 (in_low (n := 6) rfl (by decide)) (in_iff.mpr (by decide))) ci_L_of lk_L_9 ⟨Nat.le_of_ble_eq_true rfl, Nat.le_of_ble_eq_true rfl⟩ (P_left hP) hK (hE.S hS).none rfl hl.1 rfl (Nat.le_of_ble_eq_true rfl) dL_boats_295 ⟨Nat.zero_le _, Nat.zero_le _⟩ ?_
    refine lv_istore (lv' := [(11, .int (mL_of σ.2 (mL_low x3 6) 9)), (10, .int (mL_launchReason σ.2 (mL_low x3 6))), (9, .int (mL_low (x3 >>> ((3 : Int32) &&& 31)) 4)), (8, .int (mL_low x3 6)), (7, .int (mL_low x2 9)), (0, .ref ad.1.1), (1, .int x2), (2, .int x3), (3, .ref ad.2.1), (4, .ref ad.2.2.1), (5, .ref ad.2.2.2.1), (6, .ref ad.2.2.2.2)]) hx hb dL_boats_298 hl (by decide) rfl (fun ls hl => ?_)
    refine lv_aload hx hb dL_boats_300 (lv_at hl 11 rfl) ?_
    refine lv_bipush (v := 7) hx hb dL_boats_302 (by decide) ?_
    refine lv_aload hx hb dL_boats_304 (lv_at hl 9 rfl) ?_
    refine lv_iload hx hb dL_boats_306 (lv_at hl 3 rfl) ?_
    refine lv_iconst (v := 5) hx hb dL_boats_308 (by decide) ?_
    refine callSd hC (k_L_of l g ad.2 σ.2 (mL_low x3 6) 5 (in_low (n := 6) rfl (by decide)) (in_iff.mpr (by decide))) ci_L_of lk_L_9 ⟨Nat.le_of_ble_eq_true rfl, Nat.le_of_ble_eq_true rfl⟩ (P_left hP) hK (hE.S hS).none rfl hl.1 rfl (Nat.le_of_ble_eq_true rfl) dL_boats_309 ⟨Nat.zero_le _, Nat.zero_le _⟩ ?_
    refine lv_imul hx hb dL_boats_312 ?_
    refine lv_dup2_11 hx hb dL_boats_313 rfl rfl ?_
    refine lV_r hC hK hP (ix_70 (h_vok.2.2.2.2 _ (in_low (n := 6) rfl (by decide)) c_1 (lr_as c_42)).1) dL_boats_314 ?_
    refine lv_iconst (v := 1) hx hb dL_boats_315 (by decide) ?_
    refine lv_isub hx hb dL_boats_316 ?_
    refine sV_r hC hK hP hD hS (ix_70 (h_vok.2.2.2.2 _ (in_low (n := 6) rfl (by decide)) c_1 (lr_as c_42)).1) dL_boats_317 (fun H locs hP hD hS => ?_)
    have hP : va_P g.1 vwCl (cV g ad (σ.1, ((L_g σ.2), (L_b σ.2), (L_t σ.2), (upd (L_r σ.2) (7 * (mL_of σ.2 (mL_low x3 6) 5)).toNatClampNeg (((L_r σ.2) (7 * (mL_of σ.2 (mL_low x3 6) 5)).toNatClampNeg) - 1))))) H := hP
    have hD : va_D A (cV g ad (σ.1, ((L_g σ.2), (L_b σ.2), (L_t σ.2), (upd (L_r σ.2) (7 * (mL_of σ.2 (mL_low x3 6) 5)).toNatClampNeg (((L_r σ.2) (7 * (mL_of σ.2 (mL_low x3 6) 5)).toNatClampNeg) - 1))))) := hD
    refine lv_aload hx hb dL_boats_318 (lv_at hl 9 rfl) ?_
    refine lv_bipush (v := 10) hx hb dL_boats_320 (by decide) ?_
    refine lv_iload hx hb dL_boats_322 (lv_at hl 3 rfl) ?_
    refine lv_imul hx hb dL_boats_324 ?_
    refine lv_iconst (v := 5) hx hb dL_boats_325 (by decide) ?_
    refine lv_iadd hx hb dL_boats_326 ?_
    refine lv_iconst (v := (-1)) hx hb dL_boats_327 (by decide) ?_
    refine sV_b hC hK hP hD hS (ix_10 (in_low (n := 6) rfl (by decide)) (in_iff.mpr (by decide))) dL_boats_328 (fun H locs hP hD hS => ?_)
    have hP : va_P g.1 vwCl (cV g ad (σ.1, ((L_g σ.2), (upd (L_b σ.2) ((10 * (mL_low x3 6)) + 5).toNatClampNeg (-1)), (L_t σ.2), (upd (L_r σ.2) (7 * (mL_of σ.2 (mL_low x3 6) 5)).toNatClampNeg (((L_r σ.2) (7 * (mL_of σ.2 (mL_low x3 6) 5)).toNatClampNeg) - 1))))) H := hP
    have hD : va_D A (cV g ad (σ.1, ((L_g σ.2), (upd (L_b σ.2) ((10 * (mL_low x3 6)) + 5).toNatClampNeg (-1)), (L_t σ.2), (upd (L_r σ.2) (7 * (mL_of σ.2 (mL_low x3 6) 5)).toNatClampNeg (((L_r σ.2) (7 * (mL_of σ.2 (mL_low x3 6) 5)).toNatClampNeg) - 1))))) := hD
    refine lv_aload hx hb dL_boats_329 (lv_at hl 9 rfl) ?_
    refine lv_bipush (v := 10) hx hb dL_boats_331 (by decide) ?_
    refine lv_iload hx hb dL_boats_333 (lv_at hl 3 rfl) ?_
    refine lv_imul hx hb dL_boats_335 ?_
    refine lv_bipush (v := 6) hx hb dL_boats_336 (by decide) ?_
    refine lv_iadd hx hb dL_boats_338 ?_
    refine lv_iconst (v := (-1)) hx hb dL_boats_339 (by decide) ?_
    refine sV_b hC hK hP hD hS (ix_10 (in_low (n := 6) rfl (by decide)) (in_iff.mpr (by decide))) dL_boats_340 (fun H locs hP hD hS => ?_)
    have hP : va_P g.1 vwCl (cV g ad (σ.1, ((L_g σ.2), (upd (upd (L_b σ.2) ((10 * (mL_low x3 6)) + 5).toNatClampNeg (-1)) ((10 * (mL_low x3 6)) + 6).toNatClampNeg (-1)), (L_t σ.2), (upd (L_r σ.2) (7 * (mL_of σ.2 (mL_low x3 6) 5)).toNatClampNeg (((L_r σ.2) (7 * (mL_of σ.2 (mL_low x3 6) 5)).toNatClampNeg) - 1))))) H := hP
    have hD : va_D A (cV g ad (σ.1, ((L_g σ.2), (upd (upd (L_b σ.2) ((10 * (mL_low x3 6)) + 5).toNatClampNeg (-1)) ((10 * (mL_low x3 6)) + 6).toNatClampNeg (-1)), (L_t σ.2), (upd (L_r σ.2) (7 * (mL_of σ.2 (mL_low x3 6) 5)).toNatClampNeg (((L_r σ.2) (7 * (mL_of σ.2 (mL_low x3 6) 5)).toNatClampNeg) - 1))))) := hD
    refine lv_aload hx hb dL_boats_341 (lv_at hl 9 rfl) ?_
    refine lv_bipush (v := 10) hx hb dL_boats_343 (by decide) ?_
    refine lv_iload hx hb dL_boats_345 (lv_at hl 3 rfl) ?_
    refine lv_imul hx hb dL_boats_347 ?_
    refine lv_bipush (v := 9) hx hb dL_boats_348 (by decide) ?_
    refine lv_iadd hx hb dL_boats_350 ?_
    refine lv_iconst (v := 0) hx hb dL_boats_351 (by decide) ?_
    refine sV_b hC hK hP hD hS (ix_10 (in_low (n := 6) rfl (by decide)) (in_iff.mpr (by decide))) dL_boats_352 (fun H locs hP hD hS => ?_)
    have hP : va_P g.1 vwCl (cV g ad (σ.1, ((L_g σ.2), (upd (upd (upd (L_b σ.2) ((10 * (mL_low x3 6)) + 5).toNatClampNeg (-1)) ((10 * (mL_low x3 6)) + 6).toNatClampNeg (-1)) ((10 * (mL_low x3 6)) + 9).toNatClampNeg 0), (L_t σ.2), (upd (L_r σ.2) (7 * (mL_of σ.2 (mL_low x3 6) 5)).toNatClampNeg (((L_r σ.2) (7 * (mL_of σ.2 (mL_low x3 6) 5)).toNatClampNeg) - 1))))) H := hP
    have hD : va_D A (cV g ad (σ.1, ((L_g σ.2), (upd (upd (upd (L_b σ.2) ((10 * (mL_low x3 6)) + 5).toNatClampNeg (-1)) ((10 * (mL_low x3 6)) + 6).toNatClampNeg (-1)) ((10 * (mL_low x3 6)) + 9).toNatClampNeg 0), (L_t σ.2), (upd (L_r σ.2) (7 * (mL_of σ.2 (mL_low x3 6) 5)).toNatClampNeg (((L_r σ.2) (7 * (mL_of σ.2 (mL_low x3 6) 5)).toNatClampNeg) - 1))))) := hD
    refine lv_aload_n hx hb dL_boats_353 rfl (lv_at hl 8 rfl) ?_
    refine lv_iconst (v := 1) hx hb dL_boats_354 (by decide) ?_
    refine lv_dup2_11 hx hb dL_boats_355 rfl rfl ?_
    refine lV_g hC hK hP (in_iff.mpr (by decide)) dL_boats_356 ?_
    refine lv_iconst (v := 1) hx hb dL_boats_357 (by decide) ?_
    refine lv_iadd hx hb dL_boats_358 ?_
    refine sV_g hC hK hP hD hS (in_iff.mpr (by decide)) dL_boats_359 (fun H locs hP hD hS => ?_)
    have hP : va_P g.1 vwCl (cV g ad (σ.1, ((upd (L_g σ.2) (1 : Int32).toNatClampNeg (((L_g σ.2) (1 : Int32).toNatClampNeg) + 1)), (upd (upd (upd (L_b σ.2) ((10 * (mL_low x3 6)) + 5).toNatClampNeg (-1)) ((10 * (mL_low x3 6)) + 6).toNatClampNeg (-1)) ((10 * (mL_low x3 6)) + 9).toNatClampNeg 0), (L_t σ.2), (upd (L_r σ.2) (7 * (mL_of σ.2 (mL_low x3 6) 5)).toNatClampNeg (((L_r σ.2) (7 * (mL_of σ.2 (mL_low x3 6) 5)).toNatClampNeg) - 1))))) H := hP
    have hD : va_D A (cV g ad (σ.1, ((upd (L_g σ.2) (1 : Int32).toNatClampNeg (((L_g σ.2) (1 : Int32).toNatClampNeg) + 1)), (upd (upd (upd (L_b σ.2) ((10 * (mL_low x3 6)) + 5).toNatClampNeg (-1)) ((10 * (mL_low x3 6)) + 6).toNatClampNeg (-1)) ((10 * (mL_low x3 6)) + 9).toNatClampNeg 0), (L_t σ.2), (upd (L_r σ.2) (7 * (mL_of σ.2 (mL_low x3 6) 5)).toNatClampNeg (((L_r σ.2) (7 * (mL_of σ.2 (mL_low x3 6) 5)).toNatClampNeg) - 1))))) := hD
    refine lv_aload_n hx hb dL_boats_360 rfl (lv_at hl 8 rfl) ?_
    refine lv_iconst (v := 5) hx hb dL_boats_361 (by decide) ?_
    refine lv_dup2_11 hx hb dL_boats_362 rfl rfl ?_
    refine lV_g hC hK hP (in_iff.mpr (by decide)) dL_boats_363 ?_
    refine lv_iconst (v := 1) hx hb dL_boats_364 (by decide) ?_
    refine lv_iadd hx hb dL_boats_365 ?_
    refine sV_g hC hK hP hD hS (in_iff.mpr (by decide)) dL_boats_366 (fun H locs hP hD hS => ?_)
    have hP : va_P g.1 vwCl (cV g ad (σ.1, ((upd (upd (L_g σ.2) (1 : Int32).toNatClampNeg (((L_g σ.2) (1 : Int32).toNatClampNeg) + 1)) (5 : Int32).toNatClampNeg (((upd (L_g σ.2) (1 : Int32).toNatClampNeg (((L_g σ.2) (1 : Int32).toNatClampNeg) + 1)) (5 : Int32).toNatClampNeg) + 1)), (upd (upd (upd (L_b σ.2) ((10 * (mL_low x3 6)) + 5).toNatClampNeg (-1)) ((10 * (mL_low x3 6)) + 6).toNatClampNeg (-1)) ((10 * (mL_low x3 6)) + 9).toNatClampNeg 0), (L_t σ.2), (upd (L_r σ.2) (7 * (mL_of σ.2 (mL_low x3 6) 5)).toNatClampNeg (((L_r σ.2) (7 * (mL_of σ.2 (mL_low x3 6) 5)).toNatClampNeg) - 1))))) H := hP
    have hD : va_D A (cV g ad (σ.1, ((upd (upd (L_g σ.2) (1 : Int32).toNatClampNeg (((L_g σ.2) (1 : Int32).toNatClampNeg) + 1)) (5 : Int32).toNatClampNeg (((upd (L_g σ.2) (1 : Int32).toNatClampNeg (((L_g σ.2) (1 : Int32).toNatClampNeg) + 1)) (5 : Int32).toNatClampNeg) + 1)), (upd (upd (upd (L_b σ.2) ((10 * (mL_low x3 6)) + 5).toNatClampNeg (-1)) ((10 * (mL_low x3 6)) + 6).toNatClampNeg (-1)) ((10 * (mL_low x3 6)) + 9).toNatClampNeg 0), (L_t σ.2), (upd (L_r σ.2) (7 * (mL_of σ.2 (mL_low x3 6) 5)).toNatClampNeg (((L_r σ.2) (7 * (mL_of σ.2 (mL_low x3 6) 5)).toNatClampNeg) - 1))))) := hD
    refine lv_aload_n hx hb dL_boats_367 rfl (lv_at hl 8 rfl) ?_
    refine lv_bipush (v := 6) hx hb dL_boats_368 (by decide) ?_
    refine lv_dup2_11 hx hb dL_boats_370 rfl rfl ?_
    refine lV_g hC hK hP (in_iff.mpr (by decide)) dL_boats_371 ?_
    refine lv_iconst (v := 1) hx hb dL_boats_372 (by decide) ?_
    refine lv_iadd hx hb dL_boats_373 ?_
    refine sV_g hC hK hP hD hS (in_iff.mpr (by decide)) dL_boats_374 (fun H locs hP hD hS => ?_)
    have hP : va_P g.1 vwCl (cV g ad (σ.1, ((upd (upd (upd (L_g σ.2) (1 : Int32).toNatClampNeg (((L_g σ.2) (1 : Int32).toNatClampNeg) + 1)) (5 : Int32).toNatClampNeg (((upd (L_g σ.2) (1 : Int32).toNatClampNeg (((L_g σ.2) (1 : Int32).toNatClampNeg) + 1)) (5 : Int32).toNatClampNeg) + 1)) (6 : Int32).toNatClampNeg (((upd (upd (L_g σ.2) (1 : Int32).toNatClampNeg (((L_g σ.2) (1 : Int32).toNatClampNeg) + 1)) (5 : Int32).toNatClampNeg (((upd (L_g σ.2) (1 : Int32).toNatClampNeg (((L_g σ.2) (1 : Int32).toNatClampNeg) + 1)) (5 : Int32).toNatClampNeg) + 1)) (6 : Int32).toNatClampNeg) + 1)), (upd (upd (upd (L_b σ.2) ((10 * (mL_low x3 6)) + 5).toNatClampNeg (-1)) ((10 * (mL_low x3 6)) + 6).toNatClampNeg (-1)) ((10 * (mL_low x3 6)) + 9).toNatClampNeg 0), (L_t σ.2), (upd (L_r σ.2) (7 * (mL_of σ.2 (mL_low x3 6) 5)).toNatClampNeg (((L_r σ.2) (7 * (mL_of σ.2 (mL_low x3 6) 5)).toNatClampNeg) - 1))))) H := hP
    have hD : va_D A (cV g ad (σ.1, ((upd (upd (upd (L_g σ.2) (1 : Int32).toNatClampNeg (((L_g σ.2) (1 : Int32).toNatClampNeg) + 1)) (5 : Int32).toNatClampNeg (((upd (L_g σ.2) (1 : Int32).toNatClampNeg (((L_g σ.2) (1 : Int32).toNatClampNeg) + 1)) (5 : Int32).toNatClampNeg) + 1)) (6 : Int32).toNatClampNeg (((upd (upd (L_g σ.2) (1 : Int32).toNatClampNeg (((L_g σ.2) (1 : Int32).toNatClampNeg) + 1)) (5 : Int32).toNatClampNeg (((upd (L_g σ.2) (1 : Int32).toNatClampNeg (((L_g σ.2) (1 : Int32).toNatClampNeg) + 1)) (5 : Int32).toNatClampNeg) + 1)) (6 : Int32).toNatClampNeg) + 1)), (upd (upd (upd (L_b σ.2) ((10 * (mL_low x3 6)) + 5).toNatClampNeg (-1)) ((10 * (mL_low x3 6)) + 6).toNatClampNeg (-1)) ((10 * (mL_low x3 6)) + 9).toNatClampNeg 0), (L_t σ.2), (upd (L_r σ.2) (7 * (mL_of σ.2 (mL_low x3 6) 5)).toNatClampNeg (((L_r σ.2) (7 * (mL_of σ.2 (mL_low x3 6) 5)).toNatClampNeg) - 1))))) := hD
    refine lv_aload_n hx hb dL_boats_375 rfl (lv_at hl 5 rfl) ?_
    refine lv_iload hx hb dL_boats_376 (lv_at hl 3 rfl) ?_
    refine callWrR hC (k_X3_launch l g ad.1 σ.1 (mL_low x3 6) h_hok) ci_X3_launch lk_L_69 ⟨Nat.le_of_ble_eq_true rfl, Nat.le_of_ble_eq_true rfl⟩ hP hD hK hE hS hA (q0 := 0) rfl rfl rfl rfl hl.1 rfl (Nat.le_of_ble_eq_true rfl) dL_boats_378 ⟨Nat.zero_le _, Nat.zero_le _⟩ (fun H locs hP hD hS => ?_)
    have hP : va_P g.1 vwCl (cV g ad ((mX3_launch σ.1 (mL_low x3 6)).2, ((upd (upd (upd (L_g σ.2) (1 : Int32).toNatClampNeg (((L_g σ.2) (1 : Int32).toNatClampNeg) + 1)) (5 : Int32).toNatClampNeg (((upd (L_g σ.2) (1 : Int32).toNatClampNeg (((L_g σ.2) (1 : Int32).toNatClampNeg) + 1)) (5 : Int32).toNatClampNeg) + 1)) (6 : Int32).toNatClampNeg (((upd (upd (L_g σ.2) (1 : Int32).toNatClampNeg (((L_g σ.2) (1 : Int32).toNatClampNeg) + 1)) (5 : Int32).toNatClampNeg (((upd (L_g σ.2) (1 : Int32).toNatClampNeg (((L_g σ.2) (1 : Int32).toNatClampNeg) + 1)) (5 : Int32).toNatClampNeg) + 1)) (6 : Int32).toNatClampNeg) + 1)), (upd (upd (upd (L_b σ.2) ((10 * (mL_low x3 6)) + 5).toNatClampNeg (-1)) ((10 * (mL_low x3 6)) + 6).toNatClampNeg (-1)) ((10 * (mL_low x3 6)) + 9).toNatClampNeg 0), (L_t σ.2), (upd (L_r σ.2) (7 * (mL_of σ.2 (mL_low x3 6) 5)).toNatClampNeg (((L_r σ.2) (7 * (mL_of σ.2 (mL_low x3 6) 5)).toNatClampNeg) - 1))))) H := hP
    have hD : va_D A (cV g ad ((mX3_launch σ.1 (mL_low x3 6)).2, ((upd (upd (upd (L_g σ.2) (1 : Int32).toNatClampNeg (((L_g σ.2) (1 : Int32).toNatClampNeg) + 1)) (5 : Int32).toNatClampNeg (((upd (L_g σ.2) (1 : Int32).toNatClampNeg (((L_g σ.2) (1 : Int32).toNatClampNeg) + 1)) (5 : Int32).toNatClampNeg) + 1)) (6 : Int32).toNatClampNeg (((upd (upd (L_g σ.2) (1 : Int32).toNatClampNeg (((L_g σ.2) (1 : Int32).toNatClampNeg) + 1)) (5 : Int32).toNatClampNeg (((upd (L_g σ.2) (1 : Int32).toNatClampNeg (((L_g σ.2) (1 : Int32).toNatClampNeg) + 1)) (5 : Int32).toNatClampNeg) + 1)) (6 : Int32).toNatClampNeg) + 1)), (upd (upd (upd (L_b σ.2) ((10 * (mL_low x3 6)) + 5).toNatClampNeg (-1)) ((10 * (mL_low x3 6)) + 6).toNatClampNeg (-1)) ((10 * (mL_low x3 6)) + 9).toNatClampNeg 0), (L_t σ.2), (upd (L_r σ.2) (7 * (mL_of σ.2 (mL_low x3 6) 5)).toNatClampNeg (((L_r σ.2) (7 * (mL_of σ.2 (mL_low x3 6) 5)).toNatClampNeg) - 1))))) := hD
    refine lv_iload hx hb dL_boats_381 (lv_at hl 0 rfl) ?_
    refine lv_icmp_ne (tgt := 390) hx hb dL_boats_383 (by decide) (fun c_43 => ?_) (fun c_43 => ?_)
    · refine lv_iconst (v := 0) hx hb dL_boats_390 (by decide) ?_
      have hm : r = (0, ((mX3_launch σ.1 (mL_low x3 6)).2, ((upd (upd (upd (L_g σ.2) (1 : Int32).toNatClampNeg (((L_g σ.2) (1 : Int32).toNatClampNeg) + 1)) (5 : Int32).toNatClampNeg (((upd (L_g σ.2) (1 : Int32).toNatClampNeg (((L_g σ.2) (1 : Int32).toNatClampNeg) + 1)) (5 : Int32).toNatClampNeg) + 1)) (6 : Int32).toNatClampNeg (((upd (upd (L_g σ.2) (1 : Int32).toNatClampNeg (((L_g σ.2) (1 : Int32).toNatClampNeg) + 1)) (5 : Int32).toNatClampNeg (((upd (L_g σ.2) (1 : Int32).toNatClampNeg (((L_g σ.2) (1 : Int32).toNatClampNeg) + 1)) (5 : Int32).toNatClampNeg) + 1)) (6 : Int32).toNatClampNeg) + 1)), (upd (upd (upd (L_b σ.2) ((10 * (mL_low x3 6)) + 5).toNatClampNeg (-1)) ((10 * (mL_low x3 6)) + 6).toNatClampNeg (-1)) ((10 * (mL_low x3 6)) + 9).toNatClampNeg 0), (L_t σ.2), (upd (L_r σ.2) (7 * (mL_of σ.2 (mL_low x3 6) 5)).toNatClampNeg (((L_r σ.2) (7 * (mL_of σ.2 (mL_low x3 6) 5)).toNatClampNeg) - 1))))) := by rw [hR, mL_boats_J252, if_pos c_42, if_neg c_43]
      exact wr_zret hC hP (hAe ▸ hD) (hAe ▸ hS) dL_boats_391 rfl (by rw [hm]) (by rw [hm])
    · refine lv_iconst (v := 1) hx hb dL_boats_386 (by decide) ?_
      refine lv_goto (tgt := 391) hx hb dL_boats_387 (by decide) ?_
      have hm : r = (1, ((mX3_launch σ.1 (mL_low x3 6)).2, ((upd (upd (upd (L_g σ.2) (1 : Int32).toNatClampNeg (((L_g σ.2) (1 : Int32).toNatClampNeg) + 1)) (5 : Int32).toNatClampNeg (((upd (L_g σ.2) (1 : Int32).toNatClampNeg (((L_g σ.2) (1 : Int32).toNatClampNeg) + 1)) (5 : Int32).toNatClampNeg) + 1)) (6 : Int32).toNatClampNeg (((upd (upd (L_g σ.2) (1 : Int32).toNatClampNeg (((L_g σ.2) (1 : Int32).toNatClampNeg) + 1)) (5 : Int32).toNatClampNeg (((upd (L_g σ.2) (1 : Int32).toNatClampNeg (((L_g σ.2) (1 : Int32).toNatClampNeg) + 1)) (5 : Int32).toNatClampNeg) + 1)) (6 : Int32).toNatClampNeg) + 1)), (upd (upd (upd (L_b σ.2) ((10 * (mL_low x3 6)) + 5).toNatClampNeg (-1)) ((10 * (mL_low x3 6)) + 6).toNatClampNeg (-1)) ((10 * (mL_low x3 6)) + 9).toNatClampNeg 0), (L_t σ.2), (upd (L_r σ.2) (7 * (mL_of σ.2 (mL_low x3 6) 5)).toNatClampNeg (((L_r σ.2) (7 * (mL_of σ.2 (mL_low x3 6) 5)).toNatClampNeg) - 1))))) := by rw [hR, mL_boats_J252, if_pos c_42, if_pos c_43]
      exact wr_zret hC hP (hAe ▸ hD) (hAe ▸ hS) dL_boats_391 rfl (by rw [hm]) (by rw [hm])
  · refine lv_aload_n hx hb dL_boats_269 rfl (lv_at hl 4 rfl) ?_
    refine lv_iload hx hb dL_boats_270 (lv_at hl 2 rfl) ?_
    refine callWrR hC (k_X3_launch l g ad.1 σ.1 (mL_low x3 6) h_hok) ci_X3_launch lk_L_69 ⟨Nat.le_of_ble_eq_true rfl, Nat.le_of_ble_eq_true rfl⟩ hP hD hK hE hS hA (q0 := 0) rfl rfl rfl rfl hl.1 rfl (Nat.le_of_ble_eq_true rfl) dL_boats_272 ⟨Nat.zero_le _, Nat.zero_le _⟩ (fun H locs hP hD hS => ?_)
    have hP : va_P g.1 vwCl (cV g ad ((mX3_launch σ.1 (mL_low x3 6)).2, σ.2)) H := hP
    have hD : va_D A (cV g ad ((mX3_launch σ.1 (mL_low x3 6)).2, σ.2)) := hD
    refine lv_bipush (v := (-10)) hx hb dL_boats_275 (by decide) ?_
    refine lv_iload hx hb dL_boats_277 (lv_at hl 0 rfl) ?_
    refine lv_isub hx hb dL_boats_279 ?_
    refine lv_icmp_ne (tgt := 287) hx hb dL_boats_280 (by decide) (fun c_44 => ?_) (fun c_44 => ?_)
    · refine lv_iconst (v := 0) hx hb dL_boats_287 (by decide) ?_
      have hm : r = (0, ((mX3_launch σ.1 (mL_low x3 6)).2, σ.2)) := by rw [hR, mL_boats_J252, if_neg c_42, if_neg c_44]
      exact wr_zret hC hP (hAe ▸ hD) (hAe ▸ hS) dL_boats_288 rfl (by rw [hm]) (by rw [hm])
    · refine lv_iconst (v := 1) hx hb dL_boats_283 (by decide) ?_
      refine lv_goto (tgt := 288) hx hb dL_boats_284 (by decide) ?_
      have hm : r = (1, ((mX3_launch σ.1 (mL_low x3 6)).2, σ.2)) := by rw [hR, mL_boats_J252, if_neg c_42, if_pos c_44]
      exact wr_zret hC hP (hAe ▸ hD) (hAe ▸ hS) dL_boats_288 rfl (by rw [hm]) (by rw [hm])
def mL_boats_J246 (σ : VS) (x2 : Int32) (x3 : Int32) : Int32 × VS := (if 5 ≤ (mL_low x2 9) then (mL_boats_J392 σ x2 x3) else (mL_boats_J252 σ x2 x3))
set_option maxHeartbeats 4000000 in
set_option maxRecDepth 100000 in
theorem j_L_boats_246 {p : Program} {e : Env} {s : State} {m : MethodId} {args : Array Value} {below : List Frame} {meth : Method} {c : Code} (l : Launch) (g : WG) (ad : AV) (σ : VS) (x2 : Int32) (x3 : Int32) (h_vok : VOK σ) (h_hok : HOK (W_hist σ.1)) (h_free : FRE σ.2) (h_kl2 : ¬ (mL_liftReason σ.2 (mL_low x3 6) (mL_low (x3 >>> ((3 : Int32) &&& 31)) 4)) ≤ 0 → KeelOK (W_yard (mX3_lift σ.1 (mL_low x3 6) (mL_low (x3 >>> ((3 : Int32) &&& 31)) 4)).2)) (c_1 : ¬ ((mL_of σ.2 (mL_low x3 6) 0) = 0)) (c_2 : (3 ≤ (mL_low x2 9))) (hC : Cx p s m args meth c yL_boats cL_boats 13 (some .boolean)) (hK : va_K g.1 vwCl (tysW g) s) {A : Nat → Prop} {ws0 : va_W} (hE : Ex A s s.heap) (hA : ∀ q : Nat, s.heap.size ≤ q → A q) (hAe : A = va_A ws0 s.heap.size) (H : Heap) (locs : List Loc) (hP : va_P g.1 vwCl (cV g ad σ) H) (hD : va_D A (cV g ad σ)) (hS : va_S A s.heap H locs) {r : Int32 × VS} (hR : r = mL_boats_J246 σ x2 x3) (ls : Array Slot) (hl : lv_has ls 13 [(9, .int (mL_low (x3 >>> ((3 : Int32) &&& 31)) 4)), (8, .int (mL_low x3 6)), (7, .int (mL_low x2 9)), (0, .ref ad.1.1), (1, .int x2), (2, .int x3), (3, .ref ad.2.1), (4, .ref ad.2.2.1), (5, .ref ad.2.2.2.1), (6, .ref ad.2.2.2.2)]) : W p l e (rk 7) s m args below meth c H locs 0 0 (MQ below (va_Qi (fun x _ => x = r.1) (Bw g ws0 (cV g ad r.2) s.heap.size) (va_A ws0 s.heap.size)) args s 0 0 (va_A ws0 s.heap.size)) (F0 m 246 ls []) := by
  obtain ⟨hx, hb, hml, hr, hown, hts, hlk, hnm⟩ := id hC
  refine lv_iload hx hb dL_boats_246 (lv_at hl 2 rfl) ?_
  refine lv_iconst (v := 5) hx hb dL_boats_248 (by decide) ?_
  refine lv_icmp_ge (tgt := 392) hx hb dL_boats_249 (by decide) (fun c_3 => ?_) (fun c_3 => ?_)
  · refine j_L_boats_392 l g ad σ x2 x3 h_vok h_hok h_free h_kl2 c_1 c_2 c_3 hC hK hE hA hAe _ _ hP hD hS ?_ _ (lv_sub hl [0, 1, 2, 3, 4, 5, 6, 7, 8, 9] rfl)
    exact by rw [hR, mL_boats_J246, if_pos c_3]
  · refine j_L_boats_252 l g ad σ x2 x3 h_vok h_hok h_free h_kl2 c_1 c_2 c_3 hC hK hE hA hAe _ _ hP hD hS ?_ _ (lv_sub hl [0, 1, 2, 3, 4, 5, 6, 7, 8, 9] rfl)
    exact by rw [hR, mL_boats_J246, if_neg c_3]
def mL_boats_S207 (σ : VS) (x2 : Int32) (x3 : Int32) : Int32 × VS := (if (mX3_lift σ.1 (mL_low x3 6) (mL_low (x3 >>> ((3 : Int32) &&& 31)) 4)).1 = ((L_r σ.2) (7 * (mL_low (x3 >>> ((3 : Int32) &&& 31)) 4)).toNatClampNeg) then (1, ((mX3_lift σ.1 (mL_low x3 6) (mL_low (x3 >>> ((3 : Int32) &&& 31)) 4)).2, ((upd (upd (L_g σ.2) (1 : Int32).toNatClampNeg (((L_g σ.2) (1 : Int32).toNatClampNeg) + 1)) (5 : Int32).toNatClampNeg (((upd (L_g σ.2) (1 : Int32).toNatClampNeg (((L_g σ.2) (1 : Int32).toNatClampNeg) + 1)) (5 : Int32).toNatClampNeg) + 1)), (L_b σ.2), (L_t σ.2), (L_r σ.2)))) else (0, ((mX3_lift σ.1 (mL_low x3 6) (mL_low (x3 >>> ((3 : Int32) &&& 31)) 4)).2, ((upd (upd (L_g σ.2) (1 : Int32).toNatClampNeg (((L_g σ.2) (1 : Int32).toNatClampNeg) + 1)) (5 : Int32).toNatClampNeg (((upd (L_g σ.2) (1 : Int32).toNatClampNeg (((L_g σ.2) (1 : Int32).toNatClampNeg) + 1)) (5 : Int32).toNatClampNeg) + 1)), (L_b σ.2), (L_t σ.2), (L_r σ.2)))))
set_option maxHeartbeats 4000000 in
set_option maxRecDepth 100000 in
theorem j_L_boats_207 {p : Program} {e : Env} {s : State} {m : MethodId} {args : Array Value} {below : List Frame} {meth : Method} {c : Code} (l : Launch) (g : WG) (ad : AV) (σ : VS) (x2 : Int32) (x3 : Int32) (h_hok : HOK (W_hist σ.1)) (h_keels : KeelOK (W_yard σ.1)) (hC : Cx p s m args meth c yL_boats cL_boats 13 (some .boolean)) (hK : va_K g.1 vwCl (tysW g) s) {A : Nat → Prop} {ws0 : va_W} (hE : Ex A s s.heap) (hA : ∀ q : Nat, s.heap.size ≤ q → A q) (hAe : A = va_A ws0 s.heap.size) (H : Heap) (locs : List Loc) (hP : va_P g.1 vwCl (cV g ad σ) H) (hD : va_D A (cV g ad σ)) (hS : va_S A s.heap H locs) {r : Int32 × VS} (hR : r = mL_boats_S207 σ x2 x3) (ls : Array Slot) (hl : lv_has ls 13 [(9, .int (mL_low (x3 >>> ((3 : Int32) &&& 31)) 4)), (8, .int (mL_low x3 6)), (7, .int (mL_low x2 9)), (0, .ref ad.1.1), (1, .int x2), (2, .int x3), (3, .ref ad.2.1), (4, .ref ad.2.2.1), (5, .ref ad.2.2.2.1), (6, .ref ad.2.2.2.2)]) : W p l e (rk 7) s m args below meth c H locs 0 0 (MQ below (va_Qi (fun x _ => x = r.1) (Bw g ws0 (cV g ad r.2) s.heap.size) (va_A ws0 s.heap.size)) args s 0 0 (va_A ws0 s.heap.size)) (F0 m 207 ls []) := by
  obtain ⟨hx, hb, hml, hr, hown, hts, hlk, hnm⟩ := id hC
  refine lv_aload_n hx hb dL_boats_207 rfl (lv_at hl 6 rfl) ?_
  refine lv_iconst (v := 1) hx hb dL_boats_208 (by decide) ?_
  refine lv_dup2_11 hx hb dL_boats_209 rfl rfl ?_
  refine lV_g hC hK hP (in_iff.mpr (by decide)) dL_boats_210 ?_
  refine lv_iconst (v := 1) hx hb dL_boats_211 (by decide) ?_
  refine lv_iadd hx hb dL_boats_212 ?_
  refine sV_g hC hK hP hD hS (in_iff.mpr (by decide)) dL_boats_213 (fun H locs hP hD hS => ?_)
  have hP : va_P g.1 vwCl (cV g ad (σ.1, ((upd (L_g σ.2) (1 : Int32).toNatClampNeg (((L_g σ.2) (1 : Int32).toNatClampNeg) + 1)), (L_b σ.2), (L_t σ.2), (L_r σ.2)))) H := hP
  have hD : va_D A (cV g ad (σ.1, ((upd (L_g σ.2) (1 : Int32).toNatClampNeg (((L_g σ.2) (1 : Int32).toNatClampNeg) + 1)), (L_b σ.2), (L_t σ.2), (L_r σ.2)))) := hD
  refine lv_aload_n hx hb dL_boats_214 rfl (lv_at hl 6 rfl) ?_
  refine lv_iconst (v := 5) hx hb dL_boats_215 (by decide) ?_
  refine lv_dup2_11 hx hb dL_boats_216 rfl rfl ?_
  refine lV_g hC hK hP (in_iff.mpr (by decide)) dL_boats_217 ?_
  refine lv_iconst (v := 1) hx hb dL_boats_218 (by decide) ?_
  refine lv_iadd hx hb dL_boats_219 ?_
  refine sV_g hC hK hP hD hS (in_iff.mpr (by decide)) dL_boats_220 (fun H locs hP hD hS => ?_)
  have hP : va_P g.1 vwCl (cV g ad (σ.1, ((upd (upd (L_g σ.2) (1 : Int32).toNatClampNeg (((L_g σ.2) (1 : Int32).toNatClampNeg) + 1)) (5 : Int32).toNatClampNeg (((upd (L_g σ.2) (1 : Int32).toNatClampNeg (((L_g σ.2) (1 : Int32).toNatClampNeg) + 1)) (5 : Int32).toNatClampNeg) + 1)), (L_b σ.2), (L_t σ.2), (L_r σ.2)))) H := hP
  have hD : va_D A (cV g ad (σ.1, ((upd (upd (L_g σ.2) (1 : Int32).toNatClampNeg (((L_g σ.2) (1 : Int32).toNatClampNeg) + 1)) (5 : Int32).toNatClampNeg (((upd (L_g σ.2) (1 : Int32).toNatClampNeg (((L_g σ.2) (1 : Int32).toNatClampNeg) + 1)) (5 : Int32).toNatClampNeg) + 1)), (L_b σ.2), (L_t σ.2), (L_r σ.2)))) := hD
  refine lv_aload_n hx hb dL_boats_221 rfl (lv_at hl 3 rfl) ?_
  refine lv_iload hx hb dL_boats_222 (lv_at hl 1 rfl) ?_
  refine lv_iload hx hb dL_boats_224 (lv_at hl 0 rfl) ?_
  refine callWrR hC (k_X3_lift l g ad.1 σ.1 (mL_low x3 6) (mL_low (x3 >>> ((3 : Int32) &&& 31)) 4) h_hok h_keels) ci_X3_lift lk_L_66 ⟨Nat.le_of_ble_eq_true rfl, Nat.le_of_ble_eq_true rfl⟩ hP hD hK hE hS hA (q0 := 0) rfl rfl rfl rfl hl.1 rfl (Nat.le_of_ble_eq_true rfl) dL_boats_226 ⟨Nat.zero_le _, Nat.zero_le _⟩ (fun H locs hP hD hS => ?_)
  have hP : va_P g.1 vwCl (cV g ad ((mX3_lift σ.1 (mL_low x3 6) (mL_low (x3 >>> ((3 : Int32) &&& 31)) 4)).2, ((upd (upd (L_g σ.2) (1 : Int32).toNatClampNeg (((L_g σ.2) (1 : Int32).toNatClampNeg) + 1)) (5 : Int32).toNatClampNeg (((upd (L_g σ.2) (1 : Int32).toNatClampNeg (((L_g σ.2) (1 : Int32).toNatClampNeg) + 1)) (5 : Int32).toNatClampNeg) + 1)), (L_b σ.2), (L_t σ.2), (L_r σ.2)))) H := hP
  have hD : va_D A (cV g ad ((mX3_lift σ.1 (mL_low x3 6) (mL_low (x3 >>> ((3 : Int32) &&& 31)) 4)).2, ((upd (upd (L_g σ.2) (1 : Int32).toNatClampNeg (((L_g σ.2) (1 : Int32).toNatClampNeg) + 1)) (5 : Int32).toNatClampNeg (((upd (L_g σ.2) (1 : Int32).toNatClampNeg (((L_g σ.2) (1 : Int32).toNatClampNeg) + 1)) (5 : Int32).toNatClampNeg) + 1)), (L_b σ.2), (L_t σ.2), (L_r σ.2)))) := hD
  refine lv_aload hx hb dL_boats_229 (lv_at hl 9 rfl) ?_
  refine lv_bipush (v := 7) hx hb dL_boats_231 (by decide) ?_
  refine lv_iload hx hb dL_boats_233 (lv_at hl 0 rfl) ?_
  refine lv_imul hx hb dL_boats_235 ?_
  refine lV_r hC hK hP (ix_70 (in_low (n := 4) rfl (by decide))) dL_boats_236 ?_
  refine lv_icmp_ne (tgt := 244) hx hb dL_boats_237 (by decide) (fun c_46 => ?_) (fun c_46 => ?_)
  · refine lv_iconst (v := 0) hx hb dL_boats_244 (by decide) ?_
    have hm : r = (0, ((mX3_lift σ.1 (mL_low x3 6) (mL_low (x3 >>> ((3 : Int32) &&& 31)) 4)).2, ((upd (upd (L_g σ.2) (1 : Int32).toNatClampNeg (((L_g σ.2) (1 : Int32).toNatClampNeg) + 1)) (5 : Int32).toNatClampNeg (((upd (L_g σ.2) (1 : Int32).toNatClampNeg (((L_g σ.2) (1 : Int32).toNatClampNeg) + 1)) (5 : Int32).toNatClampNeg) + 1)), (L_b σ.2), (L_t σ.2), (L_r σ.2)))) := by rw [hR, mL_boats_S207, if_neg c_46]
    exact wr_zret hC hP (hAe ▸ hD) (hAe ▸ hS) dL_boats_245 rfl (by rw [hm]) (by rw [hm])
  · refine lv_iconst (v := 1) hx hb dL_boats_240 (by decide) ?_
    refine lv_goto (tgt := 245) hx hb dL_boats_241 (by decide) ?_
    have hm : r = (1, ((mX3_lift σ.1 (mL_low x3 6) (mL_low (x3 >>> ((3 : Int32) &&& 31)) 4)).2, ((upd (upd (L_g σ.2) (1 : Int32).toNatClampNeg (((L_g σ.2) (1 : Int32).toNatClampNeg) + 1)) (5 : Int32).toNatClampNeg (((upd (L_g σ.2) (1 : Int32).toNatClampNeg (((L_g σ.2) (1 : Int32).toNatClampNeg) + 1)) (5 : Int32).toNatClampNeg) + 1)), (L_b σ.2), (L_t σ.2), (L_r σ.2)))) := by rw [hR, mL_boats_S207, if_pos c_46]
    exact wr_zret hC hP (hAe ▸ hD) (hAe ▸ hS) dL_boats_245 rfl (by rw [hm]) (by rw [hm])
def mL_boats_J104 (σ : VS) (x2 : Int32) (x3 : Int32) : Int32 × VS := (if (mL_liftReason σ.2 (mL_low x3 6) (mL_low (x3 >>> ((3 : Int32) &&& 31)) 4)) ≤ 0 then (mL_boats_S207 (σ.1, (mL_stand ((L_g σ.2), (upd (upd (L_b σ.2) ((10 * (mL_low x3 6)) + 6).toNatClampNeg (mL_cradle σ.2 (mL_low x3 6))) ((10 * (mL_low x3 6)) + 9).toNatClampNeg 0), (upd (L_t σ.2) (mL_low x3 6).toNatClampNeg (((L_t σ.2) (mL_low x3 6).toNatClampNeg) + 1)), (L_r σ.2)) (mL_low x3 6) (mL_low (x3 >>> ((3 : Int32) &&& 31)) 4))) x2 x3) else (if (mX3_lift σ.1 (mL_low x3 6) (mL_low (x3 >>> ((3 : Int32) &&& 31)) 4)).1 = ((-10) - (mL_liftReason σ.2 (mL_low x3 6) (mL_low (x3 >>> ((3 : Int32) &&& 31)) 4))) then (if (mX3_lift (mX3_lift σ.1 (mL_low x3 6) (mL_low (x3 >>> ((3 : Int32) &&& 31)) 4)).2 (mL_low x3 6) 4).1 = (-1) then (1, ((mX3_lift (mX3_lift σ.1 (mL_low x3 6) (mL_low (x3 >>> ((3 : Int32) &&& 31)) 4)).2 (mL_low x3 6) 4).2, σ.2)) else (0, ((mX3_lift (mX3_lift σ.1 (mL_low x3 6) (mL_low (x3 >>> ((3 : Int32) &&& 31)) 4)).2 (mL_low x3 6) 4).2, σ.2))) else (0, ((mX3_lift σ.1 (mL_low x3 6) (mL_low (x3 >>> ((3 : Int32) &&& 31)) 4)).2, σ.2))))
set_option maxHeartbeats 4000000 in
set_option maxRecDepth 100000 in
theorem j_L_boats_104 {p : Program} {e : Env} {s : State} {m : MethodId} {args : Array Value} {below : List Frame} {meth : Method} {c : Code} (l : Launch) (g : WG) (ad : AV) (σ : VS) (x2 : Int32) (x3 : Int32) (h_vok : VOK σ) (h_hok : HOK (W_hist σ.1)) (h_free : FRE σ.2) (h_kl2 : ¬ (mL_liftReason σ.2 (mL_low x3 6) (mL_low (x3 >>> ((3 : Int32) &&& 31)) 4)) ≤ 0 → KeelOK (W_yard (mX3_lift σ.1 (mL_low x3 6) (mL_low (x3 >>> ((3 : Int32) &&& 31)) 4)).2)) (c_1 : ¬ ((mL_of σ.2 (mL_low x3 6) 0) = 0)) (c_2 : ¬ (3 ≤ (mL_low x2 9))) (hC : Cx p s m args meth c yL_boats cL_boats 13 (some .boolean)) (hK : va_K g.1 vwCl (tysW g) s) {A : Nat → Prop} {ws0 : va_W} (hE : Ex A s s.heap) (hA : ∀ q : Nat, s.heap.size ≤ q → A q) (hAe : A = va_A ws0 s.heap.size) (H : Heap) (locs : List Loc) (hP : va_P g.1 vwCl (cV g ad σ) H) (hD : va_D A (cV g ad σ)) (hS : va_S A s.heap H locs) {r : Int32 × VS} (hR : r = mL_boats_J104 σ x2 x3) (ls : Array Slot) (hl : lv_has ls 13 [(9, .int (mL_low (x3 >>> ((3 : Int32) &&& 31)) 4)), (8, .int (mL_low x3 6)), (7, .int (mL_low x2 9)), (0, .ref ad.1.1), (1, .int x2), (2, .int x3), (3, .ref ad.2.1), (4, .ref ad.2.2.1), (5, .ref ad.2.2.2.1), (6, .ref ad.2.2.2.2)]) : W p l e (rk 7) s m args below meth c H locs 0 0 (MQ below (va_Qi (fun x _ => x = r.1) (Bw g ws0 (cV g ad r.2) s.heap.size) (va_A ws0 s.heap.size)) args s 0 0 (va_A ws0 s.heap.size)) (F0 m 104 ls []) := by
  obtain ⟨hx, hb, hml, hr, hown, hts, hlk, hnm⟩ := id hC
  refine lv_iload hx hb dL_boats_104 (lv_at hl 1 rfl) ?_
  refine lv_iload hx hb dL_boats_106 (lv_at hl 0 rfl) ?_
  refine lv_aload_n hx hb dL_boats_108 rfl (lv_at hl 6 rfl) ?_
  refine lv_aload hx hb dL_boats_109 (lv_at hl 7 rfl) ?_
  refine lv_aload hx hb dL_boats_111 (lv_at hl 9 rfl) ?_
  refine callSd hC (k_L_liftReason l g ad.2 σ.2 (mL_low x3 6) (mL_low (x3 >>> ((3 : Int32) &&& 31)) 4) (in_low (n := 6) rfl (by decide)) (in_low (n := 4) rfl (by decide)) (h_vok.2.2.2.1 _ (in_low (n := 6) rfl (by decide))) h_vok.2.2.1) ci_L_liftReason lk_L_82 ⟨Nat.le_of_ble_eq_true rfl, Nat.le_of_ble_eq_true rfl⟩ (P_left hP) hK (hE.S hS).none rfl hl.1 rfl (Nat.le_of_ble_eq_true rfl) dL_boats_113 ⟨Nat.zero_le _, Nat.zero_le _⟩ ?_
  refine lv_istore (lv' := [(10, .int (mL_liftReason σ.2 (mL_low x3 6) (mL_low (x3 >>> ((3 : Int32) &&& 31)) 4))), (9, .int (mL_low (x3 >>> ((3 : Int32) &&& 31)) 4)), (8, .int (mL_low x3 6)), (7, .int (mL_low x2 9)), (0, .ref ad.1.1), (1, .int x2), (2, .int x3), (3, .ref ad.2.1), (4, .ref ad.2.2.1), (5, .ref ad.2.2.2.1), (6, .ref ad.2.2.2.2)]) hx hb dL_boats_116 hl (by decide) rfl (fun ls hl => ?_)
  refine lv_iload hx hb dL_boats_118 (lv_at hl 0 rfl) ?_
  refine lv_if_le (tgt := 156) hx hb dL_boats_120 (by decide) (fun c_45 => ?_) (fun c_45 => ?_)
  · refine lv_aload hx hb dL_boats_156 (lv_at hl 8 rfl) ?_
    refine lv_bipush (v := 10) hx hb dL_boats_158 (by decide) ?_
    refine lv_iload hx hb dL_boats_160 (lv_at hl 2 rfl) ?_
    refine lv_imul hx hb dL_boats_162 ?_
    refine lv_bipush (v := 6) hx hb dL_boats_163 (by decide) ?_
    refine lv_iadd hx hb dL_boats_165 ?_
    refine lv_iload hx hb dL_boats_166 (lv_at hl 2 rfl) ?_
    refine lv_aload_n hx hb dL_boats_168 rfl (lv_at hl 7 rfl) ?_
    refine lv_aload hx hb dL_boats_169 (lv_at hl 8 rfl) ?_
    refine callSd hC (k_L_cradle l g ad.2 σ.2 (mL_low x3 6) (in_low (n := 6) rfl (by decide)) (h_vok.2.2.2.1 _ (in_low (n := 6) rfl (by decide)))) ci_L_cradle lk_L_26 ⟨Nat.le_of_ble_eq_true rfl, Nat.le_of_ble_eq_true rfl⟩ (P_left hP) hK (hE.S hS).none rfl hl.1 rfl (Nat.le_of_ble_eq_true rfl) dL_boats_171 ⟨Nat.zero_le _, Nat.zero_le _⟩ ?_
    refine sV_b hC hK hP hD hS (ix_10 (in_low (n := 6) rfl (by decide)) (in_iff.mpr (by decide))) dL_boats_174 (fun H locs hP hD hS => ?_)
    have hP : va_P g.1 vwCl (cV g ad (σ.1, ((L_g σ.2), (upd (L_b σ.2) ((10 * (mL_low x3 6)) + 6).toNatClampNeg (mL_cradle σ.2 (mL_low x3 6))), (L_t σ.2), (L_r σ.2)))) H := hP
    have hD : va_D A (cV g ad (σ.1, ((L_g σ.2), (upd (L_b σ.2) ((10 * (mL_low x3 6)) + 6).toNatClampNeg (mL_cradle σ.2 (mL_low x3 6))), (L_t σ.2), (L_r σ.2)))) := hD
    refine lv_aload hx hb dL_boats_175 (lv_at hl 8 rfl) ?_
    refine lv_bipush (v := 10) hx hb dL_boats_177 (by decide) ?_
    refine lv_iload hx hb dL_boats_179 (lv_at hl 2 rfl) ?_
    refine lv_imul hx hb dL_boats_181 ?_
    refine lv_bipush (v := 9) hx hb dL_boats_182 (by decide) ?_
    refine lv_iadd hx hb dL_boats_184 ?_
    refine lv_iconst (v := 0) hx hb dL_boats_185 (by decide) ?_
    refine sV_b hC hK hP hD hS (ix_10 (in_low (n := 6) rfl (by decide)) (in_iff.mpr (by decide))) dL_boats_186 (fun H locs hP hD hS => ?_)
    have hP : va_P g.1 vwCl (cV g ad (σ.1, ((L_g σ.2), (upd (upd (L_b σ.2) ((10 * (mL_low x3 6)) + 6).toNatClampNeg (mL_cradle σ.2 (mL_low x3 6))) ((10 * (mL_low x3 6)) + 9).toNatClampNeg 0), (L_t σ.2), (L_r σ.2)))) H := hP
    have hD : va_D A (cV g ad (σ.1, ((L_g σ.2), (upd (upd (L_b σ.2) ((10 * (mL_low x3 6)) + 6).toNatClampNeg (mL_cradle σ.2 (mL_low x3 6))) ((10 * (mL_low x3 6)) + 9).toNatClampNeg 0), (L_t σ.2), (L_r σ.2)))) := hD
    refine lv_aload hx hb dL_boats_187 (lv_at hl 9 rfl) ?_
    refine lv_iload hx hb dL_boats_189 (lv_at hl 2 rfl) ?_
    refine lv_dup2_11 hx hb dL_boats_191 rfl rfl ?_
    refine lV_t hC hK hP (in_low (n := 6) rfl (by decide)) dL_boats_192 ?_
    refine lv_iconst (v := 1) hx hb dL_boats_193 (by decide) ?_
    refine lv_iadd hx hb dL_boats_194 ?_
    refine sV_t hC hK hP hD hS (in_low (n := 6) rfl (by decide)) dL_boats_195 (fun H locs hP hD hS => ?_)
    have hP : va_P g.1 vwCl (cV g ad (σ.1, ((L_g σ.2), (upd (upd (L_b σ.2) ((10 * (mL_low x3 6)) + 6).toNatClampNeg (mL_cradle σ.2 (mL_low x3 6))) ((10 * (mL_low x3 6)) + 9).toNatClampNeg 0), (upd (L_t σ.2) (mL_low x3 6).toNatClampNeg (((L_t σ.2) (mL_low x3 6).toNatClampNeg) + 1)), (L_r σ.2)))) H := hP
    have hD : va_D A (cV g ad (σ.1, ((L_g σ.2), (upd (upd (L_b σ.2) ((10 * (mL_low x3 6)) + 6).toNatClampNeg (mL_cradle σ.2 (mL_low x3 6))) ((10 * (mL_low x3 6)) + 9).toNatClampNeg 0), (upd (L_t σ.2) (mL_low x3 6).toNatClampNeg (((L_t σ.2) (mL_low x3 6).toNatClampNeg) + 1)), (L_r σ.2)))) := hD
    refine lv_iload hx hb dL_boats_196 (lv_at hl 2 rfl) ?_
    refine lv_iload hx hb dL_boats_198 (lv_at hl 1 rfl) ?_
    refine lv_aload hx hb dL_boats_200 (lv_at hl 8 rfl) ?_
    refine lv_aload hx hb dL_boats_202 (lv_at hl 10 rfl) ?_
    refine callSv hC (k_L_stand l g ad.2 ((L_g σ.2), (upd (upd (L_b σ.2) ((10 * (mL_low x3 6)) + 6).toNatClampNeg (mL_cradle σ.2 (mL_low x3 6))) ((10 * (mL_low x3 6)) + 9).toNatClampNeg 0), (upd (L_t σ.2) (mL_low x3 6).toNatClampNeg (((L_t σ.2) (mL_low x3 6).toNatClampNeg) + 1)), (L_r σ.2)) (mL_low x3 6) (mL_low (x3 >>> ((3 : Int32) &&& 31)) 4) (in_low (n := 6) rfl (by decide)) (in_low (n := 4) rfl (by decide)) (h_free _ _ (in_low (n := 6) rfl (by decide)) (in_low (n := 4) rfl (by decide)) c_1 (af_ne (lr_af c_45) (in_low (n := 4) rfl (by decide))))) ci_L_stand lk_L_86 ⟨Nat.le_of_ble_eq_true rfl, Nat.le_of_ble_eq_true rfl⟩ hP hD hK hE hS hA rfl hl.1 rfl (Nat.le_of_ble_eq_true rfl) dL_boats_204 ⟨Nat.zero_le _, Nat.zero_le _⟩ (fun H locs hP hD hS => ?_)
    have hP : va_P g.1 vwCl (cV g ad (σ.1, (mL_stand ((L_g σ.2), (upd (upd (L_b σ.2) ((10 * (mL_low x3 6)) + 6).toNatClampNeg (mL_cradle σ.2 (mL_low x3 6))) ((10 * (mL_low x3 6)) + 9).toNatClampNeg 0), (upd (L_t σ.2) (mL_low x3 6).toNatClampNeg (((L_t σ.2) (mL_low x3 6).toNatClampNeg) + 1)), (L_r σ.2)) (mL_low x3 6) (mL_low (x3 >>> ((3 : Int32) &&& 31)) 4)))) H := hP
    have hD : va_D A (cV g ad (σ.1, (mL_stand ((L_g σ.2), (upd (upd (L_b σ.2) ((10 * (mL_low x3 6)) + 6).toNatClampNeg (mL_cradle σ.2 (mL_low x3 6))) ((10 * (mL_low x3 6)) + 9).toNatClampNeg 0), (upd (L_t σ.2) (mL_low x3 6).toNatClampNeg (((L_t σ.2) (mL_low x3 6).toNatClampNeg) + 1)), (L_r σ.2)) (mL_low x3 6) (mL_low (x3 >>> ((3 : Int32) &&& 31)) 4)))) := hD
    refine j_L_boats_207 l g ad (σ.1, (mL_stand ((L_g σ.2), (upd (upd (L_b σ.2) ((10 * (mL_low x3 6)) + 6).toNatClampNeg (mL_cradle σ.2 (mL_low x3 6))) ((10 * (mL_low x3 6)) + 9).toNatClampNeg 0), (upd (L_t σ.2) (mL_low x3 6).toNatClampNeg (((L_t σ.2) (mL_low x3 6).toNatClampNeg) + 1)), (L_r σ.2)) (mL_low x3 6) (mL_low (x3 >>> ((3 : Int32) &&& 31)) 4))) x2 x3 h_hok h_vok.1 hC hK hE hA hAe _ _ hP hD hS ?_ _ (lv_sub hl [1, 2, 3, 4, 5, 6, 7, 8, 9, 10] rfl)
    exact by rw [hR, mL_boats_J104, if_pos c_45]
  · refine lv_aload_n hx hb dL_boats_123 rfl (lv_at hl 4 rfl) ?_
    refine lv_iload hx hb dL_boats_124 (lv_at hl 2 rfl) ?_
    refine lv_iload hx hb dL_boats_126 (lv_at hl 1 rfl) ?_
    refine callWrR hC (k_X3_lift l g ad.1 σ.1 (mL_low x3 6) (mL_low (x3 >>> ((3 : Int32) &&& 31)) 4) h_hok h_vok.1) ci_X3_lift lk_L_66 ⟨Nat.le_of_ble_eq_true rfl, Nat.le_of_ble_eq_true rfl⟩ hP hD hK hE hS hA (q0 := 0) rfl rfl rfl rfl hl.1 rfl (Nat.le_of_ble_eq_true rfl) dL_boats_128 ⟨Nat.zero_le _, Nat.zero_le _⟩ (fun H locs hP hD hS => ?_)
    have hP : va_P g.1 vwCl (cV g ad ((mX3_lift σ.1 (mL_low x3 6) (mL_low (x3 >>> ((3 : Int32) &&& 31)) 4)).2, σ.2)) H := hP
    have hD : va_D A (cV g ad ((mX3_lift σ.1 (mL_low x3 6) (mL_low (x3 >>> ((3 : Int32) &&& 31)) 4)).2, σ.2)) := hD
    refine lv_bipush (v := (-10)) hx hb dL_boats_131 (by decide) ?_
    refine lv_iload hx hb dL_boats_133 (lv_at hl 0 rfl) ?_
    refine lv_isub hx hb dL_boats_135 ?_
    refine lv_icmp_ne (tgt := 154) hx hb dL_boats_136 (by decide) (fun c_47 => ?_) (fun c_47 => ?_)
    · refine lv_iconst (v := 0) hx hb dL_boats_154 (by decide) ?_
      have hm : r = (0, ((mX3_lift σ.1 (mL_low x3 6) (mL_low (x3 >>> ((3 : Int32) &&& 31)) 4)).2, σ.2)) := by rw [hR, mL_boats_J104, if_neg c_45, if_neg c_47]
      exact wr_zret hC hP (hAe ▸ hD) (hAe ▸ hS) dL_boats_155 rfl (by rw [hm]) (by rw [hm])
    · refine lv_aload_n hx hb dL_boats_139 rfl (lv_at hl 4 rfl) ?_
      refine lv_iload hx hb dL_boats_140 (lv_at hl 2 rfl) ?_
      refine lv_iconst (v := 4) hx hb dL_boats_142 (by decide) ?_
      refine callWrR hC (k_X3_lift l g ad.1 (mX3_lift σ.1 (mL_low x3 6) (mL_low (x3 >>> ((3 : Int32) &&& 31)) 4)).2 (mL_low x3 6) 4 (hok_lift h_hok) (h_kl2 c_45)) ci_X3_lift lk_L_66 ⟨Nat.le_of_ble_eq_true rfl, Nat.le_of_ble_eq_true rfl⟩ hP hD hK hE hS hA (q0 := 0) rfl rfl rfl rfl hl.1 rfl (Nat.le_of_ble_eq_true rfl) dL_boats_143 ⟨Nat.zero_le _, Nat.zero_le _⟩ (fun H locs hP hD hS => ?_)
      have hP : va_P g.1 vwCl (cV g ad ((mX3_lift (mX3_lift σ.1 (mL_low x3 6) (mL_low (x3 >>> ((3 : Int32) &&& 31)) 4)).2 (mL_low x3 6) 4).2, σ.2)) H := hP
      have hD : va_D A (cV g ad ((mX3_lift (mX3_lift σ.1 (mL_low x3 6) (mL_low (x3 >>> ((3 : Int32) &&& 31)) 4)).2 (mL_low x3 6) 4).2, σ.2)) := hD
      refine lv_iconst (v := (-1)) hx hb dL_boats_146 (by decide) ?_
      refine lv_icmp_ne (tgt := 154) hx hb dL_boats_147 (by decide) (fun c_48 => ?_) (fun c_48 => ?_)
      · refine lv_iconst (v := 0) hx hb dL_boats_154 (by decide) ?_
        have hm : r = (0, ((mX3_lift (mX3_lift σ.1 (mL_low x3 6) (mL_low (x3 >>> ((3 : Int32) &&& 31)) 4)).2 (mL_low x3 6) 4).2, σ.2)) := by rw [hR, mL_boats_J104, if_neg c_45, if_pos c_47, if_neg c_48]
        exact wr_zret hC hP (hAe ▸ hD) (hAe ▸ hS) dL_boats_155 rfl (by rw [hm]) (by rw [hm])
      · refine lv_iconst (v := 1) hx hb dL_boats_150 (by decide) ?_
        refine lv_goto (tgt := 155) hx hb dL_boats_151 (by decide) ?_
        have hm : r = (1, ((mX3_lift (mX3_lift σ.1 (mL_low x3 6) (mL_low (x3 >>> ((3 : Int32) &&& 31)) 4)).2 (mL_low x3 6) 4).2, σ.2)) := by rw [hR, mL_boats_J104, if_neg c_45, if_pos c_47, if_pos c_48]
        exact wr_zret hC hP (hAe ▸ hD) (hAe ▸ hS) dL_boats_155 rfl (by rw [hm]) (by rw [hm])
def mL_boats_J98 (σ : VS) (x2 : Int32) (x3 : Int32) : Int32 × VS := (if 3 ≤ (mL_low x2 9) then (mL_boats_J246 σ x2 x3) else (mL_boats_J104 σ x2 x3))
set_option maxHeartbeats 4000000 in
set_option maxRecDepth 100000 in
theorem j_L_boats_98 {p : Program} {e : Env} {s : State} {m : MethodId} {args : Array Value} {below : List Frame} {meth : Method} {c : Code} (l : Launch) (g : WG) (ad : AV) (σ : VS) (x2 : Int32) (x3 : Int32) (h_vok : VOK σ) (h_hok : HOK (W_hist σ.1)) (h_free : FRE σ.2) (h_kl2 : ¬ (mL_liftReason σ.2 (mL_low x3 6) (mL_low (x3 >>> ((3 : Int32) &&& 31)) 4)) ≤ 0 → KeelOK (W_yard (mX3_lift σ.1 (mL_low x3 6) (mL_low (x3 >>> ((3 : Int32) &&& 31)) 4)).2)) (c_1 : ¬ ((mL_of σ.2 (mL_low x3 6) 0) = 0)) (hC : Cx p s m args meth c yL_boats cL_boats 13 (some .boolean)) (hK : va_K g.1 vwCl (tysW g) s) {A : Nat → Prop} {ws0 : va_W} (hE : Ex A s s.heap) (hA : ∀ q : Nat, s.heap.size ≤ q → A q) (hAe : A = va_A ws0 s.heap.size) (H : Heap) (locs : List Loc) (hP : va_P g.1 vwCl (cV g ad σ) H) (hD : va_D A (cV g ad σ)) (hS : va_S A s.heap H locs) {r : Int32 × VS} (hR : r = mL_boats_J98 σ x2 x3) (ls : Array Slot) (hl : lv_has ls 13 [(9, .int (mL_low (x3 >>> ((3 : Int32) &&& 31)) 4)), (8, .int (mL_low x3 6)), (7, .int (mL_low x2 9)), (0, .ref ad.1.1), (1, .int x2), (2, .int x3), (3, .ref ad.2.1), (4, .ref ad.2.2.1), (5, .ref ad.2.2.2.1), (6, .ref ad.2.2.2.2)]) : W p l e (rk 7) s m args below meth c H locs 0 0 (MQ below (va_Qi (fun x _ => x = r.1) (Bw g ws0 (cV g ad r.2) s.heap.size) (va_A ws0 s.heap.size)) args s 0 0 (va_A ws0 s.heap.size)) (F0 m 98 ls []) := by
  obtain ⟨hx, hb, hml, hr, hown, hts, hlk, hnm⟩ := id hC
  refine lv_iload hx hb dL_boats_98 (lv_at hl 2 rfl) ?_
  refine lv_iconst (v := 3) hx hb dL_boats_100 (by decide) ?_
  refine lv_icmp_ge (tgt := 246) hx hb dL_boats_101 (by decide) (fun c_2 => ?_) (fun c_2 => ?_)
  · refine j_L_boats_246 l g ad σ x2 x3 h_vok h_hok h_free h_kl2 c_1 c_2 hC hK hE hA hAe _ _ hP hD hS ?_ _ (lv_sub hl [0, 1, 2, 3, 4, 5, 6, 7, 8, 9] rfl)
    exact by rw [hR, mL_boats_J98, if_pos c_2]
  · refine j_L_boats_104 l g ad σ x2 x3 h_vok h_hok h_free h_kl2 c_1 c_2 hC hK hE hA hAe _ _ hP hD hS ?_ _ (lv_sub hl [0, 1, 2, 3, 4, 5, 6, 7, 8, 9] rfl)
    exact by rw [hR, mL_boats_J98, if_neg c_2]
def mL_boats (σ : VS) (x2 : Int32) (x3 : Int32) : Int32 × VS := (if (mL_of σ.2 (mL_low x3 6) 0) = 0 then (if (mX3_lift σ.1 (mL_low x3 6) (mL_low (x3 >>> ((3 : Int32) &&& 31)) 4)).1 = (-1) then (if (mX3_launch (mX3_lift σ.1 (mL_low x3 6) (mL_low (x3 >>> ((3 : Int32) &&& 31)) 4)).2 (mL_low x3 6)).1 = (-1) then (if (mX3_mast (mX3_launch (mX3_lift σ.1 (mL_low x3 6) (mL_low (x3 >>> ((3 : Int32) &&& 31)) 4)).2 (mL_low x3 6)).2 (mL_low x3 6) 1).1 = (-1) then (if (mX3_work (mX3_mast (mX3_launch (mX3_lift σ.1 (mL_low x3 6) (mL_low (x3 >>> ((3 : Int32) &&& 31)) 4)).2 (mL_low x3 6)).2 (mL_low x3 6) 1).2 (mL_low x3 6) 0).1 = (-1) then (if (mX3_move (mX3_work (mX3_mast (mX3_launch (mX3_lift σ.1 (mL_low x3 6) (mL_low (x3 >>> ((3 : Int32) &&& 31)) 4)).2 (mL_low x3 6)).2 (mL_low x3 6) 1).2 (mL_low x3 6) 0).2 (mL_low x3 6) (mL_low (x3 >>> ((3 : Int32) &&& 31)) 4)).1 = (-1) then (1, ((mX3_move (mX3_work (mX3_mast (mX3_launch (mX3_lift σ.1 (mL_low x3 6) (mL_low (x3 >>> ((3 : Int32) &&& 31)) 4)).2 (mL_low x3 6)).2 (mL_low x3 6) 1).2 (mL_low x3 6) 0).2 (mL_low x3 6) (mL_low (x3 >>> ((3 : Int32) &&& 31)) 4)).2, σ.2)) else (0, ((mX3_move (mX3_work (mX3_mast (mX3_launch (mX3_lift σ.1 (mL_low x3 6) (mL_low (x3 >>> ((3 : Int32) &&& 31)) 4)).2 (mL_low x3 6)).2 (mL_low x3 6) 1).2 (mL_low x3 6) 0).2 (mL_low x3 6) (mL_low (x3 >>> ((3 : Int32) &&& 31)) 4)).2, σ.2))) else (0, ((mX3_work (mX3_mast (mX3_launch (mX3_lift σ.1 (mL_low x3 6) (mL_low (x3 >>> ((3 : Int32) &&& 31)) 4)).2 (mL_low x3 6)).2 (mL_low x3 6) 1).2 (mL_low x3 6) 0).2, σ.2))) else (0, ((mX3_mast (mX3_launch (mX3_lift σ.1 (mL_low x3 6) (mL_low (x3 >>> ((3 : Int32) &&& 31)) 4)).2 (mL_low x3 6)).2 (mL_low x3 6) 1).2, σ.2))) else (0, ((mX3_launch (mX3_lift σ.1 (mL_low x3 6) (mL_low (x3 >>> ((3 : Int32) &&& 31)) 4)).2 (mL_low x3 6)).2, σ.2))) else (0, ((mX3_lift σ.1 (mL_low x3 6) (mL_low (x3 >>> ((3 : Int32) &&& 31)) 4)).2, σ.2))) else (mL_boats_J98 σ x2 x3))
set_option maxHeartbeats 4000000 in
set_option maxRecDepth 100000 in
theorem k_L_boats (l : Launch) (g : WG) (ad : AV) (σ : VS) (x2 : Int32) (x3 : Int32) (h_vok : VOK σ) (h_hok : HOK (W_hist σ.1)) (h_free : FRE σ.2) (h_kl2 : ¬ (mL_liftReason σ.2 (mL_low x3 6) (mL_low (x3 >>> ((3 : Int32) &&& 31)) 4)) ≤ 0 → KeelOK (W_yard (mX3_lift σ.1 (mL_low x3 6) (mL_low (x3 >>> ((3 : Int32) &&& 31)) 4)).2)) : Wr l yL_boats cL_boats 13 (some .boolean) 7 g (cV g ad σ) (cV g ad (mL_boats σ x2 x3).2) [.ref ad.1.1, .int x2, .int x3, .ref ad.2.1, .ref ad.2.2.1, .ref ad.2.2.2.1, .ref ad.2.2.2.2] (mL_boats σ x2 x3).1 := by
  refine wr_of (by decide) (Nat.le_of_ble_eq_true rfl) ?_
  intro p e s m args below meth c ls A hC hAe hP hD hK hE hA hS hl
  obtain ⟨hx, hb, hml, hr, hown, hts, hlk, hnm⟩ := id hC
  have hl : lv_has ls 13 [(0, .ref ad.1.1), (1, .int x2), (2, .int x3), (3, .ref ad.2.1), (4, .ref ad.2.2.1), (5, .ref ad.2.2.2.1), (6, .ref ad.2.2.2.2)] := hl
  refine lv_iload_n hx hb dL_boats_0 rfl (lv_at hl 1 rfl) ?_
  refine lv_bipush (v := 9) hx hb dL_boats_1 (by decide) ?_
  refine callRs hC (k_L_low l g x2 9 (by first | decide | (split <;> decide))) ci_L_low lk_L_41 ⟨Nat.le_of_ble_eq_true rfl, Nat.le_of_ble_eq_true rfl⟩ hK (hE.S hS).none rfl hl.1 rfl (Nat.le_of_ble_eq_true rfl) dL_boats_3 ⟨Nat.zero_le _, Nat.zero_le _⟩ ?_
  refine lv_istore (lv' := [(7, .int (mL_low x2 9)), (0, .ref ad.1.1), (1, .int x2), (2, .int x3), (3, .ref ad.2.1), (4, .ref ad.2.2.1), (5, .ref ad.2.2.2.1), (6, .ref ad.2.2.2.2)]) hx hb dL_boats_6 hl (by decide) rfl (fun ls hl => ?_)
  refine lv_iload_n hx hb dL_boats_8 rfl (lv_at hl 3 rfl) ?_
  refine lv_bipush (v := 6) hx hb dL_boats_9 (by decide) ?_
  refine callRs hC (k_L_low l g x3 6 (by first | decide | (split <;> decide))) ci_L_low lk_L_41 ⟨Nat.le_of_ble_eq_true rfl, Nat.le_of_ble_eq_true rfl⟩ hK (hE.S hS).none rfl hl.1 rfl (Nat.le_of_ble_eq_true rfl) dL_boats_11 ⟨Nat.zero_le _, Nat.zero_le _⟩ ?_
  refine lv_istore (lv' := [(8, .int (mL_low x3 6)), (7, .int (mL_low x2 9)), (0, .ref ad.1.1), (1, .int x2), (2, .int x3), (3, .ref ad.2.1), (4, .ref ad.2.2.1), (5, .ref ad.2.2.2.1), (6, .ref ad.2.2.2.2)]) hx hb dL_boats_14 hl (by decide) rfl (fun ls hl => ?_)
  refine lv_iload_n hx hb dL_boats_16 rfl (lv_at hl 4 rfl) ?_
  refine lv_iconst (v := 3) hx hb dL_boats_17 (by decide) ?_
  refine lv_ishr hx hb dL_boats_18 ?_
  refine lv_iconst (v := 4) hx hb dL_boats_19 (by decide) ?_
  refine callRs hC (k_L_low l g (x3 >>> ((3 : Int32) &&& 31)) 4 (by first | decide | (split <;> decide))) ci_L_low lk_L_41 ⟨Nat.le_of_ble_eq_true rfl, Nat.le_of_ble_eq_true rfl⟩ hK (hE.S hS).none rfl hl.1 rfl (Nat.le_of_ble_eq_true rfl) dL_boats_20 ⟨Nat.zero_le _, Nat.zero_le _⟩ ?_
  refine lv_istore (lv' := [(9, .int (mL_low (x3 >>> ((3 : Int32) &&& 31)) 4)), (8, .int (mL_low x3 6)), (7, .int (mL_low x2 9)), (0, .ref ad.1.1), (1, .int x2), (2, .int x3), (3, .ref ad.2.1), (4, .ref ad.2.2.1), (5, .ref ad.2.2.2.1), (6, .ref ad.2.2.2.2)]) hx hb dL_boats_23 hl (by decide) rfl (fun ls hl => ?_)
  refine lv_aload hx hb dL_boats_25 (lv_at hl 7 rfl) ?_
  refine lv_iload hx hb dL_boats_27 (lv_at hl 1 rfl) ?_
  refine lv_iconst (v := 0) hx hb dL_boats_29 (by decide) ?_
  refine callSd hC (k_L_of l g ad.2 σ.2 (mL_low x3 6) 0 (in_low (n := 6) rfl (by decide)) (in_iff.mpr (by decide))) ci_L_of lk_L_9 ⟨Nat.le_of_ble_eq_true rfl, Nat.le_of_ble_eq_true rfl⟩ (P_left hP) hK (hE.S hS).none rfl hl.1 rfl (Nat.le_of_ble_eq_true rfl) dL_boats_30 ⟨Nat.zero_le _, Nat.zero_le _⟩ ?_
  refine lv_if_ne (tgt := 98) hx hb dL_boats_33 (by decide) (fun c_1 => ?_) (fun c_1 => ?_)
  · refine j_L_boats_98 l g ad σ x2 x3 h_vok h_hok h_free h_kl2 c_1 hC hK hE hA hAe _ _ hP hD hS ?_ _ (lv_sub hl [0, 1, 2, 3, 4, 5, 6, 7, 8, 9] rfl)
    exact by unfold mL_boats; rw [if_neg c_1]
  · refine lv_aload_n hx hb dL_boats_36 rfl (lv_at hl 3 rfl) ?_
    refine lv_iload hx hb dL_boats_37 (lv_at hl 1 rfl) ?_
    refine lv_iload hx hb dL_boats_39 (lv_at hl 0 rfl) ?_
    refine callWrR hC (k_X3_lift l g ad.1 σ.1 (mL_low x3 6) (mL_low (x3 >>> ((3 : Int32) &&& 31)) 4) h_hok h_vok.1) ci_X3_lift lk_L_66 ⟨Nat.le_of_ble_eq_true rfl, Nat.le_of_ble_eq_true rfl⟩ hP hD hK hE hS hA (q0 := 0) rfl rfl rfl rfl hl.1 rfl (Nat.le_of_ble_eq_true rfl) dL_boats_41 ⟨Nat.zero_le _, Nat.zero_le _⟩ (fun H locs hP hD hS => ?_)
    have hP : va_P g.1 vwCl (cV g ad ((mX3_lift σ.1 (mL_low x3 6) (mL_low (x3 >>> ((3 : Int32) &&& 31)) 4)).2, σ.2)) H := hP
    have hD : va_D A (cV g ad ((mX3_lift σ.1 (mL_low x3 6) (mL_low (x3 >>> ((3 : Int32) &&& 31)) 4)).2, σ.2)) := hD
    refine lv_iconst (v := (-1)) hx hb dL_boats_44 (by decide) ?_
    refine lv_icmp_ne (tgt := 96) hx hb dL_boats_45 (by decide) (fun c_49 => ?_) (fun c_49 => ?_)
    · refine lv_iconst (v := 0) hx hb dL_boats_96 (by decide) ?_
      have hm : mL_boats σ x2 x3 = (0, ((mX3_lift σ.1 (mL_low x3 6) (mL_low (x3 >>> ((3 : Int32) &&& 31)) 4)).2, σ.2)) := by unfold mL_boats; rw [if_pos c_1, if_neg c_49]
      exact wr_zret hC hP (hAe ▸ hD) (hAe ▸ hS) dL_boats_97 rfl (by rw [hm]) (by rw [hm])
    · refine lv_aload_n hx hb dL_boats_48 rfl (lv_at hl 3 rfl) ?_
      refine lv_iload hx hb dL_boats_49 (lv_at hl 1 rfl) ?_
      refine callWrR hC (k_X3_launch l g ad.1 (mX3_lift σ.1 (mL_low x3 6) (mL_low (x3 >>> ((3 : Int32) &&& 31)) 4)).2 (mL_low x3 6) (hok_lift h_hok)) ci_X3_launch lk_L_69 ⟨Nat.le_of_ble_eq_true rfl, Nat.le_of_ble_eq_true rfl⟩ hP hD hK hE hS hA (q0 := 0) rfl rfl rfl rfl hl.1 rfl (Nat.le_of_ble_eq_true rfl) dL_boats_51 ⟨Nat.zero_le _, Nat.zero_le _⟩ (fun H locs hP hD hS => ?_)
      have hP : va_P g.1 vwCl (cV g ad ((mX3_launch (mX3_lift σ.1 (mL_low x3 6) (mL_low (x3 >>> ((3 : Int32) &&& 31)) 4)).2 (mL_low x3 6)).2, σ.2)) H := hP
      have hD : va_D A (cV g ad ((mX3_launch (mX3_lift σ.1 (mL_low x3 6) (mL_low (x3 >>> ((3 : Int32) &&& 31)) 4)).2 (mL_low x3 6)).2, σ.2)) := hD
      refine lv_iconst (v := (-1)) hx hb dL_boats_54 (by decide) ?_
      refine lv_icmp_ne (tgt := 96) hx hb dL_boats_55 (by decide) (fun c_50 => ?_) (fun c_50 => ?_)
      · refine lv_iconst (v := 0) hx hb dL_boats_96 (by decide) ?_
        have hm : mL_boats σ x2 x3 = (0, ((mX3_launch (mX3_lift σ.1 (mL_low x3 6) (mL_low (x3 >>> ((3 : Int32) &&& 31)) 4)).2 (mL_low x3 6)).2, σ.2)) := by unfold mL_boats; rw [if_pos c_1, if_pos c_49, if_neg c_50]
        exact wr_zret hC hP (hAe ▸ hD) (hAe ▸ hS) dL_boats_97 rfl (by rw [hm]) (by rw [hm])
      · refine lv_aload_n hx hb dL_boats_58 rfl (lv_at hl 3 rfl) ?_
        refine lv_iload hx hb dL_boats_59 (lv_at hl 1 rfl) ?_
        refine lv_iconst (v := 1) hx hb dL_boats_61 (by decide) ?_
        refine callWrR hC (k_X3_mast l g ad.1 (mX3_launch (mX3_lift σ.1 (mL_low x3 6) (mL_low (x3 >>> ((3 : Int32) &&& 31)) 4)).2 (mL_low x3 6)).2 (mL_low x3 6) 1 (hok_launch (hok_lift h_hok))) ci_X3_mast lk_L_72 ⟨Nat.le_of_ble_eq_true rfl, Nat.le_of_ble_eq_true rfl⟩ hP hD hK hE hS hA (q0 := 0) rfl rfl rfl rfl hl.1 rfl (Nat.le_of_ble_eq_true rfl) dL_boats_62 ⟨Nat.zero_le _, Nat.zero_le _⟩ (fun H locs hP hD hS => ?_)
        have hP : va_P g.1 vwCl (cV g ad ((mX3_mast (mX3_launch (mX3_lift σ.1 (mL_low x3 6) (mL_low (x3 >>> ((3 : Int32) &&& 31)) 4)).2 (mL_low x3 6)).2 (mL_low x3 6) 1).2, σ.2)) H := hP
        have hD : va_D A (cV g ad ((mX3_mast (mX3_launch (mX3_lift σ.1 (mL_low x3 6) (mL_low (x3 >>> ((3 : Int32) &&& 31)) 4)).2 (mL_low x3 6)).2 (mL_low x3 6) 1).2, σ.2)) := hD
        refine lv_iconst (v := (-1)) hx hb dL_boats_65 (by decide) ?_
        refine lv_icmp_ne (tgt := 96) hx hb dL_boats_66 (by decide) (fun c_51 => ?_) (fun c_51 => ?_)
        · refine lv_iconst (v := 0) hx hb dL_boats_96 (by decide) ?_
          have hm : mL_boats σ x2 x3 = (0, ((mX3_mast (mX3_launch (mX3_lift σ.1 (mL_low x3 6) (mL_low (x3 >>> ((3 : Int32) &&& 31)) 4)).2 (mL_low x3 6)).2 (mL_low x3 6) 1).2, σ.2)) := by unfold mL_boats; rw [if_pos c_1, if_pos c_49, if_pos c_50, if_neg c_51]
          exact wr_zret hC hP (hAe ▸ hD) (hAe ▸ hS) dL_boats_97 rfl (by rw [hm]) (by rw [hm])
        · refine lv_aload_n hx hb dL_boats_69 rfl (lv_at hl 3 rfl) ?_
          refine lv_iload hx hb dL_boats_70 (lv_at hl 1 rfl) ?_
          refine lv_iconst (v := 0) hx hb dL_boats_72 (by decide) ?_
          refine callWrR hC (k_X3_work l g ad.1 (mX3_mast (mX3_launch (mX3_lift σ.1 (mL_low x3 6) (mL_low (x3 >>> ((3 : Int32) &&& 31)) 4)).2 (mL_low x3 6)).2 (mL_low x3 6) 1).2 (mL_low x3 6) 0 (hok_mast (hok_launch (hok_lift h_hok)))) ci_X3_work lk_L_76 ⟨Nat.le_of_ble_eq_true rfl, Nat.le_of_ble_eq_true rfl⟩ hP hD hK hE hS hA (q0 := 0) rfl rfl rfl rfl hl.1 rfl (Nat.le_of_ble_eq_true rfl) dL_boats_73 ⟨Nat.zero_le _, Nat.zero_le _⟩ (fun H locs hP hD hS => ?_)
          have hP : va_P g.1 vwCl (cV g ad ((mX3_work (mX3_mast (mX3_launch (mX3_lift σ.1 (mL_low x3 6) (mL_low (x3 >>> ((3 : Int32) &&& 31)) 4)).2 (mL_low x3 6)).2 (mL_low x3 6) 1).2 (mL_low x3 6) 0).2, σ.2)) H := hP
          have hD : va_D A (cV g ad ((mX3_work (mX3_mast (mX3_launch (mX3_lift σ.1 (mL_low x3 6) (mL_low (x3 >>> ((3 : Int32) &&& 31)) 4)).2 (mL_low x3 6)).2 (mL_low x3 6) 1).2 (mL_low x3 6) 0).2, σ.2)) := hD
          refine lv_iconst (v := (-1)) hx hb dL_boats_76 (by decide) ?_
          refine lv_icmp_ne (tgt := 96) hx hb dL_boats_77 (by decide) (fun c_52 => ?_) (fun c_52 => ?_)
          · refine lv_iconst (v := 0) hx hb dL_boats_96 (by decide) ?_
            have hm : mL_boats σ x2 x3 = (0, ((mX3_work (mX3_mast (mX3_launch (mX3_lift σ.1 (mL_low x3 6) (mL_low (x3 >>> ((3 : Int32) &&& 31)) 4)).2 (mL_low x3 6)).2 (mL_low x3 6) 1).2 (mL_low x3 6) 0).2, σ.2)) := by unfold mL_boats; rw [if_pos c_1, if_pos c_49, if_pos c_50, if_pos c_51, if_neg c_52]
            exact wr_zret hC hP (hAe ▸ hD) (hAe ▸ hS) dL_boats_97 rfl (by rw [hm]) (by rw [hm])
          · refine lv_aload_n hx hb dL_boats_80 rfl (lv_at hl 3 rfl) ?_
            refine lv_iload hx hb dL_boats_81 (lv_at hl 1 rfl) ?_
            refine lv_iload hx hb dL_boats_83 (lv_at hl 0 rfl) ?_
            refine callWrR hC (k_X3_move l g ad.1 (mX3_work (mX3_mast (mX3_launch (mX3_lift σ.1 (mL_low x3 6) (mL_low (x3 >>> ((3 : Int32) &&& 31)) 4)).2 (mL_low x3 6)).2 (mL_low x3 6) 1).2 (mL_low x3 6) 0).2 (mL_low x3 6) (mL_low (x3 >>> ((3 : Int32) &&& 31)) 4) (hok_work (hok_mast (hok_launch (hok_lift h_hok))))) ci_X3_move lk_L_79 ⟨Nat.le_of_ble_eq_true rfl, Nat.le_of_ble_eq_true rfl⟩ hP hD hK hE hS hA (q0 := 0) rfl rfl rfl rfl hl.1 rfl (Nat.le_of_ble_eq_true rfl) dL_boats_85 ⟨Nat.zero_le _, Nat.zero_le _⟩ (fun H locs hP hD hS => ?_)
            have hP : va_P g.1 vwCl (cV g ad ((mX3_move (mX3_work (mX3_mast (mX3_launch (mX3_lift σ.1 (mL_low x3 6) (mL_low (x3 >>> ((3 : Int32) &&& 31)) 4)).2 (mL_low x3 6)).2 (mL_low x3 6) 1).2 (mL_low x3 6) 0).2 (mL_low x3 6) (mL_low (x3 >>> ((3 : Int32) &&& 31)) 4)).2, σ.2)) H := hP
            have hD : va_D A (cV g ad ((mX3_move (mX3_work (mX3_mast (mX3_launch (mX3_lift σ.1 (mL_low x3 6) (mL_low (x3 >>> ((3 : Int32) &&& 31)) 4)).2 (mL_low x3 6)).2 (mL_low x3 6) 1).2 (mL_low x3 6) 0).2 (mL_low x3 6) (mL_low (x3 >>> ((3 : Int32) &&& 31)) 4)).2, σ.2)) := hD
            refine lv_iconst (v := (-1)) hx hb dL_boats_88 (by decide) ?_
            refine lv_icmp_ne (tgt := 96) hx hb dL_boats_89 (by decide) (fun c_53 => ?_) (fun c_53 => ?_)
            · refine lv_iconst (v := 0) hx hb dL_boats_96 (by decide) ?_
              have hm : mL_boats σ x2 x3 = (0, ((mX3_move (mX3_work (mX3_mast (mX3_launch (mX3_lift σ.1 (mL_low x3 6) (mL_low (x3 >>> ((3 : Int32) &&& 31)) 4)).2 (mL_low x3 6)).2 (mL_low x3 6) 1).2 (mL_low x3 6) 0).2 (mL_low x3 6) (mL_low (x3 >>> ((3 : Int32) &&& 31)) 4)).2, σ.2)) := by unfold mL_boats; rw [if_pos c_1, if_pos c_49, if_pos c_50, if_pos c_51, if_pos c_52, if_neg c_53]
              exact wr_zret hC hP (hAe ▸ hD) (hAe ▸ hS) dL_boats_97 rfl (by rw [hm]) (by rw [hm])
            · refine lv_iconst (v := 1) hx hb dL_boats_92 (by decide) ?_
              refine lv_goto (tgt := 97) hx hb dL_boats_93 (by decide) ?_
              have hm : mL_boats σ x2 x3 = (1, ((mX3_move (mX3_work (mX3_mast (mX3_launch (mX3_lift σ.1 (mL_low x3 6) (mL_low (x3 >>> ((3 : Int32) &&& 31)) 4)).2 (mL_low x3 6)).2 (mL_low x3 6) 1).2 (mL_low x3 6) 0).2 (mL_low x3 6) (mL_low (x3 >>> ((3 : Int32) &&& 31)) 4)).2, σ.2)) := by unfold mL_boats; rw [if_pos c_1, if_pos c_49, if_pos c_50, if_pos c_51, if_pos c_52, if_pos c_53]
              exact wr_zret hC hP (hAe ▸ hD) (hAe ▸ hS) dL_boats_97 rfl (by rw [hm]) (by rw [hm])
