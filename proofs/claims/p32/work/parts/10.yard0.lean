def mX3_within (x1 : Int32) (x2 : Int32) (x3 : Int32) : Int32 := (if x1 < x2 then 0 else (if x3 < x1 then 0 else 1))
theorem in_within {x hi : Int32} {k : Nat} (hk : hi.toInt = k) (c : ¬ mX3_within x 0 hi = 0) : vp_in x (k + 1) := by
  unfold mX3_within at c
  rw [in_iff]
  split at c
  · exact absurd rfl c
  · split at c
    · exact absurd rfl c
    · rename_i h1 h2
      rw [lt_ti] at h1 h2
      have : (0 : Int32).toInt = 0 := rfl
      omega
theorem bz_X3_within {x lo hi : Int32} : narrow .boolean (.int (mX3_within x lo hi)) = .int (mX3_within x lo hi) := by
  unfold mX3_within
  split
  · rfl
  · split <;> rfl
theorem ge_gt {x N k : Int32} (h : N.toInt = k.toInt + 1) : N ≤ x ↔ k < x := by
  rw [le_ti, lt_ti]
  omega
theorem rng_eq {x N k : Int32} (h : N.toInt = k.toInt + 1) : (if x < 0 then (0 : Int32) else (if N ≤ x then 0 else 1)) = mX3_within x 0 k := ite_congr rfl (fun _ => rfl) (fun _ => ite_congr (propext (ge_gt h)) (fun _ => rfl) (fun _ => rfl))
theorem within_ne {x hi : Int32} {k : Nat} (hk : hi.toInt = k) (h : vp_in x (k + 1)) : ¬ mX3_within x 0 hi = 0 := by
  obtain ⟨h1, h2⟩ := in_iff.mp h
  unfold mX3_within
  have e0 : (0 : Int32).toInt = 0 := rfl
  rw [if_neg (by rw [lt_ti]; omega), if_neg (by rw [lt_ti]; omega)]
  decide
theorem in_mt {u : Int32} (h0 : 0 ≤ u.toInt) (h1 : u.toInt ≤ 220) (c : ¬ (220 : Int32) < u + 11) : vp_in u 210 := by
  have e9 := up_add (d := 11) (k := 11) (M := 220) rfl h0 h1 (by decide) (by decide)
  have e : (220 : Int32).toInt = 220 := rfl
  rw [lt_ti, e9, e] at c
  exact in_iff.mpr ⟨h0, by omega⟩
theorem ix_ab {a b : Int32} {n m N : Nat} (ha : vp_in a n) (hb : vp_in b m) (hN : n + m ≤ N + 1) (hM : N < 2147483648) : vp_in (a + b) N := by
  obtain ⟨h1, h2⟩ := in_iff.mp ha
  obtain ⟨h3, h4⟩ := in_iff.mp hb
  refine in_iff.mpr ?_
  rw [ti_add (by omega) (by omega)]
  omega
set_option maxHeartbeats 4000000 in
set_option maxRecDepth 100000 in
theorem k_X3_within (l : Launch) (g : WG) (x1 : Int32) (x2 : Int32) (x3 : Int32) : Rd l yX3_within cX3_within 3 (some .boolean) 0 (Wl g [] (fun _ => False)) [.int x1, .int x2, .int x3] (mX3_within x1 x2 x3) := by
  refine rd_of (by decide) (Nat.le_of_ble_eq_true rfl) ?_
  intro p e s m args below meth c ls hC hW hl
  obtain ⟨hP, hK, hE⟩ := hW
  obtain ⟨hx, hb, hml, hr, hown, hts, hlk, hnm⟩ := id hC
  have hl : lv_has ls 3 [(0, .int x1), (1, .int x2), (2, .int x3)] := hl
  refine lv_iload_n hx hb dX3_within_0 rfl (lv_at hl 0 rfl) ?_
  refine lv_iload_n hx hb dX3_within_1 rfl (lv_at hl 1 rfl) ?_
  refine lv_icmp_lt (tgt := 14) hx hb dX3_within_2 (by decide) (fun c_1 => ?_) (fun c_1 => ?_)
  · refine lv_iconst (v := 0) hx hb dX3_within_14 (by decide) ?_
    exact rd_zret hC dX3_within_15 rfl (Eq.symm (by unfold mX3_within; rw [if_pos c_1]))
  · refine lv_iload_n hx hb dX3_within_5 rfl (lv_at hl 0 rfl) ?_
    refine lv_iload_n hx hb dX3_within_6 rfl (lv_at hl 2 rfl) ?_
    refine lv_icmp_gt (tgt := 14) hx hb dX3_within_7 (by decide) (fun c_2 => ?_) (fun c_2 => ?_)
    · refine lv_iconst (v := 0) hx hb dX3_within_14 (by decide) ?_
      exact rd_zret hC dX3_within_15 rfl (Eq.symm (by unfold mX3_within; rw [if_neg c_1, if_pos c_2]))
    · refine lv_iconst (v := 1) hx hb dX3_within_10 (by decide) ?_
      refine lv_goto (tgt := 15) hx hb dX3_within_11 (by decide) ?_
      exact rd_zret hC dX3_within_15 rfl (Eq.symm (by unfold mX3_within; rw [if_neg c_1, if_neg c_2]))
def mX2_isFactG (x1 : Int32) : Int32 := (if x1 < 0 then 0 else (if 11 ≤ x1 then 0 else 1))
set_option maxHeartbeats 4000000 in
set_option maxRecDepth 100000 in
theorem k_X2_isFactG (l : Launch) (g : WG) (x1 : Int32) : Rd l yX2_isFact cX2_isFact 1 (some .boolean) 0 (Wl g [] (fun _ => False)) [.int x1] (mX2_isFactG x1) := by
  refine rd_of (by decide) (Nat.le_of_ble_eq_true rfl) ?_
  intro p e s m args below meth c ls hC hW hl
  obtain ⟨hP, hK, hE⟩ := hW
  obtain ⟨hx, hb, hml, hr, hown, hts, hlk, hnm⟩ := id hC
  have hl : lv_has ls 1 [(0, .int x1)] := hl
  refine lv_iload_n hx hb dX2_isFact_0 rfl (lv_at hl 0 rfl) ?_
  refine lv_if_lt (tgt := 14) hx hb dX2_isFact_1 (by decide) (fun c_1 => ?_) (fun c_1 => ?_)
  · refine lv_iconst (v := 0) hx hb dX2_isFact_14 (by decide) ?_
    exact rd_zret hC dX2_isFact_15 rfl (Eq.symm (by unfold mX2_isFactG; rw [if_pos c_1]))
  · refine lv_iload_n hx hb dX2_isFact_4 rfl (lv_at hl 0 rfl) ?_
    refine lv_bipush (v := 11) hx hb dX2_isFact_5 (by decide) ?_
    refine lv_icmp_ge (tgt := 14) hx hb dX2_isFact_7 (by decide) (fun c_2 => ?_) (fun c_2 => ?_)
    · refine lv_iconst (v := 0) hx hb dX2_isFact_14 (by decide) ?_
      exact rd_zret hC dX2_isFact_15 rfl (Eq.symm (by unfold mX2_isFactG; rw [if_neg c_1, if_pos c_2]))
    · refine lv_iconst (v := 1) hx hb dX2_isFact_10 (by decide) ?_
      refine lv_goto (tgt := 15) hx hb dX2_isFact_11 (by decide) ?_
      exact rd_zret hC dX2_isFact_15 rfl (Eq.symm (by unfold mX2_isFactG; rw [if_neg c_1, if_neg c_2]))
def mX2_isFact (x1 : Int32) : Int32 := (mX3_within x1 0 10)
theorem ad_X2_isFact {x1 : Int32} : mX2_isFactG x1 = mX2_isFact x1 := rng_eq (N := 11) (k := 10) (by decide)
theorem k_X2_isFact (l : Launch) (g : WG) (x1 : Int32) : Rd l yX2_isFact cX2_isFact 1 (some .boolean) 0 (Wl g [] (fun _ => False)) [.int x1] (mX2_isFact x1) := (ad_X2_isFact (x1 := x1)) ▸ (k_X2_isFactG l g x1)
theorem in_X2_isFact {x : Int32} (c : ¬ mX2_isFact x = 0) : vp_in x 11 := in_within (k := 10) rfl c
theorem ne_X2_isFact {x : Int32} (h : vp_in x 11) : ¬ mX2_isFact x = 0 := within_ne (k := 10) rfl h
def mX2_hasPlaceFor (x1 : Int32) (x2 : Int32) : Int32 := (if x1 < 0 then 0 else (if 20 ≤ x1 then 0 else (if (mX2_isFact x2) = 0 then 0 else 1)))
set_option maxHeartbeats 4000000 in
set_option maxRecDepth 100000 in
theorem k_X2_hasPlaceFor (l : Launch) (g : WG) (x1 : Int32) (x2 : Int32) : Rd l yX2_hasPlaceFor cX2_hasPlaceFor 2 (some .boolean) 1 (Wl g [] (fun _ => False)) [.int x1, .int x2] (mX2_hasPlaceFor x1 x2) := by
  refine rd_of (by decide) (Nat.le_of_ble_eq_true rfl) ?_
  intro p e s m args below meth c ls hC hW hl
  obtain ⟨hP, hK, hE⟩ := hW
  obtain ⟨hx, hb, hml, hr, hown, hts, hlk, hnm⟩ := id hC
  have hl : lv_has ls 2 [(0, .int x1), (1, .int x2)] := hl
  refine lv_iload_n hx hb dX2_hasPlaceFor_0 rfl (lv_at hl 0 rfl) ?_
  refine lv_if_lt (tgt := 21) hx hb dX2_hasPlaceFor_1 (by decide) (fun c_1 => ?_) (fun c_1 => ?_)
  · refine lv_iconst (v := 0) hx hb dX2_hasPlaceFor_21 (by decide) ?_
    exact rd_zret hC dX2_hasPlaceFor_22 rfl (Eq.symm (by unfold mX2_hasPlaceFor; rw [if_pos c_1]))
  · refine lv_iload_n hx hb dX2_hasPlaceFor_4 rfl (lv_at hl 0 rfl) ?_
    refine lv_bipush (v := 20) hx hb dX2_hasPlaceFor_5 (by decide) ?_
    refine lv_icmp_ge (tgt := 21) hx hb dX2_hasPlaceFor_7 (by decide) (fun c_2 => ?_) (fun c_2 => ?_)
    · refine lv_iconst (v := 0) hx hb dX2_hasPlaceFor_21 (by decide) ?_
      exact rd_zret hC dX2_hasPlaceFor_22 rfl (Eq.symm (by unfold mX2_hasPlaceFor; rw [if_neg c_1, if_pos c_2]))
    · refine lv_iload_n hx hb dX2_hasPlaceFor_10 rfl (lv_at hl 1 rfl) ?_
      refine callRs hC (k_X2_isFact l g x2) ci_X2_isFact lk_X2_51 ⟨Nat.le_of_ble_eq_true rfl, Nat.le_of_ble_eq_true rfl⟩ hK hE rfl hl.1 rfl (Nat.le_of_ble_eq_true rfl) dX2_hasPlaceFor_11 ⟨Nat.zero_le _, Nat.zero_le _⟩ ?_
      refine lv_if_eq (tgt := 21) hx hb dX2_hasPlaceFor_14 (by decide) (fun c_3 => ?_) (fun c_3 => ?_)
      · refine lv_iconst (v := 0) hx hb dX2_hasPlaceFor_21 (by decide) ?_
        exact rd_zret hC dX2_hasPlaceFor_22 rfl (Eq.symm (by unfold mX2_hasPlaceFor; rw [if_neg c_1, if_neg c_2, if_pos c_3]))
      · refine lv_iconst (v := 1) hx hb dX2_hasPlaceFor_17 (by decide) ?_
        refine lv_goto (tgt := 22) hx hb dX2_hasPlaceFor_18 (by decide) ?_
        exact rd_zret hC dX2_hasPlaceFor_22 rfl (Eq.symm (by unfold mX2_hasPlaceFor; rw [if_neg c_1, if_neg c_2, if_neg c_3]))
theorem in_X2_hasPlaceFor {x1 x2 : Int32} (c : ¬ mX2_hasPlaceFor x1 x2 = 0) : vp_in x1 20 ∧ vp_in x2 11 := by
  unfold mX2_hasPlaceFor at c
  split at c
  · exact absurd rfl c
  · rename_i h1
    split at c
    · exact absurd rfl c
    · rename_i h2
      split at c
      · exact absurd rfl c
      · rename_i h3
        refine ⟨in_up (n := 20) rfl ?_ h2, in_X2_isFact h3⟩
        rw [lt_ti] at h1
        have e0 : (0 : Int32).toInt = 0 := rfl
        omega
theorem ne_X2_hasPlaceFor {x1 x2 : Int32} (h : vp_in x1 20) (h2 : vp_in x2 11) : ¬ mX2_hasPlaceFor x1 x2 = 0 := by
  obtain ⟨h3, h4⟩ := in_iff.mp h
  have e0 : (0 : Int32).toInt = 0 := rfl
  have e2 : (20 : Int32).toInt = 20 := rfl
  unfold mX2_hasPlaceFor
  rw [if_neg (by rw [lt_ti]; omega), if_neg (by rw [le_ti]; omega), if_neg (ne_X2_isFact h2)]
  decide
theorem out_X2_hasPlaceFor {x1 x2 : Int32} (c : mX3_within x1 0 19 = 0) : mX2_hasPlaceFor x1 x2 = 0 := by
  unfold mX2_hasPlaceFor
  unfold mX3_within at c
  split at c
  · rename_i h; rw [if_pos h]
  · split at c
    · rename_i h1 h2; rw [if_neg h1, if_pos ((ge_gt (by decide)).mpr h2)]
    · exact absurd c (by decide)
def mX2_noteG (σ : YS) (x1 : Int32) (x2 : Int32) (x3 : Int32) : YS := (if (mX2_hasPlaceFor x1 x2) = 0 then σ else (Y_set_facts σ (upd (Y_facts σ) ((x1 * 11) + x2).toNatClampNeg x3)))
set_option maxHeartbeats 4000000 in
set_option maxRecDepth 100000 in
theorem k_X2_noteG (l : Launch) (g : WG) (ad : AY) (σ : YS) (x1 : Int32) (x2 : Int32) (x3 : Int32) : Wv l yX2_note cX2_note 4 2 g (cY g ad σ) (cY g ad (mX2_noteG σ x1 x2 x3)) [.ref ad.1, .int x1, .int x2, .int x3] := by
  refine wv_of (by decide) (Nat.le_of_ble_eq_true rfl) ?_
  intro p e s m args below meth c ls A hC hAe hP hD hK hE hA hS hl
  obtain ⟨hx, hb, hml, hr, hown, hts, hlk, hnm⟩ := id hC
  have hl : lv_has ls 4 [(0, .ref ad.1), (1, .int x1), (2, .int x2), (3, .int x3)] := hl
  refine lv_iload_n hx hb dX2_note_0 rfl (lv_at hl 1 rfl) ?_
  refine lv_iload_n hx hb dX2_note_1 rfl (lv_at hl 2 rfl) ?_
  refine callRs hC (k_X2_hasPlaceFor l g x1 x2) ci_X2_hasPlaceFor lk_X2_55 ⟨Nat.le_of_ble_eq_true rfl, Nat.le_of_ble_eq_true rfl⟩ hK (hE.S hS).none rfl hl.1 rfl (Nat.le_of_ble_eq_true rfl) dX2_note_2 ⟨Nat.zero_le _, Nat.zero_le _⟩ ?_
  refine lv_if_eq (tgt := 20) hx hb dX2_note_5 (by decide) (fun c_1 => ?_) (fun c_1 => ?_)
  · have hm : mX2_noteG σ x1 x2 x3 = σ := by unfold mX2_noteG; rw [if_pos c_1]
    exact wv_ret hC hP (hAe ▸ hD) (hAe ▸ hS) dX2_note_20 (by rw [hm])
  · refine lv_aload_n hx hb dX2_note_8 rfl (lv_at hl 0 rfl) ?_
    refine gY_facts hC rfl hK hP dX2_note_9 ?_
    refine lv_iload_n hx hb dX2_note_12 rfl (lv_at hl 1 rfl) ?_
    refine lv_bipush (v := 11) hx hb dX2_note_13 (by decide) ?_
    refine lv_imul hx hb dX2_note_15 ?_
    refine lv_iload_n hx hb dX2_note_16 rfl (lv_at hl 2 rfl) ?_
    refine lv_iadd hx hb dX2_note_17 ?_
    refine lv_iload_n hx hb dX2_note_18 rfl (lv_at hl 3 rfl) ?_
    refine sY_facts hC hK hP hD hS (ix_11 (in_X2_hasPlaceFor c_1).1 (in_X2_hasPlaceFor c_1).2) dX2_note_19 (fun H locs hP hD hS => ?_)
    have hm : mX2_noteG σ x1 x2 x3 = (Y_set_facts σ (upd (Y_facts σ) ((x1 * 11) + x2).toNatClampNeg x3)) := by unfold mX2_noteG; rw [if_neg c_1]
    exact wv_ret hC hP (hAe ▸ hD) (hAe ▸ hS) dX2_note_20 (by rw [hm])
def mX2_note (σ : YS) (x1 : Int32) (x2 : Int32) (x3 : Int32) : YS := (Y_set_facts σ (upd (Y_facts σ) ((x1 * 11) + x2).toNatClampNeg x3))
theorem ad_X2_note {σ : YS} {x1 : Int32} {x2 : Int32} {x3 : Int32} (h_1 : vp_in x1 20) (h_2 : vp_in x2 11) : mX2_noteG σ x1 x2 x3 = mX2_note σ x1 x2 x3 := if_neg (ne_X2_hasPlaceFor h_1 h_2)
theorem k_X2_note (l : Launch) (g : WG) (ad : AY) (σ : YS) (x1 : Int32) (x2 : Int32) (x3 : Int32) (h_1 : vp_in x1 20) (h_2 : vp_in x2 11) : Wv l yX2_note cX2_note 4 2 g (cY g ad σ) (cY g ad (mX2_note σ x1 x2 x3)) [.ref ad.1, .int x1, .int x2, .int x3] := (ad_X2_note h_1 h_2) ▸ (k_X2_noteG l g ad σ x1 x2 x3)
def mX2_forget_L2 (x1 : Int32) : Nat → YS → Int32 → YS
  | 0, σ, _ => σ
  | n + 1, σ, u2 => (if 11 ≤ u2 then σ else (mX2_forget_L2 x1 n (mX2_note σ x1 u2 (-5)) (u2 + 1)))
set_option maxHeartbeats 4000000 in
set_option maxRecDepth 100000 in
theorem q_X2_forget_2 {p : Program} {e : Env} {s : State} {m : MethodId} {args : Array Value} {below : List Frame} {meth : Method} {c : Code} (l : Launch) (g : WG) (ad : AY) (x1 : Int32) (h_1 : vp_in x1 20) (hC : Cx p s m args meth c yX2_forget cX2_forget 3 none) (hK : va_K g.1 vwCl (tysW g) s) {A : Nat → Prop} {ws0 : va_W} (hE : Ex A s s.heap) (hA : ∀ q : Nat, s.heap.size ≤ q → A q) (hAe : A = va_A ws0 s.heap.size) {r : YS} : ∀ (n : Nat) (σ : YS) (H : Heap) (locs : List Loc) (hP : va_P g.1 vwCl (cY g ad σ) H) (hD : va_D A (cY g ad σ)) (hS : va_S A s.heap H locs) (u2 : Int32) (hi0 : 0 ≤ u2.toInt) (hi1 : u2.toInt ≤ 11) (hm : ((12 : Int) - u2.toInt).toNat < n) (hR : r = mX2_forget_L2 x1 n σ u2) (ls : Array Slot) (hl : lv_has ls 3 [(2, .int u2), (0, .ref ad.1), (1, .int x1)]), W p l e (rk 3) s m args below meth c H locs 0 0 (MQ below (va_Qv (fun _ => True) (Bw g ws0 (cY g ad r) s.heap.size) (va_A ws0 s.heap.size)) args s 0 0 (va_A ws0 s.heap.size)) (F0 m 2 ls []) := by
  obtain ⟨hx, hb, hml, hr, hown, hts, hlk, hnm⟩ := id hC
  intro n
  induction n with
  | zero => intro σ H locs hP hD hS u2 hi0 hi1 hm hR ls hl; exact absurd hm (Nat.not_lt_zero _)
  | succ n ih =>
    intro σ H locs hP hD hS u2 hi0 hi1 hm hR ls hl
    refine lv_iload_n hx hb dX2_forget_2 rfl (lv_at hl 0 rfl) ?_
    refine lv_bipush (v := 11) hx hb dX2_forget_3 (by decide) ?_
    refine lv_icmp_ge (tgt := 22) hx hb dX2_forget_5 (by decide) (fun c_1 => ?_) (fun c_1 => ?_)
    · have hm : r = σ := by rw [hR, mX2_forget_L2, if_pos c_1]
      exact wv_ret hC hP (hAe ▸ hD) (hAe ▸ hS) dX2_forget_22 (by rw [hm])
    · refine lv_aload_n hx hb dX2_forget_8 rfl (lv_at hl 1 rfl) ?_
      refine lv_iload_n hx hb dX2_forget_9 rfl (lv_at hl 2 rfl) ?_
      refine lv_iload_n hx hb dX2_forget_10 rfl (lv_at hl 0 rfl) ?_
      refine lv_bipush (v := (-5)) hx hb dX2_forget_11 (by decide) ?_
      refine callWv hC (k_X2_note l g ad σ x1 u2 (-5) h_1 (in_up (n := 11) rfl hi0 c_1)) ci_X2_note lk_X2_59 ⟨Nat.le_of_ble_eq_true rfl, Nat.le_of_ble_eq_true rfl⟩ hP hD hK hE hS hA (q0 := 0) rfl rfl rfl rfl hl.1 rfl (Nat.le_of_ble_eq_true rfl) dX2_forget_13 ⟨Nat.zero_le _, Nat.zero_le _⟩ (fun H locs hP _ hD hS _ _ => ?_)
      refine lv_iinc (v := (u2 + 1)) (lv' := [(2, .int (u2 + 1)), (0, .ref ad.1), (1, .int x1)]) hx hb dX2_forget_16 hl (k := 0) rfl rfl (by decide) rfl (fun ls hl => ?_)
      refine lv_goto (tgt := 2) hx hb dX2_forget_19 (by decide) ?_
      have e9 := up_add (d := 1) (k := 1) (M := 11) rfl hi0 hi1 (by decide) (by decide)
      have e8 := nle_ti (k := 11) rfl c_1
      exact ih (mX2_note σ x1 u2 (-5)) _ _ hP hD hS (u2 + 1) (by rw [e9]; omega) (by rw [e9]; omega) (by rw [e9]; omega) (by rw [hR, mX2_forget_L2, if_neg c_1]) _ (lv_sub hl [0, 1, 2] rfl)
def mX2_forget (σ : YS) (x1 : Int32) : YS := (mX2_forget_L2 x1 13 σ 0)
set_option maxHeartbeats 4000000 in
set_option maxRecDepth 100000 in
theorem k_X2_forget (l : Launch) (g : WG) (ad : AY) (σ : YS) (x1 : Int32) (h_1 : vp_in x1 20) : Wv l yX2_forget cX2_forget 3 3 g (cY g ad σ) (cY g ad (mX2_forget σ x1)) [.ref ad.1, .int x1] := by
  refine wv_of (by decide) (Nat.le_of_ble_eq_true rfl) ?_
  intro p e s m args below meth c ls A hC hAe hP hD hK hE hA hS hl
  obtain ⟨hx, hb, hml, hr, hown, hts, hlk, hnm⟩ := id hC
  have hl : lv_has ls 3 [(0, .ref ad.1), (1, .int x1)] := hl
  refine lv_iconst (v := 0) hx hb dX2_forget_0 (by decide) ?_
  refine lv_istore_n (lv' := [(2, .int 0), (0, .ref ad.1), (1, .int x1)]) hx hb dX2_forget_1 rfl hl (by decide) rfl (fun ls hl => ?_)
  refine q_X2_forget_2 l g ad x1 h_1 hC hK hE hA hAe 13 σ _ _ hP hD hS 0 (by decide) (by decide) (by decide) ?_ _ (lv_sub hl [0, 1, 2] rfl)
  exact by unfold mX2_forget; rfl
def mX2_isRowG (x1 : Int32) : Int32 := (if x1 < 0 then 0 else (if 4 ≤ x1 then 0 else 1))
set_option maxHeartbeats 4000000 in
set_option maxRecDepth 100000 in
theorem k_X2_isRowG (l : Launch) (g : WG) (x1 : Int32) : Rd l yX2_isRow cX2_isRow 1 (some .boolean) 0 (Wl g [] (fun _ => False)) [.int x1] (mX2_isRowG x1) := by
  refine rd_of (by decide) (Nat.le_of_ble_eq_true rfl) ?_
  intro p e s m args below meth c ls hC hW hl
  obtain ⟨hP, hK, hE⟩ := hW
  obtain ⟨hx, hb, hml, hr, hown, hts, hlk, hnm⟩ := id hC
  have hl : lv_has ls 1 [(0, .int x1)] := hl
  refine lv_iload_n hx hb dX2_isRow_0 rfl (lv_at hl 0 rfl) ?_
  refine lv_if_lt (tgt := 13) hx hb dX2_isRow_1 (by decide) (fun c_1 => ?_) (fun c_1 => ?_)
  · refine lv_iconst (v := 0) hx hb dX2_isRow_13 (by decide) ?_
    exact rd_zret hC dX2_isRow_14 rfl (Eq.symm (by unfold mX2_isRowG; rw [if_pos c_1]))
  · refine lv_iload_n hx hb dX2_isRow_4 rfl (lv_at hl 0 rfl) ?_
    refine lv_iconst (v := 4) hx hb dX2_isRow_5 (by decide) ?_
    refine lv_icmp_ge (tgt := 13) hx hb dX2_isRow_6 (by decide) (fun c_2 => ?_) (fun c_2 => ?_)
    · refine lv_iconst (v := 0) hx hb dX2_isRow_13 (by decide) ?_
      exact rd_zret hC dX2_isRow_14 rfl (Eq.symm (by unfold mX2_isRowG; rw [if_neg c_1, if_pos c_2]))
    · refine lv_iconst (v := 1) hx hb dX2_isRow_9 (by decide) ?_
      refine lv_goto (tgt := 14) hx hb dX2_isRow_10 (by decide) ?_
      exact rd_zret hC dX2_isRow_14 rfl (Eq.symm (by unfold mX2_isRowG; rw [if_neg c_1, if_neg c_2]))
def mX2_isRow (x1 : Int32) : Int32 := (mX3_within x1 0 3)
theorem ad_X2_isRow {x1 : Int32} : mX2_isRowG x1 = mX2_isRow x1 := rng_eq (N := 4) (k := 3) (by decide)
theorem k_X2_isRow (l : Launch) (g : WG) (x1 : Int32) : Rd l yX2_isRow cX2_isRow 1 (some .boolean) 0 (Wl g [] (fun _ => False)) [.int x1] (mX2_isRow x1) := (ad_X2_isRow (x1 := x1)) ▸ (k_X2_isRowG l g x1)
theorem in_X2_isRow {x : Int32} (c : ¬ mX2_isRow x = 0) : vp_in x 4 := in_within (k := 3) rfl c
theorem ne_X2_isRow {x : Int32} (h : vp_in x 4) : ¬ mX2_isRow x = 0 := within_ne (k := 3) rfl h
def mX2_isKindG (x1 : Int32) : Int32 := (if x1 < 0 then 0 else (if 3 ≤ x1 then 0 else 1))
set_option maxHeartbeats 4000000 in
set_option maxRecDepth 100000 in
theorem k_X2_isKindG (l : Launch) (g : WG) (x1 : Int32) : Rd l yX2_isKind cX2_isKind 1 (some .boolean) 0 (Wl g [] (fun _ => False)) [.int x1] (mX2_isKindG x1) := by
  refine rd_of (by decide) (Nat.le_of_ble_eq_true rfl) ?_
  intro p e s m args below meth c ls hC hW hl
  obtain ⟨hP, hK, hE⟩ := hW
  obtain ⟨hx, hb, hml, hr, hown, hts, hlk, hnm⟩ := id hC
  have hl : lv_has ls 1 [(0, .int x1)] := hl
  refine lv_iload_n hx hb dX2_isKind_0 rfl (lv_at hl 0 rfl) ?_
  refine lv_if_lt (tgt := 13) hx hb dX2_isKind_1 (by decide) (fun c_1 => ?_) (fun c_1 => ?_)
  · refine lv_iconst (v := 0) hx hb dX2_isKind_13 (by decide) ?_
    exact rd_zret hC dX2_isKind_14 rfl (Eq.symm (by unfold mX2_isKindG; rw [if_pos c_1]))
  · refine lv_iload_n hx hb dX2_isKind_4 rfl (lv_at hl 0 rfl) ?_
    refine lv_iconst (v := 3) hx hb dX2_isKind_5 (by decide) ?_
    refine lv_icmp_ge (tgt := 13) hx hb dX2_isKind_6 (by decide) (fun c_2 => ?_) (fun c_2 => ?_)
    · refine lv_iconst (v := 0) hx hb dX2_isKind_13 (by decide) ?_
      exact rd_zret hC dX2_isKind_14 rfl (Eq.symm (by unfold mX2_isKindG; rw [if_neg c_1, if_pos c_2]))
    · refine lv_iconst (v := 1) hx hb dX2_isKind_9 (by decide) ?_
      refine lv_goto (tgt := 14) hx hb dX2_isKind_10 (by decide) ?_
      exact rd_zret hC dX2_isKind_14 rfl (Eq.symm (by unfold mX2_isKindG; rw [if_neg c_1, if_neg c_2]))
def mX2_isKind (x1 : Int32) : Int32 := (mX3_within x1 0 2)
theorem ad_X2_isKind {x1 : Int32} : mX2_isKindG x1 = mX2_isKind x1 := rng_eq (N := 3) (k := 2) (by decide)
theorem k_X2_isKind (l : Launch) (g : WG) (x1 : Int32) : Rd l yX2_isKind cX2_isKind 1 (some .boolean) 0 (Wl g [] (fun _ => False)) [.int x1] (mX2_isKind x1) := (ad_X2_isKind (x1 := x1)) ▸ (k_X2_isKindG l g x1)
theorem in_X2_isKind {x : Int32} (c : ¬ mX2_isKind x = 0) : vp_in x 3 := in_within (k := 2) rfl c
theorem ne_X2_isKind {x : Int32} (h : vp_in x 3) : ¬ mX2_isKind x = 0 := within_ne (k := 2) rfl h
def mX2_isSettingG (x1 : Int32) : Int32 := (if x1 < 0 then 0 else (if 3 ≤ x1 then 0 else 1))
set_option maxHeartbeats 4000000 in
set_option maxRecDepth 100000 in
theorem k_X2_isSettingG (l : Launch) (g : WG) (x1 : Int32) : Rd l yX2_isSetting cX2_isSetting 1 (some .boolean) 0 (Wl g [] (fun _ => False)) [.int x1] (mX2_isSettingG x1) := by
  refine rd_of (by decide) (Nat.le_of_ble_eq_true rfl) ?_
  intro p e s m args below meth c ls hC hW hl
  obtain ⟨hP, hK, hE⟩ := hW
  obtain ⟨hx, hb, hml, hr, hown, hts, hlk, hnm⟩ := id hC
  have hl : lv_has ls 1 [(0, .int x1)] := hl
  refine lv_iload_n hx hb dX2_isSetting_0 rfl (lv_at hl 0 rfl) ?_
  refine lv_if_lt (tgt := 13) hx hb dX2_isSetting_1 (by decide) (fun c_1 => ?_) (fun c_1 => ?_)
  · refine lv_iconst (v := 0) hx hb dX2_isSetting_13 (by decide) ?_
    exact rd_zret hC dX2_isSetting_14 rfl (Eq.symm (by unfold mX2_isSettingG; rw [if_pos c_1]))
  · refine lv_iload_n hx hb dX2_isSetting_4 rfl (lv_at hl 0 rfl) ?_
    refine lv_iconst (v := 3) hx hb dX2_isSetting_5 (by decide) ?_
    refine lv_icmp_ge (tgt := 13) hx hb dX2_isSetting_6 (by decide) (fun c_2 => ?_) (fun c_2 => ?_)
    · refine lv_iconst (v := 0) hx hb dX2_isSetting_13 (by decide) ?_
      exact rd_zret hC dX2_isSetting_14 rfl (Eq.symm (by unfold mX2_isSettingG; rw [if_neg c_1, if_pos c_2]))
    · refine lv_iconst (v := 1) hx hb dX2_isSetting_9 (by decide) ?_
      refine lv_goto (tgt := 14) hx hb dX2_isSetting_10 (by decide) ?_
      exact rd_zret hC dX2_isSetting_14 rfl (Eq.symm (by unfold mX2_isSettingG; rw [if_neg c_1, if_neg c_2]))
def mX2_isSetting (x1 : Int32) : Int32 := (mX3_within x1 0 2)
theorem ad_X2_isSetting {x1 : Int32} : mX2_isSettingG x1 = mX2_isSetting x1 := rng_eq (N := 3) (k := 2) (by decide)
theorem k_X2_isSetting (l : Launch) (g : WG) (x1 : Int32) : Rd l yX2_isSetting cX2_isSetting 1 (some .boolean) 0 (Wl g [] (fun _ => False)) [.int x1] (mX2_isSetting x1) := (ad_X2_isSetting (x1 := x1)) ▸ (k_X2_isSettingG l g x1)
theorem in_X2_isSetting {x : Int32} (c : ¬ mX2_isSetting x = 0) : vp_in x 3 := in_within (k := 2) rfl c
theorem ne_X2_isSetting {x : Int32} (h : vp_in x 3) : ¬ mX2_isSetting x = 0 := within_ne (k := 2) rfl h
def mX2_factG (σ : YS) (x1 : Int32) (x2 : Int32) : Int32 := (if (mX2_hasPlaceFor x1 x2) = 0 then (-5) else ((Y_facts σ) ((x1 * 11) + x2).toNatClampNeg))
set_option maxHeartbeats 4000000 in
set_option maxRecDepth 100000 in
theorem k_X2_factG (l : Launch) (g : WG) (ad : AY) (σ : YS) (x1 : Int32) (x2 : Int32) : Rd l yX2_fact cX2_fact 3 (some .int) 2 (Wl g (cY g ad σ) (fun _ => False)) [.ref ad.1, .int x1, .int x2] (mX2_factG σ x1 x2) := by
  refine rd_of (by decide) (Nat.le_of_ble_eq_true rfl) ?_
  intro p e s m args below meth c ls hC hW hl
  obtain ⟨hP, hK, hE⟩ := hW
  obtain ⟨hx, hb, hml, hr, hown, hts, hlk, hnm⟩ := id hC
  have hl : lv_has ls 3 [(0, .ref ad.1), (1, .int x1), (2, .int x2)] := hl
  refine lv_iload_n hx hb dX2_fact_0 rfl (lv_at hl 1 rfl) ?_
  refine lv_iload_n hx hb dX2_fact_1 rfl (lv_at hl 2 rfl) ?_
  refine callRs hC (k_X2_hasPlaceFor l g x1 x2) ci_X2_hasPlaceFor lk_X2_55 ⟨Nat.le_of_ble_eq_true rfl, Nat.le_of_ble_eq_true rfl⟩ hK hE rfl hl.1 rfl (Nat.le_of_ble_eq_true rfl) dX2_fact_2 ⟨Nat.zero_le _, Nat.zero_le _⟩ ?_
  refine lv_if_eq (tgt := 22) hx hb dX2_fact_5 (by decide) (fun c_1 => ?_) (fun c_1 => ?_)
  · refine lv_bipush (v := (-5)) hx hb dX2_fact_22 (by decide) ?_
    exact rd_ret hC dX2_fact_24 (Eq.symm (by unfold mX2_factG; rw [if_pos c_1]))
  · refine lv_aload_n hx hb dX2_fact_8 rfl (lv_at hl 0 rfl) ?_
    refine gY_facts hC rfl hK hP dX2_fact_9 ?_
    refine lv_iload_n hx hb dX2_fact_12 rfl (lv_at hl 1 rfl) ?_
    refine lv_bipush (v := 11) hx hb dX2_fact_13 (by decide) ?_
    refine lv_imul hx hb dX2_fact_15 ?_
    refine lv_iload_n hx hb dX2_fact_16 rfl (lv_at hl 2 rfl) ?_
    refine lv_iadd hx hb dX2_fact_17 ?_
    refine lY_facts hC hK hP (ix_11 (in_X2_hasPlaceFor c_1).1 (in_X2_hasPlaceFor c_1).2) dX2_fact_18 ?_
    refine lv_goto (tgt := 24) hx hb dX2_fact_19 (by decide) ?_
    exact rd_ret hC dX2_fact_24 (Eq.symm (by unfold mX2_factG; rw [if_neg c_1]))
def mX2_fact (σ : YS) (x1 : Int32) (x2 : Int32) : Int32 := ((Y_facts σ) ((x1 * 11) + x2).toNatClampNeg)
theorem ad_X2_fact {σ : YS} {x1 : Int32} {x2 : Int32} (h_1 : vp_in x1 20) (h_2 : vp_in x2 11) : mX2_factG σ x1 x2 = mX2_fact σ x1 x2 := if_neg (ne_X2_hasPlaceFor h_1 h_2)
theorem k_X2_fact (l : Launch) (g : WG) (ad : AY) (σ : YS) (x1 : Int32) (x2 : Int32) (h_1 : vp_in x1 20) (h_2 : vp_in x2 11) : Rd l yX2_fact cX2_fact 3 (some .int) 2 (Wl g (cY g ad σ) (fun _ => False)) [.ref ad.1, .int x1, .int x2] (mX2_fact σ x1 x2) := (ad_X2_fact h_1 h_2) ▸ (k_X2_factG l g ad σ x1 x2)
def mX2_knowsG (σ : YS) (x1 : Int32) : Int32 := (if (mX2_factG σ x1 0) = (-5) then 0 else 1)
set_option maxHeartbeats 4000000 in
set_option maxRecDepth 100000 in
theorem k_X2_knowsG (l : Launch) (g : WG) (ad : AY) (σ : YS) (x1 : Int32) : Rd l yX2_knows cX2_knows 2 (some .boolean) 3 (Wl g (cY g ad σ) (fun _ => False)) [.ref ad.1, .int x1] (mX2_knowsG σ x1) := by
  refine rd_of (by decide) (Nat.le_of_ble_eq_true rfl) ?_
  intro p e s m args below meth c ls hC hW hl
  obtain ⟨hP, hK, hE⟩ := hW
  obtain ⟨hx, hb, hml, hr, hown, hts, hlk, hnm⟩ := id hC
  have hl : lv_has ls 2 [(0, .ref ad.1), (1, .int x1)] := hl
  refine lv_aload_n hx hb dX2_knows_0 rfl (lv_at hl 0 rfl) ?_
  refine lv_iload_n hx hb dX2_knows_1 rfl (lv_at hl 1 rfl) ?_
  refine lv_iconst (v := 0) hx hb dX2_knows_2 (by decide) ?_
  refine callRd hC (k_X2_factG l g ad σ x1 0) ci_X2_fact lk_X2_47 ⟨Nat.le_of_ble_eq_true rfl, Nat.le_of_ble_eq_true rfl⟩ hP hK hE (q0 := 0) rfl rfl rfl rfl hl.1 rfl (Nat.le_of_ble_eq_true rfl) dX2_knows_3 ⟨Nat.zero_le _, Nat.zero_le _⟩ ?_
  refine lv_bipush (v := (-5)) hx hb dX2_knows_6 (by decide) ?_
  refine lv_icmp_eq (tgt := 15) hx hb dX2_knows_8 (by decide) (fun c_1 => ?_) (fun c_1 => ?_)
  · refine lv_iconst (v := 0) hx hb dX2_knows_15 (by decide) ?_
    exact rd_zret hC dX2_knows_16 rfl (Eq.symm (by unfold mX2_knowsG; rw [if_pos c_1]))
  · refine lv_iconst (v := 1) hx hb dX2_knows_11 (by decide) ?_
    refine lv_goto (tgt := 16) hx hb dX2_knows_12 (by decide) ?_
    exact rd_zret hC dX2_knows_16 rfl (Eq.symm (by unfold mX2_knowsG; rw [if_neg c_1]))
def mX2_knows (σ : YS) (x1 : Int32) : Int32 := (if (mX3_within x1 0 19) = 0 then 0 else (if (mX2_fact σ x1 0) = (-5) then 0 else 1))
theorem ad_X2_knows {σ : YS} {x1 : Int32} : mX2_knowsG σ x1 = mX2_knows σ x1 := by
  unfold mX2_knowsG mX2_knows
  by_cases c : mX3_within x1 0 19 = 0
  · rw [if_pos c, show mX2_factG σ x1 0 = -5 from if_pos (out_X2_hasPlaceFor c), if_pos rfl]
  · rw [if_neg c, ad_X2_fact (in_within (k := 19) rfl c) (in_iff.mpr (by decide))]
theorem k_X2_knows (l : Launch) (g : WG) (ad : AY) (σ : YS) (x1 : Int32) : Rd l yX2_knows cX2_knows 2 (some .boolean) 3 (Wl g (cY g ad σ) (fun _ => False)) [.ref ad.1, .int x1] (mX2_knows σ x1) := (ad_X2_knows (σ := σ) (x1 := x1)) ▸ (k_X2_knowsG l g ad σ x1)
theorem in_X2_knows {σ : YS} {x : Int32} (c : ¬ mX2_knows σ x = 0) : vp_in x 20 := by
  unfold mX2_knows at c
  split at c
  · exact absurd rfl c
  · rename_i h
    exact in_within (k := 19) rfl h
def mX2_boatsWith_L5 (σ : YS) (x1 : Int32) (x2 : Int32) : Nat → Int32 → Int32 → Int32
  | 0, _, _ => 0
  | n + 1, u4, u3 => (if 220 < (u4 + 11) then u3 else (if (mX2_isFact x1) = 0 then (mX2_boatsWith_L5 σ x1 x2 n (u4 + 11) u3) else (if ((Y_facts σ) (u4 + x1).toNatClampNeg) = x2 then (mX2_boatsWith_L5 σ x1 x2 n (u4 + 11) (u3 + 1)) else (mX2_boatsWith_L5 σ x1 x2 n (u4 + 11) u3))))
set_option maxHeartbeats 4000000 in
set_option maxRecDepth 100000 in
theorem q_X2_boatsWith_5 {p : Program} {e : Env} {s : State} {m : MethodId} {args : Array Value} {below : List Frame} {meth : Method} {c : Code} (l : Launch) (g : WG) (ad : AY) (σ : YS) (x1 : Int32) (x2 : Int32) (hC : Cx p s m args meth c yX2_boatsWith cX2_boatsWith 5 (some .int)) (hP : va_P g.1 vwCl (cY g ad σ) s.heap) (hK : va_K g.1 vwCl (tysW g) s) (hE : Ex (fun _ => False) s s.heap) {r : Int32} : ∀ (n : Nat) (u4 : Int32) (u3 : Int32) (hi0 : 0 ≤ u4.toInt) (hi1 : u4.toInt ≤ 220) (hm : ((221 : Int) - u4.toInt).toNat < n) (hR : r = mX2_boatsWith_L5 σ x1 x2 n u4 u3) (ls : Array Slot) (hl : lv_has ls 5 [(4, .int u4), (3, .int u3), (0, .ref ad.1), (1, .int x1), (2, .int x2)]), W p l e (rk 1) s m args below meth c s.heap [] 0 0 (MQ below (vp_Si (fun x => x = r)) args s 0 0 (fun _ => False)) (F0 m 5 ls []) := by
  obtain ⟨hx, hb, hml, hr, hown, hts, hlk, hnm⟩ := id hC
  intro n
  induction n with
  | zero => intro u4 u3 hi0 hi1 hm hR ls hl; exact absurd hm (Nat.not_lt_zero _)
  | succ n ih =>
    intro u4 u3 hi0 hi1 hm hR ls hl
    refine lv_iload hx hb dX2_boatsWith_5 (lv_at hl 0 rfl) ?_
    refine lv_bipush (v := 11) hx hb dX2_boatsWith_7 (by decide) ?_
    refine lv_iadd hx hb dX2_boatsWith_9 ?_
    refine lv_aload_n hx hb dX2_boatsWith_10 rfl (lv_at hl 2 rfl) ?_
    refine gY_facts hC rfl hK hP dX2_boatsWith_11 ?_
    refine nY_facts hC hK hP dX2_boatsWith_14 ?_
    refine lv_icmp_gt (tgt := 47) hx hb dX2_boatsWith_15 (by decide) (fun c_1 => ?_) (fun c_1 => ?_)
    · refine lv_iload_n hx hb dX2_boatsWith_47 rfl (lv_at hl 1 rfl) ?_
      exact rd_ret hC dX2_boatsWith_48 (Eq.symm (by rw [hR, mX2_boatsWith_L5, if_pos c_1]))
    · refine lv_iload_n hx hb dX2_boatsWith_18 rfl (lv_at hl 3 rfl) ?_
      refine callRs hC (k_X2_isFact l g x1) ci_X2_isFact lk_X2_51 ⟨Nat.le_of_ble_eq_true rfl, Nat.le_of_ble_eq_true rfl⟩ hK hE rfl hl.1 rfl (Nat.le_of_ble_eq_true rfl) dX2_boatsWith_19 ⟨Nat.zero_le _, Nat.zero_le _⟩ ?_
      refine lv_if_eq (tgt := 41) hx hb dX2_boatsWith_22 (by decide) (fun c_2 => ?_) (fun c_2 => ?_)
      · refine lv_iinc (v := (u4 + 11)) (lv' := [(4, .int (u4 + 11)), (3, .int u3), (0, .ref ad.1), (1, .int x1), (2, .int x2)]) hx hb dX2_boatsWith_41 hl (k := 0) rfl rfl (by decide) rfl (fun ls hl => ?_)
        refine lv_goto (tgt := 5) hx hb dX2_boatsWith_44 (by decide) ?_
        have e9 := up_add (d := 11) (k := 11) (M := 220) rfl hi0 hi1 (by decide) (by decide)
        have e8 := (in_iff.mp (in_mt hi0 hi1 c_1)).2
        exact ih (u4 + 11) u3 (by rw [e9]; omega) (by rw [e9]; omega) (by rw [e9]; omega) (by rw [hR, mX2_boatsWith_L5, if_neg c_1, if_pos c_2]) _ (lv_sub hl [0, 1, 2, 3, 4] rfl)
      · refine lv_aload_n hx hb dX2_boatsWith_25 rfl (lv_at hl 2 rfl) ?_
        refine gY_facts hC rfl hK hP dX2_boatsWith_26 ?_
        refine lv_iload hx hb dX2_boatsWith_29 (lv_at hl 0 rfl) ?_
        refine lv_iload_n hx hb dX2_boatsWith_31 rfl (lv_at hl 3 rfl) ?_
        refine lv_iadd hx hb dX2_boatsWith_32 ?_
        refine lY_facts hC hK hP (ix_ab (in_mt hi0 hi1 c_1) (in_X2_isFact c_2) (by decide) (by decide)) dX2_boatsWith_33 ?_
        refine lv_iload_n hx hb dX2_boatsWith_34 rfl (lv_at hl 4 rfl) ?_
        refine lv_icmp_ne (tgt := 41) hx hb dX2_boatsWith_35 (by decide) (fun c_3 => ?_) (fun c_3 => ?_)
        · refine lv_iinc (v := (u4 + 11)) (lv' := [(4, .int (u4 + 11)), (3, .int u3), (0, .ref ad.1), (1, .int x1), (2, .int x2)]) hx hb dX2_boatsWith_41 hl (k := 0) rfl rfl (by decide) rfl (fun ls hl => ?_)
          refine lv_goto (tgt := 5) hx hb dX2_boatsWith_44 (by decide) ?_
          have e9 := up_add (d := 11) (k := 11) (M := 220) rfl hi0 hi1 (by decide) (by decide)
          have e8 := (in_iff.mp (in_mt hi0 hi1 c_1)).2
          exact ih (u4 + 11) u3 (by rw [e9]; omega) (by rw [e9]; omega) (by rw [e9]; omega) (by rw [hR, mX2_boatsWith_L5, if_neg c_1, if_neg c_2, if_neg c_3]) _ (lv_sub hl [0, 1, 2, 3, 4] rfl)
        · refine lv_iinc (v := (u3 + 1)) (lv' := [(3, .int (u3 + 1)), (4, .int u4), (0, .ref ad.1), (1, .int x1), (2, .int x2)]) hx hb dX2_boatsWith_38 hl (k := 1) rfl rfl (by decide) rfl (fun ls hl => ?_)
          refine lv_iinc (v := (u4 + 11)) (lv' := [(4, .int (u4 + 11)), (3, .int (u3 + 1)), (0, .ref ad.1), (1, .int x1), (2, .int x2)]) hx hb dX2_boatsWith_41 hl (k := 1) rfl rfl (by decide) rfl (fun ls hl => ?_)
          refine lv_goto (tgt := 5) hx hb dX2_boatsWith_44 (by decide) ?_
          have e9 := up_add (d := 11) (k := 11) (M := 220) rfl hi0 hi1 (by decide) (by decide)
          have e8 := (in_iff.mp (in_mt hi0 hi1 c_1)).2
          exact ih (u4 + 11) (u3 + 1) (by rw [e9]; omega) (by rw [e9]; omega) (by rw [e9]; omega) (by rw [hR, mX2_boatsWith_L5, if_neg c_1, if_neg c_2, if_pos c_3]) _ (lv_sub hl [0, 1, 2, 3, 4] rfl)
def mX2_boatsWith (σ : YS) (x1 : Int32) (x2 : Int32) : Int32 := (mX2_boatsWith_L5 σ x1 x2 232 0 0)
set_option maxHeartbeats 4000000 in
set_option maxRecDepth 100000 in
theorem k_X2_boatsWith (l : Launch) (g : WG) (ad : AY) (σ : YS) (x1 : Int32) (x2 : Int32) : Rd l yX2_boatsWith cX2_boatsWith 5 (some .int) 1 (Wl g (cY g ad σ) (fun _ => False)) [.ref ad.1, .int x1, .int x2] (mX2_boatsWith σ x1 x2) := by
  refine rd_of (by decide) (Nat.le_of_ble_eq_true rfl) ?_
  intro p e s m args below meth c ls hC hW hl
  obtain ⟨hP, hK, hE⟩ := hW
  obtain ⟨hx, hb, hml, hr, hown, hts, hlk, hnm⟩ := id hC
  have hl : lv_has ls 5 [(0, .ref ad.1), (1, .int x1), (2, .int x2)] := hl
  refine lv_iconst (v := 0) hx hb dX2_boatsWith_0 (by decide) ?_
  refine lv_istore_n (lv' := [(3, .int 0), (0, .ref ad.1), (1, .int x1), (2, .int x2)]) hx hb dX2_boatsWith_1 rfl hl (by decide) rfl (fun ls hl => ?_)
  refine lv_iconst (v := 0) hx hb dX2_boatsWith_2 (by decide) ?_
  refine lv_istore (lv' := [(4, .int 0), (3, .int 0), (0, .ref ad.1), (1, .int x1), (2, .int x2)]) hx hb dX2_boatsWith_3 hl (by decide) rfl (fun ls hl => ?_)
  refine q_X2_boatsWith_5 l g ad σ x1 x2 hC hP hK hE 232 0 0 (by decide) (by decide) (by decide) ?_ _ (lv_sub hl [0, 1, 2, 3, 4] rfl)
  exact by unfold mX2_boatsWith; rfl
def mX2_lowestFreeNumber_L2 (σ : YS) : Nat → Int32 → Int32
  | 0, _ => 0
  | n + 1, u1 => (if 20 ≤ u1 then (-5) else (if (mX2_knows σ u1) = 0 then u1 else (mX2_lowestFreeNumber_L2 σ n (u1 + 1))))
set_option maxHeartbeats 4000000 in
set_option maxRecDepth 100000 in
theorem q_X2_lowestFreeNumber_2 {p : Program} {e : Env} {s : State} {m : MethodId} {args : Array Value} {below : List Frame} {meth : Method} {c : Code} (l : Launch) (g : WG) (ad : AY) (σ : YS) (hC : Cx p s m args meth c yX2_lowestFreeNumber cX2_lowestFreeNumber 2 (some .int)) (hP : va_P g.1 vwCl (cY g ad σ) s.heap) (hK : va_K g.1 vwCl (tysW g) s) (hE : Ex (fun _ => False) s s.heap) {r : Int32} : ∀ (n : Nat) (u1 : Int32) (hi0 : 0 ≤ u1.toInt) (hi1 : u1.toInt ≤ 20) (hm : ((21 : Int) - u1.toInt).toNat < n) (hR : r = mX2_lowestFreeNumber_L2 σ n u1) (ls : Array Slot) (hl : lv_has ls 2 [(1, .int u1), (0, .ref ad.1)]), W p l e (rk 4) s m args below meth c s.heap [] 0 0 (MQ below (vp_Si (fun x => x = r)) args s 0 0 (fun _ => False)) (F0 m 2 ls []) := by
  obtain ⟨hx, hb, hml, hr, hown, hts, hlk, hnm⟩ := id hC
  intro n
  induction n with
  | zero => intro u1 hi0 hi1 hm hR ls hl; exact absurd hm (Nat.not_lt_zero _)
  | succ n ih =>
    intro u1 hi0 hi1 hm hR ls hl
    refine lv_iload_n hx hb dX2_lowestFreeNumber_2 rfl (lv_at hl 0 rfl) ?_
    refine lv_bipush (v := 20) hx hb dX2_lowestFreeNumber_3 (by decide) ?_
    refine lv_icmp_ge (tgt := 24) hx hb dX2_lowestFreeNumber_5 (by decide) (fun c_1 => ?_) (fun c_1 => ?_)
    · refine lv_bipush (v := (-5)) hx hb dX2_lowestFreeNumber_24 (by decide) ?_
      exact rd_ret hC dX2_lowestFreeNumber_26 (Eq.symm (by rw [hR, mX2_lowestFreeNumber_L2, if_pos c_1]))
    · refine lv_aload_n hx hb dX2_lowestFreeNumber_8 rfl (lv_at hl 1 rfl) ?_
      refine lv_iload_n hx hb dX2_lowestFreeNumber_9 rfl (lv_at hl 0 rfl) ?_
      refine callRd hC (k_X2_knows l g ad σ u1) ci_X2_knows lk_X2_77 ⟨Nat.le_of_ble_eq_true rfl, Nat.le_of_ble_eq_true rfl⟩ hP hK hE (q0 := 0) rfl rfl rfl rfl hl.1 rfl (Nat.le_of_ble_eq_true rfl) dX2_lowestFreeNumber_10 ⟨Nat.zero_le _, Nat.zero_le _⟩ ?_
      refine lv_if_ne (tgt := 18) hx hb dX2_lowestFreeNumber_13 (by decide) (fun c_2 => ?_) (fun c_2 => ?_)
      · refine lv_iinc (v := (u1 + 1)) (lv' := [(1, .int (u1 + 1)), (0, .ref ad.1)]) hx hb dX2_lowestFreeNumber_18 hl (k := 0) rfl rfl (by decide) rfl (fun ls hl => ?_)
        refine lv_goto (tgt := 2) hx hb dX2_lowestFreeNumber_21 (by decide) ?_
        have e9 := up_add (d := 1) (k := 1) (M := 20) rfl hi0 hi1 (by decide) (by decide)
        have e8 := nle_ti (k := 20) rfl c_1
        exact ih (u1 + 1) (by rw [e9]; omega) (by rw [e9]; omega) (by rw [e9]; omega) (by rw [hR, mX2_lowestFreeNumber_L2, if_neg c_1, if_neg c_2]) _ (lv_sub hl [0, 1] rfl)
      · refine lv_iload_n hx hb dX2_lowestFreeNumber_16 rfl (lv_at hl 0 rfl) ?_
        exact rd_ret hC dX2_lowestFreeNumber_17 (Eq.symm (by rw [hR, mX2_lowestFreeNumber_L2, if_neg c_1, if_pos c_2]))
def mX2_lowestFreeNumber (σ : YS) : Int32 := (mX2_lowestFreeNumber_L2 σ 22 0)
theorem in_X2_lowest_L (σ : YS) : ∀ (n : Nat) (u : Int32), 0 ≤ u.toInt → u.toInt ≤ 20 → ¬ mX2_lowestFreeNumber_L2 σ n u = -5 → ((21 : Int) - u.toInt).toNat < n → vp_in (mX2_lowestFreeNumber_L2 σ n u) 20 := by
  intro n
  induction n with
  | zero => intro u _ _ _ h; exact absurd h (Nat.not_lt_zero _)
  | succ n ih =>
    intro u h0 h1 h2 h3
    rw [mX2_lowestFreeNumber_L2] at h2 ⊢
    split at h2
    · exact absurd rfl h2
    · rename_i c
      rw [if_neg c]
      have e8 := nle_ti (k := 20) rfl c
      split at h2
      · rename_i c2
        rw [if_pos c2]
        exact in_iff.mpr ⟨h0, e8⟩
      · rename_i c2
        rw [if_neg c2]
        have e9 := up_add (d := 1) (k := 1) (M := 20) rfl h0 h1 (by decide) (by decide)
        exact ih _ (by rw [e9]; omega) (by rw [e9]; omega) h2 (by rw [e9]; omega)
theorem in_X2_lowest {σ : YS} (c : ¬ mX2_lowestFreeNumber σ = -5) : vp_in (mX2_lowestFreeNumber σ) 20 := in_X2_lowest_L σ _ 0 (by decide) (by decide) c (by decide)
set_option maxHeartbeats 4000000 in
set_option maxRecDepth 100000 in
theorem k_X2_lowestFreeNumber (l : Launch) (g : WG) (ad : AY) (σ : YS) : Rd l yX2_lowestFreeNumber cX2_lowestFreeNumber 2 (some .int) 4 (Wl g (cY g ad σ) (fun _ => False)) [.ref ad.1] (mX2_lowestFreeNumber σ) := by
  refine rd_of (by decide) (Nat.le_of_ble_eq_true rfl) ?_
  intro p e s m args below meth c ls hC hW hl
  obtain ⟨hP, hK, hE⟩ := hW
  obtain ⟨hx, hb, hml, hr, hown, hts, hlk, hnm⟩ := id hC
  have hl : lv_has ls 2 [(0, .ref ad.1)] := hl
  refine lv_iconst (v := 0) hx hb dX2_lowestFreeNumber_0 (by decide) ?_
  refine lv_istore_n (lv' := [(1, .int 0), (0, .ref ad.1)]) hx hb dX2_lowestFreeNumber_1 rfl hl (by decide) rfl (fun ls hl => ?_)
  refine q_X2_lowestFreeNumber_2 l g ad σ hC hP hK hE 22 0 (by decide) (by decide) (by decide) ?_ _ (lv_sub hl [0, 1] rfl)
  exact by unfold mX2_lowestFreeNumber; rfl
def mX2_noteAfloat (σ : YS) (x1 : Int32) : YS := (mX2_note (mX2_note (mX2_note (mX2_note σ x1 4 (-5)) x1 5 (-5)) x1 6 (-5)) x1 9 0)
set_option maxHeartbeats 4000000 in
set_option maxRecDepth 100000 in
theorem k_X2_noteAfloat (l : Launch) (g : WG) (ad : AY) (σ : YS) (x1 : Int32) (h_1 : vp_in x1 20) : Wv l yX2_noteAfloat cX2_noteAfloat 2 3 g (cY g ad σ) (cY g ad (mX2_noteAfloat σ x1)) [.ref ad.1, .int x1] := by
  refine wv_of (by decide) (Nat.le_of_ble_eq_true rfl) ?_
  intro p e s m args below meth c ls A hC hAe hP hD hK hE hA hS hl
  obtain ⟨hx, hb, hml, hr, hown, hts, hlk, hnm⟩ := id hC
  have hl : lv_has ls 2 [(0, .ref ad.1), (1, .int x1)] := hl
  refine lv_aload_n hx hb dX2_noteAfloat_0 rfl (lv_at hl 0 rfl) ?_
  refine lv_iload_n hx hb dX2_noteAfloat_1 rfl (lv_at hl 1 rfl) ?_
  refine lv_iconst (v := 4) hx hb dX2_noteAfloat_2 (by decide) ?_
  refine lv_bipush (v := (-5)) hx hb dX2_noteAfloat_3 (by decide) ?_
  refine callWv hC (k_X2_note l g ad σ x1 4 (-5) h_1 (in_iff.mpr (by decide))) ci_X2_note lk_X2_59 ⟨Nat.le_of_ble_eq_true rfl, Nat.le_of_ble_eq_true rfl⟩ hP hD hK hE hS hA (q0 := 0) rfl rfl rfl rfl hl.1 rfl (Nat.le_of_ble_eq_true rfl) dX2_noteAfloat_5 ⟨Nat.zero_le _, Nat.zero_le _⟩ (fun H locs hP _ hD hS _ _ => ?_)
  refine lv_aload_n hx hb dX2_noteAfloat_8 rfl (lv_at hl 0 rfl) ?_
  refine lv_iload_n hx hb dX2_noteAfloat_9 rfl (lv_at hl 1 rfl) ?_
  refine lv_iconst (v := 5) hx hb dX2_noteAfloat_10 (by decide) ?_
  refine lv_bipush (v := (-5)) hx hb dX2_noteAfloat_11 (by decide) ?_
  refine callWv hC (k_X2_note l g ad (mX2_note σ x1 4 (-5)) x1 5 (-5) h_1 (in_iff.mpr (by decide))) ci_X2_note lk_X2_59 ⟨Nat.le_of_ble_eq_true rfl, Nat.le_of_ble_eq_true rfl⟩ hP hD hK hE hS hA (q0 := 0) rfl rfl rfl rfl hl.1 rfl (Nat.le_of_ble_eq_true rfl) dX2_noteAfloat_13 ⟨Nat.zero_le _, Nat.zero_le _⟩ (fun H locs hP _ hD hS _ _ => ?_)
  refine lv_aload_n hx hb dX2_noteAfloat_16 rfl (lv_at hl 0 rfl) ?_
  refine lv_iload_n hx hb dX2_noteAfloat_17 rfl (lv_at hl 1 rfl) ?_
  refine lv_bipush (v := 6) hx hb dX2_noteAfloat_18 (by decide) ?_
  refine lv_bipush (v := (-5)) hx hb dX2_noteAfloat_20 (by decide) ?_
  refine callWv hC (k_X2_note l g ad (mX2_note (mX2_note σ x1 4 (-5)) x1 5 (-5)) x1 6 (-5) h_1 (in_iff.mpr (by decide))) ci_X2_note lk_X2_59 ⟨Nat.le_of_ble_eq_true rfl, Nat.le_of_ble_eq_true rfl⟩ hP hD hK hE hS hA (q0 := 0) rfl rfl rfl rfl hl.1 rfl (Nat.le_of_ble_eq_true rfl) dX2_noteAfloat_22 ⟨Nat.zero_le _, Nat.zero_le _⟩ (fun H locs hP _ hD hS _ _ => ?_)
  refine lv_aload_n hx hb dX2_noteAfloat_25 rfl (lv_at hl 0 rfl) ?_
  refine lv_iload_n hx hb dX2_noteAfloat_26 rfl (lv_at hl 1 rfl) ?_
  refine lv_bipush (v := 9) hx hb dX2_noteAfloat_27 (by decide) ?_
  refine lv_iconst (v := 0) hx hb dX2_noteAfloat_29 (by decide) ?_
  refine callWv hC (k_X2_note l g ad (mX2_note (mX2_note (mX2_note σ x1 4 (-5)) x1 5 (-5)) x1 6 (-5)) x1 9 0 h_1 (in_iff.mpr (by decide))) ci_X2_note lk_X2_59 ⟨Nat.le_of_ble_eq_true rfl, Nat.le_of_ble_eq_true rfl⟩ hP hD hK hE hS hA (q0 := 0) rfl rfl rfl rfl hl.1 rfl (Nat.le_of_ble_eq_true rfl) dX2_noteAfloat_30 ⟨Nat.zero_le _, Nat.zero_le _⟩ (fun H locs hP _ hD hS _ _ => ?_)
  have hm : mX2_noteAfloat σ x1 = (mX2_note (mX2_note (mX2_note (mX2_note σ x1 4 (-5)) x1 5 (-5)) x1 6 (-5)) x1 9 0) := by unfold mX2_noteAfloat; rfl
  exact wv_ret hC hP (hAe ▸ hD) (hAe ▸ hS) dX2_noteAfloat_33 (by rw [hm])
def mX2_addBoat (σ : YS) (x1 : Int32) (x2 : Int32) (x3 : Int32) (x4 : Int32) : Int32 × YS := (if (mX2_isKind x4) = 0 then ((-1), σ) else (if (mX3_within x1 3 20) = 0 then ((-2), σ) else (if (mX3_within x2 5 40) = 0 then ((-2), σ) else (if (mX3_within x3 1 30) = 0 then ((-2), σ) else (if (mX2_lowestFreeNumber σ) = (-5) then ((-3), σ) else ((mX2_lowestFreeNumber σ), (mX2_noteAfloat (mX2_note (mX2_note (mX2_note (mX2_note (mX2_note (mX2_note (mX2_note σ (mX2_lowestFreeNumber σ) 0 x1) (mX2_lowestFreeNumber σ) 1 x2) (mX2_lowestFreeNumber σ) 2 x3) (mX2_lowestFreeNumber σ) 3 x4) (mX2_lowestFreeNumber σ) 7 (-5)) (mX2_lowestFreeNumber σ) 8 0) (mX2_lowestFreeNumber σ) 10 0) (mX2_lowestFreeNumber σ))))))))
set_option maxHeartbeats 4000000 in
set_option maxRecDepth 100000 in
theorem k_X2_addBoat (l : Launch) (g : WG) (ad : AY) (σ : YS) (x1 : Int32) (x2 : Int32) (x3 : Int32) (x4 : Int32) : Wr l yX2_addBoat cX2_addBoat 6 (some .int) 5 g (cY g ad σ) (cY g ad (mX2_addBoat σ x1 x2 x3 x4).2) [.ref ad.1, .int x1, .int x2, .int x3, .int x4] (mX2_addBoat σ x1 x2 x3 x4).1 := by
  refine wr_of (by decide) (Nat.le_of_ble_eq_true rfl) ?_
  intro p e s m args below meth c ls A hC hAe hP hD hK hE hA hS hl
  obtain ⟨hx, hb, hml, hr, hown, hts, hlk, hnm⟩ := id hC
  have hl : lv_has ls 6 [(0, .ref ad.1), (1, .int x1), (2, .int x2), (3, .int x3), (4, .int x4)] := hl
  refine lv_iload hx hb dX2_addBoat_0 (lv_at hl 4 rfl) ?_
  refine callRs hC (k_X2_isKind l g x4) ci_X2_isKind lk_X2_63 ⟨Nat.le_of_ble_eq_true rfl, Nat.le_of_ble_eq_true rfl⟩ hK (hE.S hS).none rfl hl.1 rfl (Nat.le_of_ble_eq_true rfl) dX2_addBoat_2 ⟨Nat.zero_le _, Nat.zero_le _⟩ ?_
  refine lv_if_ne (tgt := 10) hx hb dX2_addBoat_5 (by decide) (fun c_1 => ?_) (fun c_1 => ?_)
  · refine lv_iload_n hx hb dX2_addBoat_10 rfl (lv_at hl 1 rfl) ?_
    refine lv_iconst (v := 3) hx hb dX2_addBoat_11 (by decide) ?_
    refine lv_bipush (v := 20) hx hb dX2_addBoat_12 (by decide) ?_
    refine callRn hC (k_X3_within l g x1 3 20) ci_X3_within hE.2.1 ⟨Nat.le_of_ble_eq_true rfl, Nat.le_of_ble_eq_true rfl⟩ hK (hE.S hS).none rfl hl.1 rfl (Nat.le_of_ble_eq_true rfl) dX2_addBoat_14 ⟨Nat.zero_le _, Nat.zero_le _⟩ ?_
    refine lv_if_eq (tgt := 40) hx hb dX2_addBoat_17 (by decide) (fun c_2 => ?_) (fun c_2 => ?_)
    · refine lv_bipush (v := (-2)) hx hb dX2_addBoat_40 (by decide) ?_
      have hm : mX2_addBoat σ x1 x2 x3 x4 = ((-2), σ) := by unfold mX2_addBoat; rw [if_neg c_1, if_pos c_2]
      exact wr_ret hC hP (hAe ▸ hD) (hAe ▸ hS) dX2_addBoat_42 (by rw [hm]) (by rw [hm])
    · refine lv_iload_n hx hb dX2_addBoat_20 rfl (lv_at hl 2 rfl) ?_
      refine lv_iconst (v := 5) hx hb dX2_addBoat_21 (by decide) ?_
      refine lv_bipush (v := 40) hx hb dX2_addBoat_22 (by decide) ?_
      refine callRn hC (k_X3_within l g x2 5 40) ci_X3_within hE.2.1 ⟨Nat.le_of_ble_eq_true rfl, Nat.le_of_ble_eq_true rfl⟩ hK (hE.S hS).none rfl hl.1 rfl (Nat.le_of_ble_eq_true rfl) dX2_addBoat_24 ⟨Nat.zero_le _, Nat.zero_le _⟩ ?_
      refine lv_if_eq (tgt := 40) hx hb dX2_addBoat_27 (by decide) (fun c_3 => ?_) (fun c_3 => ?_)
      · refine lv_bipush (v := (-2)) hx hb dX2_addBoat_40 (by decide) ?_
        have hm : mX2_addBoat σ x1 x2 x3 x4 = ((-2), σ) := by unfold mX2_addBoat; rw [if_neg c_1, if_neg c_2, if_pos c_3]
        exact wr_ret hC hP (hAe ▸ hD) (hAe ▸ hS) dX2_addBoat_42 (by rw [hm]) (by rw [hm])
      · refine lv_iload_n hx hb dX2_addBoat_30 rfl (lv_at hl 3 rfl) ?_
        refine lv_iconst (v := 1) hx hb dX2_addBoat_31 (by decide) ?_
        refine lv_bipush (v := 30) hx hb dX2_addBoat_32 (by decide) ?_
        refine callRn hC (k_X3_within l g x3 1 30) ci_X3_within hE.2.1 ⟨Nat.le_of_ble_eq_true rfl, Nat.le_of_ble_eq_true rfl⟩ hK (hE.S hS).none rfl hl.1 rfl (Nat.le_of_ble_eq_true rfl) dX2_addBoat_34 ⟨Nat.zero_le _, Nat.zero_le _⟩ ?_
        refine lv_if_ne (tgt := 43) hx hb dX2_addBoat_37 (by decide) (fun c_4 => ?_) (fun c_4 => ?_)
        · refine lv_aload_n hx hb dX2_addBoat_43 rfl (lv_at hl 0 rfl) ?_
          refine callRd hC (k_X2_lowestFreeNumber l g ad σ) ci_X2_lowestFreeNumber lk_X2_70 ⟨Nat.le_of_ble_eq_true rfl, Nat.le_of_ble_eq_true rfl⟩ hP hK (hE.S hS).none (q0 := 0) rfl rfl rfl rfl hl.1 rfl (Nat.le_of_ble_eq_true rfl) dX2_addBoat_44 ⟨Nat.zero_le _, Nat.zero_le _⟩ ?_
          refine lv_istore (lv' := [(5, .int (mX2_lowestFreeNumber σ)), (0, .ref ad.1), (1, .int x1), (2, .int x2), (3, .int x3), (4, .int x4)]) hx hb dX2_addBoat_47 hl (by decide) rfl (fun ls hl => ?_)
          refine lv_iload hx hb dX2_addBoat_49 (lv_at hl 0 rfl) ?_
          refine lv_bipush (v := (-5)) hx hb dX2_addBoat_51 (by decide) ?_
          refine lv_icmp_ne (tgt := 59) hx hb dX2_addBoat_53 (by decide) (fun c_5 => ?_) (fun c_5 => ?_)
          · refine lv_aload_n hx hb dX2_addBoat_59 rfl (lv_at hl 1 rfl) ?_
            refine lv_iload hx hb dX2_addBoat_60 (lv_at hl 0 rfl) ?_
            refine lv_iconst (v := 0) hx hb dX2_addBoat_62 (by decide) ?_
            refine lv_iload_n hx hb dX2_addBoat_63 rfl (lv_at hl 2 rfl) ?_
            refine callWv hC (k_X2_note l g ad σ (mX2_lowestFreeNumber σ) 0 x1 (in_X2_lowest c_5) (in_iff.mpr (by decide))) ci_X2_note lk_X2_59 ⟨Nat.le_of_ble_eq_true rfl, Nat.le_of_ble_eq_true rfl⟩ hP hD hK hE hS hA (q0 := 0) rfl rfl rfl rfl hl.1 rfl (Nat.le_of_ble_eq_true rfl) dX2_addBoat_64 ⟨Nat.zero_le _, Nat.zero_le _⟩ (fun H locs hP _ hD hS _ _ => ?_)
            refine lv_aload_n hx hb dX2_addBoat_67 rfl (lv_at hl 1 rfl) ?_
            refine lv_iload hx hb dX2_addBoat_68 (lv_at hl 0 rfl) ?_
            refine lv_iconst (v := 1) hx hb dX2_addBoat_70 (by decide) ?_
            refine lv_iload_n hx hb dX2_addBoat_71 rfl (lv_at hl 3 rfl) ?_
            refine callWv hC (k_X2_note l g ad (mX2_note σ (mX2_lowestFreeNumber σ) 0 x1) (mX2_lowestFreeNumber σ) 1 x2 (in_X2_lowest c_5) (in_iff.mpr (by decide))) ci_X2_note lk_X2_59 ⟨Nat.le_of_ble_eq_true rfl, Nat.le_of_ble_eq_true rfl⟩ hP hD hK hE hS hA (q0 := 0) rfl rfl rfl rfl hl.1 rfl (Nat.le_of_ble_eq_true rfl) dX2_addBoat_72 ⟨Nat.zero_le _, Nat.zero_le _⟩ (fun H locs hP _ hD hS _ _ => ?_)
            refine lv_aload_n hx hb dX2_addBoat_75 rfl (lv_at hl 1 rfl) ?_
            refine lv_iload hx hb dX2_addBoat_76 (lv_at hl 0 rfl) ?_
            refine lv_iconst (v := 2) hx hb dX2_addBoat_78 (by decide) ?_
            refine lv_iload_n hx hb dX2_addBoat_79 rfl (lv_at hl 4 rfl) ?_
            refine callWv hC (k_X2_note l g ad (mX2_note (mX2_note σ (mX2_lowestFreeNumber σ) 0 x1) (mX2_lowestFreeNumber σ) 1 x2) (mX2_lowestFreeNumber σ) 2 x3 (in_X2_lowest c_5) (in_iff.mpr (by decide))) ci_X2_note lk_X2_59 ⟨Nat.le_of_ble_eq_true rfl, Nat.le_of_ble_eq_true rfl⟩ hP hD hK hE hS hA (q0 := 0) rfl rfl rfl rfl hl.1 rfl (Nat.le_of_ble_eq_true rfl) dX2_addBoat_80 ⟨Nat.zero_le _, Nat.zero_le _⟩ (fun H locs hP _ hD hS _ _ => ?_)
            refine lv_aload_n hx hb dX2_addBoat_83 rfl (lv_at hl 1 rfl) ?_
            refine lv_iload hx hb dX2_addBoat_84 (lv_at hl 0 rfl) ?_
            refine lv_iconst (v := 3) hx hb dX2_addBoat_86 (by decide) ?_
            refine lv_iload hx hb dX2_addBoat_87 (lv_at hl 5 rfl) ?_
            refine callWv hC (k_X2_note l g ad (mX2_note (mX2_note (mX2_note σ (mX2_lowestFreeNumber σ) 0 x1) (mX2_lowestFreeNumber σ) 1 x2) (mX2_lowestFreeNumber σ) 2 x3) (mX2_lowestFreeNumber σ) 3 x4 (in_X2_lowest c_5) (in_iff.mpr (by decide))) ci_X2_note lk_X2_59 ⟨Nat.le_of_ble_eq_true rfl, Nat.le_of_ble_eq_true rfl⟩ hP hD hK hE hS hA (q0 := 0) rfl rfl rfl rfl hl.1 rfl (Nat.le_of_ble_eq_true rfl) dX2_addBoat_89 ⟨Nat.zero_le _, Nat.zero_le _⟩ (fun H locs hP _ hD hS _ _ => ?_)
            refine lv_aload_n hx hb dX2_addBoat_92 rfl (lv_at hl 1 rfl) ?_
            refine lv_iload hx hb dX2_addBoat_93 (lv_at hl 0 rfl) ?_
            refine lv_bipush (v := 7) hx hb dX2_addBoat_95 (by decide) ?_
            refine lv_bipush (v := (-5)) hx hb dX2_addBoat_97 (by decide) ?_
            refine callWv hC (k_X2_note l g ad (mX2_note (mX2_note (mX2_note (mX2_note σ (mX2_lowestFreeNumber σ) 0 x1) (mX2_lowestFreeNumber σ) 1 x2) (mX2_lowestFreeNumber σ) 2 x3) (mX2_lowestFreeNumber σ) 3 x4) (mX2_lowestFreeNumber σ) 7 (-5) (in_X2_lowest c_5) (in_iff.mpr (by decide))) ci_X2_note lk_X2_59 ⟨Nat.le_of_ble_eq_true rfl, Nat.le_of_ble_eq_true rfl⟩ hP hD hK hE hS hA (q0 := 0) rfl rfl rfl rfl hl.1 rfl (Nat.le_of_ble_eq_true rfl) dX2_addBoat_99 ⟨Nat.zero_le _, Nat.zero_le _⟩ (fun H locs hP _ hD hS _ _ => ?_)
            refine lv_aload_n hx hb dX2_addBoat_102 rfl (lv_at hl 1 rfl) ?_
            refine lv_iload hx hb dX2_addBoat_103 (lv_at hl 0 rfl) ?_
            refine lv_bipush (v := 8) hx hb dX2_addBoat_105 (by decide) ?_
            refine lv_iconst (v := 0) hx hb dX2_addBoat_107 (by decide) ?_
            refine callWv hC (k_X2_note l g ad (mX2_note (mX2_note (mX2_note (mX2_note (mX2_note σ (mX2_lowestFreeNumber σ) 0 x1) (mX2_lowestFreeNumber σ) 1 x2) (mX2_lowestFreeNumber σ) 2 x3) (mX2_lowestFreeNumber σ) 3 x4) (mX2_lowestFreeNumber σ) 7 (-5)) (mX2_lowestFreeNumber σ) 8 0 (in_X2_lowest c_5) (in_iff.mpr (by decide))) ci_X2_note lk_X2_59 ⟨Nat.le_of_ble_eq_true rfl, Nat.le_of_ble_eq_true rfl⟩ hP hD hK hE hS hA (q0 := 0) rfl rfl rfl rfl hl.1 rfl (Nat.le_of_ble_eq_true rfl) dX2_addBoat_108 ⟨Nat.zero_le _, Nat.zero_le _⟩ (fun H locs hP _ hD hS _ _ => ?_)
            refine lv_aload_n hx hb dX2_addBoat_111 rfl (lv_at hl 1 rfl) ?_
            refine lv_iload hx hb dX2_addBoat_112 (lv_at hl 0 rfl) ?_
            refine lv_bipush (v := 10) hx hb dX2_addBoat_114 (by decide) ?_
            refine lv_iconst (v := 0) hx hb dX2_addBoat_116 (by decide) ?_
            refine callWv hC (k_X2_note l g ad (mX2_note (mX2_note (mX2_note (mX2_note (mX2_note (mX2_note σ (mX2_lowestFreeNumber σ) 0 x1) (mX2_lowestFreeNumber σ) 1 x2) (mX2_lowestFreeNumber σ) 2 x3) (mX2_lowestFreeNumber σ) 3 x4) (mX2_lowestFreeNumber σ) 7 (-5)) (mX2_lowestFreeNumber σ) 8 0) (mX2_lowestFreeNumber σ) 10 0 (in_X2_lowest c_5) (in_iff.mpr (by decide))) ci_X2_note lk_X2_59 ⟨Nat.le_of_ble_eq_true rfl, Nat.le_of_ble_eq_true rfl⟩ hP hD hK hE hS hA (q0 := 0) rfl rfl rfl rfl hl.1 rfl (Nat.le_of_ble_eq_true rfl) dX2_addBoat_117 ⟨Nat.zero_le _, Nat.zero_le _⟩ (fun H locs hP _ hD hS _ _ => ?_)
            refine lv_aload_n hx hb dX2_addBoat_120 rfl (lv_at hl 1 rfl) ?_
            refine lv_iload hx hb dX2_addBoat_121 (lv_at hl 0 rfl) ?_
            refine callWv hC (k_X2_noteAfloat l g ad (mX2_note (mX2_note (mX2_note (mX2_note (mX2_note (mX2_note (mX2_note σ (mX2_lowestFreeNumber σ) 0 x1) (mX2_lowestFreeNumber σ) 1 x2) (mX2_lowestFreeNumber σ) 2 x3) (mX2_lowestFreeNumber σ) 3 x4) (mX2_lowestFreeNumber σ) 7 (-5)) (mX2_lowestFreeNumber σ) 8 0) (mX2_lowestFreeNumber σ) 10 0) (mX2_lowestFreeNumber σ) (in_X2_lowest c_5)) ci_X2_noteAfloat lk_X2_74 ⟨Nat.le_of_ble_eq_true rfl, Nat.le_of_ble_eq_true rfl⟩ hP hD hK hE hS hA (q0 := 0) rfl rfl rfl rfl hl.1 rfl (Nat.le_of_ble_eq_true rfl) dX2_addBoat_123 ⟨Nat.zero_le _, Nat.zero_le _⟩ (fun H locs hP _ hD hS _ _ => ?_)
            refine lv_iload hx hb dX2_addBoat_126 (lv_at hl 0 rfl) ?_
            have hm : mX2_addBoat σ x1 x2 x3 x4 = ((mX2_lowestFreeNumber σ), (mX2_noteAfloat (mX2_note (mX2_note (mX2_note (mX2_note (mX2_note (mX2_note (mX2_note σ (mX2_lowestFreeNumber σ) 0 x1) (mX2_lowestFreeNumber σ) 1 x2) (mX2_lowestFreeNumber σ) 2 x3) (mX2_lowestFreeNumber σ) 3 x4) (mX2_lowestFreeNumber σ) 7 (-5)) (mX2_lowestFreeNumber σ) 8 0) (mX2_lowestFreeNumber σ) 10 0) (mX2_lowestFreeNumber σ))) := by unfold mX2_addBoat; rw [if_neg c_1, if_neg c_2, if_neg c_3, if_neg c_4, if_neg c_5]
            exact wr_ret hC hP (hAe ▸ hD) (hAe ▸ hS) dX2_addBoat_128 (by rw [hm]) (by rw [hm])
          · refine lv_bipush (v := (-3)) hx hb dX2_addBoat_56 (by decide) ?_
            have hm : mX2_addBoat σ x1 x2 x3 x4 = ((-3), σ) := by unfold mX2_addBoat; rw [if_neg c_1, if_neg c_2, if_neg c_3, if_neg c_4, if_pos c_5]
            exact wr_ret hC hP (hAe ▸ hD) (hAe ▸ hS) dX2_addBoat_58 (by rw [hm]) (by rw [hm])
        · refine lv_bipush (v := (-2)) hx hb dX2_addBoat_40 (by decide) ?_
          have hm : mX2_addBoat σ x1 x2 x3 x4 = ((-2), σ) := by unfold mX2_addBoat; rw [if_neg c_1, if_neg c_2, if_neg c_3, if_pos c_4]
          exact wr_ret hC hP (hAe ▸ hD) (hAe ▸ hS) dX2_addBoat_42 (by rw [hm]) (by rw [hm])
  · refine lv_iconst (v := (-1)) hx hb dX2_addBoat_8 (by decide) ?_
    have hm : mX2_addBoat σ x1 x2 x3 x4 = ((-1), σ) := by unfold mX2_addBoat; rw [if_pos c_1]
    exact wr_ret hC hP (hAe ▸ hD) (hAe ▸ hS) dX2_addBoat_9 (by rw [hm]) (by rw [hm])
def mX2_isAshore (σ : YS) (x1 : Int32) : Int32 := (if (mX2_fact σ x1 4) = (-5) then 0 else 1)
set_option maxHeartbeats 4000000 in
set_option maxRecDepth 100000 in
theorem k_X2_isAshore (l : Launch) (g : WG) (ad : AY) (σ : YS) (x1 : Int32) (h_1 : vp_in x1 20) : Rd l yX2_isAshore cX2_isAshore 2 (some .boolean) 3 (Wl g (cY g ad σ) (fun _ => False)) [.ref ad.1, .int x1] (mX2_isAshore σ x1) := by
  refine rd_of (by decide) (Nat.le_of_ble_eq_true rfl) ?_
  intro p e s m args below meth c ls hC hW hl
  obtain ⟨hP, hK, hE⟩ := hW
  obtain ⟨hx, hb, hml, hr, hown, hts, hlk, hnm⟩ := id hC
  have hl : lv_has ls 2 [(0, .ref ad.1), (1, .int x1)] := hl
  refine lv_aload_n hx hb dX2_isAshore_0 rfl (lv_at hl 0 rfl) ?_
  refine lv_iload_n hx hb dX2_isAshore_1 rfl (lv_at hl 1 rfl) ?_
  refine lv_iconst (v := 4) hx hb dX2_isAshore_2 (by decide) ?_
  refine callRd hC (k_X2_fact l g ad σ x1 4 h_1 (in_iff.mpr (by decide))) ci_X2_fact lk_X2_47 ⟨Nat.le_of_ble_eq_true rfl, Nat.le_of_ble_eq_true rfl⟩ hP hK hE (q0 := 0) rfl rfl rfl rfl hl.1 rfl (Nat.le_of_ble_eq_true rfl) dX2_isAshore_3 ⟨Nat.zero_le _, Nat.zero_le _⟩ ?_
  refine lv_bipush (v := (-5)) hx hb dX2_isAshore_6 (by decide) ?_
  refine lv_icmp_eq (tgt := 15) hx hb dX2_isAshore_8 (by decide) (fun c_1 => ?_) (fun c_1 => ?_)
  · refine lv_iconst (v := 0) hx hb dX2_isAshore_15 (by decide) ?_
    exact rd_zret hC dX2_isAshore_16 rfl (Eq.symm (by unfold mX2_isAshore; rw [if_pos c_1]))
  · refine lv_iconst (v := 1) hx hb dX2_isAshore_11 (by decide) ?_
    refine lv_goto (tgt := 16) hx hb dX2_isAshore_12 (by decide) ?_
    exact rd_zret hC dX2_isAshore_16 rfl (Eq.symm (by unfold mX2_isAshore; rw [if_neg c_1]))
def mX2_hasMast (σ : YS) (x1 : Int32) : Int32 := (if (mX2_fact σ x1 7) = (-5) then 1 else 0)
set_option maxHeartbeats 4000000 in
set_option maxRecDepth 100000 in
theorem k_X2_hasMast (l : Launch) (g : WG) (ad : AY) (σ : YS) (x1 : Int32) (h_1 : vp_in x1 20) : Rd l yX2_hasMast cX2_hasMast 2 (some .boolean) 3 (Wl g (cY g ad σ) (fun _ => False)) [.ref ad.1, .int x1] (mX2_hasMast σ x1) := by
  refine rd_of (by decide) (Nat.le_of_ble_eq_true rfl) ?_
  intro p e s m args below meth c ls hC hW hl
  obtain ⟨hP, hK, hE⟩ := hW
  obtain ⟨hx, hb, hml, hr, hown, hts, hlk, hnm⟩ := id hC
  have hl : lv_has ls 2 [(0, .ref ad.1), (1, .int x1)] := hl
  refine lv_aload_n hx hb dX2_hasMast_0 rfl (lv_at hl 0 rfl) ?_
  refine lv_iload_n hx hb dX2_hasMast_1 rfl (lv_at hl 1 rfl) ?_
  refine lv_bipush (v := 7) hx hb dX2_hasMast_2 (by decide) ?_
  refine callRd hC (k_X2_fact l g ad σ x1 7 h_1 (in_iff.mpr (by decide))) ci_X2_fact lk_X2_47 ⟨Nat.le_of_ble_eq_true rfl, Nat.le_of_ble_eq_true rfl⟩ hP hK hE (q0 := 0) rfl rfl rfl rfl hl.1 rfl (Nat.le_of_ble_eq_true rfl) dX2_hasMast_4 ⟨Nat.zero_le _, Nat.zero_le _⟩ ?_
  refine lv_bipush (v := (-5)) hx hb dX2_hasMast_7 (by decide) ?_
  refine lv_icmp_ne (tgt := 16) hx hb dX2_hasMast_9 (by decide) (fun c_1 => ?_) (fun c_1 => ?_)
  · refine lv_iconst (v := 0) hx hb dX2_hasMast_16 (by decide) ?_
    exact rd_zret hC dX2_hasMast_17 rfl (Eq.symm (by unfold mX2_hasMast; rw [if_neg c_1]))
  · refine lv_iconst (v := 1) hx hb dX2_hasMast_12 (by decide) ?_
    refine lv_goto (tgt := 17) hx hb dX2_hasMast_13 (by decide) ?_
    exact rd_zret hC dX2_hasMast_17 rfl (Eq.symm (by unfold mX2_hasMast; rw [if_pos c_1]))
def mX2_boats (σ : YS) : Int32 := (20 - (mX2_boatsWith σ 0 (-5)))
set_option maxHeartbeats 4000000 in
set_option maxRecDepth 100000 in
theorem k_X2_boats (l : Launch) (g : WG) (ad : AY) (σ : YS) : Rd l yX2_boats cX2_boats 1 (some .int) 2 (Wl g (cY g ad σ) (fun _ => False)) [.ref ad.1] (mX2_boats σ) := by
  refine rd_of (by decide) (Nat.le_of_ble_eq_true rfl) ?_
  intro p e s m args below meth c ls hC hW hl
  obtain ⟨hP, hK, hE⟩ := hW
  obtain ⟨hx, hb, hml, hr, hown, hts, hlk, hnm⟩ := id hC
  have hl : lv_has ls 1 [(0, .ref ad.1)] := hl
  refine lv_bipush (v := 20) hx hb dX2_boats_0 (by decide) ?_
  refine lv_aload_n hx hb dX2_boats_2 rfl (lv_at hl 0 rfl) ?_
  refine lv_iconst (v := 0) hx hb dX2_boats_3 (by decide) ?_
  refine lv_bipush (v := (-5)) hx hb dX2_boats_4 (by decide) ?_
  refine callRd hC (k_X2_boatsWith l g ad σ 0 (-5)) ci_X2_boatsWith lk_X2_89 ⟨Nat.le_of_ble_eq_true rfl, Nat.le_of_ble_eq_true rfl⟩ hP hK hE (q0 := 0) rfl rfl rfl rfl hl.1 rfl (Nat.le_of_ble_eq_true rfl) dX2_boats_6 ⟨Nat.zero_le _, Nat.zero_le _⟩ ?_
  refine lv_isub hx hb dX2_boats_9 ?_
  exact rd_ret hC dX2_boats_10 (Eq.symm (by unfold mX2_boats; rfl))
def mX2_removeBoat (σ : YS) (x1 : Int32) : Int32 × YS := (if (mX2_knows σ x1) = 0 then ((-1), σ) else (if (mX2_isAshore σ x1) = 0 then (if (mX2_hasMast σ x1) = 0 then ((-4), σ) else ((mX2_boats (mX2_forget σ x1)), (mX2_forget σ x1))) else ((-4), σ)))
set_option maxHeartbeats 4000000 in
set_option maxRecDepth 100000 in
theorem k_X2_removeBoat (l : Launch) (g : WG) (ad : AY) (σ : YS) (x1 : Int32) : Wr l yX2_removeBoat cX2_removeBoat 2 (some .int) 4 g (cY g ad σ) (cY g ad (mX2_removeBoat σ x1).2) [.ref ad.1, .int x1] (mX2_removeBoat σ x1).1 := by
  refine wr_of (by decide) (Nat.le_of_ble_eq_true rfl) ?_
  intro p e s m args below meth c ls A hC hAe hP hD hK hE hA hS hl
  obtain ⟨hx, hb, hml, hr, hown, hts, hlk, hnm⟩ := id hC
  have hl : lv_has ls 2 [(0, .ref ad.1), (1, .int x1)] := hl
  refine lv_aload_n hx hb dX2_removeBoat_0 rfl (lv_at hl 0 rfl) ?_
  refine lv_iload_n hx hb dX2_removeBoat_1 rfl (lv_at hl 1 rfl) ?_
  refine callRd hC (k_X2_knows l g ad σ x1) ci_X2_knows lk_X2_77 ⟨Nat.le_of_ble_eq_true rfl, Nat.le_of_ble_eq_true rfl⟩ hP hK (hE.S hS).none (q0 := 0) rfl rfl rfl rfl hl.1 rfl (Nat.le_of_ble_eq_true rfl) dX2_removeBoat_2 ⟨Nat.zero_le _, Nat.zero_le _⟩ ?_
  refine lv_if_ne (tgt := 10) hx hb dX2_removeBoat_5 (by decide) (fun c_1 => ?_) (fun c_1 => ?_)
  · refine lv_aload_n hx hb dX2_removeBoat_10 rfl (lv_at hl 0 rfl) ?_
    refine lv_iload_n hx hb dX2_removeBoat_11 rfl (lv_at hl 1 rfl) ?_
    refine callRd hC (k_X2_isAshore l g ad σ x1 (in_X2_knows c_1)) ci_X2_isAshore lk_X2_80 ⟨Nat.le_of_ble_eq_true rfl, Nat.le_of_ble_eq_true rfl⟩ hP hK (hE.S hS).none (q0 := 0) rfl rfl rfl rfl hl.1 rfl (Nat.le_of_ble_eq_true rfl) dX2_removeBoat_12 ⟨Nat.zero_le _, Nat.zero_le _⟩ ?_
    refine lv_if_ne (tgt := 26) hx hb dX2_removeBoat_15 (by decide) (fun c_2 => ?_) (fun c_2 => ?_)
    · refine lv_bipush (v := (-4)) hx hb dX2_removeBoat_26 (by decide) ?_
      have hm : mX2_removeBoat σ x1 = ((-4), σ) := by unfold mX2_removeBoat; rw [if_neg c_1, if_neg c_2]
      exact wr_ret hC hP (hAe ▸ hD) (hAe ▸ hS) dX2_removeBoat_28 (by rw [hm]) (by rw [hm])
    · refine lv_aload_n hx hb dX2_removeBoat_18 rfl (lv_at hl 0 rfl) ?_
      refine lv_iload_n hx hb dX2_removeBoat_19 rfl (lv_at hl 1 rfl) ?_
      refine callRd hC (k_X2_hasMast l g ad σ x1 (in_X2_knows c_1)) ci_X2_hasMast lk_X2_83 ⟨Nat.le_of_ble_eq_true rfl, Nat.le_of_ble_eq_true rfl⟩ hP hK (hE.S hS).none (q0 := 0) rfl rfl rfl rfl hl.1 rfl (Nat.le_of_ble_eq_true rfl) dX2_removeBoat_20 ⟨Nat.zero_le _, Nat.zero_le _⟩ ?_
      refine lv_if_ne (tgt := 29) hx hb dX2_removeBoat_23 (by decide) (fun c_3 => ?_) (fun c_3 => ?_)
      · refine lv_aload_n hx hb dX2_removeBoat_29 rfl (lv_at hl 0 rfl) ?_
        refine lv_iload_n hx hb dX2_removeBoat_30 rfl (lv_at hl 1 rfl) ?_
        refine callWv hC (k_X2_forget l g ad σ x1 (in_X2_knows c_1)) ci_X2_forget lk_X2_37 ⟨Nat.le_of_ble_eq_true rfl, Nat.le_of_ble_eq_true rfl⟩ hP hD hK hE hS hA (q0 := 0) rfl rfl rfl rfl hl.1 rfl (Nat.le_of_ble_eq_true rfl) dX2_removeBoat_31 ⟨Nat.zero_le _, Nat.zero_le _⟩ (fun H locs hP _ hD hS _ _ => ?_)
        refine lv_aload_n hx hb dX2_removeBoat_34 rfl (lv_at hl 0 rfl) ?_
        refine callRd hC (k_X2_boats l g ad (mX2_forget σ x1)) ci_X2_boats lk_X2_86 ⟨Nat.le_of_ble_eq_true rfl, Nat.le_of_ble_eq_true rfl⟩ hP hK (hE.S hS).none (q0 := 0) rfl rfl rfl rfl hl.1 rfl (Nat.le_of_ble_eq_true rfl) dX2_removeBoat_35 ⟨Nat.zero_le _, Nat.zero_le _⟩ ?_
        have hm : mX2_removeBoat σ x1 = ((mX2_boats (mX2_forget σ x1)), (mX2_forget σ x1)) := by unfold mX2_removeBoat; rw [if_neg c_1, if_pos c_2, if_neg c_3]
        exact wr_ret hC hP (hAe ▸ hD) (hAe ▸ hS) dX2_removeBoat_38 (by rw [hm]) (by rw [hm])
      · refine lv_bipush (v := (-4)) hx hb dX2_removeBoat_26 (by decide) ?_
        have hm : mX2_removeBoat σ x1 = ((-4), σ) := by unfold mX2_removeBoat; rw [if_neg c_1, if_pos c_2, if_pos c_3]
        exact wr_ret hC hP (hAe ▸ hD) (hAe ▸ hS) dX2_removeBoat_28 (by rw [hm]) (by rw [hm])
  · refine lv_iconst (v := (-1)) hx hb dX2_removeBoat_8 (by decide) ?_
    have hm : mX2_removeBoat σ x1 = ((-1), σ) := by unfold mX2_removeBoat; rw [if_pos c_1]
    exact wr_ret hC hP (hAe ▸ hD) (hAe ▸ hS) dX2_removeBoat_9 (by rw [hm]) (by rw [hm])
def mX2_boatsAshore (σ : YS) : Int32 := (20 - (mX2_boatsWith σ 4 (-5)))
set_option maxHeartbeats 4000000 in
set_option maxRecDepth 100000 in
theorem k_X2_boatsAshore (l : Launch) (g : WG) (ad : AY) (σ : YS) : Rd l yX2_boatsAshore cX2_boatsAshore 1 (some .int) 2 (Wl g (cY g ad σ) (fun _ => False)) [.ref ad.1] (mX2_boatsAshore σ) := by
  refine rd_of (by decide) (Nat.le_of_ble_eq_true rfl) ?_
  intro p e s m args below meth c ls hC hW hl
  obtain ⟨hP, hK, hE⟩ := hW
  obtain ⟨hx, hb, hml, hr, hown, hts, hlk, hnm⟩ := id hC
  have hl : lv_has ls 1 [(0, .ref ad.1)] := hl
  refine lv_bipush (v := 20) hx hb dX2_boatsAshore_0 (by decide) ?_
  refine lv_aload_n hx hb dX2_boatsAshore_2 rfl (lv_at hl 0 rfl) ?_
  refine lv_iconst (v := 4) hx hb dX2_boatsAshore_3 (by decide) ?_
  refine lv_bipush (v := (-5)) hx hb dX2_boatsAshore_4 (by decide) ?_
  refine callRd hC (k_X2_boatsWith l g ad σ 4 (-5)) ci_X2_boatsWith lk_X2_89 ⟨Nat.le_of_ble_eq_true rfl, Nat.le_of_ble_eq_true rfl⟩ hP hK hE (q0 := 0) rfl rfl rfl rfl hl.1 rfl (Nat.le_of_ble_eq_true rfl) dX2_boatsAshore_6 ⟨Nat.zero_le _, Nat.zero_le _⟩ ?_
  refine lv_isub hx hb dX2_boatsAshore_9 ?_
  exact rd_ret hC dX2_boatsAshore_10 (Eq.symm (by unfold mX2_boatsAshore; rfl))
def mX2_cradlesOfG (σ : YS) (x1 : Int32) : Int32 := (if (mX2_isKind x1) = 0 then (-5) else ((Y_cradles σ) x1.toNatClampNeg))
set_option maxHeartbeats 4000000 in
set_option maxRecDepth 100000 in
theorem k_X2_cradlesOfG (l : Launch) (g : WG) (ad : AY) (σ : YS) (x1 : Int32) : Rd l yX2_cradlesOf cX2_cradlesOf 2 (some .int) 1 (Wl g (cY g ad σ) (fun _ => False)) [.ref ad.1, .int x1] (mX2_cradlesOfG σ x1) := by
  refine rd_of (by decide) (Nat.le_of_ble_eq_true rfl) ?_
  intro p e s m args below meth c ls hC hW hl
  obtain ⟨hP, hK, hE⟩ := hW
  obtain ⟨hx, hb, hml, hr, hown, hts, hlk, hnm⟩ := id hC
  have hl : lv_has ls 2 [(0, .ref ad.1), (1, .int x1)] := hl
  refine lv_iload_n hx hb dX2_cradlesOf_0 rfl (lv_at hl 1 rfl) ?_
  refine callRs hC (k_X2_isKind l g x1) ci_X2_isKind lk_X2_63 ⟨Nat.le_of_ble_eq_true rfl, Nat.le_of_ble_eq_true rfl⟩ hK hE rfl hl.1 rfl (Nat.le_of_ble_eq_true rfl) dX2_cradlesOf_1 ⟨Nat.zero_le _, Nat.zero_le _⟩ ?_
  refine lv_if_eq (tgt := 16) hx hb dX2_cradlesOf_4 (by decide) (fun c_1 => ?_) (fun c_1 => ?_)
  · refine lv_bipush (v := (-5)) hx hb dX2_cradlesOf_16 (by decide) ?_
    exact rd_ret hC dX2_cradlesOf_18 (Eq.symm (by unfold mX2_cradlesOfG; rw [if_pos c_1]))
  · refine lv_aload_n hx hb dX2_cradlesOf_7 rfl (lv_at hl 0 rfl) ?_
    refine gY_cradles hC rfl hK hP dX2_cradlesOf_8 ?_
    refine lv_iload_n hx hb dX2_cradlesOf_11 rfl (lv_at hl 1 rfl) ?_
    refine lY_cradles hC hK hP (in_X2_isKind c_1) dX2_cradlesOf_12 ?_
    refine lv_goto (tgt := 18) hx hb dX2_cradlesOf_13 (by decide) ?_
    exact rd_ret hC dX2_cradlesOf_18 (Eq.symm (by unfold mX2_cradlesOfG; rw [if_neg c_1]))
def mX2_cradlesOf (σ : YS) (x1 : Int32) : Int32 := ((Y_cradles σ) x1.toNatClampNeg)
theorem ad_X2_cradlesOf {σ : YS} {x1 : Int32} (h_1 : vp_in x1 3) : mX2_cradlesOfG σ x1 = mX2_cradlesOf σ x1 := if_neg (ne_X2_isKind h_1)
theorem k_X2_cradlesOf (l : Launch) (g : WG) (ad : AY) (σ : YS) (x1 : Int32) (h_1 : vp_in x1 3) : Rd l yX2_cradlesOf cX2_cradlesOf 2 (some .int) 1 (Wl g (cY g ad σ) (fun _ => False)) [.ref ad.1, .int x1] (mX2_cradlesOf σ x1) := (ad_X2_cradlesOf h_1) ▸ (k_X2_cradlesOfG l g ad σ x1)
