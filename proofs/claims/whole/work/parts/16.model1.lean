def mX4_push_aside_L51  : Nat → MS → Int32 → MS
  | 0, σ, _ => σ
  | n + 1, σ, u2 => (if 255 ≤ u2 then (M_set_states σ ((M_states σ) + 1)) else (mX4_push_aside_L51 n (M_set_old σ (upd (M_old σ) ((255 * (M_states σ)) + u2).toNatClampNeg ((M_aside σ) u2.toNatClampNeg))) (u2 + 1)))
set_option maxHeartbeats 4000000 in
set_option maxRecDepth 100000 in
theorem q_X4_push_aside_51 {p : Program} {e : Env} {s : State} {m : MethodId} {args : Array Value} {below : List Frame} {meth : Method} {c : Code} (l : Launch) (g : WG) (ad : AM) (hC : Cx p s m args meth c yX4_push cX4_push 3 none) (hK : va_K g.1 vwCl (tysW g) s) {A : Nat → Prop} {ws0 : va_W} (hE : Ex A s s.heap) (hA : ∀ q : Nat, s.heap.size ≤ q → A q) (hAe : A = va_A ws0 s.heap.size) {r : MS} : ∀ (n : Nat) (σ : MS) (H : Heap) (locs : List Loc) (hP : va_P g.1 vwCl (cM g ad σ) H) (hD : va_D A (cM g ad σ)) (hS : va_S A s.heap H locs) (u2 : Int32) (hi0 : 0 ≤ u2.toInt) (hi1 : u2.toInt ≤ 255) (hs : 0 ≤ (M_states σ).toInt ∧ (M_states σ).toInt ≤ 3) (hm : ((256 : Int) - u2.toInt).toNat < n) (hR : r = mX4_push_aside_L51 n σ u2) (ls : Array Slot) (hl : lv_has ls 3 [(2, .int u2), (0, .ref ad.1), (1, .ref ad.2.2.1)]), W p l e (rk 0) s m args below meth c H locs 0 0 (MQ below (va_Qv (fun _ => True) (Bw g ws0 (cM g ad r) s.heap.size) (va_A ws0 s.heap.size)) args s 0 0 (va_A ws0 s.heap.size)) (F0 m 51 ls []) := by
  obtain ⟨hx, hb, hml, hr, hown, hts, hlk, hnm⟩ := id hC
  intro n
  induction n with
  | zero => intro σ H locs hP hD hS u2 hi0 hi1 hs hm hR ls hl; exact absurd hm (Nat.not_lt_zero _)
  | succ n ih =>
    intro σ H locs hP hD hS u2 hi0 hi1 hs hm hR ls hl
    refine lv_iload_n hx hb dX4_push_51 rfl (lv_at hl 0 rfl) ?_
    refine lv_sipush (v := 255) hx hb dX4_push_52 (by decide) ?_
    refine lv_icmp_ge (tgt := 82) hx hb dX4_push_55 (by decide) (fun c_2 => ?_) (fun c_2 => ?_)
    · refine lv_aload_n hx hb dX4_push_82 rfl (lv_at hl 1 rfl) ?_
      refine lv_dup hx hb dX4_push_83 rfl ?_
      refine gM_states hC rfl hK hP dX4_push_84 ?_
      refine lv_iconst (v := 1) hx hb dX4_push_87 (by decide) ?_
      refine lv_iadd hx hb dX4_push_88 ?_
      refine pM_states hC rfl hK hP hD hS dX4_push_89 (fun H locs hP hD hS => ?_)
      have hm : r = (M_set_states σ ((M_states σ) + 1)) := by rw [hR, mX4_push_aside_L51, if_pos c_2]
      exact wv_ret hC hP (hAe ▸ hD) (hAe ▸ hS) dX4_push_92 (by rw [hm])
    · refine lv_aload_n hx hb dX4_push_58 rfl (lv_at hl 1 rfl) ?_
      refine gM_old hC rfl hK hP dX4_push_59 ?_
      refine lv_sipush (v := 255) hx hb dX4_push_62 (by decide) ?_
      refine lv_aload_n hx hb dX4_push_65 rfl (lv_at hl 1 rfl) ?_
      refine gM_states hC rfl hK hP dX4_push_66 ?_
      refine lv_imul hx hb dX4_push_69 ?_
      refine lv_iload_n hx hb dX4_push_70 rfl (lv_at hl 0 rfl) ?_
      refine lv_iadd hx hb dX4_push_71 ?_
      refine lv_aload_n hx hb dX4_push_72 rfl (lv_at hl 2 rfl) ?_
      refine lv_iload_n hx hb dX4_push_73 rfl (lv_at hl 0 rfl) ?_
      refine lM_aside hC hK hP (in_up (n := 255) rfl hi0 c_2) dX4_push_74 ?_
      refine sM_old hC hK hP hD hS (ix_255 hs (in_up (n := 255) rfl hi0 c_2)) dX4_push_75 (fun H locs hP hD hS => ?_)
      refine lv_iinc (v := (u2 + 1)) (lv' := [(2, .int (u2 + 1)), (0, .ref ad.1), (1, .ref ad.2.2.1)]) hx hb dX4_push_76 hl (k := 0) rfl rfl (by decide) rfl (fun ls hl => ?_)
      refine lv_goto (tgt := 51) hx hb dX4_push_79 (by decide) ?_
      have e9 := up_add (d := 1) (k := 1) (M := 255) rfl hi0 hi1 (by decide) (by decide)
      have e8 := nle_ti (k := 255) rfl c_2
      exact ih (M_set_old σ (upd (M_old σ) ((255 * (M_states σ)) + u2).toNatClampNeg ((M_aside σ) u2.toNatClampNeg))) _ _ hP hD hS (u2 + 1) (by rw [e9]; omega) (by rw [e9]; omega) hs (by rw [e9]; omega) (by rw [hR, mX4_push_aside_L51, if_neg c_2]) _ (lv_sub hl [0, 1, 2] rfl)
def mX4_push_aside_L10  : Nat → MS → Int32 → MS
  | 0, σ, _ => σ
  | n + 1, σ, u2 => (if 765 ≤ u2 then (mX4_push_aside_L51 257 (M_set_states σ ((M_states σ) - 1)) 0) else (mX4_push_aside_L10 n (M_set_old σ (upd (M_old σ) u2.toNatClampNeg ((M_old σ) (255 + u2).toNatClampNeg))) (u2 + 1)))
set_option maxHeartbeats 4000000 in
set_option maxRecDepth 100000 in
theorem q_X4_push_aside_10 {p : Program} {e : Env} {s : State} {m : MethodId} {args : Array Value} {below : List Frame} {meth : Method} {c : Code} (l : Launch) (g : WG) (ad : AM) (hC : Cx p s m args meth c yX4_push cX4_push 3 none) (hK : va_K g.1 vwCl (tysW g) s) {A : Nat → Prop} {ws0 : va_W} (hE : Ex A s s.heap) (hA : ∀ q : Nat, s.heap.size ≤ q → A q) (hAe : A = va_A ws0 s.heap.size) {r : MS} : ∀ (n : Nat) (σ : MS) (H : Heap) (locs : List Loc) (hP : va_P g.1 vwCl (cM g ad σ) H) (hD : va_D A (cM g ad σ)) (hS : va_S A s.heap H locs) (u2 : Int32) (hi0 : 0 ≤ u2.toInt) (hi1 : u2.toInt ≤ 765) (hs : (M_states σ).toInt = 4) (hm : ((766 : Int) - u2.toInt).toNat < n) (hR : r = mX4_push_aside_L10 n σ u2) (ls : Array Slot) (hl : lv_has ls 3 [(2, .int u2), (0, .ref ad.1), (1, .ref ad.2.2.1)]), W p l e (rk 0) s m args below meth c H locs 0 0 (MQ below (va_Qv (fun _ => True) (Bw g ws0 (cM g ad r) s.heap.size) (va_A ws0 s.heap.size)) args s 0 0 (va_A ws0 s.heap.size)) (F0 m 10 ls []) := by
  obtain ⟨hx, hb, hml, hr, hown, hts, hlk, hnm⟩ := id hC
  intro n
  induction n with
  | zero => intro σ H locs hP hD hS u2 hi0 hi1 hs hm hR ls hl; exact absurd hm (Nat.not_lt_zero _)
  | succ n ih =>
    intro σ H locs hP hD hS u2 hi0 hi1 hs hm hR ls hl
    refine lv_iload_n hx hb dX4_push_10 rfl (lv_at hl 0 rfl) ?_
    refine lv_sipush (v := 765) hx hb dX4_push_11 (by decide) ?_
    refine lv_icmp_ge (tgt := 39) hx hb dX4_push_14 (by decide) (fun c_3 => ?_) (fun c_3 => ?_)
    · refine lv_aload_n hx hb dX4_push_39 rfl (lv_at hl 1 rfl) ?_
      refine lv_dup hx hb dX4_push_40 rfl ?_
      refine gM_states hC rfl hK hP dX4_push_41 ?_
      refine lv_iconst (v := 1) hx hb dX4_push_44 (by decide) ?_
      refine lv_isub hx hb dX4_push_45 ?_
      refine pM_states hC rfl hK hP hD hS dX4_push_46 (fun H locs hP hD hS => ?_)
      refine lv_iconst (v := 0) hx hb dX4_push_49 (by decide) ?_
      refine lv_istore_n (lv' := [(2, .int 0), (0, .ref ad.1), (1, .ref ad.2.2.1)]) hx hb dX4_push_50 rfl hl (by decide) rfl (fun ls hl => ?_)
      refine q_X4_push_aside_51 l g ad hC hK hE hA hAe 257 (M_set_states σ ((M_states σ) - 1)) _ _ hP hD hS 0 (by decide) (by decide) (ps_first hs) (by decide) ?_ _ (lv_sub hl [0, 1, 2] rfl)
      exact by rw [hR, mX4_push_aside_L10, if_pos c_3]
    · refine lv_aload_n hx hb dX4_push_17 rfl (lv_at hl 1 rfl) ?_
      refine gM_old hC rfl hK hP dX4_push_18 ?_
      refine lv_iload_n hx hb dX4_push_21 rfl (lv_at hl 0 rfl) ?_
      refine lv_aload_n hx hb dX4_push_22 rfl (lv_at hl 1 rfl) ?_
      refine gM_old hC rfl hK hP dX4_push_23 ?_
      refine lv_sipush (v := 255) hx hb dX4_push_26 (by decide) ?_
      refine lv_iload_n hx hb dX4_push_29 rfl (lv_at hl 0 rfl) ?_
      refine lv_iadd hx hb dX4_push_30 ?_
      refine lM_old hC hK hP (ix_c (z := 255) rfl (by decide) (in_up (n := 765) rfl hi0 c_3) (by decide) (by decide)) dX4_push_31 ?_
      refine sM_old hC hK hP hD hS (in_mono (in_up (n := 765) rfl hi0 c_3) (by decide)) dX4_push_32 (fun H locs hP hD hS => ?_)
      refine lv_iinc (v := (u2 + 1)) (lv' := [(2, .int (u2 + 1)), (0, .ref ad.1), (1, .ref ad.2.2.1)]) hx hb dX4_push_33 hl (k := 0) rfl rfl (by decide) rfl (fun ls hl => ?_)
      refine lv_goto (tgt := 10) hx hb dX4_push_36 (by decide) ?_
      have e9 := up_add (d := 1) (k := 1) (M := 765) rfl hi0 hi1 (by decide) (by decide)
      have e8 := nle_ti (k := 765) rfl c_3
      exact ih (M_set_old σ (upd (M_old σ) u2.toNatClampNeg ((M_old σ) (255 + u2).toNatClampNeg))) _ _ hP hD hS (u2 + 1) (by rw [e9]; omega) (by rw [e9]; omega) hs (by rw [e9]; omega) (by rw [hR, mX4_push_aside_L10, if_neg c_3]) _ (lv_sub hl [0, 1, 2] rfl)
def mX4_push_aside (σ : MS) : MS := (if (M_states σ) = 4 then (mX4_push_aside_L10 767 σ 0) else (mX4_push_aside_L51 257 σ 0))
set_option maxHeartbeats 4000000 in
set_option maxRecDepth 100000 in
theorem k_X4_push_aside (l : Launch) (g : WG) (ad : AM) (σ : MS) (h_st : 0 ≤ (M_states σ).toInt ∧ (M_states σ).toInt ≤ 4) : Wv l yX4_push cX4_push 3 0 g (cM g ad σ) (cM g ad (mX4_push_aside σ)) [.ref ad.1, .ref ad.2.2.1] := by
  refine wv_of (by decide) (Nat.le_of_ble_eq_true rfl) ?_
  intro p e s m args below meth c ls A hC hAe hP hD hK hE hA hS hl
  obtain ⟨hx, hb, hml, hr, hown, hts, hlk, hnm⟩ := id hC
  have hl : lv_has ls 3 [(0, .ref ad.1), (1, .ref ad.2.2.1)] := hl
  refine lv_aload_n hx hb dX4_push_0 rfl (lv_at hl 0 rfl) ?_
  refine gM_states hC rfl hK hP dX4_push_1 ?_
  refine lv_iconst (v := 4) hx hb dX4_push_4 (by decide) ?_
  refine lv_icmp_ne (tgt := 49) hx hb dX4_push_5 (by decide) (fun c_1 => ?_) (fun c_1 => ?_)
  · refine lv_iconst (v := 0) hx hb dX4_push_49 (by decide) ?_
    refine lv_istore_n (lv' := [(2, .int 0), (0, .ref ad.1), (1, .ref ad.2.2.1)]) hx hb dX4_push_50 rfl hl (by decide) rfl (fun ls hl => ?_)
    refine q_X4_push_aside_51 l g ad hC hK hE hA hAe 257 σ _ _ hP hD hS 0 (by decide) (by decide) (ps_second h_st c_1) (by decide) ?_ _ (lv_sub hl [0, 1, 2] rfl)
    exact by unfold mX4_push_aside; rw [if_neg c_1]
  · refine lv_iconst (v := 0) hx hb dX4_push_8 (by decide) ?_
    refine lv_istore_n (lv' := [(2, .int 0), (0, .ref ad.1), (1, .ref ad.2.2.1)]) hx hb dX4_push_9 rfl hl (by decide) rfl (fun ls hl => ?_)
    refine q_X4_push_aside_10 l g ad hC hK hE hA hAe 767 σ _ _ hP hD hS 0 (by decide) (by decide) (by rw [c_1]; decide) (by decide) ?_ _ (lv_sub hl [0, 1, 2] rfl)
    exact by unfold mX4_push_aside; rw [if_pos c_1]
theorem us_in {σ : MS} (h : 0 ≤ (M_states σ).toInt ∧ (M_states σ).toInt ≤ 4) (c : ¬ (M_states σ) = 0) : 0 ≤ (M_states (M_set_states σ ((M_states σ) - 1))).toInt ∧ (M_states (M_set_states σ ((M_states σ) - 1))).toInt ≤ 3 := by
  show 0 ≤ ((M_states σ) - 1).toInt ∧ ((M_states σ) - 1).toInt ≤ 3
  have e : (1 : Int32).toInt = 1 := rfl
  have e0 : (0 : Int32).toInt = 0 := rfl
  rw [eq_ti] at c
  rw [ti_sub (by omega) (by omega), e]
  omega
def mX4_undo_L22  : Nat → MS → Int32 → Int32 × MS
  | 0, σ, _ => (0, σ)
  | n + 1, σ, u1 => (if 255 ≤ u1 then ((M_states σ), σ) else (mX4_undo_L22 n (M_set_z σ (upd (M_z σ) u1.toNatClampNeg ((M_old σ) ((255 * (M_states σ)) + u1).toNatClampNeg))) (u1 + 1)))
set_option maxHeartbeats 4000000 in
set_option maxRecDepth 100000 in
theorem q_X4_undo_22 {p : Program} {e : Env} {s : State} {m : MethodId} {args : Array Value} {below : List Frame} {meth : Method} {c : Code} (l : Launch) (g : WG) (ad : AM) (hC : Cx p s m args meth c yX4_undo cX4_undo 2 (some .int)) (hK : va_K g.1 vwCl (tysW g) s) {A : Nat → Prop} {ws0 : va_W} (hE : Ex A s s.heap) (hA : ∀ q : Nat, s.heap.size ≤ q → A q) (hAe : A = va_A ws0 s.heap.size) {r : Int32 × MS} : ∀ (n : Nat) (σ : MS) (H : Heap) (locs : List Loc) (hP : va_P g.1 vwCl (cM g ad σ) H) (hD : va_D A (cM g ad σ)) (hS : va_S A s.heap H locs) (u1 : Int32) (hi0 : 0 ≤ u1.toInt) (hi1 : u1.toInt ≤ 255) (hs : 0 ≤ (M_states σ).toInt ∧ (M_states σ).toInt ≤ 3) (hm : ((256 : Int) - u1.toInt).toNat < n) (hR : r = mX4_undo_L22 n σ u1) (ls : Array Slot) (hl : lv_has ls 2 [(1, .int u1), (0, .ref ad.1)]), W p l e (rk 0) s m args below meth c H locs 0 0 (MQ below (va_Qi (fun x _ => x = r.1) (Bw g ws0 (cM g ad r.2) s.heap.size) (va_A ws0 s.heap.size)) args s 0 0 (va_A ws0 s.heap.size)) (F0 m 22 ls []) := by
  obtain ⟨hx, hb, hml, hr, hown, hts, hlk, hnm⟩ := id hC
  intro n
  induction n with
  | zero => intro σ H locs hP hD hS u1 hi0 hi1 hs hm hR ls hl; exact absurd hm (Nat.not_lt_zero _)
  | succ n ih =>
    intro σ H locs hP hD hS u1 hi0 hi1 hs hm hR ls hl
    refine lv_iload_n hx hb dX4_undo_22 rfl (lv_at hl 0 rfl) ?_
    refine lv_sipush (v := 255) hx hb dX4_undo_23 (by decide) ?_
    refine lv_icmp_ge (tgt := 56) hx hb dX4_undo_26 (by decide) (fun c_2 => ?_) (fun c_2 => ?_)
    · refine lv_aload_n hx hb dX4_undo_56 rfl (lv_at hl 1 rfl) ?_
      refine gM_states hC rfl hK hP dX4_undo_57 ?_
      have hm : r = ((M_states σ), σ) := by rw [hR, mX4_undo_L22, if_pos c_2]
      exact wr_ret hC hP (hAe ▸ hD) (hAe ▸ hS) dX4_undo_60 (by rw [hm]) (by rw [hm])
    · refine lv_aload_n hx hb dX4_undo_29 rfl (lv_at hl 1 rfl) ?_
      refine gM_z hC rfl hK hP dX4_undo_30 ?_
      refine lv_iload_n hx hb dX4_undo_33 rfl (lv_at hl 0 rfl) ?_
      refine lv_aload_n hx hb dX4_undo_34 rfl (lv_at hl 1 rfl) ?_
      refine gM_old hC rfl hK hP dX4_undo_35 ?_
      refine lv_sipush (v := 255) hx hb dX4_undo_38 (by decide) ?_
      refine lv_aload_n hx hb dX4_undo_41 rfl (lv_at hl 1 rfl) ?_
      refine gM_states hC rfl hK hP dX4_undo_42 ?_
      refine lv_imul hx hb dX4_undo_45 ?_
      refine lv_iload_n hx hb dX4_undo_46 rfl (lv_at hl 0 rfl) ?_
      refine lv_iadd hx hb dX4_undo_47 ?_
      refine lM_old hC hK hP (ix_255 hs (in_up (n := 255) rfl hi0 c_2)) dX4_undo_48 ?_
      refine sM_z hC hK hP hD hS (in_up (n := 255) rfl hi0 c_2) dX4_undo_49 (fun H locs hP hD hS => ?_)
      refine lv_iinc (v := (u1 + 1)) (lv' := [(1, .int (u1 + 1)), (0, .ref ad.1)]) hx hb dX4_undo_50 hl (k := 0) rfl rfl (by decide) rfl (fun ls hl => ?_)
      refine lv_goto (tgt := 22) hx hb dX4_undo_53 (by decide) ?_
      have e9 := up_add (d := 1) (k := 1) (M := 255) rfl hi0 hi1 (by decide) (by decide)
      have e8 := nle_ti (k := 255) rfl c_2
      exact ih (M_set_z σ (upd (M_z σ) u1.toNatClampNeg ((M_old σ) ((255 * (M_states σ)) + u1).toNatClampNeg))) _ _ hP hD hS (u1 + 1) (by rw [e9]; omega) (by rw [e9]; omega) hs (by rw [e9]; omega) (by rw [hR, mX4_undo_L22, if_neg c_2]) _ (lv_sub hl [0, 1] rfl)
def mX4_undo (σ : MS) : Int32 × MS := (if (M_states σ) = 0 then ((-5), σ) else (mX4_undo_L22 257 (M_set_states σ ((M_states σ) - 1)) 0))
set_option maxHeartbeats 4000000 in
set_option maxRecDepth 100000 in
theorem k_X4_undo (l : Launch) (g : WG) (ad : AM) (σ : MS) (h_st : 0 ≤ (M_states σ).toInt ∧ (M_states σ).toInt ≤ 4) : Wr l yX4_undo cX4_undo 2 (some .int) 0 g (cM g ad σ) (cM g ad (mX4_undo σ).2) [.ref ad.1] (mX4_undo σ).1 := by
  refine wr_of (by decide) (Nat.le_of_ble_eq_true rfl) ?_
  intro p e s m args below meth c ls A hC hAe hP hD hK hE hA hS hl
  obtain ⟨hx, hb, hml, hr, hown, hts, hlk, hnm⟩ := id hC
  have hl : lv_has ls 2 [(0, .ref ad.1)] := hl
  refine lv_aload_n hx hb dX4_undo_0 rfl (lv_at hl 0 rfl) ?_
  refine gM_states hC rfl hK hP dX4_undo_1 ?_
  refine lv_if_ne (tgt := 10) hx hb dX4_undo_4 (by decide) (fun c_1 => ?_) (fun c_1 => ?_)
  · refine lv_aload_n hx hb dX4_undo_10 rfl (lv_at hl 0 rfl) ?_
    refine lv_dup hx hb dX4_undo_11 rfl ?_
    refine gM_states hC rfl hK hP dX4_undo_12 ?_
    refine lv_iconst (v := 1) hx hb dX4_undo_15 (by decide) ?_
    refine lv_isub hx hb dX4_undo_16 ?_
    refine pM_states hC rfl hK hP hD hS dX4_undo_17 (fun H locs hP hD hS => ?_)
    refine lv_iconst (v := 0) hx hb dX4_undo_20 (by decide) ?_
    refine lv_istore_n (lv' := [(1, .int 0), (0, .ref ad.1)]) hx hb dX4_undo_21 rfl hl (by decide) rfl (fun ls hl => ?_)
    refine q_X4_undo_22 l g ad hC hK hE hA hAe 257 (M_set_states σ ((M_states σ) - 1)) _ _ hP hD hS 0 (by decide) (by decide) (us_in h_st c_1) (by decide) ?_ _ (lv_sub hl [0, 1] rfl)
    exact by unfold mX4_undo; rw [if_neg c_1]
  · refine lv_bipush (v := (-5)) hx hb dX4_undo_7 (by decide) ?_
    have hm : mX4_undo σ = ((-5), σ) := by unfold mX4_undo; rw [if_pos c_1]
    exact wr_ret hC hP (hAe ▸ hD) (hAe ▸ hS) dX4_undo_9 (by rw [hm]) (by rw [hm])
def mX4_keep_L2  : Nat → MS → Int32 → Int32 × MS
  | 0, σ, _ => (0, σ)
  | n + 1, σ, u1 => (if 255 ≤ u1 then ((mX4_boats (M_set_isKept σ 1)), (M_set_isKept σ 1)) else (mX4_keep_L2 n (M_set_kept σ (upd (M_kept σ) u1.toNatClampNeg ((M_z σ) u1.toNatClampNeg))) (u1 + 1)))
set_option maxHeartbeats 4000000 in
set_option maxRecDepth 100000 in
theorem q_X4_keep_2 {p : Program} {e : Env} {s : State} {m : MethodId} {args : Array Value} {below : List Frame} {meth : Method} {c : Code} (l : Launch) (g : WG) (ad : AM) (hC : Cx p s m args meth c yX4_keep cX4_keep 2 (some .int)) (hK : va_K g.1 vwCl (tysW g) s) {A : Nat → Prop} {ws0 : va_W} (hE : Ex A s s.heap) (hA : ∀ q : Nat, s.heap.size ≤ q → A q) (hAe : A = va_A ws0 s.heap.size) {r : Int32 × MS} : ∀ (n : Nat) (σ : MS) (H : Heap) (locs : List Loc) (hP : va_P g.1 vwCl (cM g ad σ) H) (hD : va_D A (cM g ad σ)) (hS : va_S A s.heap H locs) (u1 : Int32) (hi0 : 0 ≤ u1.toInt) (hi1 : u1.toInt ≤ 255) (hm : ((256 : Int) - u1.toInt).toNat < n) (hR : r = mX4_keep_L2 n σ u1) (ls : Array Slot) (hl : lv_has ls 2 [(1, .int u1), (0, .ref ad.1)]), W p l e (rk 2) s m args below meth c H locs 0 0 (MQ below (va_Qi (fun x _ => x = r.1) (Bw g ws0 (cM g ad r.2) s.heap.size) (va_A ws0 s.heap.size)) args s 0 0 (va_A ws0 s.heap.size)) (F0 m 2 ls []) := by
  obtain ⟨hx, hb, hml, hr, hown, hts, hlk, hnm⟩ := id hC
  intro n
  induction n with
  | zero => intro σ H locs hP hD hS u1 hi0 hi1 hm hR ls hl; exact absurd hm (Nat.not_lt_zero _)
  | succ n ih =>
    intro σ H locs hP hD hS u1 hi0 hi1 hm hR ls hl
    refine lv_iload_n hx hb dX4_keep_2 rfl (lv_at hl 0 rfl) ?_
    refine lv_sipush (v := 255) hx hb dX4_keep_3 (by decide) ?_
    refine lv_icmp_ge (tgt := 27) hx hb dX4_keep_6 (by decide) (fun c_1 => ?_) (fun c_1 => ?_)
    · refine lv_aload_n hx hb dX4_keep_27 rfl (lv_at hl 1 rfl) ?_
      refine lv_iconst (v := 1) hx hb dX4_keep_28 (by decide) ?_
      refine pM_isKept hC rfl hK hP hD hS (by decide) (by decide) dX4_keep_29 (fun H locs hP hD hS => ?_)
      refine lv_aload_n hx hb dX4_keep_32 rfl (lv_at hl 1 rfl) ?_
      refine callRd hC (k_X4_boats l g ad (M_set_isKept σ 1)) ci_X4_boats lk_X4_81 ⟨Nat.le_of_ble_eq_true rfl, Nat.le_of_ble_eq_true rfl⟩ hP hK (hE.S hS).none (q0 := 0) rfl rfl rfl rfl hl.1 rfl (Nat.le_of_ble_eq_true rfl) dX4_keep_33 ⟨Nat.zero_le _, Nat.zero_le _⟩ ?_
      have hm : r = ((mX4_boats (M_set_isKept σ 1)), (M_set_isKept σ 1)) := by rw [hR, mX4_keep_L2, if_pos c_1]
      exact wr_ret hC hP (hAe ▸ hD) (hAe ▸ hS) dX4_keep_36 (by rw [hm]) (by rw [hm])
    · refine lv_aload_n hx hb dX4_keep_9 rfl (lv_at hl 1 rfl) ?_
      refine gM_kept hC rfl hK hP dX4_keep_10 ?_
      refine lv_iload_n hx hb dX4_keep_13 rfl (lv_at hl 0 rfl) ?_
      refine lv_aload_n hx hb dX4_keep_14 rfl (lv_at hl 1 rfl) ?_
      refine gM_z hC rfl hK hP dX4_keep_15 ?_
      refine lv_iload_n hx hb dX4_keep_18 rfl (lv_at hl 0 rfl) ?_
      refine lM_z hC hK hP (in_up (n := 255) rfl hi0 c_1) dX4_keep_19 ?_
      refine sM_kept hC hK hP hD hS (in_up (n := 255) rfl hi0 c_1) dX4_keep_20 (fun H locs hP hD hS => ?_)
      refine lv_iinc (v := (u1 + 1)) (lv' := [(1, .int (u1 + 1)), (0, .ref ad.1)]) hx hb dX4_keep_21 hl (k := 0) rfl rfl (by decide) rfl (fun ls hl => ?_)
      refine lv_goto (tgt := 2) hx hb dX4_keep_24 (by decide) ?_
      have e9 := up_add (d := 1) (k := 1) (M := 255) rfl hi0 hi1 (by decide) (by decide)
      have e8 := nle_ti (k := 255) rfl c_1
      exact ih (M_set_kept σ (upd (M_kept σ) u1.toNatClampNeg ((M_z σ) u1.toNatClampNeg))) _ _ hP hD hS (u1 + 1) (by rw [e9]; omega) (by rw [e9]; omega) (by rw [e9]; omega) (by rw [hR, mX4_keep_L2, if_neg c_1]) _ (lv_sub hl [0, 1] rfl)
def mX4_keep (σ : MS) : Int32 × MS := (mX4_keep_L2 257 σ 0)
set_option maxHeartbeats 4000000 in
set_option maxRecDepth 100000 in
theorem k_X4_keep (l : Launch) (g : WG) (ad : AM) (σ : MS) : Wr l yX4_keep cX4_keep 2 (some .int) 2 g (cM g ad σ) (cM g ad (mX4_keep σ).2) [.ref ad.1] (mX4_keep σ).1 := by
  refine wr_of (by decide) (Nat.le_of_ble_eq_true rfl) ?_
  intro p e s m args below meth c ls A hC hAe hP hD hK hE hA hS hl
  obtain ⟨hx, hb, hml, hr, hown, hts, hlk, hnm⟩ := id hC
  have hl : lv_has ls 2 [(0, .ref ad.1)] := hl
  refine lv_iconst (v := 0) hx hb dX4_keep_0 (by decide) ?_
  refine lv_istore_n (lv' := [(1, .int 0), (0, .ref ad.1)]) hx hb dX4_keep_1 rfl hl (by decide) rfl (fun ls hl => ?_)
  refine q_X4_keep_2 l g ad hC hK hE hA hAe 257 σ _ _ hP hD hS 0 (by decide) (by decide) (by decide) ?_ _ (lv_sub hl [0, 1] rfl)
  exact by unfold mX4_keep; rfl
def mX4_restore_L20  : Nat → MS → Int32 → Int32 × MS
  | 0, σ, _ => (0, σ)
  | n + 1, σ, u1 => (if 255 ≤ u1 then ((mX4_boats σ), σ) else (mX4_restore_L20 n (M_set_z σ (upd (M_z σ) u1.toNatClampNeg ((M_kept σ) u1.toNatClampNeg))) (u1 + 1)))
set_option maxHeartbeats 4000000 in
set_option maxRecDepth 100000 in
theorem q_X4_restore_20 {p : Program} {e : Env} {s : State} {m : MethodId} {args : Array Value} {below : List Frame} {meth : Method} {c : Code} (l : Launch) (g : WG) (ad : AM) (hC : Cx p s m args meth c yX4_restore cX4_restore 2 (some .int)) (hK : va_K g.1 vwCl (tysW g) s) {A : Nat → Prop} {ws0 : va_W} (hE : Ex A s s.heap) (hA : ∀ q : Nat, s.heap.size ≤ q → A q) (hAe : A = va_A ws0 s.heap.size) {r : Int32 × MS} : ∀ (n : Nat) (σ : MS) (H : Heap) (locs : List Loc) (hP : va_P g.1 vwCl (cM g ad σ) H) (hD : va_D A (cM g ad σ)) (hS : va_S A s.heap H locs) (u1 : Int32) (hi0 : 0 ≤ u1.toInt) (hi1 : u1.toInt ≤ 255) (hm : ((256 : Int) - u1.toInt).toNat < n) (hR : r = mX4_restore_L20 n σ u1) (ls : Array Slot) (hl : lv_has ls 2 [(1, .int u1), (0, .ref ad.1)]), W p l e (rk 2) s m args below meth c H locs 0 0 (MQ below (va_Qi (fun x _ => x = r.1) (Bw g ws0 (cM g ad r.2) s.heap.size) (va_A ws0 s.heap.size)) args s 0 0 (va_A ws0 s.heap.size)) (F0 m 20 ls []) := by
  obtain ⟨hx, hb, hml, hr, hown, hts, hlk, hnm⟩ := id hC
  intro n
  induction n with
  | zero => intro σ H locs hP hD hS u1 hi0 hi1 hm hR ls hl; exact absurd hm (Nat.not_lt_zero _)
  | succ n ih =>
    intro σ H locs hP hD hS u1 hi0 hi1 hm hR ls hl
    refine lv_iload_n hx hb dX4_restore_20 rfl (lv_at hl 0 rfl) ?_
    refine lv_sipush (v := 255) hx hb dX4_restore_21 (by decide) ?_
    refine lv_icmp_ge (tgt := 45) hx hb dX4_restore_24 (by decide) (fun c_2 => ?_) (fun c_2 => ?_)
    · refine lv_aload_n hx hb dX4_restore_45 rfl (lv_at hl 1 rfl) ?_
      refine callRd hC (k_X4_boats l g ad σ) ci_X4_boats lk_X4_81 ⟨Nat.le_of_ble_eq_true rfl, Nat.le_of_ble_eq_true rfl⟩ hP hK (hE.S hS).none (q0 := 0) rfl rfl rfl rfl hl.1 rfl (Nat.le_of_ble_eq_true rfl) dX4_restore_46 ⟨Nat.zero_le _, Nat.zero_le _⟩ ?_
      have hm : r = ((mX4_boats σ), σ) := by rw [hR, mX4_restore_L20, if_pos c_2]
      exact wr_ret hC hP (hAe ▸ hD) (hAe ▸ hS) dX4_restore_49 (by rw [hm]) (by rw [hm])
    · refine lv_aload_n hx hb dX4_restore_27 rfl (lv_at hl 1 rfl) ?_
      refine gM_z hC rfl hK hP dX4_restore_28 ?_
      refine lv_iload_n hx hb dX4_restore_31 rfl (lv_at hl 0 rfl) ?_
      refine lv_aload_n hx hb dX4_restore_32 rfl (lv_at hl 1 rfl) ?_
      refine gM_kept hC rfl hK hP dX4_restore_33 ?_
      refine lv_iload_n hx hb dX4_restore_36 rfl (lv_at hl 0 rfl) ?_
      refine lM_kept hC hK hP (in_up (n := 255) rfl hi0 c_2) dX4_restore_37 ?_
      refine sM_z hC hK hP hD hS (in_up (n := 255) rfl hi0 c_2) dX4_restore_38 (fun H locs hP hD hS => ?_)
      refine lv_iinc (v := (u1 + 1)) (lv' := [(1, .int (u1 + 1)), (0, .ref ad.1)]) hx hb dX4_restore_39 hl (k := 0) rfl rfl (by decide) rfl (fun ls hl => ?_)
      refine lv_goto (tgt := 20) hx hb dX4_restore_42 (by decide) ?_
      have e9 := up_add (d := 1) (k := 1) (M := 255) rfl hi0 hi1 (by decide) (by decide)
      have e8 := nle_ti (k := 255) rfl c_2
      exact ih (M_set_z σ (upd (M_z σ) u1.toNatClampNeg ((M_kept σ) u1.toNatClampNeg))) _ _ hP hD hS (u1 + 1) (by rw [e9]; omega) (by rw [e9]; omega) (by rw [e9]; omega) (by rw [hR, mX4_restore_L20, if_neg c_2]) _ (lv_sub hl [0, 1] rfl)
def mX4_restore (σ : MS) : Int32 × MS := (if (M_isKept σ) = 0 then ((-5), σ) else (mX4_restore_L20 257 (mX4_push_z σ) 0))
set_option maxHeartbeats 4000000 in
set_option maxRecDepth 100000 in
theorem k_X4_restore (l : Launch) (g : WG) (ad : AM) (σ : MS) (h_st : 0 ≤ (M_states σ).toInt ∧ (M_states σ).toInt ≤ 4) : Wr l yX4_restore cX4_restore 2 (some .int) 2 g (cM g ad σ) (cM g ad (mX4_restore σ).2) [.ref ad.1] (mX4_restore σ).1 := by
  refine wr_of (by decide) (Nat.le_of_ble_eq_true rfl) ?_
  intro p e s m args below meth c ls A hC hAe hP hD hK hE hA hS hl
  obtain ⟨hx, hb, hml, hr, hown, hts, hlk, hnm⟩ := id hC
  have hl : lv_has ls 2 [(0, .ref ad.1)] := hl
  refine lv_aload_n hx hb dX4_restore_0 rfl (lv_at hl 0 rfl) ?_
  refine gM_isKept hC rfl hK hP dX4_restore_1 ?_
  refine lv_if_ne (tgt := 10) hx hb dX4_restore_4 (by decide) (fun c_1 => ?_) (fun c_1 => ?_)
  · refine lv_aload_n hx hb dX4_restore_10 rfl (lv_at hl 0 rfl) ?_
    refine lv_aload_n hx hb dX4_restore_11 rfl (lv_at hl 0 rfl) ?_
    refine gM_z hC rfl hK hP dX4_restore_12 ?_
    refine callWv hC (k_X4_push_z l g ad σ h_st) ci_X4_push lk_X4_85 ⟨Nat.le_of_ble_eq_true rfl, Nat.le_of_ble_eq_true rfl⟩ hP hD hK hE hS hA (q0 := 0) rfl rfl rfl rfl hl.1 rfl (Nat.le_of_ble_eq_true rfl) dX4_restore_15 ⟨Nat.zero_le _, Nat.zero_le _⟩ (fun H locs hP _ hD hS _ _ => ?_)
    refine lv_iconst (v := 0) hx hb dX4_restore_18 (by decide) ?_
    refine lv_istore_n (lv' := [(1, .int 0), (0, .ref ad.1)]) hx hb dX4_restore_19 rfl hl (by decide) rfl (fun ls hl => ?_)
    refine q_X4_restore_20 l g ad hC hK hE hA hAe 257 (mX4_push_z σ) _ _ hP hD hS 0 (by decide) (by decide) (by decide) ?_ _ (lv_sub hl [0, 1] rfl)
    exact by unfold mX4_restore; rw [if_neg c_1]
  · refine lv_bipush (v := (-5)) hx hb dX4_restore_7 (by decide) ?_
    have hm : mX4_restore σ = ((-5), σ) := by unfold mX4_restore; rw [if_pos c_1]
    exact wr_ret hC hP (hAe ▸ hD) (hAe ▸ hS) dX4_restore_9 (by rw [hm]) (by rw [hm])
/-- a number from u on that no boat has -/
def FreeFrom (σ : MS) (u : Int32) : Prop := ∃ f : Int32, u.toInt ≤ f.toInt ∧ f.toInt < 20 ∧ ¬ mX4_of σ f 0 = 1
theorem free_in {σ : MS} {u : Int32} (h0 : 0 ≤ u.toInt) (h : FreeFrom σ u) : vp_in u 20 := by
  obtain ⟨f, h1, h2, -⟩ := h
  exact in_iff.mpr ⟨h0, by omega⟩
theorem free_up {σ : MS} {u : Int32} (h : FreeFrom σ u) (c : mX4_of σ u 0 = 1) : FreeFrom σ (u + 1) := by
  obtain ⟨f, h1, h2, h3⟩ := h
  refine ⟨f, ?_, h2, h3⟩
  have hne : ¬ u.toInt = f.toInt := fun q => h3 (by rw [← eq_ti.mpr q]; exact c)
  have := ti_rng u
  have e : (u + 1).toInt = u.toInt + 1 := ti_add (y := 1) (by show _ ≤ u.toInt + 1; omega) (by show u.toInt + 1 < _; omega)
  omega
theorem free_push {σ : MS} {u : Int32} (h : FreeFrom σ u) : FreeFrom (mX4_push_z σ) u := by
  obtain ⟨f, h1, h2, h3⟩ := h
  exact ⟨f, h1, h2, by rw [push_of]; exact h3⟩
theorem free_L {σ : MS} : ∀ (n : Nat) (a u : Int32), 0 ≤ u.toInt → u.toInt ≤ 20 → ((21 : Int) - u.toInt).toNat < n → a.toInt = u.toInt → (∀ f : Int32, u.toInt ≤ f.toInt → f.toInt < 20 → mX4_of σ f 0 = 1) → mX4_boats_L4 σ n u a = 20 := by
  intro n
  induction n with
  | zero => intro a u _ _ h; exact absurd h (Nat.not_lt_zero _)
  | succ n ih =>
    intro a u h0 h1 hm ha hf
    rw [mX4_boats_L4]
    split
    · rename_i c
      rw [le_ti] at c
      have e : (20 : Int32).toInt = 20 := rfl
      exact eq_ti.mpr (by omega)
    · rename_i c
      have e8 := nle_ti (k := 20) rfl c
      have e9 := up_add (d := 1) (k := 1) (M := 20) rfl h0 h1 (by decide) (by decide)
      rw [hf u (Int.le_refl _) e8]
      have e7 := up_add (x := a) (d := 1) (k := 1) (M := 20) rfl (by omega) (by omega) (by decide) (by decide)
      exact ih _ _ (by rw [e9]; omega) (by rw [e9]; omega) (by rw [e9]; omega) (by rw [e9, e7]; omega) (fun f q => hf f (by rw [e9] at q; omega))
theorem free_of {σ : MS} (c : ¬ mX4_boats σ = 20) : FreeFrom σ 0 := by
  apply Classical.byContradiction
  intro h
  refine c (free_L _ 0 0 (by decide) (by decide) (by decide) rfl (fun f h1 h2 => ?_))
  apply Classical.byContradiction
  intro h3
  exact h ⟨f, h1, h2, h3⟩
def mX4_come_L66 (x1 : Int32) (x2 : Int32) (x3 : Int32) (x4 : Int32) : Nat → MS → Int32 → Int32 × MS
  | 0, σ, _ => (0, σ)
  | n + 1, σ, u5 => (if (mX4_of σ u5 0) = 1 then (mX4_come_L66 x1 x2 x3 x4 n σ (u5 + 1)) else (u5, (mX4_put (mX4_put (mX4_put (mX4_put (mX4_put (mX4_put (mX4_put (mX4_put (mX4_put (mX4_put (mX4_put σ u5 0 1) u5 1 x1) u5 2 x2) u5 3 x3) u5 4 x4) u5 5 (-5)) u5 6 (-5)) u5 7 (-5)) u5 8 0) u5 9 0) u5 10 0)))
set_option maxHeartbeats 4000000 in
set_option maxRecDepth 100000 in
theorem q_X4_come_66 {p : Program} {e : Env} {s : State} {m : MethodId} {args : Array Value} {below : List Frame} {meth : Method} {c : Code} (l : Launch) (g : WG) (ad : AM) (x1 : Int32) (x2 : Int32) (x3 : Int32) (x4 : Int32) (hC : Cx p s m args meth c yX4_come cX4_come 6 (some .int)) (hK : va_K g.1 vwCl (tysW g) s) {A : Nat → Prop} {ws0 : va_W} (hE : Ex A s s.heap) (hA : ∀ q : Nat, s.heap.size ≤ q → A q) (hAe : A = va_A ws0 s.heap.size) {r : Int32 × MS} : ∀ (n : Nat) (σ : MS) (H : Heap) (locs : List Loc) (hP : va_P g.1 vwCl (cM g ad σ) H) (hD : va_D A (cM g ad σ)) (hS : va_S A s.heap H locs) (u5 : Int32) (hi0 : 0 ≤ u5.toInt) (hf : FreeFrom σ u5) (hm : ((21 : Int) - u5.toInt).toNat < n) (hR : r = mX4_come_L66 x1 x2 x3 x4 n σ u5) (ls : Array Slot) (hl : lv_has ls 6 [(5, .int u5), (0, .ref ad.1), (1, .int x1), (2, .int x2), (3, .int x3), (4, .int x4)]), W p l e (rk 2) s m args below meth c H locs 0 0 (MQ below (va_Qi (fun x _ => x = r.1) (Bw g ws0 (cM g ad r.2) s.heap.size) (va_A ws0 s.heap.size)) args s 0 0 (va_A ws0 s.heap.size)) (F0 m 66 ls []) := by
  obtain ⟨hx, hb, hml, hr, hown, hts, hlk, hnm⟩ := id hC
  intro n
  induction n with
  | zero => intro σ H locs hP hD hS u5 hi0 hf hm hR ls hl; exact absurd hm (Nat.not_lt_zero _)
  | succ n ih =>
    intro σ H locs hP hD hS u5 hi0 hf hm hR ls hl
    refine lv_aload_n hx hb dX4_come_66 rfl (lv_at hl 1 rfl) ?_
    refine lv_iload hx hb dX4_come_67 (lv_at hl 0 rfl) ?_
    refine lv_iconst (v := 0) hx hb dX4_come_69 (by decide) ?_
    refine callRd hC (k_X4_of l g ad σ u5 0 (free_in hi0 hf) (in_iff.mpr (by decide))) ci_X4_of lk_X4_36 ⟨Nat.le_of_ble_eq_true rfl, Nat.le_of_ble_eq_true rfl⟩ hP hK (hE.S hS).none (q0 := 0) rfl rfl rfl rfl hl.1 rfl (Nat.le_of_ble_eq_true rfl) dX4_come_70 ⟨Nat.zero_le _, Nat.zero_le _⟩ ?_
    refine lv_iconst (v := 1) hx hb dX4_come_73 (by decide) ?_
    refine lv_icmp_ne (tgt := 83) hx hb dX4_come_74 (by decide) (fun c_6 => ?_) (fun c_6 => ?_)
    · refine lv_aload_n hx hb dX4_come_83 rfl (lv_at hl 1 rfl) ?_
      refine lv_iload hx hb dX4_come_84 (lv_at hl 0 rfl) ?_
      refine lv_iconst (v := 0) hx hb dX4_come_86 (by decide) ?_
      refine lv_iconst (v := 1) hx hb dX4_come_87 (by decide) ?_
      refine callWv hC (k_X4_put l g ad σ u5 0 1 (free_in hi0 hf) (in_iff.mpr (by decide))) ci_X4_put lk_X4_70 ⟨Nat.le_of_ble_eq_true rfl, Nat.le_of_ble_eq_true rfl⟩ hP hD hK hE hS hA (q0 := 0) rfl rfl rfl rfl hl.1 rfl (Nat.le_of_ble_eq_true rfl) dX4_come_88 ⟨Nat.zero_le _, Nat.zero_le _⟩ (fun H locs hP _ hD hS _ _ => ?_)
      refine lv_aload_n hx hb dX4_come_91 rfl (lv_at hl 1 rfl) ?_
      refine lv_iload hx hb dX4_come_92 (lv_at hl 0 rfl) ?_
      refine lv_iconst (v := 1) hx hb dX4_come_94 (by decide) ?_
      refine lv_iload_n hx hb dX4_come_95 rfl (lv_at hl 2 rfl) ?_
      refine callWv hC (k_X4_put l g ad (mX4_put σ u5 0 1) u5 1 x1 (free_in hi0 hf) (in_iff.mpr (by decide))) ci_X4_put lk_X4_70 ⟨Nat.le_of_ble_eq_true rfl, Nat.le_of_ble_eq_true rfl⟩ hP hD hK hE hS hA (q0 := 0) rfl rfl rfl rfl hl.1 rfl (Nat.le_of_ble_eq_true rfl) dX4_come_96 ⟨Nat.zero_le _, Nat.zero_le _⟩ (fun H locs hP _ hD hS _ _ => ?_)
      refine lv_aload_n hx hb dX4_come_99 rfl (lv_at hl 1 rfl) ?_
      refine lv_iload hx hb dX4_come_100 (lv_at hl 0 rfl) ?_
      refine lv_iconst (v := 2) hx hb dX4_come_102 (by decide) ?_
      refine lv_iload_n hx hb dX4_come_103 rfl (lv_at hl 3 rfl) ?_
      refine callWv hC (k_X4_put l g ad (mX4_put (mX4_put σ u5 0 1) u5 1 x1) u5 2 x2 (free_in hi0 hf) (in_iff.mpr (by decide))) ci_X4_put lk_X4_70 ⟨Nat.le_of_ble_eq_true rfl, Nat.le_of_ble_eq_true rfl⟩ hP hD hK hE hS hA (q0 := 0) rfl rfl rfl rfl hl.1 rfl (Nat.le_of_ble_eq_true rfl) dX4_come_104 ⟨Nat.zero_le _, Nat.zero_le _⟩ (fun H locs hP _ hD hS _ _ => ?_)
      refine lv_aload_n hx hb dX4_come_107 rfl (lv_at hl 1 rfl) ?_
      refine lv_iload hx hb dX4_come_108 (lv_at hl 0 rfl) ?_
      refine lv_iconst (v := 3) hx hb dX4_come_110 (by decide) ?_
      refine lv_iload_n hx hb dX4_come_111 rfl (lv_at hl 4 rfl) ?_
      refine callWv hC (k_X4_put l g ad (mX4_put (mX4_put (mX4_put σ u5 0 1) u5 1 x1) u5 2 x2) u5 3 x3 (free_in hi0 hf) (in_iff.mpr (by decide))) ci_X4_put lk_X4_70 ⟨Nat.le_of_ble_eq_true rfl, Nat.le_of_ble_eq_true rfl⟩ hP hD hK hE hS hA (q0 := 0) rfl rfl rfl rfl hl.1 rfl (Nat.le_of_ble_eq_true rfl) dX4_come_112 ⟨Nat.zero_le _, Nat.zero_le _⟩ (fun H locs hP _ hD hS _ _ => ?_)
      refine lv_aload_n hx hb dX4_come_115 rfl (lv_at hl 1 rfl) ?_
      refine lv_iload hx hb dX4_come_116 (lv_at hl 0 rfl) ?_
      refine lv_iconst (v := 4) hx hb dX4_come_118 (by decide) ?_
      refine lv_iload hx hb dX4_come_119 (lv_at hl 5 rfl) ?_
      refine callWv hC (k_X4_put l g ad (mX4_put (mX4_put (mX4_put (mX4_put σ u5 0 1) u5 1 x1) u5 2 x2) u5 3 x3) u5 4 x4 (free_in hi0 hf) (in_iff.mpr (by decide))) ci_X4_put lk_X4_70 ⟨Nat.le_of_ble_eq_true rfl, Nat.le_of_ble_eq_true rfl⟩ hP hD hK hE hS hA (q0 := 0) rfl rfl rfl rfl hl.1 rfl (Nat.le_of_ble_eq_true rfl) dX4_come_121 ⟨Nat.zero_le _, Nat.zero_le _⟩ (fun H locs hP _ hD hS _ _ => ?_)
      refine lv_aload_n hx hb dX4_come_124 rfl (lv_at hl 1 rfl) ?_
      refine lv_iload hx hb dX4_come_125 (lv_at hl 0 rfl) ?_
      refine lv_iconst (v := 5) hx hb dX4_come_127 (by decide) ?_
      refine lv_bipush (v := (-5)) hx hb dX4_come_128 (by decide) ?_
      refine callWv hC (k_X4_put l g ad (mX4_put (mX4_put (mX4_put (mX4_put (mX4_put σ u5 0 1) u5 1 x1) u5 2 x2) u5 3 x3) u5 4 x4) u5 5 (-5) (free_in hi0 hf) (in_iff.mpr (by decide))) ci_X4_put lk_X4_70 ⟨Nat.le_of_ble_eq_true rfl, Nat.le_of_ble_eq_true rfl⟩ hP hD hK hE hS hA (q0 := 0) rfl rfl rfl rfl hl.1 rfl (Nat.le_of_ble_eq_true rfl) dX4_come_130 ⟨Nat.zero_le _, Nat.zero_le _⟩ (fun H locs hP _ hD hS _ _ => ?_)
      refine lv_aload_n hx hb dX4_come_133 rfl (lv_at hl 1 rfl) ?_
      refine lv_iload hx hb dX4_come_134 (lv_at hl 0 rfl) ?_
      refine lv_bipush (v := 6) hx hb dX4_come_136 (by decide) ?_
      refine lv_bipush (v := (-5)) hx hb dX4_come_138 (by decide) ?_
      refine callWv hC (k_X4_put l g ad (mX4_put (mX4_put (mX4_put (mX4_put (mX4_put (mX4_put σ u5 0 1) u5 1 x1) u5 2 x2) u5 3 x3) u5 4 x4) u5 5 (-5)) u5 6 (-5) (free_in hi0 hf) (in_iff.mpr (by decide))) ci_X4_put lk_X4_70 ⟨Nat.le_of_ble_eq_true rfl, Nat.le_of_ble_eq_true rfl⟩ hP hD hK hE hS hA (q0 := 0) rfl rfl rfl rfl hl.1 rfl (Nat.le_of_ble_eq_true rfl) dX4_come_140 ⟨Nat.zero_le _, Nat.zero_le _⟩ (fun H locs hP _ hD hS _ _ => ?_)
      refine lv_aload_n hx hb dX4_come_143 rfl (lv_at hl 1 rfl) ?_
      refine lv_iload hx hb dX4_come_144 (lv_at hl 0 rfl) ?_
      refine lv_bipush (v := 7) hx hb dX4_come_146 (by decide) ?_
      refine lv_bipush (v := (-5)) hx hb dX4_come_148 (by decide) ?_
      refine callWv hC (k_X4_put l g ad (mX4_put (mX4_put (mX4_put (mX4_put (mX4_put (mX4_put (mX4_put σ u5 0 1) u5 1 x1) u5 2 x2) u5 3 x3) u5 4 x4) u5 5 (-5)) u5 6 (-5)) u5 7 (-5) (free_in hi0 hf) (in_iff.mpr (by decide))) ci_X4_put lk_X4_70 ⟨Nat.le_of_ble_eq_true rfl, Nat.le_of_ble_eq_true rfl⟩ hP hD hK hE hS hA (q0 := 0) rfl rfl rfl rfl hl.1 rfl (Nat.le_of_ble_eq_true rfl) dX4_come_150 ⟨Nat.zero_le _, Nat.zero_le _⟩ (fun H locs hP _ hD hS _ _ => ?_)
      refine lv_aload_n hx hb dX4_come_153 rfl (lv_at hl 1 rfl) ?_
      refine lv_iload hx hb dX4_come_154 (lv_at hl 0 rfl) ?_
      refine lv_bipush (v := 8) hx hb dX4_come_156 (by decide) ?_
      refine lv_iconst (v := 0) hx hb dX4_come_158 (by decide) ?_
      refine callWv hC (k_X4_put l g ad (mX4_put (mX4_put (mX4_put (mX4_put (mX4_put (mX4_put (mX4_put (mX4_put σ u5 0 1) u5 1 x1) u5 2 x2) u5 3 x3) u5 4 x4) u5 5 (-5)) u5 6 (-5)) u5 7 (-5)) u5 8 0 (free_in hi0 hf) (in_iff.mpr (by decide))) ci_X4_put lk_X4_70 ⟨Nat.le_of_ble_eq_true rfl, Nat.le_of_ble_eq_true rfl⟩ hP hD hK hE hS hA (q0 := 0) rfl rfl rfl rfl hl.1 rfl (Nat.le_of_ble_eq_true rfl) dX4_come_159 ⟨Nat.zero_le _, Nat.zero_le _⟩ (fun H locs hP _ hD hS _ _ => ?_)
      refine lv_aload_n hx hb dX4_come_162 rfl (lv_at hl 1 rfl) ?_
      refine lv_iload hx hb dX4_come_163 (lv_at hl 0 rfl) ?_
      refine lv_bipush (v := 9) hx hb dX4_come_165 (by decide) ?_
      refine lv_iconst (v := 0) hx hb dX4_come_167 (by decide) ?_
      refine callWv hC (k_X4_put l g ad (mX4_put (mX4_put (mX4_put (mX4_put (mX4_put (mX4_put (mX4_put (mX4_put (mX4_put σ u5 0 1) u5 1 x1) u5 2 x2) u5 3 x3) u5 4 x4) u5 5 (-5)) u5 6 (-5)) u5 7 (-5)) u5 8 0) u5 9 0 (free_in hi0 hf) (in_iff.mpr (by decide))) ci_X4_put lk_X4_70 ⟨Nat.le_of_ble_eq_true rfl, Nat.le_of_ble_eq_true rfl⟩ hP hD hK hE hS hA (q0 := 0) rfl rfl rfl rfl hl.1 rfl (Nat.le_of_ble_eq_true rfl) dX4_come_168 ⟨Nat.zero_le _, Nat.zero_le _⟩ (fun H locs hP _ hD hS _ _ => ?_)
      refine lv_aload_n hx hb dX4_come_171 rfl (lv_at hl 1 rfl) ?_
      refine lv_iload hx hb dX4_come_172 (lv_at hl 0 rfl) ?_
      refine lv_bipush (v := 10) hx hb dX4_come_174 (by decide) ?_
      refine lv_iconst (v := 0) hx hb dX4_come_176 (by decide) ?_
      refine callWv hC (k_X4_put l g ad (mX4_put (mX4_put (mX4_put (mX4_put (mX4_put (mX4_put (mX4_put (mX4_put (mX4_put (mX4_put σ u5 0 1) u5 1 x1) u5 2 x2) u5 3 x3) u5 4 x4) u5 5 (-5)) u5 6 (-5)) u5 7 (-5)) u5 8 0) u5 9 0) u5 10 0 (free_in hi0 hf) (in_iff.mpr (by decide))) ci_X4_put lk_X4_70 ⟨Nat.le_of_ble_eq_true rfl, Nat.le_of_ble_eq_true rfl⟩ hP hD hK hE hS hA (q0 := 0) rfl rfl rfl rfl hl.1 rfl (Nat.le_of_ble_eq_true rfl) dX4_come_177 ⟨Nat.zero_le _, Nat.zero_le _⟩ (fun H locs hP _ hD hS _ _ => ?_)
      refine lv_iload hx hb dX4_come_180 (lv_at hl 0 rfl) ?_
      have hm : r = (u5, (mX4_put (mX4_put (mX4_put (mX4_put (mX4_put (mX4_put (mX4_put (mX4_put (mX4_put (mX4_put (mX4_put σ u5 0 1) u5 1 x1) u5 2 x2) u5 3 x3) u5 4 x4) u5 5 (-5)) u5 6 (-5)) u5 7 (-5)) u5 8 0) u5 9 0) u5 10 0)) := by rw [hR, mX4_come_L66, if_neg c_6]
      exact wr_ret hC hP (hAe ▸ hD) (hAe ▸ hS) dX4_come_182 (by rw [hm]) (by rw [hm])
    · refine lv_iinc (v := (u5 + 1)) (lv' := [(5, .int (u5 + 1)), (0, .ref ad.1), (1, .int x1), (2, .int x2), (3, .int x3), (4, .int x4)]) hx hb dX4_come_77 hl (k := 0) rfl rfl (by decide) rfl (fun ls hl => ?_)
      refine lv_goto (tgt := 66) hx hb dX4_come_80 (by decide) ?_
      have e8 := (in_iff.mp (free_in hi0 hf)).2
      have e9 := up_add (d := 1) (k := 1) (M := 20) rfl hi0 (by omega) (by decide) (by decide)
      exact ih σ _ _ hP hD hS (u5 + 1) (by rw [e9]; omega) (free_up hf c_6) (by rw [e9]; omega) (by rw [hR, mX4_come_L66, if_pos c_6]) _ (lv_sub hl [0, 1, 2, 3, 4, 5] rfl)
def mX4_come (σ : MS) (x1 : Int32) (x2 : Int32) (x3 : Int32) (x4 : Int32) : Int32 × MS := (if (mX4_isKind x4) = 0 then ((-1), σ) else (if (mX4_in x1 3 20) = 0 then ((-2), σ) else (if (mX4_in x2 5 40) = 0 then ((-2), σ) else (if (mX4_in x3 1 30) = 0 then ((-2), σ) else (if (mX4_boats σ) = 20 then ((-3), σ) else (mX4_come_L66 x1 x2 x3 x4 22 (mX4_push_z σ) 0))))))
set_option maxHeartbeats 4000000 in
set_option maxRecDepth 100000 in
theorem k_X4_come (l : Launch) (g : WG) (ad : AM) (σ : MS) (x1 : Int32) (x2 : Int32) (x3 : Int32) (x4 : Int32) (h_st : 0 ≤ (M_states σ).toInt ∧ (M_states σ).toInt ≤ 4) : Wr l yX4_come cX4_come 6 (some .int) 2 g (cM g ad σ) (cM g ad (mX4_come σ x1 x2 x3 x4).2) [.ref ad.1, .int x1, .int x2, .int x3, .int x4] (mX4_come σ x1 x2 x3 x4).1 := by
  refine wr_of (by decide) (Nat.le_of_ble_eq_true rfl) ?_
  intro p e s m args below meth c ls A hC hAe hP hD hK hE hA hS hl
  obtain ⟨hx, hb, hml, hr, hown, hts, hlk, hnm⟩ := id hC
  have hl : lv_has ls 6 [(0, .ref ad.1), (1, .int x1), (2, .int x2), (3, .int x3), (4, .int x4)] := hl
  refine lv_iload hx hb dX4_come_0 (lv_at hl 4 rfl) ?_
  refine callRs hC (k_X4_isKind l g x4) ci_X4_isKind lk_X4_89 ⟨Nat.le_of_ble_eq_true rfl, Nat.le_of_ble_eq_true rfl⟩ hK (hE.S hS).none rfl hl.1 rfl (Nat.le_of_ble_eq_true rfl) dX4_come_2 ⟨Nat.zero_le _, Nat.zero_le _⟩ ?_
  refine lv_if_ne (tgt := 10) hx hb dX4_come_5 (by decide) (fun c_1 => ?_) (fun c_1 => ?_)
  · refine lv_iload_n hx hb dX4_come_10 rfl (lv_at hl 1 rfl) ?_
    refine lv_iconst (v := 3) hx hb dX4_come_11 (by decide) ?_
    refine lv_bipush (v := 20) hx hb dX4_come_12 (by decide) ?_
    refine callRs hC (k_X4_in l g x1 3 20) ci_X4_in lk_X4_32 ⟨Nat.le_of_ble_eq_true rfl, Nat.le_of_ble_eq_true rfl⟩ hK (hE.S hS).none rfl hl.1 rfl (Nat.le_of_ble_eq_true rfl) dX4_come_14 ⟨Nat.zero_le _, Nat.zero_le _⟩ ?_
    refine lv_if_eq (tgt := 40) hx hb dX4_come_17 (by decide) (fun c_2 => ?_) (fun c_2 => ?_)
    · refine lv_bipush (v := (-2)) hx hb dX4_come_40 (by decide) ?_
      have hm : mX4_come σ x1 x2 x3 x4 = ((-2), σ) := by unfold mX4_come; rw [if_neg c_1, if_pos c_2]
      exact wr_ret hC hP (hAe ▸ hD) (hAe ▸ hS) dX4_come_42 (by rw [hm]) (by rw [hm])
    · refine lv_iload_n hx hb dX4_come_20 rfl (lv_at hl 2 rfl) ?_
      refine lv_iconst (v := 5) hx hb dX4_come_21 (by decide) ?_
      refine lv_bipush (v := 40) hx hb dX4_come_22 (by decide) ?_
      refine callRs hC (k_X4_in l g x2 5 40) ci_X4_in lk_X4_32 ⟨Nat.le_of_ble_eq_true rfl, Nat.le_of_ble_eq_true rfl⟩ hK (hE.S hS).none rfl hl.1 rfl (Nat.le_of_ble_eq_true rfl) dX4_come_24 ⟨Nat.zero_le _, Nat.zero_le _⟩ ?_
      refine lv_if_eq (tgt := 40) hx hb dX4_come_27 (by decide) (fun c_3 => ?_) (fun c_3 => ?_)
      · refine lv_bipush (v := (-2)) hx hb dX4_come_40 (by decide) ?_
        have hm : mX4_come σ x1 x2 x3 x4 = ((-2), σ) := by unfold mX4_come; rw [if_neg c_1, if_neg c_2, if_pos c_3]
        exact wr_ret hC hP (hAe ▸ hD) (hAe ▸ hS) dX4_come_42 (by rw [hm]) (by rw [hm])
      · refine lv_iload_n hx hb dX4_come_30 rfl (lv_at hl 3 rfl) ?_
        refine lv_iconst (v := 1) hx hb dX4_come_31 (by decide) ?_
        refine lv_bipush (v := 30) hx hb dX4_come_32 (by decide) ?_
        refine callRs hC (k_X4_in l g x3 1 30) ci_X4_in lk_X4_32 ⟨Nat.le_of_ble_eq_true rfl, Nat.le_of_ble_eq_true rfl⟩ hK (hE.S hS).none rfl hl.1 rfl (Nat.le_of_ble_eq_true rfl) dX4_come_34 ⟨Nat.zero_le _, Nat.zero_le _⟩ ?_
        refine lv_if_ne (tgt := 43) hx hb dX4_come_37 (by decide) (fun c_4 => ?_) (fun c_4 => ?_)
        · refine lv_aload_n hx hb dX4_come_43 rfl (lv_at hl 0 rfl) ?_
          refine callRd hC (k_X4_boats l g ad σ) ci_X4_boats lk_X4_81 ⟨Nat.le_of_ble_eq_true rfl, Nat.le_of_ble_eq_true rfl⟩ hP hK (hE.S hS).none (q0 := 0) rfl rfl rfl rfl hl.1 rfl (Nat.le_of_ble_eq_true rfl) dX4_come_44 ⟨Nat.zero_le _, Nat.zero_le _⟩ ?_
          refine lv_bipush (v := 20) hx hb dX4_come_47 (by decide) ?_
          refine lv_icmp_ne (tgt := 55) hx hb dX4_come_49 (by decide) (fun c_5 => ?_) (fun c_5 => ?_)
          · refine lv_aload_n hx hb dX4_come_55 rfl (lv_at hl 0 rfl) ?_
            refine lv_aload_n hx hb dX4_come_56 rfl (lv_at hl 0 rfl) ?_
            refine gM_z hC rfl hK hP dX4_come_57 ?_
            refine callWv hC (k_X4_push_z l g ad σ h_st) ci_X4_push lk_X4_85 ⟨Nat.le_of_ble_eq_true rfl, Nat.le_of_ble_eq_true rfl⟩ hP hD hK hE hS hA (q0 := 0) rfl rfl rfl rfl hl.1 rfl (Nat.le_of_ble_eq_true rfl) dX4_come_60 ⟨Nat.zero_le _, Nat.zero_le _⟩ (fun H locs hP _ hD hS _ _ => ?_)
            refine lv_iconst (v := 0) hx hb dX4_come_63 (by decide) ?_
            refine lv_istore (lv' := [(5, .int 0), (0, .ref ad.1), (1, .int x1), (2, .int x2), (3, .int x3), (4, .int x4)]) hx hb dX4_come_64 hl (by decide) rfl (fun ls hl => ?_)
            refine q_X4_come_66 l g ad x1 x2 x3 x4 hC hK hE hA hAe 22 (mX4_push_z σ) _ _ hP hD hS 0 (by decide) (free_push (free_of c_5)) (by decide) ?_ _ (lv_sub hl [0, 1, 2, 3, 4, 5] rfl)
            exact by unfold mX4_come; rw [if_neg c_1, if_neg c_2, if_neg c_3, if_neg c_4, if_neg c_5]
          · refine lv_bipush (v := (-3)) hx hb dX4_come_52 (by decide) ?_
            have hm : mX4_come σ x1 x2 x3 x4 = ((-3), σ) := by unfold mX4_come; rw [if_neg c_1, if_neg c_2, if_neg c_3, if_neg c_4, if_pos c_5]
            exact wr_ret hC hP (hAe ▸ hD) (hAe ▸ hS) dX4_come_54 (by rw [hm]) (by rw [hm])
        · refine lv_bipush (v := (-2)) hx hb dX4_come_40 (by decide) ?_
          have hm : mX4_come σ x1 x2 x3 x4 = ((-2), σ) := by unfold mX4_come; rw [if_neg c_1, if_neg c_2, if_neg c_3, if_pos c_4]
          exact wr_ret hC hP (hAe ▸ hD) (hAe ▸ hS) dX4_come_42 (by rw [hm]) (by rw [hm])
  · refine lv_iconst (v := (-1)) hx hb dX4_come_8 (by decide) ?_
    have hm : mX4_come σ x1 x2 x3 x4 = ((-1), σ) := by unfold mX4_come; rw [if_pos c_1]
    exact wr_ret hC hP (hAe ▸ hD) (hAe ▸ hS) dX4_come_9 (by rw [hm]) (by rw [hm])
def mX4_goAway (σ : MS) (x1 : Int32) : Int32 × MS := (if (mX4_isBoat σ x1) = 0 then ((-1), σ) else (if (mX4_isAshore σ x1) = 0 then (if (mX4_of σ x1 7) < 0 then ((mX4_boats (mX4_put (mX4_push_z σ) x1 0 0)), (mX4_put (mX4_push_z σ) x1 0 0)) else ((-4), σ)) else ((-4), σ)))
set_option maxHeartbeats 4000000 in
set_option maxRecDepth 100000 in
theorem k_X4_goAway (l : Launch) (g : WG) (ad : AM) (σ : MS) (x1 : Int32) (h_st : 0 ≤ (M_states σ).toInt ∧ (M_states σ).toInt ≤ 4) : Wr l yX4_goAway cX4_goAway 2 (some .int) 2 g (cM g ad σ) (cM g ad (mX4_goAway σ x1).2) [.ref ad.1, .int x1] (mX4_goAway σ x1).1 := by
  refine wr_of (by decide) (Nat.le_of_ble_eq_true rfl) ?_
  intro p e s m args below meth c ls A hC hAe hP hD hK hE hA hS hl
  obtain ⟨hx, hb, hml, hr, hown, hts, hlk, hnm⟩ := id hC
  have hl : lv_has ls 2 [(0, .ref ad.1), (1, .int x1)] := hl
  refine lv_aload_n hx hb dX4_goAway_0 rfl (lv_at hl 0 rfl) ?_
  refine lv_iload_n hx hb dX4_goAway_1 rfl (lv_at hl 1 rfl) ?_
  refine callRd hC (k_X4_isBoat l g ad σ x1) ci_X4_isBoat lk_X4_92 ⟨Nat.le_of_ble_eq_true rfl, Nat.le_of_ble_eq_true rfl⟩ hP hK (hE.S hS).none (q0 := 0) rfl rfl rfl rfl hl.1 rfl (Nat.le_of_ble_eq_true rfl) dX4_goAway_2 ⟨Nat.zero_le _, Nat.zero_le _⟩ ?_
  refine lv_if_ne (tgt := 10) hx hb dX4_goAway_5 (by decide) (fun c_1 => ?_) (fun c_1 => ?_)
  · refine lv_aload_n hx hb dX4_goAway_10 rfl (lv_at hl 0 rfl) ?_
    refine lv_iload_n hx hb dX4_goAway_11 rfl (lv_at hl 1 rfl) ?_
    refine callRd hC (k_X4_isAshore l g ad σ x1 (in_X4_isBoat c_1)) ci_X4_isAshore lk_X4_40 ⟨Nat.le_of_ble_eq_true rfl, Nat.le_of_ble_eq_true rfl⟩ hP hK (hE.S hS).none (q0 := 0) rfl rfl rfl rfl hl.1 rfl (Nat.le_of_ble_eq_true rfl) dX4_goAway_12 ⟨Nat.zero_le _, Nat.zero_le _⟩ ?_
    refine lv_if_ne (tgt := 28) hx hb dX4_goAway_15 (by decide) (fun c_2 => ?_) (fun c_2 => ?_)
    · refine lv_bipush (v := (-4)) hx hb dX4_goAway_28 (by decide) ?_
      have hm : mX4_goAway σ x1 = ((-4), σ) := by unfold mX4_goAway; rw [if_neg c_1, if_neg c_2]
      exact wr_ret hC hP (hAe ▸ hD) (hAe ▸ hS) dX4_goAway_30 (by rw [hm]) (by rw [hm])
    · refine lv_aload_n hx hb dX4_goAway_18 rfl (lv_at hl 0 rfl) ?_
      refine lv_iload_n hx hb dX4_goAway_19 rfl (lv_at hl 1 rfl) ?_
      refine lv_bipush (v := 7) hx hb dX4_goAway_20 (by decide) ?_
      refine callRd hC (k_X4_of l g ad σ x1 7 (in_X4_isBoat c_1) (in_iff.mpr (by decide))) ci_X4_of lk_X4_36 ⟨Nat.le_of_ble_eq_true rfl, Nat.le_of_ble_eq_true rfl⟩ hP hK (hE.S hS).none (q0 := 0) rfl rfl rfl rfl hl.1 rfl (Nat.le_of_ble_eq_true rfl) dX4_goAway_22 ⟨Nat.zero_le _, Nat.zero_le _⟩ ?_
      refine lv_if_lt (tgt := 31) hx hb dX4_goAway_25 (by decide) (fun c_3 => ?_) (fun c_3 => ?_)
      · refine lv_aload_n hx hb dX4_goAway_31 rfl (lv_at hl 0 rfl) ?_
        refine lv_aload_n hx hb dX4_goAway_32 rfl (lv_at hl 0 rfl) ?_
        refine gM_z hC rfl hK hP dX4_goAway_33 ?_
        refine callWv hC (k_X4_push_z l g ad σ h_st) ci_X4_push lk_X4_85 ⟨Nat.le_of_ble_eq_true rfl, Nat.le_of_ble_eq_true rfl⟩ hP hD hK hE hS hA (q0 := 0) rfl rfl rfl rfl hl.1 rfl (Nat.le_of_ble_eq_true rfl) dX4_goAway_36 ⟨Nat.zero_le _, Nat.zero_le _⟩ (fun H locs hP _ hD hS _ _ => ?_)
        refine lv_aload_n hx hb dX4_goAway_39 rfl (lv_at hl 0 rfl) ?_
        refine lv_iload_n hx hb dX4_goAway_40 rfl (lv_at hl 1 rfl) ?_
        refine lv_iconst (v := 0) hx hb dX4_goAway_41 (by decide) ?_
        refine lv_iconst (v := 0) hx hb dX4_goAway_42 (by decide) ?_
        refine callWv hC (k_X4_put l g ad (mX4_push_z σ) x1 0 0 (in_X4_isBoat c_1) (in_iff.mpr (by decide))) ci_X4_put lk_X4_70 ⟨Nat.le_of_ble_eq_true rfl, Nat.le_of_ble_eq_true rfl⟩ hP hD hK hE hS hA (q0 := 0) rfl rfl rfl rfl hl.1 rfl (Nat.le_of_ble_eq_true rfl) dX4_goAway_43 ⟨Nat.zero_le _, Nat.zero_le _⟩ (fun H locs hP _ hD hS _ _ => ?_)
        refine lv_aload_n hx hb dX4_goAway_46 rfl (lv_at hl 0 rfl) ?_
        refine callRd hC (k_X4_boats l g ad (mX4_put (mX4_push_z σ) x1 0 0)) ci_X4_boats lk_X4_81 ⟨Nat.le_of_ble_eq_true rfl, Nat.le_of_ble_eq_true rfl⟩ hP hK (hE.S hS).none (q0 := 0) rfl rfl rfl rfl hl.1 rfl (Nat.le_of_ble_eq_true rfl) dX4_goAway_47 ⟨Nat.zero_le _, Nat.zero_le _⟩ ?_
        have hm : mX4_goAway σ x1 = ((mX4_boats (mX4_put (mX4_push_z σ) x1 0 0)), (mX4_put (mX4_push_z σ) x1 0 0)) := by unfold mX4_goAway; rw [if_neg c_1, if_pos c_2, if_pos c_3]
        exact wr_ret hC hP (hAe ▸ hD) (hAe ▸ hS) dX4_goAway_50 (by rw [hm]) (by rw [hm])
      · refine lv_bipush (v := (-4)) hx hb dX4_goAway_28 (by decide) ?_
        have hm : mX4_goAway σ x1 = ((-4), σ) := by unfold mX4_goAway; rw [if_neg c_1, if_pos c_2, if_neg c_3]
        exact wr_ret hC hP (hAe ▸ hD) (hAe ▸ hS) dX4_goAway_30 (by rw [hm]) (by rw [hm])
  · refine lv_iconst (v := (-1)) hx hb dX4_goAway_8 (by decide) ?_
    have hm : mX4_goAway σ x1 = ((-1), σ) := by unfold mX4_goAway; rw [if_pos c_1]
    exact wr_ret hC hP (hAe ▸ hD) (hAe ▸ hS) dX4_goAway_9 (by rw [hm]) (by rw [hm])
def mX4_change (σ : MS) (x1 : Int32) (x2 : Int32) : Int32 × MS := (if ((M_z σ) x1.toNatClampNeg) = x2 then ((-5), σ) else (((M_z (mX4_push_z σ)) x1.toNatClampNeg), (M_set_z (mX4_push_z σ) (upd (M_z (mX4_push_z σ)) x1.toNatClampNeg x2))))
set_option maxHeartbeats 4000000 in
set_option maxRecDepth 100000 in
theorem k_X4_change (l : Launch) (g : WG) (ad : AM) (σ : MS) (x1 : Int32) (x2 : Int32) (h_1 : vp_in x1 255) (h_st : 0 ≤ (M_states σ).toInt ∧ (M_states σ).toInt ≤ 4) : Wr l yX4_change cX4_change 4 (some .int) 1 g (cM g ad σ) (cM g ad (mX4_change σ x1 x2).2) [.ref ad.1, .int x1, .int x2] (mX4_change σ x1 x2).1 := by
  refine wr_of (by decide) (Nat.le_of_ble_eq_true rfl) ?_
  intro p e s m args below meth c ls A hC hAe hP hD hK hE hA hS hl
  obtain ⟨hx, hb, hml, hr, hown, hts, hlk, hnm⟩ := id hC
  have hl : lv_has ls 4 [(0, .ref ad.1), (1, .int x1), (2, .int x2)] := hl
  refine lv_aload_n hx hb dX4_change_0 rfl (lv_at hl 0 rfl) ?_
  refine gM_z hC rfl hK hP dX4_change_1 ?_
  refine lv_iload_n hx hb dX4_change_4 rfl (lv_at hl 1 rfl) ?_
  refine lM_z hC hK hP h_1 dX4_change_5 ?_
  refine lv_iload_n hx hb dX4_change_6 rfl (lv_at hl 2 rfl) ?_
  refine lv_icmp_ne (tgt := 13) hx hb dX4_change_7 (by decide) (fun c_1 => ?_) (fun c_1 => ?_)
  · refine lv_aload_n hx hb dX4_change_13 rfl (lv_at hl 0 rfl) ?_
    refine lv_aload_n hx hb dX4_change_14 rfl (lv_at hl 0 rfl) ?_
    refine gM_z hC rfl hK hP dX4_change_15 ?_
    refine callWv hC (k_X4_push_z l g ad σ h_st) ci_X4_push lk_X4_85 ⟨Nat.le_of_ble_eq_true rfl, Nat.le_of_ble_eq_true rfl⟩ hP hD hK hE hS hA (q0 := 0) rfl rfl rfl rfl hl.1 rfl (Nat.le_of_ble_eq_true rfl) dX4_change_18 ⟨Nat.zero_le _, Nat.zero_le _⟩ (fun H locs hP _ hD hS _ _ => ?_)
    refine lv_aload_n hx hb dX4_change_21 rfl (lv_at hl 0 rfl) ?_
    refine gM_z hC rfl hK hP dX4_change_22 ?_
    refine lv_iload_n hx hb dX4_change_25 rfl (lv_at hl 1 rfl) ?_
    refine lM_z hC hK hP h_1 dX4_change_26 ?_
    refine lv_istore_n (lv' := [(3, .int ((M_z (mX4_push_z σ)) x1.toNatClampNeg)), (0, .ref ad.1), (1, .int x1), (2, .int x2)]) hx hb dX4_change_27 rfl hl (by decide) rfl (fun ls hl => ?_)
    refine lv_aload_n hx hb dX4_change_28 rfl (lv_at hl 1 rfl) ?_
    refine gM_z hC rfl hK hP dX4_change_29 ?_
    refine lv_iload_n hx hb dX4_change_32 rfl (lv_at hl 2 rfl) ?_
    refine lv_iload_n hx hb dX4_change_33 rfl (lv_at hl 3 rfl) ?_
    refine sM_z hC hK hP hD hS h_1 dX4_change_34 (fun H locs hP hD hS => ?_)
    refine lv_iload_n hx hb dX4_change_35 rfl (lv_at hl 0 rfl) ?_
    have hm : mX4_change σ x1 x2 = (((M_z (mX4_push_z σ)) x1.toNatClampNeg), (M_set_z (mX4_push_z σ) (upd (M_z (mX4_push_z σ)) x1.toNatClampNeg x2))) := by unfold mX4_change; rw [if_neg c_1]
    exact wr_ret hC hP (hAe ▸ hD) (hAe ▸ hS) dX4_change_36 (by rw [hm]) (by rw [hm])
  · refine lv_bipush (v := (-5)) hx hb dX4_change_10 (by decide) ?_
    have hm : mX4_change σ x1 x2 = ((-5), σ) := by unfold mX4_change; rw [if_pos c_1]
    exact wr_ret hC hP (hAe ▸ hD) (hAe ▸ hS) dX4_change_12 (by rw [hm]) (by rw [hm])
def mX4_setCradles (σ : MS) (x1 : Int32) (x2 : Int32) : Int32 × MS := (if (mX4_isKind x1) = 0 then ((-1), σ) else (if (mX4_in x2 0 9) = 0 then ((-2), σ) else (if (mX4_taken σ x1) ≤ x2 then (mX4_change σ (8 + x1) x2) else ((-4), σ))))
set_option maxHeartbeats 4000000 in
set_option maxRecDepth 100000 in
theorem k_X4_setCradles (l : Launch) (g : WG) (ad : AM) (σ : MS) (x1 : Int32) (x2 : Int32) (h_st : 0 ≤ (M_states σ).toInt ∧ (M_states σ).toInt ≤ 4) : Wr l yX4_setCradles cX4_setCradles 3 (some .int) 3 g (cM g ad σ) (cM g ad (mX4_setCradles σ x1 x2).2) [.ref ad.1, .int x1, .int x2] (mX4_setCradles σ x1 x2).1 := by
  refine wr_of (by decide) (Nat.le_of_ble_eq_true rfl) ?_
  intro p e s m args below meth c ls A hC hAe hP hD hK hE hA hS hl
  obtain ⟨hx, hb, hml, hr, hown, hts, hlk, hnm⟩ := id hC
  have hl : lv_has ls 3 [(0, .ref ad.1), (1, .int x1), (2, .int x2)] := hl
  refine lv_iload_n hx hb dX4_setCradles_0 rfl (lv_at hl 1 rfl) ?_
  refine callRs hC (k_X4_isKind l g x1) ci_X4_isKind lk_X4_89 ⟨Nat.le_of_ble_eq_true rfl, Nat.le_of_ble_eq_true rfl⟩ hK (hE.S hS).none rfl hl.1 rfl (Nat.le_of_ble_eq_true rfl) dX4_setCradles_1 ⟨Nat.zero_le _, Nat.zero_le _⟩ ?_
  refine lv_if_ne (tgt := 9) hx hb dX4_setCradles_4 (by decide) (fun c_1 => ?_) (fun c_1 => ?_)
  · refine lv_iload_n hx hb dX4_setCradles_9 rfl (lv_at hl 2 rfl) ?_
    refine lv_iconst (v := 0) hx hb dX4_setCradles_10 (by decide) ?_
    refine lv_bipush (v := 9) hx hb dX4_setCradles_11 (by decide) ?_
    refine callRs hC (k_X4_in l g x2 0 9) ci_X4_in lk_X4_32 ⟨Nat.le_of_ble_eq_true rfl, Nat.le_of_ble_eq_true rfl⟩ hK (hE.S hS).none rfl hl.1 rfl (Nat.le_of_ble_eq_true rfl) dX4_setCradles_13 ⟨Nat.zero_le _, Nat.zero_le _⟩ ?_
    refine lv_if_ne (tgt := 22) hx hb dX4_setCradles_16 (by decide) (fun c_2 => ?_) (fun c_2 => ?_)
    · refine lv_aload_n hx hb dX4_setCradles_22 rfl (lv_at hl 0 rfl) ?_
      refine lv_iload_n hx hb dX4_setCradles_23 rfl (lv_at hl 1 rfl) ?_
      refine callRd hC (k_X4_taken l g ad σ x1) ci_X4_taken lk_X4_44 ⟨Nat.le_of_ble_eq_true rfl, Nat.le_of_ble_eq_true rfl⟩ hP hK (hE.S hS).none (q0 := 0) rfl rfl rfl rfl hl.1 rfl (Nat.le_of_ble_eq_true rfl) dX4_setCradles_24 ⟨Nat.zero_le _, Nat.zero_le _⟩ ?_
      refine lv_iload_n hx hb dX4_setCradles_27 rfl (lv_at hl 2 rfl) ?_
      refine lv_icmp_le (tgt := 36) hx hb dX4_setCradles_28 (by decide) (fun c_3 => ?_) (fun c_3 => ?_)
      · refine lv_aload_n hx hb dX4_setCradles_36 rfl (lv_at hl 0 rfl) ?_
        refine lv_bipush (v := 8) hx hb dX4_setCradles_37 (by decide) ?_
        refine lv_iload_n hx hb dX4_setCradles_39 rfl (lv_at hl 1 rfl) ?_
        refine lv_iadd hx hb dX4_setCradles_40 ?_
        refine lv_iload_n hx hb dX4_setCradles_41 rfl (lv_at hl 2 rfl) ?_
        refine callWr hC (k_X4_change l g ad σ (8 + x1) x2 (ix_c (z := 8) rfl (by decide) (in_X4_isKind c_1) (by decide) (by decide)) h_st) ci_X4_change lk_X4_95 ⟨Nat.le_of_ble_eq_true rfl, Nat.le_of_ble_eq_true rfl⟩ hP hD hK hE hS hA (q0 := 0) rfl rfl rfl rfl hl.1 rfl (Nat.le_of_ble_eq_true rfl) dX4_setCradles_42 ⟨Nat.zero_le _, Nat.zero_le _⟩ (fun H locs hP _ hD hS _ _ => ?_)
        have hm : mX4_setCradles σ x1 x2 = (mX4_change σ (8 + x1) x2) := by unfold mX4_setCradles; rw [if_neg c_1, if_neg c_2, if_pos c_3]
        exact wr_ret hC hP (hAe ▸ hD) (hAe ▸ hS) dX4_setCradles_45 (by rw [hm]) (by rw [hm])
      · refine lv_bipush (v := (-4)) hx hb dX4_setCradles_31 (by decide) ?_
        refine lv_goto (tgt := 45) hx hb dX4_setCradles_33 (by decide) ?_
        have hm : mX4_setCradles σ x1 x2 = ((-4), σ) := by unfold mX4_setCradles; rw [if_neg c_1, if_neg c_2, if_neg c_3]
        exact wr_ret hC hP (hAe ▸ hD) (hAe ▸ hS) dX4_setCradles_45 (by rw [hm]) (by rw [hm])
    · refine lv_bipush (v := (-2)) hx hb dX4_setCradles_19 (by decide) ?_
      have hm : mX4_setCradles σ x1 x2 = ((-2), σ) := by unfold mX4_setCradles; rw [if_neg c_1, if_pos c_2]
      exact wr_ret hC hP (hAe ▸ hD) (hAe ▸ hS) dX4_setCradles_21 (by rw [hm]) (by rw [hm])
  · refine lv_iconst (v := (-1)) hx hb dX4_setCradles_7 (by decide) ?_
    have hm : mX4_setCradles σ x1 x2 = ((-1), σ) := by unfold mX4_setCradles; rw [if_pos c_1]
    exact wr_ret hC hP (hAe ▸ hD) (hAe ▸ hS) dX4_setCradles_8 (by rw [hm]) (by rw [hm])
def mX4_setRow (σ : MS) (x1 : Int32) (x2 : Int32) : Int32 × MS := (if (mX4_isRow x1) = 0 then ((-1), σ) else (if (mX4_in x2 10 60) = 0 then ((-2), σ) else (if (mX4_metresTaken σ x1) ≤ x2 then (mX4_change σ (11 + x1) x2) else ((-4), σ))))
set_option maxHeartbeats 4000000 in
set_option maxRecDepth 100000 in
theorem k_X4_setRow (l : Launch) (g : WG) (ad : AM) (σ : MS) (x1 : Int32) (x2 : Int32) (h_st : 0 ≤ (M_states σ).toInt ∧ (M_states σ).toInt ≤ 4) : Wr l yX4_setRow cX4_setRow 3 (some .int) 3 g (cM g ad σ) (cM g ad (mX4_setRow σ x1 x2).2) [.ref ad.1, .int x1, .int x2] (mX4_setRow σ x1 x2).1 := by
  refine wr_of (by decide) (Nat.le_of_ble_eq_true rfl) ?_
  intro p e s m args below meth c ls A hC hAe hP hD hK hE hA hS hl
  obtain ⟨hx, hb, hml, hr, hown, hts, hlk, hnm⟩ := id hC
  have hl : lv_has ls 3 [(0, .ref ad.1), (1, .int x1), (2, .int x2)] := hl
  refine lv_iload_n hx hb dX4_setRow_0 rfl (lv_at hl 1 rfl) ?_
  refine callRs hC (k_X4_isRow l g x1) ci_X4_isRow lk_X4_98 ⟨Nat.le_of_ble_eq_true rfl, Nat.le_of_ble_eq_true rfl⟩ hK (hE.S hS).none rfl hl.1 rfl (Nat.le_of_ble_eq_true rfl) dX4_setRow_1 ⟨Nat.zero_le _, Nat.zero_le _⟩ ?_
  refine lv_if_ne (tgt := 9) hx hb dX4_setRow_4 (by decide) (fun c_1 => ?_) (fun c_1 => ?_)
  · refine lv_iload_n hx hb dX4_setRow_9 rfl (lv_at hl 2 rfl) ?_
    refine lv_bipush (v := 10) hx hb dX4_setRow_10 (by decide) ?_
    refine lv_bipush (v := 60) hx hb dX4_setRow_12 (by decide) ?_
    refine callRs hC (k_X4_in l g x2 10 60) ci_X4_in lk_X4_32 ⟨Nat.le_of_ble_eq_true rfl, Nat.le_of_ble_eq_true rfl⟩ hK (hE.S hS).none rfl hl.1 rfl (Nat.le_of_ble_eq_true rfl) dX4_setRow_14 ⟨Nat.zero_le _, Nat.zero_le _⟩ ?_
    refine lv_if_ne (tgt := 23) hx hb dX4_setRow_17 (by decide) (fun c_2 => ?_) (fun c_2 => ?_)
    · refine lv_aload_n hx hb dX4_setRow_23 rfl (lv_at hl 0 rfl) ?_
      refine lv_iload_n hx hb dX4_setRow_24 rfl (lv_at hl 1 rfl) ?_
      refine callRd hC (k_X4_metresTaken l g ad σ x1) ci_X4_metresTaken lk_X4_58 ⟨Nat.le_of_ble_eq_true rfl, Nat.le_of_ble_eq_true rfl⟩ hP hK (hE.S hS).none (q0 := 0) rfl rfl rfl rfl hl.1 rfl (Nat.le_of_ble_eq_true rfl) dX4_setRow_25 ⟨Nat.zero_le _, Nat.zero_le _⟩ ?_
      refine lv_iload_n hx hb dX4_setRow_28 rfl (lv_at hl 2 rfl) ?_
      refine lv_icmp_le (tgt := 37) hx hb dX4_setRow_29 (by decide) (fun c_3 => ?_) (fun c_3 => ?_)
      · refine lv_aload_n hx hb dX4_setRow_37 rfl (lv_at hl 0 rfl) ?_
        refine lv_bipush (v := 11) hx hb dX4_setRow_38 (by decide) ?_
        refine lv_iload_n hx hb dX4_setRow_40 rfl (lv_at hl 1 rfl) ?_
        refine lv_iadd hx hb dX4_setRow_41 ?_
        refine lv_iload_n hx hb dX4_setRow_42 rfl (lv_at hl 2 rfl) ?_
        refine callWr hC (k_X4_change l g ad σ (11 + x1) x2 (ix_c (z := 11) rfl (by decide) (in_X4_isRow c_1) (by decide) (by decide)) h_st) ci_X4_change lk_X4_95 ⟨Nat.le_of_ble_eq_true rfl, Nat.le_of_ble_eq_true rfl⟩ hP hD hK hE hS hA (q0 := 0) rfl rfl rfl rfl hl.1 rfl (Nat.le_of_ble_eq_true rfl) dX4_setRow_43 ⟨Nat.zero_le _, Nat.zero_le _⟩ (fun H locs hP _ hD hS _ _ => ?_)
        have hm : mX4_setRow σ x1 x2 = (mX4_change σ (11 + x1) x2) := by unfold mX4_setRow; rw [if_neg c_1, if_neg c_2, if_pos c_3]
        exact wr_ret hC hP (hAe ▸ hD) (hAe ▸ hS) dX4_setRow_46 (by rw [hm]) (by rw [hm])
      · refine lv_bipush (v := (-4)) hx hb dX4_setRow_32 (by decide) ?_
        refine lv_goto (tgt := 46) hx hb dX4_setRow_34 (by decide) ?_
        have hm : mX4_setRow σ x1 x2 = ((-4), σ) := by unfold mX4_setRow; rw [if_neg c_1, if_neg c_2, if_neg c_3]
        exact wr_ret hC hP (hAe ▸ hD) (hAe ▸ hS) dX4_setRow_46 (by rw [hm]) (by rw [hm])
    · refine lv_bipush (v := (-2)) hx hb dX4_setRow_20 (by decide) ?_
      have hm : mX4_setRow σ x1 x2 = ((-2), σ) := by unfold mX4_setRow; rw [if_neg c_1, if_pos c_2]
      exact wr_ret hC hP (hAe ▸ hD) (hAe ▸ hS) dX4_setRow_22 (by rw [hm]) (by rw [hm])
  · refine lv_iconst (v := (-1)) hx hb dX4_setRow_7 (by decide) ?_
    have hm : mX4_setRow σ x1 x2 = ((-1), σ) := by unfold mX4_setRow; rw [if_pos c_1]
    exact wr_ret hC hP (hAe ▸ hD) (hAe ▸ hS) dX4_setRow_8 (by rw [hm]) (by rw [hm])
def mX4_set (σ : MS) (x1 : Int32) (x2 : Int32) : Int32 × MS := (if (mX4_in x1 0 2) = 0 then ((-1), σ) else (if x1 = 0 then (if (mX4_in x2 0 9) = 0 then ((-2), σ) else (mX4_change σ (2 + x1) x2)) else (if x1 = 1 then (if (mX4_in x2 1 9) = 0 then ((-2), σ) else (mX4_change σ (2 + x1) x2)) else (if (mX4_in x2 1 30) = 0 then ((-2), σ) else (mX4_change σ (2 + x1) x2)))))
set_option maxHeartbeats 4000000 in
set_option maxRecDepth 100000 in
theorem k_X4_set (l : Launch) (g : WG) (ad : AM) (σ : MS) (x1 : Int32) (x2 : Int32) (h_st : 0 ≤ (M_states σ).toInt ∧ (M_states σ).toInt ≤ 4) : Wr l yX4_set cX4_set 4 (some .int) 2 g (cM g ad σ) (cM g ad (mX4_set σ x1 x2).2) [.ref ad.1, .int x1, .int x2] (mX4_set σ x1 x2).1 := by
  refine wr_of (by decide) (Nat.le_of_ble_eq_true rfl) ?_
  intro p e s m args below meth c ls A hC hAe hP hD hK hE hA hS hl
  obtain ⟨hx, hb, hml, hr, hown, hts, hlk, hnm⟩ := id hC
  have hl : lv_has ls 4 [(0, .ref ad.1), (1, .int x1), (2, .int x2)] := hl
  refine lv_iload_n hx hb dX4_set_0 rfl (lv_at hl 1 rfl) ?_
  refine lv_iconst (v := 0) hx hb dX4_set_1 (by decide) ?_
  refine lv_iconst (v := 2) hx hb dX4_set_2 (by decide) ?_
  refine callRs hC (k_X4_in l g x1 0 2) ci_X4_in lk_X4_32 ⟨Nat.le_of_ble_eq_true rfl, Nat.le_of_ble_eq_true rfl⟩ hK (hE.S hS).none rfl hl.1 rfl (Nat.le_of_ble_eq_true rfl) dX4_set_3 ⟨Nat.zero_le _, Nat.zero_le _⟩ ?_
  refine lv_if_ne (tgt := 11) hx hb dX4_set_6 (by decide) (fun c_1 => ?_) (fun c_1 => ?_)
  · refine lv_iload_n hx hb dX4_set_11 rfl (lv_at hl 1 rfl) ?_
    refine lv_if_ne (tgt := 25) hx hb dX4_set_12 (by decide) (fun c_2 => ?_) (fun c_2 => ?_)
    · refine lv_iload_n hx hb dX4_set_25 rfl (lv_at hl 1 rfl) ?_
      refine lv_iconst (v := 1) hx hb dX4_set_26 (by decide) ?_
      refine lv_icmp_ne (tgt := 40) hx hb dX4_set_27 (by decide) (fun c_3 => ?_) (fun c_3 => ?_)
      · refine lv_iload_n hx hb dX4_set_40 rfl (lv_at hl 2 rfl) ?_
        refine lv_iconst (v := 1) hx hb dX4_set_41 (by decide) ?_
        refine lv_bipush (v := 30) hx hb dX4_set_42 (by decide) ?_
        refine callRs hC (k_X4_in l g x2 1 30) ci_X4_in lk_X4_32 ⟨Nat.le_of_ble_eq_true rfl, Nat.le_of_ble_eq_true rfl⟩ hK (hE.S hS).none rfl hl.1 rfl (Nat.le_of_ble_eq_true rfl) dX4_set_44 ⟨Nat.zero_le _, Nat.zero_le _⟩ ?_
        refine lv_istore_n (lv' := [(3, .int (mX4_in x2 1 30)), (0, .ref ad.1), (1, .int x1), (2, .int x2)]) hx hb dX4_set_47 rfl hl (by decide) rfl (fun ls hl => ?_)
        refine lv_iload_n hx hb dX4_set_48 rfl (lv_at hl 0 rfl) ?_
        refine lv_if_eq (tgt := 63) hx hb dX4_set_49 (by decide) (fun c_4 => ?_) (fun c_4 => ?_)
        · refine lv_bipush (v := (-2)) hx hb dX4_set_63 (by decide) ?_
          have hm : mX4_set σ x1 x2 = ((-2), σ) := by unfold mX4_set; rw [if_neg c_1, if_neg c_2, if_neg c_3, if_pos c_4]
          exact wr_ret hC hP (hAe ▸ hD) (hAe ▸ hS) dX4_set_65 (by rw [hm]) (by rw [hm])
        · refine lv_aload_n hx hb dX4_set_52 rfl (lv_at hl 1 rfl) ?_
          refine lv_iconst (v := 2) hx hb dX4_set_53 (by decide) ?_
          refine lv_iload_n hx hb dX4_set_54 rfl (lv_at hl 2 rfl) ?_
          refine lv_iadd hx hb dX4_set_55 ?_
          refine lv_iload_n hx hb dX4_set_56 rfl (lv_at hl 3 rfl) ?_
          refine callWr hC (k_X4_change l g ad σ (2 + x1) x2 (ix_c (z := 2) rfl (by decide) (in_in4 (k := 2) rfl c_1) (by decide) (by decide)) h_st) ci_X4_change lk_X4_95 ⟨Nat.le_of_ble_eq_true rfl, Nat.le_of_ble_eq_true rfl⟩ hP hD hK hE hS hA (q0 := 0) rfl rfl rfl rfl hl.1 rfl (Nat.le_of_ble_eq_true rfl) dX4_set_57 ⟨Nat.zero_le _, Nat.zero_le _⟩ (fun H locs hP _ hD hS _ _ => ?_)
          refine lv_goto (tgt := 65) hx hb dX4_set_60 (by decide) ?_
          have hm : mX4_set σ x1 x2 = (mX4_change σ (2 + x1) x2) := by unfold mX4_set; rw [if_neg c_1, if_neg c_2, if_neg c_3, if_neg c_4]
          exact wr_ret hC hP (hAe ▸ hD) (hAe ▸ hS) dX4_set_65 (by rw [hm]) (by rw [hm])
      · refine lv_iload_n hx hb dX4_set_30 rfl (lv_at hl 2 rfl) ?_
        refine lv_iconst (v := 1) hx hb dX4_set_31 (by decide) ?_
        refine lv_bipush (v := 9) hx hb dX4_set_32 (by decide) ?_
        refine callRs hC (k_X4_in l g x2 1 9) ci_X4_in lk_X4_32 ⟨Nat.le_of_ble_eq_true rfl, Nat.le_of_ble_eq_true rfl⟩ hK (hE.S hS).none rfl hl.1 rfl (Nat.le_of_ble_eq_true rfl) dX4_set_34 ⟨Nat.zero_le _, Nat.zero_le _⟩ ?_
        refine lv_goto (tgt := 47) hx hb dX4_set_37 (by decide) ?_
        refine lv_istore_n (lv' := [(3, .int (mX4_in x2 1 9)), (0, .ref ad.1), (1, .int x1), (2, .int x2)]) hx hb dX4_set_47 rfl hl (by decide) rfl (fun ls hl => ?_)
        refine lv_iload_n hx hb dX4_set_48 rfl (lv_at hl 0 rfl) ?_
        refine lv_if_eq (tgt := 63) hx hb dX4_set_49 (by decide) (fun c_5 => ?_) (fun c_5 => ?_)
        · refine lv_bipush (v := (-2)) hx hb dX4_set_63 (by decide) ?_
          have hm : mX4_set σ x1 x2 = ((-2), σ) := by unfold mX4_set; rw [if_neg c_1, if_neg c_2, if_pos c_3, if_pos c_5]
          exact wr_ret hC hP (hAe ▸ hD) (hAe ▸ hS) dX4_set_65 (by rw [hm]) (by rw [hm])
        · refine lv_aload_n hx hb dX4_set_52 rfl (lv_at hl 1 rfl) ?_
          refine lv_iconst (v := 2) hx hb dX4_set_53 (by decide) ?_
          refine lv_iload_n hx hb dX4_set_54 rfl (lv_at hl 2 rfl) ?_
          refine lv_iadd hx hb dX4_set_55 ?_
          refine lv_iload_n hx hb dX4_set_56 rfl (lv_at hl 3 rfl) ?_
          refine callWr hC (k_X4_change l g ad σ (2 + x1) x2 (ix_c (z := 2) rfl (by decide) (in_in4 (k := 2) rfl c_1) (by decide) (by decide)) h_st) ci_X4_change lk_X4_95 ⟨Nat.le_of_ble_eq_true rfl, Nat.le_of_ble_eq_true rfl⟩ hP hD hK hE hS hA (q0 := 0) rfl rfl rfl rfl hl.1 rfl (Nat.le_of_ble_eq_true rfl) dX4_set_57 ⟨Nat.zero_le _, Nat.zero_le _⟩ (fun H locs hP _ hD hS _ _ => ?_)
          refine lv_goto (tgt := 65) hx hb dX4_set_60 (by decide) ?_
          have hm : mX4_set σ x1 x2 = (mX4_change σ (2 + x1) x2) := by unfold mX4_set; rw [if_neg c_1, if_neg c_2, if_pos c_3, if_neg c_5]
          exact wr_ret hC hP (hAe ▸ hD) (hAe ▸ hS) dX4_set_65 (by rw [hm]) (by rw [hm])
    · refine lv_iload_n hx hb dX4_set_15 rfl (lv_at hl 2 rfl) ?_
      refine lv_iconst (v := 0) hx hb dX4_set_16 (by decide) ?_
      refine lv_bipush (v := 9) hx hb dX4_set_17 (by decide) ?_
      refine callRs hC (k_X4_in l g x2 0 9) ci_X4_in lk_X4_32 ⟨Nat.le_of_ble_eq_true rfl, Nat.le_of_ble_eq_true rfl⟩ hK (hE.S hS).none rfl hl.1 rfl (Nat.le_of_ble_eq_true rfl) dX4_set_19 ⟨Nat.zero_le _, Nat.zero_le _⟩ ?_
      refine lv_goto (tgt := 47) hx hb dX4_set_22 (by decide) ?_
      refine lv_istore_n (lv' := [(3, .int (mX4_in x2 0 9)), (0, .ref ad.1), (1, .int x1), (2, .int x2)]) hx hb dX4_set_47 rfl hl (by decide) rfl (fun ls hl => ?_)
      refine lv_iload_n hx hb dX4_set_48 rfl (lv_at hl 0 rfl) ?_
      refine lv_if_eq (tgt := 63) hx hb dX4_set_49 (by decide) (fun c_6 => ?_) (fun c_6 => ?_)
      · refine lv_bipush (v := (-2)) hx hb dX4_set_63 (by decide) ?_
        have hm : mX4_set σ x1 x2 = ((-2), σ) := by unfold mX4_set; rw [if_neg c_1, if_pos c_2, if_pos c_6]
        exact wr_ret hC hP (hAe ▸ hD) (hAe ▸ hS) dX4_set_65 (by rw [hm]) (by rw [hm])
      · refine lv_aload_n hx hb dX4_set_52 rfl (lv_at hl 1 rfl) ?_
        refine lv_iconst (v := 2) hx hb dX4_set_53 (by decide) ?_
        refine lv_iload_n hx hb dX4_set_54 rfl (lv_at hl 2 rfl) ?_
        refine lv_iadd hx hb dX4_set_55 ?_
        refine lv_iload_n hx hb dX4_set_56 rfl (lv_at hl 3 rfl) ?_
        refine callWr hC (k_X4_change l g ad σ (2 + x1) x2 (ix_c (z := 2) rfl (by decide) (in_in4 (k := 2) rfl c_1) (by decide) (by decide)) h_st) ci_X4_change lk_X4_95 ⟨Nat.le_of_ble_eq_true rfl, Nat.le_of_ble_eq_true rfl⟩ hP hD hK hE hS hA (q0 := 0) rfl rfl rfl rfl hl.1 rfl (Nat.le_of_ble_eq_true rfl) dX4_set_57 ⟨Nat.zero_le _, Nat.zero_le _⟩ (fun H locs hP _ hD hS _ _ => ?_)
        refine lv_goto (tgt := 65) hx hb dX4_set_60 (by decide) ?_
        have hm : mX4_set σ x1 x2 = (mX4_change σ (2 + x1) x2) := by unfold mX4_set; rw [if_neg c_1, if_pos c_2, if_neg c_6]
        exact wr_ret hC hP (hAe ▸ hD) (hAe ▸ hS) dX4_set_65 (by rw [hm]) (by rw [hm])
  · refine lv_iconst (v := (-1)) hx hb dX4_set_9 (by decide) ?_
    have hm : mX4_set σ x1 x2 = ((-1), σ) := by unfold mX4_set; rw [if_pos c_1]
    exact wr_ret hC hP (hAe ▸ hD) (hAe ▸ hS) dX4_set_10 (by rw [hm]) (by rw [hm])
def mX4_whyNoLift (σ : MS) (x1 : Int32) (x2 : Int32) : Int32 := (if (mX4_isAshore σ x1) = 0 then (if (mX4_of σ x1 2) ≤ (mX4_tideAt σ ((M_z σ) (0 : Int32).toNatClampNeg)) then (if (mX4_of σ x1 3) ≤ ((M_z σ) (4 : Int32).toNatClampNeg) then (if (mX4_cradleFor σ x1) = (-5) then 4 else (if (mX4_hasRoom σ x1 x2) = 0 then 5 else (if (mX4_of σ x1 1) < 10 then (if (mX4_liftsLeft σ) = 0 then 7 else 0) else (if (mX4_of σ x1 7) = (-5) then 6 else (if (mX4_liftsLeft σ) = 0 then 7 else 0))))) else 3) else 2) else 1)
set_option maxHeartbeats 4000000 in
set_option maxRecDepth 100000 in
theorem k_X4_whyNoLift (l : Launch) (g : WG) (ad : AM) (σ : MS) (x1 : Int32) (x2 : Int32) (h_1 : vp_in x1 20) (h_2 : vp_in x2 4) (h_keel : vp_in (mX4_of σ x1 4) 3) : Rd l yX4_whyNoLift cX4_whyNoLift 3 (some .int) 5 (Wl g (cM g ad σ) (fun _ => False)) [.ref ad.1, .int x1, .int x2] (mX4_whyNoLift σ x1 x2) := by
  refine rd_of (by decide) (Nat.le_of_ble_eq_true rfl) ?_
  intro p e s m args below meth c ls hC hW hl
  obtain ⟨hP, hK, hE⟩ := hW
  obtain ⟨hx, hb, hml, hr, hown, hts, hlk, hnm⟩ := id hC
  have hl : lv_has ls 3 [(0, .ref ad.1), (1, .int x1), (2, .int x2)] := hl
  refine lv_aload_n hx hb dX4_whyNoLift_0 rfl (lv_at hl 0 rfl) ?_
  refine lv_iload_n hx hb dX4_whyNoLift_1 rfl (lv_at hl 1 rfl) ?_
  refine callRd hC (k_X4_isAshore l g ad σ x1 h_1) ci_X4_isAshore lk_X4_40 ⟨Nat.le_of_ble_eq_true rfl, Nat.le_of_ble_eq_true rfl⟩ hP hK hE (q0 := 0) rfl rfl rfl rfl hl.1 rfl (Nat.le_of_ble_eq_true rfl) dX4_whyNoLift_2 ⟨Nat.zero_le _, Nat.zero_le _⟩ ?_
  refine lv_if_eq (tgt := 10) hx hb dX4_whyNoLift_5 (by decide) (fun c_1 => ?_) (fun c_1 => ?_)
  · refine lv_aload_n hx hb dX4_whyNoLift_10 rfl (lv_at hl 0 rfl) ?_
    refine lv_aload_n hx hb dX4_whyNoLift_11 rfl (lv_at hl 0 rfl) ?_
    refine gM_z hC rfl hK hP dX4_whyNoLift_12 ?_
    refine lv_iconst (v := 0) hx hb dX4_whyNoLift_15 (by decide) ?_
    refine lM_z hC hK hP (in_iff.mpr (by decide)) dX4_whyNoLift_16 ?_
    refine callRd hC (k_X4_tideAt l g ad σ ((M_z σ) (0 : Int32).toNatClampNeg)) ci_X4_tideAt lk_X4_101 ⟨Nat.le_of_ble_eq_true rfl, Nat.le_of_ble_eq_true rfl⟩ hP hK hE (q0 := 0) rfl rfl rfl rfl hl.1 rfl (Nat.le_of_ble_eq_true rfl) dX4_whyNoLift_17 ⟨Nat.zero_le _, Nat.zero_le _⟩ ?_
    refine lv_aload_n hx hb dX4_whyNoLift_20 rfl (lv_at hl 0 rfl) ?_
    refine lv_iload_n hx hb dX4_whyNoLift_21 rfl (lv_at hl 1 rfl) ?_
    refine lv_iconst (v := 2) hx hb dX4_whyNoLift_22 (by decide) ?_
    refine callRd hC (k_X4_of l g ad σ x1 2 h_1 (in_iff.mpr (by decide))) ci_X4_of lk_X4_36 ⟨Nat.le_of_ble_eq_true rfl, Nat.le_of_ble_eq_true rfl⟩ hP hK hE (q0 := 0) rfl rfl rfl rfl hl.1 rfl (Nat.le_of_ble_eq_true rfl) dX4_whyNoLift_23 ⟨Nat.zero_le _, Nat.zero_le _⟩ ?_
    refine lv_icmp_ge (tgt := 31) hx hb dX4_whyNoLift_26 (by decide) (fun c_2 => ?_) (fun c_2 => ?_)
    · refine lv_aload_n hx hb dX4_whyNoLift_31 rfl (lv_at hl 0 rfl) ?_
      refine lv_iload_n hx hb dX4_whyNoLift_32 rfl (lv_at hl 1 rfl) ?_
      refine lv_iconst (v := 3) hx hb dX4_whyNoLift_33 (by decide) ?_
      refine callRd hC (k_X4_of l g ad σ x1 3 h_1 (in_iff.mpr (by decide))) ci_X4_of lk_X4_36 ⟨Nat.le_of_ble_eq_true rfl, Nat.le_of_ble_eq_true rfl⟩ hP hK hE (q0 := 0) rfl rfl rfl rfl hl.1 rfl (Nat.le_of_ble_eq_true rfl) dX4_whyNoLift_34 ⟨Nat.zero_le _, Nat.zero_le _⟩ ?_
      refine lv_aload_n hx hb dX4_whyNoLift_37 rfl (lv_at hl 0 rfl) ?_
      refine gM_z hC rfl hK hP dX4_whyNoLift_38 ?_
      refine lv_iconst (v := 4) hx hb dX4_whyNoLift_41 (by decide) ?_
      refine lM_z hC hK hP (in_iff.mpr (by decide)) dX4_whyNoLift_42 ?_
      refine lv_icmp_le (tgt := 48) hx hb dX4_whyNoLift_43 (by decide) (fun c_3 => ?_) (fun c_3 => ?_)
      · refine lv_aload_n hx hb dX4_whyNoLift_48 rfl (lv_at hl 0 rfl) ?_
        refine lv_iload_n hx hb dX4_whyNoLift_49 rfl (lv_at hl 1 rfl) ?_
        refine callRd hC (k_X4_cradleFor l g ad σ x1 h_1 h_keel) ci_X4_cradleFor lk_X4_104 ⟨Nat.le_of_ble_eq_true rfl, Nat.le_of_ble_eq_true rfl⟩ hP hK hE (q0 := 0) rfl rfl rfl rfl hl.1 rfl (Nat.le_of_ble_eq_true rfl) dX4_whyNoLift_50 ⟨Nat.zero_le _, Nat.zero_le _⟩ ?_
        refine lv_bipush (v := (-5)) hx hb dX4_whyNoLift_53 (by decide) ?_
        refine lv_icmp_ne (tgt := 60) hx hb dX4_whyNoLift_55 (by decide) (fun c_4 => ?_) (fun c_4 => ?_)
        · refine lv_aload_n hx hb dX4_whyNoLift_60 rfl (lv_at hl 0 rfl) ?_
          refine lv_iload_n hx hb dX4_whyNoLift_61 rfl (lv_at hl 1 rfl) ?_
          refine lv_iload_n hx hb dX4_whyNoLift_62 rfl (lv_at hl 2 rfl) ?_
          refine callRd hC (k_X4_hasRoom l g ad σ x1 x2 h_1 h_2) ci_X4_hasRoom lk_X4_107 ⟨Nat.le_of_ble_eq_true rfl, Nat.le_of_ble_eq_true rfl⟩ hP hK hE (q0 := 0) rfl rfl rfl rfl hl.1 rfl (Nat.le_of_ble_eq_true rfl) dX4_whyNoLift_63 ⟨Nat.zero_le _, Nat.zero_le _⟩ ?_
          refine lv_if_ne (tgt := 71) hx hb dX4_whyNoLift_66 (by decide) (fun c_5 => ?_) (fun c_5 => ?_)
          · refine lv_aload_n hx hb dX4_whyNoLift_71 rfl (lv_at hl 0 rfl) ?_
            refine lv_iload_n hx hb dX4_whyNoLift_72 rfl (lv_at hl 1 rfl) ?_
            refine lv_iconst (v := 1) hx hb dX4_whyNoLift_73 (by decide) ?_
            refine callRd hC (k_X4_of l g ad σ x1 1 h_1 (in_iff.mpr (by decide))) ci_X4_of lk_X4_36 ⟨Nat.le_of_ble_eq_true rfl, Nat.le_of_ble_eq_true rfl⟩ hP hK hE (q0 := 0) rfl rfl rfl rfl hl.1 rfl (Nat.le_of_ble_eq_true rfl) dX4_whyNoLift_74 ⟨Nat.zero_le _, Nat.zero_le _⟩ ?_
            refine lv_bipush (v := 10) hx hb dX4_whyNoLift_77 (by decide) ?_
            refine lv_icmp_lt (tgt := 97) hx hb dX4_whyNoLift_79 (by decide) (fun c_6 => ?_) (fun c_6 => ?_)
            · refine lv_aload_n hx hb dX4_whyNoLift_97 rfl (lv_at hl 0 rfl) ?_
              refine callRd hC (k_X4_liftsLeft l g ad σ) ci_X4_liftsLeft lk_X4_110 ⟨Nat.le_of_ble_eq_true rfl, Nat.le_of_ble_eq_true rfl⟩ hP hK hE (q0 := 0) rfl rfl rfl rfl hl.1 rfl (Nat.le_of_ble_eq_true rfl) dX4_whyNoLift_98 ⟨Nat.zero_le _, Nat.zero_le _⟩ ?_
              refine lv_if_ne (tgt := 109) hx hb dX4_whyNoLift_101 (by decide) (fun c_7 => ?_) (fun c_7 => ?_)
              · refine lv_iconst (v := 0) hx hb dX4_whyNoLift_109 (by decide) ?_
                exact rd_ret hC dX4_whyNoLift_110 (Eq.symm (by unfold mX4_whyNoLift; rw [if_pos c_1, if_pos c_2, if_pos c_3, if_neg c_4, if_neg c_5, if_pos c_6, if_neg c_7]))
              · refine lv_bipush (v := 7) hx hb dX4_whyNoLift_104 (by decide) ?_
                refine lv_goto (tgt := 110) hx hb dX4_whyNoLift_106 (by decide) ?_
                exact rd_ret hC dX4_whyNoLift_110 (Eq.symm (by unfold mX4_whyNoLift; rw [if_pos c_1, if_pos c_2, if_pos c_3, if_neg c_4, if_neg c_5, if_pos c_6, if_pos c_7]))
            · refine lv_aload_n hx hb dX4_whyNoLift_82 rfl (lv_at hl 0 rfl) ?_
              refine lv_iload_n hx hb dX4_whyNoLift_83 rfl (lv_at hl 1 rfl) ?_
              refine lv_bipush (v := 7) hx hb dX4_whyNoLift_84 (by decide) ?_
              refine callRd hC (k_X4_of l g ad σ x1 7 h_1 (in_iff.mpr (by decide))) ci_X4_of lk_X4_36 ⟨Nat.le_of_ble_eq_true rfl, Nat.le_of_ble_eq_true rfl⟩ hP hK hE (q0 := 0) rfl rfl rfl rfl hl.1 rfl (Nat.le_of_ble_eq_true rfl) dX4_whyNoLift_86 ⟨Nat.zero_le _, Nat.zero_le _⟩ ?_
              refine lv_bipush (v := (-5)) hx hb dX4_whyNoLift_89 (by decide) ?_
              refine lv_icmp_ne (tgt := 97) hx hb dX4_whyNoLift_91 (by decide) (fun c_8 => ?_) (fun c_8 => ?_)
              · refine lv_aload_n hx hb dX4_whyNoLift_97 rfl (lv_at hl 0 rfl) ?_
                refine callRd hC (k_X4_liftsLeft l g ad σ) ci_X4_liftsLeft lk_X4_110 ⟨Nat.le_of_ble_eq_true rfl, Nat.le_of_ble_eq_true rfl⟩ hP hK hE (q0 := 0) rfl rfl rfl rfl hl.1 rfl (Nat.le_of_ble_eq_true rfl) dX4_whyNoLift_98 ⟨Nat.zero_le _, Nat.zero_le _⟩ ?_
                refine lv_if_ne (tgt := 109) hx hb dX4_whyNoLift_101 (by decide) (fun c_9 => ?_) (fun c_9 => ?_)
                · refine lv_iconst (v := 0) hx hb dX4_whyNoLift_109 (by decide) ?_
                  exact rd_ret hC dX4_whyNoLift_110 (Eq.symm (by unfold mX4_whyNoLift; rw [if_pos c_1, if_pos c_2, if_pos c_3, if_neg c_4, if_neg c_5, if_neg c_6, if_neg c_8, if_neg c_9]))
                · refine lv_bipush (v := 7) hx hb dX4_whyNoLift_104 (by decide) ?_
                  refine lv_goto (tgt := 110) hx hb dX4_whyNoLift_106 (by decide) ?_
                  exact rd_ret hC dX4_whyNoLift_110 (Eq.symm (by unfold mX4_whyNoLift; rw [if_pos c_1, if_pos c_2, if_pos c_3, if_neg c_4, if_neg c_5, if_neg c_6, if_neg c_8, if_pos c_9]))
              · refine lv_bipush (v := 6) hx hb dX4_whyNoLift_94 (by decide) ?_
                exact rd_ret hC dX4_whyNoLift_96 (Eq.symm (by unfold mX4_whyNoLift; rw [if_pos c_1, if_pos c_2, if_pos c_3, if_neg c_4, if_neg c_5, if_neg c_6, if_pos c_8]))
          · refine lv_iconst (v := 5) hx hb dX4_whyNoLift_69 (by decide) ?_
            exact rd_ret hC dX4_whyNoLift_70 (Eq.symm (by unfold mX4_whyNoLift; rw [if_pos c_1, if_pos c_2, if_pos c_3, if_neg c_4, if_pos c_5]))
        · refine lv_iconst (v := 4) hx hb dX4_whyNoLift_58 (by decide) ?_
          exact rd_ret hC dX4_whyNoLift_59 (Eq.symm (by unfold mX4_whyNoLift; rw [if_pos c_1, if_pos c_2, if_pos c_3, if_pos c_4]))
      · refine lv_iconst (v := 3) hx hb dX4_whyNoLift_46 (by decide) ?_
        exact rd_ret hC dX4_whyNoLift_47 (Eq.symm (by unfold mX4_whyNoLift; rw [if_pos c_1, if_pos c_2, if_neg c_3]))
    · refine lv_iconst (v := 2) hx hb dX4_whyNoLift_29 (by decide) ?_
      exact rd_ret hC dX4_whyNoLift_30 (Eq.symm (by unfold mX4_whyNoLift; rw [if_pos c_1, if_neg c_2]))
  · refine lv_iconst (v := 1) hx hb dX4_whyNoLift_8 (by decide) ?_
    exact rd_ret hC dX4_whyNoLift_9 (Eq.symm (by unfold mX4_whyNoLift; rw [if_neg c_1]))
def KeelM (σ : MS) : Prop := ∀ b : Int32, ¬ mX4_isBoat σ b = 0 → vp_in (mX4_of σ b 4) 3
def mX4_noLift (σ : MS) (x1 : Int32) (x2 : Int32) : Int32 := (if (mX4_isBoat σ x1) = 0 then (-1) else (if (mX4_isRow x2) = 0 then (-1) else (if (mX4_whyNoLift σ x1 x2) ≤ 0 then 0 else ((-10) - (mX4_whyNoLift σ x1 x2)))))
set_option maxHeartbeats 4000000 in
set_option maxRecDepth 100000 in
theorem k_X4_noLift (l : Launch) (g : WG) (ad : AM) (σ : MS) (x1 : Int32) (x2 : Int32) (h_keels : KeelM σ) : Rd l yX4_noLift cX4_noLift 4 (some .int) 6 (Wl g (cM g ad σ) (fun _ => False)) [.ref ad.1, .int x1, .int x2] (mX4_noLift σ x1 x2) := by
  refine rd_of (by decide) (Nat.le_of_ble_eq_true rfl) ?_
  intro p e s m args below meth c ls hC hW hl
  obtain ⟨hP, hK, hE⟩ := hW
  obtain ⟨hx, hb, hml, hr, hown, hts, hlk, hnm⟩ := id hC
  have hl : lv_has ls 4 [(0, .ref ad.1), (1, .int x1), (2, .int x2)] := hl
  refine lv_aload_n hx hb dX4_noLift_0 rfl (lv_at hl 0 rfl) ?_
  refine lv_iload_n hx hb dX4_noLift_1 rfl (lv_at hl 1 rfl) ?_
  refine callRd hC (k_X4_isBoat l g ad σ x1) ci_X4_isBoat lk_X4_92 ⟨Nat.le_of_ble_eq_true rfl, Nat.le_of_ble_eq_true rfl⟩ hP hK hE (q0 := 0) rfl rfl rfl rfl hl.1 rfl (Nat.le_of_ble_eq_true rfl) dX4_noLift_2 ⟨Nat.zero_le _, Nat.zero_le _⟩ ?_
  refine lv_if_eq (tgt := 15) hx hb dX4_noLift_5 (by decide) (fun c_1 => ?_) (fun c_1 => ?_)
  · refine lv_iconst (v := (-1)) hx hb dX4_noLift_15 (by decide) ?_
    exact rd_ret hC dX4_noLift_16 (Eq.symm (by unfold mX4_noLift; rw [if_pos c_1]))
  · refine lv_iload_n hx hb dX4_noLift_8 rfl (lv_at hl 2 rfl) ?_
    refine callRs hC (k_X4_isRow l g x2) ci_X4_isRow lk_X4_98 ⟨Nat.le_of_ble_eq_true rfl, Nat.le_of_ble_eq_true rfl⟩ hK hE rfl hl.1 rfl (Nat.le_of_ble_eq_true rfl) dX4_noLift_9 ⟨Nat.zero_le _, Nat.zero_le _⟩ ?_
    refine lv_if_ne (tgt := 17) hx hb dX4_noLift_12 (by decide) (fun c_2 => ?_) (fun c_2 => ?_)
    · refine lv_aload_n hx hb dX4_noLift_17 rfl (lv_at hl 0 rfl) ?_
      refine lv_iload_n hx hb dX4_noLift_18 rfl (lv_at hl 1 rfl) ?_
      refine lv_iload_n hx hb dX4_noLift_19 rfl (lv_at hl 2 rfl) ?_
      refine callRd hC (k_X4_whyNoLift l g ad σ x1 x2 (in_X4_isBoat c_1) (in_X4_isRow c_2) (h_keels x1 c_1)) ci_X4_whyNoLift lk_X4_113 ⟨Nat.le_of_ble_eq_true rfl, Nat.le_of_ble_eq_true rfl⟩ hP hK hE (q0 := 0) rfl rfl rfl rfl hl.1 rfl (Nat.le_of_ble_eq_true rfl) dX4_noLift_20 ⟨Nat.zero_le _, Nat.zero_le _⟩ ?_
      refine lv_istore_n (lv' := [(3, .int (mX4_whyNoLift σ x1 x2)), (0, .ref ad.1), (1, .int x1), (2, .int x2)]) hx hb dX4_noLift_23 rfl hl (by decide) rfl (fun ls hl => ?_)
      refine lv_iload_n hx hb dX4_noLift_24 rfl (lv_at hl 0 rfl) ?_
      refine lv_if_le (tgt := 35) hx hb dX4_noLift_25 (by decide) (fun c_3 => ?_) (fun c_3 => ?_)
      · refine lv_iconst (v := 0) hx hb dX4_noLift_35 (by decide) ?_
        exact rd_ret hC dX4_noLift_36 (Eq.symm (by unfold mX4_noLift; rw [if_neg c_1, if_neg c_2, if_pos c_3]))
      · refine lv_bipush (v := (-10)) hx hb dX4_noLift_28 (by decide) ?_
        refine lv_iload_n hx hb dX4_noLift_30 rfl (lv_at hl 0 rfl) ?_
        refine lv_isub hx hb dX4_noLift_31 ?_
        refine lv_goto (tgt := 36) hx hb dX4_noLift_32 (by decide) ?_
        exact rd_ret hC dX4_noLift_36 (Eq.symm (by unfold mX4_noLift; rw [if_neg c_1, if_neg c_2, if_neg c_3]))
    · refine lv_iconst (v := (-1)) hx hb dX4_noLift_15 (by decide) ?_
      exact rd_ret hC dX4_noLift_16 (Eq.symm (by unfold mX4_noLift; rw [if_neg c_1, if_pos c_2]))
theorem ok_noLift {σ : MS} {b r : Int32} (c : 0 ≤ mX4_noLift σ b r) : ¬ mX4_isBoat σ b = 0 ∧ vp_in r 4 := by
  unfold mX4_noLift at c
  split at c
  · exact absurd c (by decide)
  · rename_i h1
    split at c
    · exact absurd c (by decide)
    · rename_i h2
      exact ⟨h1, in_X4_isRow h2⟩
def mX4_useCrane (σ : MS) : MS := (M_set_z (M_set_z σ (upd (M_z σ) (1 : Int32).toNatClampNeg (((M_z σ) (1 : Int32).toNatClampNeg) + 1))) (upd (M_z (M_set_z σ (upd (M_z σ) (1 : Int32).toNatClampNeg (((M_z σ) (1 : Int32).toNatClampNeg) + 1)))) (5 : Int32).toNatClampNeg (((M_z (M_set_z σ (upd (M_z σ) (1 : Int32).toNatClampNeg (((M_z σ) (1 : Int32).toNatClampNeg) + 1)))) (5 : Int32).toNatClampNeg) + 1)))
set_option maxHeartbeats 4000000 in
set_option maxRecDepth 100000 in
theorem k_X4_useCrane (l : Launch) (g : WG) (ad : AM) (σ : MS) : Wv l yX4_useCrane cX4_useCrane 1 0 g (cM g ad σ) (cM g ad (mX4_useCrane σ)) [.ref ad.1] := by
  refine wv_of (by decide) (Nat.le_of_ble_eq_true rfl) ?_
  intro p e s m args below meth c ls A hC hAe hP hD hK hE hA hS hl
  obtain ⟨hx, hb, hml, hr, hown, hts, hlk, hnm⟩ := id hC
  have hl : lv_has ls 1 [(0, .ref ad.1)] := hl
  refine lv_aload_n hx hb dX4_useCrane_0 rfl (lv_at hl 0 rfl) ?_
  refine gM_z hC rfl hK hP dX4_useCrane_1 ?_
  refine lv_iconst (v := 1) hx hb dX4_useCrane_4 (by decide) ?_
  refine lv_dup2_11 hx hb dX4_useCrane_5 rfl rfl ?_
  refine lM_z hC hK hP (in_iff.mpr (by decide)) dX4_useCrane_6 ?_
  refine lv_iconst (v := 1) hx hb dX4_useCrane_7 (by decide) ?_
  refine lv_iadd hx hb dX4_useCrane_8 ?_
  refine sM_z hC hK hP hD hS (in_iff.mpr (by decide)) dX4_useCrane_9 (fun H locs hP hD hS => ?_)
  refine lv_aload_n hx hb dX4_useCrane_10 rfl (lv_at hl 0 rfl) ?_
  refine gM_z hC rfl hK hP dX4_useCrane_11 ?_
  refine lv_iconst (v := 5) hx hb dX4_useCrane_14 (by decide) ?_
  refine lv_dup2_11 hx hb dX4_useCrane_15 rfl rfl ?_
  refine lM_z hC hK hP (in_iff.mpr (by decide)) dX4_useCrane_16 ?_
  refine lv_iconst (v := 1) hx hb dX4_useCrane_17 (by decide) ?_
  refine lv_iadd hx hb dX4_useCrane_18 ?_
  refine sM_z hC hK hP hD hS (in_iff.mpr (by decide)) dX4_useCrane_19 (fun H locs hP hD hS => ?_)
  have hm : mX4_useCrane σ = (M_set_z (M_set_z σ (upd (M_z σ) (1 : Int32).toNatClampNeg (((M_z σ) (1 : Int32).toNatClampNeg) + 1))) (upd (M_z (M_set_z σ (upd (M_z σ) (1 : Int32).toNatClampNeg (((M_z σ) (1 : Int32).toNatClampNeg) + 1)))) (5 : Int32).toNatClampNeg (((M_z (M_set_z σ (upd (M_z σ) (1 : Int32).toNatClampNeg (((M_z σ) (1 : Int32).toNatClampNeg) + 1)))) (5 : Int32).toNatClampNeg) + 1))) := by unfold mX4_useCrane; rfl
  exact wv_ret hC hP (hAe ▸ hD) (hAe ▸ hS) dX4_useCrane_20 (by rw [hm])
def mX4_doLift (σ : MS) (x1 : Int32) (x2 : Int32) : Int32 × MS := ((mX4_boatsIn (mX4_useCrane (mX4_stand (mX4_put (mX4_put (mX4_put σ x1 6 (mX4_cradleFor σ x1)) x1 9 0) x1 10 ((mX4_of (mX4_put (mX4_put σ x1 6 (mX4_cradleFor σ x1)) x1 9 0) x1 10) + 1)) x1 x2)) x2), (mX4_useCrane (mX4_stand (mX4_put (mX4_put (mX4_put σ x1 6 (mX4_cradleFor σ x1)) x1 9 0) x1 10 ((mX4_of (mX4_put (mX4_put σ x1 6 (mX4_cradleFor σ x1)) x1 9 0) x1 10) + 1)) x1 x2)))
set_option maxHeartbeats 4000000 in
set_option maxRecDepth 100000 in
theorem k_X4_doLift (l : Launch) (g : WG) (ad : AM) (σ : MS) (x1 : Int32) (x2 : Int32) (h_1 : vp_in x1 20) (h_keel : vp_in (mX4_of σ x1 4) 3) : Wr l yX4_doLift cX4_doLift 3 (some .int) 5 g (cM g ad σ) (cM g ad (mX4_doLift σ x1 x2).2) [.ref ad.1, .int x1, .int x2] (mX4_doLift σ x1 x2).1 := by
  refine wr_of (by decide) (Nat.le_of_ble_eq_true rfl) ?_
  intro p e s m args below meth c ls A hC hAe hP hD hK hE hA hS hl
  obtain ⟨hx, hb, hml, hr, hown, hts, hlk, hnm⟩ := id hC
  have hl : lv_has ls 3 [(0, .ref ad.1), (1, .int x1), (2, .int x2)] := hl
  refine lv_aload_n hx hb dX4_doLift_0 rfl (lv_at hl 0 rfl) ?_
  refine lv_iload_n hx hb dX4_doLift_1 rfl (lv_at hl 1 rfl) ?_
  refine lv_bipush (v := 6) hx hb dX4_doLift_2 (by decide) ?_
  refine lv_aload_n hx hb dX4_doLift_4 rfl (lv_at hl 0 rfl) ?_
  refine lv_iload_n hx hb dX4_doLift_5 rfl (lv_at hl 1 rfl) ?_
  refine callRd hC (k_X4_cradleFor l g ad σ x1 h_1 h_keel) ci_X4_cradleFor lk_X4_104 ⟨Nat.le_of_ble_eq_true rfl, Nat.le_of_ble_eq_true rfl⟩ hP hK (hE.S hS).none (q0 := 0) rfl rfl rfl rfl hl.1 rfl (Nat.le_of_ble_eq_true rfl) dX4_doLift_6 ⟨Nat.zero_le _, Nat.zero_le _⟩ ?_
  refine callWv hC (k_X4_put l g ad σ x1 6 (mX4_cradleFor σ x1) h_1 (in_iff.mpr (by decide))) ci_X4_put lk_X4_70 ⟨Nat.le_of_ble_eq_true rfl, Nat.le_of_ble_eq_true rfl⟩ hP hD hK hE hS hA (q0 := 0) rfl rfl rfl rfl hl.1 rfl (Nat.le_of_ble_eq_true rfl) dX4_doLift_9 ⟨Nat.zero_le _, Nat.zero_le _⟩ (fun H locs hP _ hD hS _ _ => ?_)
  refine lv_aload_n hx hb dX4_doLift_12 rfl (lv_at hl 0 rfl) ?_
  refine lv_iload_n hx hb dX4_doLift_13 rfl (lv_at hl 1 rfl) ?_
  refine lv_bipush (v := 9) hx hb dX4_doLift_14 (by decide) ?_
  refine lv_iconst (v := 0) hx hb dX4_doLift_16 (by decide) ?_
  refine callWv hC (k_X4_put l g ad (mX4_put σ x1 6 (mX4_cradleFor σ x1)) x1 9 0 h_1 (in_iff.mpr (by decide))) ci_X4_put lk_X4_70 ⟨Nat.le_of_ble_eq_true rfl, Nat.le_of_ble_eq_true rfl⟩ hP hD hK hE hS hA (q0 := 0) rfl rfl rfl rfl hl.1 rfl (Nat.le_of_ble_eq_true rfl) dX4_doLift_17 ⟨Nat.zero_le _, Nat.zero_le _⟩ (fun H locs hP _ hD hS _ _ => ?_)
  refine lv_aload_n hx hb dX4_doLift_20 rfl (lv_at hl 0 rfl) ?_
  refine lv_iload_n hx hb dX4_doLift_21 rfl (lv_at hl 1 rfl) ?_
  refine lv_bipush (v := 10) hx hb dX4_doLift_22 (by decide) ?_
  refine lv_aload_n hx hb dX4_doLift_24 rfl (lv_at hl 0 rfl) ?_
  refine lv_iload_n hx hb dX4_doLift_25 rfl (lv_at hl 1 rfl) ?_
  refine lv_bipush (v := 10) hx hb dX4_doLift_26 (by decide) ?_
  refine callRd hC (k_X4_of l g ad (mX4_put (mX4_put σ x1 6 (mX4_cradleFor σ x1)) x1 9 0) x1 10 h_1 (in_iff.mpr (by decide))) ci_X4_of lk_X4_36 ⟨Nat.le_of_ble_eq_true rfl, Nat.le_of_ble_eq_true rfl⟩ hP hK (hE.S hS).none (q0 := 0) rfl rfl rfl rfl hl.1 rfl (Nat.le_of_ble_eq_true rfl) dX4_doLift_28 ⟨Nat.zero_le _, Nat.zero_le _⟩ ?_
  refine lv_iconst (v := 1) hx hb dX4_doLift_31 (by decide) ?_
  refine lv_iadd hx hb dX4_doLift_32 ?_
  refine callWv hC (k_X4_put l g ad (mX4_put (mX4_put σ x1 6 (mX4_cradleFor σ x1)) x1 9 0) x1 10 ((mX4_of (mX4_put (mX4_put σ x1 6 (mX4_cradleFor σ x1)) x1 9 0) x1 10) + 1) h_1 (in_iff.mpr (by decide))) ci_X4_put lk_X4_70 ⟨Nat.le_of_ble_eq_true rfl, Nat.le_of_ble_eq_true rfl⟩ hP hD hK hE hS hA (q0 := 0) rfl rfl rfl rfl hl.1 rfl (Nat.le_of_ble_eq_true rfl) dX4_doLift_33 ⟨Nat.zero_le _, Nat.zero_le _⟩ (fun H locs hP _ hD hS _ _ => ?_)
  refine lv_aload_n hx hb dX4_doLift_36 rfl (lv_at hl 0 rfl) ?_
  refine lv_iload_n hx hb dX4_doLift_37 rfl (lv_at hl 1 rfl) ?_
  refine lv_iload_n hx hb dX4_doLift_38 rfl (lv_at hl 2 rfl) ?_
  refine callWv hC (k_X4_stand l g ad (mX4_put (mX4_put (mX4_put σ x1 6 (mX4_cradleFor σ x1)) x1 9 0) x1 10 ((mX4_of (mX4_put (mX4_put σ x1 6 (mX4_cradleFor σ x1)) x1 9 0) x1 10) + 1)) x1 x2 h_1) ci_X4_stand lk_X4_116 ⟨Nat.le_of_ble_eq_true rfl, Nat.le_of_ble_eq_true rfl⟩ hP hD hK hE hS hA (q0 := 0) rfl rfl rfl rfl hl.1 rfl (Nat.le_of_ble_eq_true rfl) dX4_doLift_39 ⟨Nat.zero_le _, Nat.zero_le _⟩ (fun H locs hP _ hD hS _ _ => ?_)
  refine lv_aload_n hx hb dX4_doLift_42 rfl (lv_at hl 0 rfl) ?_
  refine callWv hC (k_X4_useCrane l g ad (mX4_stand (mX4_put (mX4_put (mX4_put σ x1 6 (mX4_cradleFor σ x1)) x1 9 0) x1 10 ((mX4_of (mX4_put (mX4_put σ x1 6 (mX4_cradleFor σ x1)) x1 9 0) x1 10) + 1)) x1 x2)) ci_X4_useCrane lk_X4_120 ⟨Nat.le_of_ble_eq_true rfl, Nat.le_of_ble_eq_true rfl⟩ hP hD hK hE hS hA (q0 := 0) rfl rfl rfl rfl hl.1 rfl (Nat.le_of_ble_eq_true rfl) dX4_doLift_43 ⟨Nat.zero_le _, Nat.zero_le _⟩ (fun H locs hP _ hD hS _ _ => ?_)
  refine lv_aload_n hx hb dX4_doLift_46 rfl (lv_at hl 0 rfl) ?_
  refine lv_iload_n hx hb dX4_doLift_47 rfl (lv_at hl 2 rfl) ?_
  refine callRd hC (k_X4_boatsIn l g ad (mX4_useCrane (mX4_stand (mX4_put (mX4_put (mX4_put σ x1 6 (mX4_cradleFor σ x1)) x1 9 0) x1 10 ((mX4_of (mX4_put (mX4_put σ x1 6 (mX4_cradleFor σ x1)) x1 9 0) x1 10) + 1)) x1 x2)) x2) ci_X4_boatsIn lk_X4_64 ⟨Nat.le_of_ble_eq_true rfl, Nat.le_of_ble_eq_true rfl⟩ hP hK (hE.S hS).none (q0 := 0) rfl rfl rfl rfl hl.1 rfl (Nat.le_of_ble_eq_true rfl) dX4_doLift_48 ⟨Nat.zero_le _, Nat.zero_le _⟩ ?_
  have hm : mX4_doLift σ x1 x2 = ((mX4_boatsIn (mX4_useCrane (mX4_stand (mX4_put (mX4_put (mX4_put σ x1 6 (mX4_cradleFor σ x1)) x1 9 0) x1 10 ((mX4_of (mX4_put (mX4_put σ x1 6 (mX4_cradleFor σ x1)) x1 9 0) x1 10) + 1)) x1 x2)) x2), (mX4_useCrane (mX4_stand (mX4_put (mX4_put (mX4_put σ x1 6 (mX4_cradleFor σ x1)) x1 9 0) x1 10 ((mX4_of (mX4_put (mX4_put σ x1 6 (mX4_cradleFor σ x1)) x1 9 0) x1 10) + 1)) x1 x2))) := by unfold mX4_doLift; rfl
  exact wr_ret hC hP (hAe ▸ hD) (hAe ▸ hS) dX4_doLift_51 (by rw [hm]) (by rw [hm])
def mX4_lift (σ : MS) (x1 : Int32) (x2 : Int32) : Int32 × MS := (if 0 ≤ (mX4_noLift σ x1 x2) then (mX4_doLift (mX4_push_z σ) x1 x2) else ((mX4_noLift σ x1 x2), σ))
set_option maxHeartbeats 4000000 in
set_option maxRecDepth 100000 in
theorem k_X4_lift (l : Launch) (g : WG) (ad : AM) (σ : MS) (x1 : Int32) (x2 : Int32) (h_keels : KeelM σ) (h_st : 0 ≤ (M_states σ).toInt ∧ (M_states σ).toInt ≤ 4) : Wr l yX4_lift cX4_lift 4 (some .int) 7 g (cM g ad σ) (cM g ad (mX4_lift σ x1 x2).2) [.ref ad.1, .int x1, .int x2] (mX4_lift σ x1 x2).1 := by
  refine wr_of (by decide) (Nat.le_of_ble_eq_true rfl) ?_
  intro p e s m args below meth c ls A hC hAe hP hD hK hE hA hS hl
  obtain ⟨hx, hb, hml, hr, hown, hts, hlk, hnm⟩ := id hC
  have hl : lv_has ls 4 [(0, .ref ad.1), (1, .int x1), (2, .int x2)] := hl
  refine lv_aload_n hx hb dX4_lift_0 rfl (lv_at hl 0 rfl) ?_
  refine lv_iload_n hx hb dX4_lift_1 rfl (lv_at hl 1 rfl) ?_
  refine lv_iload_n hx hb dX4_lift_2 rfl (lv_at hl 2 rfl) ?_
  refine callRd hC (k_X4_noLift l g ad σ x1 x2 h_keels) ci_X4_noLift lk_X4_123 ⟨Nat.le_of_ble_eq_true rfl, Nat.le_of_ble_eq_true rfl⟩ hP hK (hE.S hS).none (q0 := 0) rfl rfl rfl rfl hl.1 rfl (Nat.le_of_ble_eq_true rfl) dX4_lift_3 ⟨Nat.zero_le _, Nat.zero_le _⟩ ?_
  refine lv_istore_n (lv' := [(3, .int (mX4_noLift σ x1 x2)), (0, .ref ad.1), (1, .int x1), (2, .int x2)]) hx hb dX4_lift_6 rfl hl (by decide) rfl (fun ls hl => ?_)
  refine lv_iload_n hx hb dX4_lift_7 rfl (lv_at hl 0 rfl) ?_
  refine lv_if_ge (tgt := 13) hx hb dX4_lift_8 (by decide) (fun c_1 => ?_) (fun c_1 => ?_)
  · refine lv_aload_n hx hb dX4_lift_13 rfl (lv_at hl 1 rfl) ?_
    refine lv_aload_n hx hb dX4_lift_14 rfl (lv_at hl 1 rfl) ?_
    refine gM_z hC rfl hK hP dX4_lift_15 ?_
    refine callWv hC (k_X4_push_z l g ad σ h_st) ci_X4_push lk_X4_85 ⟨Nat.le_of_ble_eq_true rfl, Nat.le_of_ble_eq_true rfl⟩ hP hD hK hE hS hA (q0 := 0) rfl rfl rfl rfl hl.1 rfl (Nat.le_of_ble_eq_true rfl) dX4_lift_18 ⟨Nat.zero_le _, Nat.zero_le _⟩ (fun H locs hP _ hD hS _ _ => ?_)
    refine lv_aload_n hx hb dX4_lift_21 rfl (lv_at hl 1 rfl) ?_
    refine lv_iload_n hx hb dX4_lift_22 rfl (lv_at hl 2 rfl) ?_
    refine lv_iload_n hx hb dX4_lift_23 rfl (lv_at hl 3 rfl) ?_
    refine callWr hC (k_X4_doLift l g ad (mX4_push_z σ) x1 x2 (in_X4_isBoat (ok_noLift c_1).1) (by rw [push_of]; exact h_keels x1 (ok_noLift c_1).1)) ci_X4_doLift lk_X4_126 ⟨Nat.le_of_ble_eq_true rfl, Nat.le_of_ble_eq_true rfl⟩ hP hD hK hE hS hA (q0 := 0) rfl rfl rfl rfl hl.1 rfl (Nat.le_of_ble_eq_true rfl) dX4_lift_24 ⟨Nat.zero_le _, Nat.zero_le _⟩ (fun H locs hP _ hD hS _ _ => ?_)
    have hm : mX4_lift σ x1 x2 = (mX4_doLift (mX4_push_z σ) x1 x2) := by unfold mX4_lift; rw [if_pos c_1]
    exact wr_ret hC hP (hAe ▸ hD) (hAe ▸ hS) dX4_lift_27 (by rw [hm]) (by rw [hm])
  · refine lv_iload_n hx hb dX4_lift_11 rfl (lv_at hl 0 rfl) ?_
    have hm : mX4_lift σ x1 x2 = ((mX4_noLift σ x1 x2), σ) := by unfold mX4_lift; rw [if_neg c_1]
    exact wr_ret hC hP (hAe ▸ hD) (hAe ▸ hS) dX4_lift_12 (by rw [hm]) (by rw [hm])
def mX4_whyNoLaunch (σ : MS) (x1 : Int32) : Int32 := (if (mX4_isAshore σ x1) = 0 then 1 else (if (mX4_of σ x1 8) ≤ 0 then (if (mX4_blockersOf σ x1) ≤ 0 then (if (mX4_of σ x1 2) ≤ (mX4_tideAt σ ((M_z σ) (0 : Int32).toNatClampNeg)) then (if (mX4_of σ x1 3) ≤ ((M_z σ) (4 : Int32).toNatClampNeg) then (if (mX4_liftsLeft σ) = 0 then 6 else 0) else 5) else 4) else 3) else 2))
set_option maxHeartbeats 4000000 in
set_option maxRecDepth 100000 in
theorem k_X4_whyNoLaunch (l : Launch) (g : WG) (ad : AM) (σ : MS) (x1 : Int32) (h_1 : vp_in x1 20) : Rd l yX4_whyNoLaunch cX4_whyNoLaunch 2 (some .int) 4 (Wl g (cM g ad σ) (fun _ => False)) [.ref ad.1, .int x1] (mX4_whyNoLaunch σ x1) := by
  refine rd_of (by decide) (Nat.le_of_ble_eq_true rfl) ?_
  intro p e s m args below meth c ls hC hW hl
  obtain ⟨hP, hK, hE⟩ := hW
  obtain ⟨hx, hb, hml, hr, hown, hts, hlk, hnm⟩ := id hC
  have hl : lv_has ls 2 [(0, .ref ad.1), (1, .int x1)] := hl
  refine lv_aload_n hx hb dX4_whyNoLaunch_0 rfl (lv_at hl 0 rfl) ?_
  refine lv_iload_n hx hb dX4_whyNoLaunch_1 rfl (lv_at hl 1 rfl) ?_
  refine callRd hC (k_X4_isAshore l g ad σ x1 h_1) ci_X4_isAshore lk_X4_40 ⟨Nat.le_of_ble_eq_true rfl, Nat.le_of_ble_eq_true rfl⟩ hP hK hE (q0 := 0) rfl rfl rfl rfl hl.1 rfl (Nat.le_of_ble_eq_true rfl) dX4_whyNoLaunch_2 ⟨Nat.zero_le _, Nat.zero_le _⟩ ?_
  refine lv_if_ne (tgt := 10) hx hb dX4_whyNoLaunch_5 (by decide) (fun c_1 => ?_) (fun c_1 => ?_)
  · refine lv_aload_n hx hb dX4_whyNoLaunch_10 rfl (lv_at hl 0 rfl) ?_
    refine lv_iload_n hx hb dX4_whyNoLaunch_11 rfl (lv_at hl 1 rfl) ?_
    refine lv_bipush (v := 8) hx hb dX4_whyNoLaunch_12 (by decide) ?_
    refine callRd hC (k_X4_of l g ad σ x1 8 h_1 (in_iff.mpr (by decide))) ci_X4_of lk_X4_36 ⟨Nat.le_of_ble_eq_true rfl, Nat.le_of_ble_eq_true rfl⟩ hP hK hE (q0 := 0) rfl rfl rfl rfl hl.1 rfl (Nat.le_of_ble_eq_true rfl) dX4_whyNoLaunch_14 ⟨Nat.zero_le _, Nat.zero_le _⟩ ?_
    refine lv_if_le (tgt := 22) hx hb dX4_whyNoLaunch_17 (by decide) (fun c_2 => ?_) (fun c_2 => ?_)
    · refine lv_aload_n hx hb dX4_whyNoLaunch_22 rfl (lv_at hl 0 rfl) ?_
      refine lv_iload_n hx hb dX4_whyNoLaunch_23 rfl (lv_at hl 1 rfl) ?_
      refine callRd hC (k_X4_blockersOf l g ad σ x1 h_1) ci_X4_blockersOf lk_X4_129 ⟨Nat.le_of_ble_eq_true rfl, Nat.le_of_ble_eq_true rfl⟩ hP hK hE (q0 := 0) rfl rfl rfl rfl hl.1 rfl (Nat.le_of_ble_eq_true rfl) dX4_whyNoLaunch_24 ⟨Nat.zero_le _, Nat.zero_le _⟩ ?_
      refine lv_if_le (tgt := 32) hx hb dX4_whyNoLaunch_27 (by decide) (fun c_3 => ?_) (fun c_3 => ?_)
      · refine lv_aload_n hx hb dX4_whyNoLaunch_32 rfl (lv_at hl 0 rfl) ?_
        refine lv_aload_n hx hb dX4_whyNoLaunch_33 rfl (lv_at hl 0 rfl) ?_
        refine gM_z hC rfl hK hP dX4_whyNoLaunch_34 ?_
        refine lv_iconst (v := 0) hx hb dX4_whyNoLaunch_37 (by decide) ?_
        refine lM_z hC hK hP (in_iff.mpr (by decide)) dX4_whyNoLaunch_38 ?_
        refine callRd hC (k_X4_tideAt l g ad σ ((M_z σ) (0 : Int32).toNatClampNeg)) ci_X4_tideAt lk_X4_101 ⟨Nat.le_of_ble_eq_true rfl, Nat.le_of_ble_eq_true rfl⟩ hP hK hE (q0 := 0) rfl rfl rfl rfl hl.1 rfl (Nat.le_of_ble_eq_true rfl) dX4_whyNoLaunch_39 ⟨Nat.zero_le _, Nat.zero_le _⟩ ?_
        refine lv_aload_n hx hb dX4_whyNoLaunch_42 rfl (lv_at hl 0 rfl) ?_
        refine lv_iload_n hx hb dX4_whyNoLaunch_43 rfl (lv_at hl 1 rfl) ?_
        refine lv_iconst (v := 2) hx hb dX4_whyNoLaunch_44 (by decide) ?_
        refine callRd hC (k_X4_of l g ad σ x1 2 h_1 (in_iff.mpr (by decide))) ci_X4_of lk_X4_36 ⟨Nat.le_of_ble_eq_true rfl, Nat.le_of_ble_eq_true rfl⟩ hP hK hE (q0 := 0) rfl rfl rfl rfl hl.1 rfl (Nat.le_of_ble_eq_true rfl) dX4_whyNoLaunch_45 ⟨Nat.zero_le _, Nat.zero_le _⟩ ?_
        refine lv_icmp_ge (tgt := 53) hx hb dX4_whyNoLaunch_48 (by decide) (fun c_4 => ?_) (fun c_4 => ?_)
        · refine lv_aload_n hx hb dX4_whyNoLaunch_53 rfl (lv_at hl 0 rfl) ?_
          refine lv_iload_n hx hb dX4_whyNoLaunch_54 rfl (lv_at hl 1 rfl) ?_
          refine lv_iconst (v := 3) hx hb dX4_whyNoLaunch_55 (by decide) ?_
          refine callRd hC (k_X4_of l g ad σ x1 3 h_1 (in_iff.mpr (by decide))) ci_X4_of lk_X4_36 ⟨Nat.le_of_ble_eq_true rfl, Nat.le_of_ble_eq_true rfl⟩ hP hK hE (q0 := 0) rfl rfl rfl rfl hl.1 rfl (Nat.le_of_ble_eq_true rfl) dX4_whyNoLaunch_56 ⟨Nat.zero_le _, Nat.zero_le _⟩ ?_
          refine lv_aload_n hx hb dX4_whyNoLaunch_59 rfl (lv_at hl 0 rfl) ?_
          refine gM_z hC rfl hK hP dX4_whyNoLaunch_60 ?_
          refine lv_iconst (v := 4) hx hb dX4_whyNoLaunch_63 (by decide) ?_
          refine lM_z hC hK hP (in_iff.mpr (by decide)) dX4_whyNoLaunch_64 ?_
          refine lv_icmp_le (tgt := 70) hx hb dX4_whyNoLaunch_65 (by decide) (fun c_5 => ?_) (fun c_5 => ?_)
          · refine lv_aload_n hx hb dX4_whyNoLaunch_70 rfl (lv_at hl 0 rfl) ?_
            refine callRd hC (k_X4_liftsLeft l g ad σ) ci_X4_liftsLeft lk_X4_110 ⟨Nat.le_of_ble_eq_true rfl, Nat.le_of_ble_eq_true rfl⟩ hP hK hE (q0 := 0) rfl rfl rfl rfl hl.1 rfl (Nat.le_of_ble_eq_true rfl) dX4_whyNoLaunch_71 ⟨Nat.zero_le _, Nat.zero_le _⟩ ?_
            refine lv_if_ne (tgt := 82) hx hb dX4_whyNoLaunch_74 (by decide) (fun c_6 => ?_) (fun c_6 => ?_)
            · refine lv_iconst (v := 0) hx hb dX4_whyNoLaunch_82 (by decide) ?_
              exact rd_ret hC dX4_whyNoLaunch_83 (Eq.symm (by unfold mX4_whyNoLaunch; rw [if_neg c_1, if_pos c_2, if_pos c_3, if_pos c_4, if_pos c_5, if_neg c_6]))
            · refine lv_bipush (v := 6) hx hb dX4_whyNoLaunch_77 (by decide) ?_
              refine lv_goto (tgt := 83) hx hb dX4_whyNoLaunch_79 (by decide) ?_
              exact rd_ret hC dX4_whyNoLaunch_83 (Eq.symm (by unfold mX4_whyNoLaunch; rw [if_neg c_1, if_pos c_2, if_pos c_3, if_pos c_4, if_pos c_5, if_pos c_6]))
          · refine lv_iconst (v := 5) hx hb dX4_whyNoLaunch_68 (by decide) ?_
            exact rd_ret hC dX4_whyNoLaunch_69 (Eq.symm (by unfold mX4_whyNoLaunch; rw [if_neg c_1, if_pos c_2, if_pos c_3, if_pos c_4, if_neg c_5]))
        · refine lv_iconst (v := 4) hx hb dX4_whyNoLaunch_51 (by decide) ?_
          exact rd_ret hC dX4_whyNoLaunch_52 (Eq.symm (by unfold mX4_whyNoLaunch; rw [if_neg c_1, if_pos c_2, if_pos c_3, if_neg c_4]))
      · refine lv_iconst (v := 3) hx hb dX4_whyNoLaunch_30 (by decide) ?_
        exact rd_ret hC dX4_whyNoLaunch_31 (Eq.symm (by unfold mX4_whyNoLaunch; rw [if_neg c_1, if_pos c_2, if_neg c_3]))
    · refine lv_iconst (v := 2) hx hb dX4_whyNoLaunch_20 (by decide) ?_
      exact rd_ret hC dX4_whyNoLaunch_21 (Eq.symm (by unfold mX4_whyNoLaunch; rw [if_neg c_1, if_neg c_2]))
  · refine lv_iconst (v := 1) hx hb dX4_whyNoLaunch_8 (by decide) ?_
    exact rd_ret hC dX4_whyNoLaunch_9 (Eq.symm (by unfold mX4_whyNoLaunch; rw [if_pos c_1]))
def mX4_noLaunch (σ : MS) (x1 : Int32) : Int32 := (if (mX4_isBoat σ x1) = 0 then (-1) else (if (mX4_whyNoLaunch σ x1) ≤ 0 then 0 else ((-10) - (mX4_whyNoLaunch σ x1))))
set_option maxHeartbeats 4000000 in
set_option maxRecDepth 100000 in
theorem k_X4_noLaunch (l : Launch) (g : WG) (ad : AM) (σ : MS) (x1 : Int32) : Rd l yX4_noLaunch cX4_noLaunch 3 (some .int) 5 (Wl g (cM g ad σ) (fun _ => False)) [.ref ad.1, .int x1] (mX4_noLaunch σ x1) := by
  refine rd_of (by decide) (Nat.le_of_ble_eq_true rfl) ?_
  intro p e s m args below meth c ls hC hW hl
  obtain ⟨hP, hK, hE⟩ := hW
  obtain ⟨hx, hb, hml, hr, hown, hts, hlk, hnm⟩ := id hC
  have hl : lv_has ls 3 [(0, .ref ad.1), (1, .int x1)] := hl
  refine lv_aload_n hx hb dX4_noLaunch_0 rfl (lv_at hl 0 rfl) ?_
  refine lv_iload_n hx hb dX4_noLaunch_1 rfl (lv_at hl 1 rfl) ?_
  refine callRd hC (k_X4_isBoat l g ad σ x1) ci_X4_isBoat lk_X4_92 ⟨Nat.le_of_ble_eq_true rfl, Nat.le_of_ble_eq_true rfl⟩ hP hK hE (q0 := 0) rfl rfl rfl rfl hl.1 rfl (Nat.le_of_ble_eq_true rfl) dX4_noLaunch_2 ⟨Nat.zero_le _, Nat.zero_le _⟩ ?_
  refine lv_if_ne (tgt := 10) hx hb dX4_noLaunch_5 (by decide) (fun c_1 => ?_) (fun c_1 => ?_)
  · refine lv_aload_n hx hb dX4_noLaunch_10 rfl (lv_at hl 0 rfl) ?_
    refine lv_iload_n hx hb dX4_noLaunch_11 rfl (lv_at hl 1 rfl) ?_
    refine callRd hC (k_X4_whyNoLaunch l g ad σ x1 (in_X4_isBoat c_1)) ci_X4_whyNoLaunch lk_X4_132 ⟨Nat.le_of_ble_eq_true rfl, Nat.le_of_ble_eq_true rfl⟩ hP hK hE (q0 := 0) rfl rfl rfl rfl hl.1 rfl (Nat.le_of_ble_eq_true rfl) dX4_noLaunch_12 ⟨Nat.zero_le _, Nat.zero_le _⟩ ?_
    refine lv_istore_n (lv' := [(2, .int (mX4_whyNoLaunch σ x1)), (0, .ref ad.1), (1, .int x1)]) hx hb dX4_noLaunch_15 rfl hl (by decide) rfl (fun ls hl => ?_)
    refine lv_iload_n hx hb dX4_noLaunch_16 rfl (lv_at hl 0 rfl) ?_
    refine lv_if_le (tgt := 27) hx hb dX4_noLaunch_17 (by decide) (fun c_2 => ?_) (fun c_2 => ?_)
    · refine lv_iconst (v := 0) hx hb dX4_noLaunch_27 (by decide) ?_
      exact rd_ret hC dX4_noLaunch_28 (Eq.symm (by unfold mX4_noLaunch; rw [if_neg c_1, if_pos c_2]))
    · refine lv_bipush (v := (-10)) hx hb dX4_noLaunch_20 (by decide) ?_
      refine lv_iload_n hx hb dX4_noLaunch_22 rfl (lv_at hl 0 rfl) ?_
      refine lv_isub hx hb dX4_noLaunch_23 ?_
      refine lv_goto (tgt := 28) hx hb dX4_noLaunch_24 (by decide) ?_
      exact rd_ret hC dX4_noLaunch_28 (Eq.symm (by unfold mX4_noLaunch; rw [if_neg c_1, if_neg c_2]))
  · refine lv_iconst (v := (-1)) hx hb dX4_noLaunch_8 (by decide) ?_
    exact rd_ret hC dX4_noLaunch_9 (Eq.symm (by unfold mX4_noLaunch; rw [if_pos c_1]))
def mX4_doLaunch (σ : MS) (x1 : Int32) : Int32 × MS := ((mX4_of σ x1 9), (M_set_z (mX4_useCrane (mX4_put (mX4_put (mX4_put σ x1 5 (-5)) x1 6 (-5)) x1 9 0)) (upd (M_z (mX4_useCrane (mX4_put (mX4_put (mX4_put σ x1 5 (-5)) x1 6 (-5)) x1 9 0))) (6 : Int32).toNatClampNeg (((M_z (mX4_useCrane (mX4_put (mX4_put (mX4_put σ x1 5 (-5)) x1 6 (-5)) x1 9 0))) (6 : Int32).toNatClampNeg) + 1))))
set_option maxHeartbeats 4000000 in
set_option maxRecDepth 100000 in
theorem k_X4_doLaunch (l : Launch) (g : WG) (ad : AM) (σ : MS) (x1 : Int32) (h_1 : vp_in x1 20) : Wr l yX4_doLaunch cX4_doLaunch 3 (some .int) 1 g (cM g ad σ) (cM g ad (mX4_doLaunch σ x1).2) [.ref ad.1, .int x1] (mX4_doLaunch σ x1).1 := by
  refine wr_of (by decide) (Nat.le_of_ble_eq_true rfl) ?_
  intro p e s m args below meth c ls A hC hAe hP hD hK hE hA hS hl
  obtain ⟨hx, hb, hml, hr, hown, hts, hlk, hnm⟩ := id hC
  have hl : lv_has ls 3 [(0, .ref ad.1), (1, .int x1)] := hl
  refine lv_aload_n hx hb dX4_doLaunch_0 rfl (lv_at hl 0 rfl) ?_
  refine lv_iload_n hx hb dX4_doLaunch_1 rfl (lv_at hl 1 rfl) ?_
  refine lv_bipush (v := 9) hx hb dX4_doLaunch_2 (by decide) ?_
  refine callRd hC (k_X4_of l g ad σ x1 9 h_1 (in_iff.mpr (by decide))) ci_X4_of lk_X4_36 ⟨Nat.le_of_ble_eq_true rfl, Nat.le_of_ble_eq_true rfl⟩ hP hK (hE.S hS).none (q0 := 0) rfl rfl rfl rfl hl.1 rfl (Nat.le_of_ble_eq_true rfl) dX4_doLaunch_4 ⟨Nat.zero_le _, Nat.zero_le _⟩ ?_
  refine lv_istore_n (lv' := [(2, .int (mX4_of σ x1 9)), (0, .ref ad.1), (1, .int x1)]) hx hb dX4_doLaunch_7 rfl hl (by decide) rfl (fun ls hl => ?_)
  refine lv_aload_n hx hb dX4_doLaunch_8 rfl (lv_at hl 1 rfl) ?_
  refine lv_iload_n hx hb dX4_doLaunch_9 rfl (lv_at hl 2 rfl) ?_
  refine lv_iconst (v := 5) hx hb dX4_doLaunch_10 (by decide) ?_
  refine lv_bipush (v := (-5)) hx hb dX4_doLaunch_11 (by decide) ?_
  refine callWv hC (k_X4_put l g ad σ x1 5 (-5) h_1 (in_iff.mpr (by decide))) ci_X4_put lk_X4_70 ⟨Nat.le_of_ble_eq_true rfl, Nat.le_of_ble_eq_true rfl⟩ hP hD hK hE hS hA (q0 := 0) rfl rfl rfl rfl hl.1 rfl (Nat.le_of_ble_eq_true rfl) dX4_doLaunch_13 ⟨Nat.zero_le _, Nat.zero_le _⟩ (fun H locs hP _ hD hS _ _ => ?_)
  refine lv_aload_n hx hb dX4_doLaunch_16 rfl (lv_at hl 1 rfl) ?_
  refine lv_iload_n hx hb dX4_doLaunch_17 rfl (lv_at hl 2 rfl) ?_
  refine lv_bipush (v := 6) hx hb dX4_doLaunch_18 (by decide) ?_
  refine lv_bipush (v := (-5)) hx hb dX4_doLaunch_20 (by decide) ?_
  refine callWv hC (k_X4_put l g ad (mX4_put σ x1 5 (-5)) x1 6 (-5) h_1 (in_iff.mpr (by decide))) ci_X4_put lk_X4_70 ⟨Nat.le_of_ble_eq_true rfl, Nat.le_of_ble_eq_true rfl⟩ hP hD hK hE hS hA (q0 := 0) rfl rfl rfl rfl hl.1 rfl (Nat.le_of_ble_eq_true rfl) dX4_doLaunch_22 ⟨Nat.zero_le _, Nat.zero_le _⟩ (fun H locs hP _ hD hS _ _ => ?_)
  refine lv_aload_n hx hb dX4_doLaunch_25 rfl (lv_at hl 1 rfl) ?_
  refine lv_iload_n hx hb dX4_doLaunch_26 rfl (lv_at hl 2 rfl) ?_
  refine lv_bipush (v := 9) hx hb dX4_doLaunch_27 (by decide) ?_
  refine lv_iconst (v := 0) hx hb dX4_doLaunch_29 (by decide) ?_
  refine callWv hC (k_X4_put l g ad (mX4_put (mX4_put σ x1 5 (-5)) x1 6 (-5)) x1 9 0 h_1 (in_iff.mpr (by decide))) ci_X4_put lk_X4_70 ⟨Nat.le_of_ble_eq_true rfl, Nat.le_of_ble_eq_true rfl⟩ hP hD hK hE hS hA (q0 := 0) rfl rfl rfl rfl hl.1 rfl (Nat.le_of_ble_eq_true rfl) dX4_doLaunch_30 ⟨Nat.zero_le _, Nat.zero_le _⟩ (fun H locs hP _ hD hS _ _ => ?_)
  refine lv_aload_n hx hb dX4_doLaunch_33 rfl (lv_at hl 1 rfl) ?_
  refine callWv hC (k_X4_useCrane l g ad (mX4_put (mX4_put (mX4_put σ x1 5 (-5)) x1 6 (-5)) x1 9 0)) ci_X4_useCrane lk_X4_120 ⟨Nat.le_of_ble_eq_true rfl, Nat.le_of_ble_eq_true rfl⟩ hP hD hK hE hS hA (q0 := 0) rfl rfl rfl rfl hl.1 rfl (Nat.le_of_ble_eq_true rfl) dX4_doLaunch_34 ⟨Nat.zero_le _, Nat.zero_le _⟩ (fun H locs hP _ hD hS _ _ => ?_)
  refine lv_aload_n hx hb dX4_doLaunch_37 rfl (lv_at hl 1 rfl) ?_
  refine gM_z hC rfl hK hP dX4_doLaunch_38 ?_
  refine lv_bipush (v := 6) hx hb dX4_doLaunch_41 (by decide) ?_
  refine lv_dup2_11 hx hb dX4_doLaunch_43 rfl rfl ?_
  refine lM_z hC hK hP (in_iff.mpr (by decide)) dX4_doLaunch_44 ?_
  refine lv_iconst (v := 1) hx hb dX4_doLaunch_45 (by decide) ?_
  refine lv_iadd hx hb dX4_doLaunch_46 ?_
  refine sM_z hC hK hP hD hS (in_iff.mpr (by decide)) dX4_doLaunch_47 (fun H locs hP hD hS => ?_)
  refine lv_iload_n hx hb dX4_doLaunch_48 rfl (lv_at hl 0 rfl) ?_
  have hm : mX4_doLaunch σ x1 = ((mX4_of σ x1 9), (M_set_z (mX4_useCrane (mX4_put (mX4_put (mX4_put σ x1 5 (-5)) x1 6 (-5)) x1 9 0)) (upd (M_z (mX4_useCrane (mX4_put (mX4_put (mX4_put σ x1 5 (-5)) x1 6 (-5)) x1 9 0))) (6 : Int32).toNatClampNeg (((M_z (mX4_useCrane (mX4_put (mX4_put (mX4_put σ x1 5 (-5)) x1 6 (-5)) x1 9 0))) (6 : Int32).toNatClampNeg) + 1)))) := by unfold mX4_doLaunch; rfl
  exact wr_ret hC hP (hAe ▸ hD) (hAe ▸ hS) dX4_doLaunch_49 (by rw [hm]) (by rw [hm])
theorem ok_noLaunch {σ : MS} {b : Int32} (c : 0 ≤ mX4_noLaunch σ b) : ¬ mX4_isBoat σ b = 0 := by
  unfold mX4_noLaunch at c
  split at c
  · exact absurd c (by decide)
  · assumption
def mX4_launch (σ : MS) (x1 : Int32) : Int32 × MS := (if 0 ≤ (mX4_noLaunch σ x1) then (mX4_doLaunch (mX4_push_z σ) x1) else ((mX4_noLaunch σ x1), σ))
set_option maxHeartbeats 4000000 in
set_option maxRecDepth 100000 in
theorem k_X4_launch (l : Launch) (g : WG) (ad : AM) (σ : MS) (x1 : Int32) (h_st : 0 ≤ (M_states σ).toInt ∧ (M_states σ).toInt ≤ 4) : Wr l yX4_launch cX4_launch 3 (some .int) 6 g (cM g ad σ) (cM g ad (mX4_launch σ x1).2) [.ref ad.1, .int x1] (mX4_launch σ x1).1 := by
  refine wr_of (by decide) (Nat.le_of_ble_eq_true rfl) ?_
  intro p e s m args below meth c ls A hC hAe hP hD hK hE hA hS hl
  obtain ⟨hx, hb, hml, hr, hown, hts, hlk, hnm⟩ := id hC
  have hl : lv_has ls 3 [(0, .ref ad.1), (1, .int x1)] := hl
  refine lv_aload_n hx hb dX4_launch_0 rfl (lv_at hl 0 rfl) ?_
  refine lv_iload_n hx hb dX4_launch_1 rfl (lv_at hl 1 rfl) ?_
  refine callRd hC (k_X4_noLaunch l g ad σ x1) ci_X4_noLaunch lk_X4_135 ⟨Nat.le_of_ble_eq_true rfl, Nat.le_of_ble_eq_true rfl⟩ hP hK (hE.S hS).none (q0 := 0) rfl rfl rfl rfl hl.1 rfl (Nat.le_of_ble_eq_true rfl) dX4_launch_2 ⟨Nat.zero_le _, Nat.zero_le _⟩ ?_
  refine lv_istore_n (lv' := [(2, .int (mX4_noLaunch σ x1)), (0, .ref ad.1), (1, .int x1)]) hx hb dX4_launch_5 rfl hl (by decide) rfl (fun ls hl => ?_)
  refine lv_iload_n hx hb dX4_launch_6 rfl (lv_at hl 0 rfl) ?_
  refine lv_if_ge (tgt := 12) hx hb dX4_launch_7 (by decide) (fun c_1 => ?_) (fun c_1 => ?_)
  · refine lv_aload_n hx hb dX4_launch_12 rfl (lv_at hl 1 rfl) ?_
    refine lv_aload_n hx hb dX4_launch_13 rfl (lv_at hl 1 rfl) ?_
    refine gM_z hC rfl hK hP dX4_launch_14 ?_
    refine callWv hC (k_X4_push_z l g ad σ h_st) ci_X4_push lk_X4_85 ⟨Nat.le_of_ble_eq_true rfl, Nat.le_of_ble_eq_true rfl⟩ hP hD hK hE hS hA (q0 := 0) rfl rfl rfl rfl hl.1 rfl (Nat.le_of_ble_eq_true rfl) dX4_launch_17 ⟨Nat.zero_le _, Nat.zero_le _⟩ (fun H locs hP _ hD hS _ _ => ?_)
    refine lv_aload_n hx hb dX4_launch_20 rfl (lv_at hl 1 rfl) ?_
    refine lv_iload_n hx hb dX4_launch_21 rfl (lv_at hl 2 rfl) ?_
    refine callWr hC (k_X4_doLaunch l g ad (mX4_push_z σ) x1 (in_X4_isBoat (ok_noLaunch c_1))) ci_X4_doLaunch lk_X4_138 ⟨Nat.le_of_ble_eq_true rfl, Nat.le_of_ble_eq_true rfl⟩ hP hD hK hE hS hA (q0 := 0) rfl rfl rfl rfl hl.1 rfl (Nat.le_of_ble_eq_true rfl) dX4_launch_22 ⟨Nat.zero_le _, Nat.zero_le _⟩ (fun H locs hP _ hD hS _ _ => ?_)
    have hm : mX4_launch σ x1 = (mX4_doLaunch (mX4_push_z σ) x1) := by unfold mX4_launch; rw [if_pos c_1]
    exact wr_ret hC hP (hAe ▸ hD) (hAe ▸ hS) dX4_launch_25 (by rw [hm]) (by rw [hm])
  · refine lv_iload_n hx hb dX4_launch_10 rfl (lv_at hl 0 rfl) ?_
    have hm : mX4_launch σ x1 = ((mX4_noLaunch σ x1), σ) := by unfold mX4_launch; rw [if_neg c_1]
    exact wr_ret hC hP (hAe ▸ hD) (hAe ▸ hS) dX4_launch_11 (by rw [hm]) (by rw [hm])
def mX4_noMove (σ : MS) (x1 : Int32) (x2 : Int32) : Int32 := (if (mX4_isBoat σ x1) = 0 then (-1) else (if (mX4_isRow x2) = 0 then (-1) else (if (mX4_isAshore σ x1) = 0 then (-4) else (if 0 < (mX4_blockersOf σ x1) then (-4) else (if (mX4_of σ x1 5) = x2 then (-4) else (if (mX4_hasRoom σ x1 x2) = 0 then (-3) else (if (mX4_liftsLeft σ) = 0 then (-3) else 0)))))))
set_option maxHeartbeats 4000000 in
set_option maxRecDepth 100000 in
theorem k_X4_noMove (l : Launch) (g : WG) (ad : AM) (σ : MS) (x1 : Int32) (x2 : Int32) : Rd l yX4_noMove cX4_noMove 3 (some .int) 5 (Wl g (cM g ad σ) (fun _ => False)) [.ref ad.1, .int x1, .int x2] (mX4_noMove σ x1 x2) := by
  refine rd_of (by decide) (Nat.le_of_ble_eq_true rfl) ?_
  intro p e s m args below meth c ls hC hW hl
  obtain ⟨hP, hK, hE⟩ := hW
  obtain ⟨hx, hb, hml, hr, hown, hts, hlk, hnm⟩ := id hC
  have hl : lv_has ls 3 [(0, .ref ad.1), (1, .int x1), (2, .int x2)] := hl
  refine lv_aload_n hx hb dX4_noMove_0 rfl (lv_at hl 0 rfl) ?_
  refine lv_iload_n hx hb dX4_noMove_1 rfl (lv_at hl 1 rfl) ?_
  refine callRd hC (k_X4_isBoat l g ad σ x1) ci_X4_isBoat lk_X4_92 ⟨Nat.le_of_ble_eq_true rfl, Nat.le_of_ble_eq_true rfl⟩ hP hK hE (q0 := 0) rfl rfl rfl rfl hl.1 rfl (Nat.le_of_ble_eq_true rfl) dX4_noMove_2 ⟨Nat.zero_le _, Nat.zero_le _⟩ ?_
  refine lv_if_eq (tgt := 15) hx hb dX4_noMove_5 (by decide) (fun c_1 => ?_) (fun c_1 => ?_)
  · refine lv_iconst (v := (-1)) hx hb dX4_noMove_15 (by decide) ?_
    exact rd_ret hC dX4_noMove_16 (Eq.symm (by unfold mX4_noMove; rw [if_pos c_1]))
  · refine lv_iload_n hx hb dX4_noMove_8 rfl (lv_at hl 2 rfl) ?_
    refine callRs hC (k_X4_isRow l g x2) ci_X4_isRow lk_X4_98 ⟨Nat.le_of_ble_eq_true rfl, Nat.le_of_ble_eq_true rfl⟩ hK hE rfl hl.1 rfl (Nat.le_of_ble_eq_true rfl) dX4_noMove_9 ⟨Nat.zero_le _, Nat.zero_le _⟩ ?_
    refine lv_if_ne (tgt := 17) hx hb dX4_noMove_12 (by decide) (fun c_2 => ?_) (fun c_2 => ?_)
    · refine lv_aload_n hx hb dX4_noMove_17 rfl (lv_at hl 0 rfl) ?_
      refine lv_iload_n hx hb dX4_noMove_18 rfl (lv_at hl 1 rfl) ?_
      refine callRd hC (k_X4_isAshore l g ad σ x1 (in_X4_isBoat c_1)) ci_X4_isAshore lk_X4_40 ⟨Nat.le_of_ble_eq_true rfl, Nat.le_of_ble_eq_true rfl⟩ hP hK hE (q0 := 0) rfl rfl rfl rfl hl.1 rfl (Nat.le_of_ble_eq_true rfl) dX4_noMove_19 ⟨Nat.zero_le _, Nat.zero_le _⟩ ?_
      refine lv_if_eq (tgt := 43) hx hb dX4_noMove_22 (by decide) (fun c_3 => ?_) (fun c_3 => ?_)
      · refine lv_bipush (v := (-4)) hx hb dX4_noMove_43 (by decide) ?_
        exact rd_ret hC dX4_noMove_45 (Eq.symm (by unfold mX4_noMove; rw [if_neg c_1, if_neg c_2, if_pos c_3]))
      · refine lv_aload_n hx hb dX4_noMove_25 rfl (lv_at hl 0 rfl) ?_
        refine lv_iload_n hx hb dX4_noMove_26 rfl (lv_at hl 1 rfl) ?_
        refine callRd hC (k_X4_blockersOf l g ad σ x1 (in_X4_isBoat c_1)) ci_X4_blockersOf lk_X4_129 ⟨Nat.le_of_ble_eq_true rfl, Nat.le_of_ble_eq_true rfl⟩ hP hK hE (q0 := 0) rfl rfl rfl rfl hl.1 rfl (Nat.le_of_ble_eq_true rfl) dX4_noMove_27 ⟨Nat.zero_le _, Nat.zero_le _⟩ ?_
        refine lv_if_gt (tgt := 43) hx hb dX4_noMove_30 (by decide) (fun c_4 => ?_) (fun c_4 => ?_)
        · refine lv_bipush (v := (-4)) hx hb dX4_noMove_43 (by decide) ?_
          exact rd_ret hC dX4_noMove_45 (Eq.symm (by unfold mX4_noMove; rw [if_neg c_1, if_neg c_2, if_neg c_3, if_pos c_4]))
        · refine lv_aload_n hx hb dX4_noMove_33 rfl (lv_at hl 0 rfl) ?_
          refine lv_iload_n hx hb dX4_noMove_34 rfl (lv_at hl 1 rfl) ?_
          refine lv_iconst (v := 5) hx hb dX4_noMove_35 (by decide) ?_
          refine callRd hC (k_X4_of l g ad σ x1 5 (in_X4_isBoat c_1) (in_iff.mpr (by decide))) ci_X4_of lk_X4_36 ⟨Nat.le_of_ble_eq_true rfl, Nat.le_of_ble_eq_true rfl⟩ hP hK hE (q0 := 0) rfl rfl rfl rfl hl.1 rfl (Nat.le_of_ble_eq_true rfl) dX4_noMove_36 ⟨Nat.zero_le _, Nat.zero_le _⟩ ?_
          refine lv_iload_n hx hb dX4_noMove_39 rfl (lv_at hl 2 rfl) ?_
          refine lv_icmp_ne (tgt := 46) hx hb dX4_noMove_40 (by decide) (fun c_5 => ?_) (fun c_5 => ?_)
          · refine lv_aload_n hx hb dX4_noMove_46 rfl (lv_at hl 0 rfl) ?_
            refine lv_iload_n hx hb dX4_noMove_47 rfl (lv_at hl 1 rfl) ?_
            refine lv_iload_n hx hb dX4_noMove_48 rfl (lv_at hl 2 rfl) ?_
            refine callRd hC (k_X4_hasRoom l g ad σ x1 x2 (in_X4_isBoat c_1) (in_X4_isRow c_2)) ci_X4_hasRoom lk_X4_107 ⟨Nat.le_of_ble_eq_true rfl, Nat.le_of_ble_eq_true rfl⟩ hP hK hE (q0 := 0) rfl rfl rfl rfl hl.1 rfl (Nat.le_of_ble_eq_true rfl) dX4_noMove_49 ⟨Nat.zero_le _, Nat.zero_le _⟩ ?_
            refine lv_if_eq (tgt := 62) hx hb dX4_noMove_52 (by decide) (fun c_6 => ?_) (fun c_6 => ?_)
            · refine lv_bipush (v := (-3)) hx hb dX4_noMove_62 (by decide) ?_
              refine lv_goto (tgt := 68) hx hb dX4_noMove_64 (by decide) ?_
              exact rd_ret hC dX4_noMove_68 (Eq.symm (by unfold mX4_noMove; rw [if_neg c_1, if_neg c_2, if_neg c_3, if_neg c_4, if_neg c_5, if_pos c_6]))
            · refine lv_aload_n hx hb dX4_noMove_55 rfl (lv_at hl 0 rfl) ?_
              refine callRd hC (k_X4_liftsLeft l g ad σ) ci_X4_liftsLeft lk_X4_110 ⟨Nat.le_of_ble_eq_true rfl, Nat.le_of_ble_eq_true rfl⟩ hP hK hE (q0 := 0) rfl rfl rfl rfl hl.1 rfl (Nat.le_of_ble_eq_true rfl) dX4_noMove_56 ⟨Nat.zero_le _, Nat.zero_le _⟩ ?_
              refine lv_if_ne (tgt := 67) hx hb dX4_noMove_59 (by decide) (fun c_7 => ?_) (fun c_7 => ?_)
              · refine lv_iconst (v := 0) hx hb dX4_noMove_67 (by decide) ?_
                exact rd_ret hC dX4_noMove_68 (Eq.symm (by unfold mX4_noMove; rw [if_neg c_1, if_neg c_2, if_neg c_3, if_neg c_4, if_neg c_5, if_neg c_6, if_neg c_7]))
              · refine lv_bipush (v := (-3)) hx hb dX4_noMove_62 (by decide) ?_
                refine lv_goto (tgt := 68) hx hb dX4_noMove_64 (by decide) ?_
                exact rd_ret hC dX4_noMove_68 (Eq.symm (by unfold mX4_noMove; rw [if_neg c_1, if_neg c_2, if_neg c_3, if_neg c_4, if_neg c_5, if_neg c_6, if_pos c_7]))
          · refine lv_bipush (v := (-4)) hx hb dX4_noMove_43 (by decide) ?_
            exact rd_ret hC dX4_noMove_45 (Eq.symm (by unfold mX4_noMove; rw [if_neg c_1, if_neg c_2, if_neg c_3, if_neg c_4, if_pos c_5]))
    · refine lv_iconst (v := (-1)) hx hb dX4_noMove_15 (by decide) ?_
      exact rd_ret hC dX4_noMove_16 (Eq.symm (by unfold mX4_noMove; rw [if_neg c_1, if_pos c_2]))
def mX4_doMove (σ : MS) (x1 : Int32) (x2 : Int32) : Int32 × MS := ((mX4_boatsIn (mX4_useCrane (mX4_stand σ x1 x2)) x2), (mX4_useCrane (mX4_stand σ x1 x2)))
set_option maxHeartbeats 4000000 in
set_option maxRecDepth 100000 in
theorem k_X4_doMove (l : Launch) (g : WG) (ad : AM) (σ : MS) (x1 : Int32) (x2 : Int32) (h_1 : vp_in x1 20) : Wr l yX4_doMove cX4_doMove 3 (some .int) 3 g (cM g ad σ) (cM g ad (mX4_doMove σ x1 x2).2) [.ref ad.1, .int x1, .int x2] (mX4_doMove σ x1 x2).1 := by
  refine wr_of (by decide) (Nat.le_of_ble_eq_true rfl) ?_
  intro p e s m args below meth c ls A hC hAe hP hD hK hE hA hS hl
  obtain ⟨hx, hb, hml, hr, hown, hts, hlk, hnm⟩ := id hC
  have hl : lv_has ls 3 [(0, .ref ad.1), (1, .int x1), (2, .int x2)] := hl
  refine lv_aload_n hx hb dX4_doMove_0 rfl (lv_at hl 0 rfl) ?_
  refine lv_iload_n hx hb dX4_doMove_1 rfl (lv_at hl 1 rfl) ?_
  refine lv_iload_n hx hb dX4_doMove_2 rfl (lv_at hl 2 rfl) ?_
  refine callWv hC (k_X4_stand l g ad σ x1 x2 h_1) ci_X4_stand lk_X4_116 ⟨Nat.le_of_ble_eq_true rfl, Nat.le_of_ble_eq_true rfl⟩ hP hD hK hE hS hA (q0 := 0) rfl rfl rfl rfl hl.1 rfl (Nat.le_of_ble_eq_true rfl) dX4_doMove_3 ⟨Nat.zero_le _, Nat.zero_le _⟩ (fun H locs hP _ hD hS _ _ => ?_)
  refine lv_aload_n hx hb dX4_doMove_6 rfl (lv_at hl 0 rfl) ?_
  refine callWv hC (k_X4_useCrane l g ad (mX4_stand σ x1 x2)) ci_X4_useCrane lk_X4_120 ⟨Nat.le_of_ble_eq_true rfl, Nat.le_of_ble_eq_true rfl⟩ hP hD hK hE hS hA (q0 := 0) rfl rfl rfl rfl hl.1 rfl (Nat.le_of_ble_eq_true rfl) dX4_doMove_7 ⟨Nat.zero_le _, Nat.zero_le _⟩ (fun H locs hP _ hD hS _ _ => ?_)
  refine lv_aload_n hx hb dX4_doMove_10 rfl (lv_at hl 0 rfl) ?_
  refine lv_iload_n hx hb dX4_doMove_11 rfl (lv_at hl 2 rfl) ?_
  refine callRd hC (k_X4_boatsIn l g ad (mX4_useCrane (mX4_stand σ x1 x2)) x2) ci_X4_boatsIn lk_X4_64 ⟨Nat.le_of_ble_eq_true rfl, Nat.le_of_ble_eq_true rfl⟩ hP hK (hE.S hS).none (q0 := 0) rfl rfl rfl rfl hl.1 rfl (Nat.le_of_ble_eq_true rfl) dX4_doMove_12 ⟨Nat.zero_le _, Nat.zero_le _⟩ ?_
  have hm : mX4_doMove σ x1 x2 = ((mX4_boatsIn (mX4_useCrane (mX4_stand σ x1 x2)) x2), (mX4_useCrane (mX4_stand σ x1 x2))) := by unfold mX4_doMove; rfl
  exact wr_ret hC hP (hAe ▸ hD) (hAe ▸ hS) dX4_doMove_15 (by rw [hm]) (by rw [hm])
theorem ok_noMove {σ : MS} {b r : Int32} (c : 0 ≤ mX4_noMove σ b r) : ¬ mX4_isBoat σ b = 0 ∧ vp_in r 4 := by
  unfold mX4_noMove at c
  split at c
  · exact absurd c (by decide)
  · rename_i h1
    split at c
    · exact absurd c (by decide)
    · rename_i h2
      exact ⟨h1, in_X4_isRow h2⟩
def mX4_move (σ : MS) (x1 : Int32) (x2 : Int32) : Int32 × MS := (if 0 ≤ (mX4_noMove σ x1 x2) then (mX4_doMove (mX4_push_z σ) x1 x2) else ((mX4_noMove σ x1 x2), σ))
set_option maxHeartbeats 4000000 in
set_option maxRecDepth 100000 in
theorem k_X4_move (l : Launch) (g : WG) (ad : AM) (σ : MS) (x1 : Int32) (x2 : Int32) (h_st : 0 ≤ (M_states σ).toInt ∧ (M_states σ).toInt ≤ 4) : Wr l yX4_move cX4_move 4 (some .int) 6 g (cM g ad σ) (cM g ad (mX4_move σ x1 x2).2) [.ref ad.1, .int x1, .int x2] (mX4_move σ x1 x2).1 := by
  refine wr_of (by decide) (Nat.le_of_ble_eq_true rfl) ?_
  intro p e s m args below meth c ls A hC hAe hP hD hK hE hA hS hl
  obtain ⟨hx, hb, hml, hr, hown, hts, hlk, hnm⟩ := id hC
  have hl : lv_has ls 4 [(0, .ref ad.1), (1, .int x1), (2, .int x2)] := hl
  refine lv_aload_n hx hb dX4_move_0 rfl (lv_at hl 0 rfl) ?_
  refine lv_iload_n hx hb dX4_move_1 rfl (lv_at hl 1 rfl) ?_
  refine lv_iload_n hx hb dX4_move_2 rfl (lv_at hl 2 rfl) ?_
  refine callRd hC (k_X4_noMove l g ad σ x1 x2) ci_X4_noMove lk_X4_141 ⟨Nat.le_of_ble_eq_true rfl, Nat.le_of_ble_eq_true rfl⟩ hP hK (hE.S hS).none (q0 := 0) rfl rfl rfl rfl hl.1 rfl (Nat.le_of_ble_eq_true rfl) dX4_move_3 ⟨Nat.zero_le _, Nat.zero_le _⟩ ?_
  refine lv_istore_n (lv' := [(3, .int (mX4_noMove σ x1 x2)), (0, .ref ad.1), (1, .int x1), (2, .int x2)]) hx hb dX4_move_6 rfl hl (by decide) rfl (fun ls hl => ?_)
  refine lv_iload_n hx hb dX4_move_7 rfl (lv_at hl 0 rfl) ?_
  refine lv_if_ge (tgt := 13) hx hb dX4_move_8 (by decide) (fun c_1 => ?_) (fun c_1 => ?_)
  · refine lv_aload_n hx hb dX4_move_13 rfl (lv_at hl 1 rfl) ?_
    refine lv_aload_n hx hb dX4_move_14 rfl (lv_at hl 1 rfl) ?_
    refine gM_z hC rfl hK hP dX4_move_15 ?_
    refine callWv hC (k_X4_push_z l g ad σ h_st) ci_X4_push lk_X4_85 ⟨Nat.le_of_ble_eq_true rfl, Nat.le_of_ble_eq_true rfl⟩ hP hD hK hE hS hA (q0 := 0) rfl rfl rfl rfl hl.1 rfl (Nat.le_of_ble_eq_true rfl) dX4_move_18 ⟨Nat.zero_le _, Nat.zero_le _⟩ (fun H locs hP _ hD hS _ _ => ?_)
    refine lv_aload_n hx hb dX4_move_21 rfl (lv_at hl 1 rfl) ?_
    refine lv_iload_n hx hb dX4_move_22 rfl (lv_at hl 2 rfl) ?_
    refine lv_iload_n hx hb dX4_move_23 rfl (lv_at hl 3 rfl) ?_
    refine callWr hC (k_X4_doMove l g ad (mX4_push_z σ) x1 x2 (in_X4_isBoat (ok_noMove c_1).1)) ci_X4_doMove lk_X4_144 ⟨Nat.le_of_ble_eq_true rfl, Nat.le_of_ble_eq_true rfl⟩ hP hD hK hE hS hA (q0 := 0) rfl rfl rfl rfl hl.1 rfl (Nat.le_of_ble_eq_true rfl) dX4_move_24 ⟨Nat.zero_le _, Nat.zero_le _⟩ (fun H locs hP _ hD hS _ _ => ?_)
    have hm : mX4_move σ x1 x2 = (mX4_doMove (mX4_push_z σ) x1 x2) := by unfold mX4_move; rw [if_pos c_1]
    exact wr_ret hC hP (hAe ▸ hD) (hAe ▸ hS) dX4_move_27 (by rw [hm]) (by rw [hm])
  · refine lv_iload_n hx hb dX4_move_11 rfl (lv_at hl 0 rfl) ?_
    have hm : mX4_move σ x1 x2 = ((mX4_noMove σ x1 x2), σ) := by unfold mX4_move; rw [if_neg c_1]
    exact wr_ret hC hP (hAe ▸ hD) (hAe ▸ hS) dX4_move_12 (by rw [hm]) (by rw [hm])
def mX4_rackFor (σ : MS) (x1 : Int32) : Int32 := (if 12 < (mX4_of σ x1 1) then (if 6 ≤ (mX4_mastsIn σ 1) then (-5) else 1) else (if 6 ≤ (mX4_mastsIn σ 0) then (if 6 ≤ (mX4_mastsIn σ 1) then (-5) else 1) else 0))
set_option maxHeartbeats 4000000 in
set_option maxRecDepth 100000 in
theorem k_X4_rackFor (l : Launch) (g : WG) (ad : AM) (σ : MS) (x1 : Int32) (h_1 : vp_in x1 20) : Rd l yX4_rackFor cX4_rackFor 2 (some .int) 2 (Wl g (cM g ad σ) (fun _ => False)) [.ref ad.1, .int x1] (mX4_rackFor σ x1) := by
  refine rd_of (by decide) (Nat.le_of_ble_eq_true rfl) ?_
  intro p e s m args below meth c ls hC hW hl
  obtain ⟨hP, hK, hE⟩ := hW
  obtain ⟨hx, hb, hml, hr, hown, hts, hlk, hnm⟩ := id hC
  have hl : lv_has ls 2 [(0, .ref ad.1), (1, .int x1)] := hl
  refine lv_aload_n hx hb dX4_rackFor_0 rfl (lv_at hl 0 rfl) ?_
  refine lv_iload_n hx hb dX4_rackFor_1 rfl (lv_at hl 1 rfl) ?_
  refine lv_iconst (v := 1) hx hb dX4_rackFor_2 (by decide) ?_
  refine callRd hC (k_X4_of l g ad σ x1 1 h_1 (in_iff.mpr (by decide))) ci_X4_of lk_X4_36 ⟨Nat.le_of_ble_eq_true rfl, Nat.le_of_ble_eq_true rfl⟩ hP hK hE (q0 := 0) rfl rfl rfl rfl hl.1 rfl (Nat.le_of_ble_eq_true rfl) dX4_rackFor_3 ⟨Nat.zero_le _, Nat.zero_le _⟩ ?_
  refine lv_bipush (v := 12) hx hb dX4_rackFor_6 (by decide) ?_
  refine lv_icmp_gt (tgt := 25) hx hb dX4_rackFor_8 (by decide) (fun c_1 => ?_) (fun c_1 => ?_)
  · refine lv_aload_n hx hb dX4_rackFor_25 rfl (lv_at hl 0 rfl) ?_
    refine lv_iconst (v := 1) hx hb dX4_rackFor_26 (by decide) ?_
    refine callRd hC (k_X4_mastsIn l g ad σ 1) ci_X4_mastsIn lk_X4_147 ⟨Nat.le_of_ble_eq_true rfl, Nat.le_of_ble_eq_true rfl⟩ hP hK hE (q0 := 0) rfl rfl rfl rfl hl.1 rfl (Nat.le_of_ble_eq_true rfl) dX4_rackFor_27 ⟨Nat.zero_le _, Nat.zero_le _⟩ ?_
    refine lv_bipush (v := 6) hx hb dX4_rackFor_30 (by decide) ?_
    refine lv_icmp_ge (tgt := 39) hx hb dX4_rackFor_32 (by decide) (fun c_2 => ?_) (fun c_2 => ?_)
    · refine lv_bipush (v := (-5)) hx hb dX4_rackFor_39 (by decide) ?_
      exact rd_ret hC dX4_rackFor_41 (Eq.symm (by unfold mX4_rackFor; rw [if_pos c_1, if_pos c_2]))
    · refine lv_iconst (v := 1) hx hb dX4_rackFor_35 (by decide) ?_
      refine lv_goto (tgt := 41) hx hb dX4_rackFor_36 (by decide) ?_
      exact rd_ret hC dX4_rackFor_41 (Eq.symm (by unfold mX4_rackFor; rw [if_pos c_1, if_neg c_2]))
  · refine lv_aload_n hx hb dX4_rackFor_11 rfl (lv_at hl 0 rfl) ?_
    refine lv_iconst (v := 0) hx hb dX4_rackFor_12 (by decide) ?_
    refine callRd hC (k_X4_mastsIn l g ad σ 0) ci_X4_mastsIn lk_X4_147 ⟨Nat.le_of_ble_eq_true rfl, Nat.le_of_ble_eq_true rfl⟩ hP hK hE (q0 := 0) rfl rfl rfl rfl hl.1 rfl (Nat.le_of_ble_eq_true rfl) dX4_rackFor_13 ⟨Nat.zero_le _, Nat.zero_le _⟩ ?_
    refine lv_bipush (v := 6) hx hb dX4_rackFor_16 (by decide) ?_
    refine lv_icmp_ge (tgt := 25) hx hb dX4_rackFor_18 (by decide) (fun c_3 => ?_) (fun c_3 => ?_)
    · refine lv_aload_n hx hb dX4_rackFor_25 rfl (lv_at hl 0 rfl) ?_
      refine lv_iconst (v := 1) hx hb dX4_rackFor_26 (by decide) ?_
      refine callRd hC (k_X4_mastsIn l g ad σ 1) ci_X4_mastsIn lk_X4_147 ⟨Nat.le_of_ble_eq_true rfl, Nat.le_of_ble_eq_true rfl⟩ hP hK hE (q0 := 0) rfl rfl rfl rfl hl.1 rfl (Nat.le_of_ble_eq_true rfl) dX4_rackFor_27 ⟨Nat.zero_le _, Nat.zero_le _⟩ ?_
      refine lv_bipush (v := 6) hx hb dX4_rackFor_30 (by decide) ?_
      refine lv_icmp_ge (tgt := 39) hx hb dX4_rackFor_32 (by decide) (fun c_4 => ?_) (fun c_4 => ?_)
      · refine lv_bipush (v := (-5)) hx hb dX4_rackFor_39 (by decide) ?_
        exact rd_ret hC dX4_rackFor_41 (Eq.symm (by unfold mX4_rackFor; rw [if_neg c_1, if_pos c_3, if_pos c_4]))
      · refine lv_iconst (v := 1) hx hb dX4_rackFor_35 (by decide) ?_
        refine lv_goto (tgt := 41) hx hb dX4_rackFor_36 (by decide) ?_
        exact rd_ret hC dX4_rackFor_41 (Eq.symm (by unfold mX4_rackFor; rw [if_neg c_1, if_pos c_3, if_neg c_4]))
    · refine lv_iconst (v := 0) hx hb dX4_rackFor_21 (by decide) ?_
      refine lv_goto (tgt := 41) hx hb dX4_rackFor_22 (by decide) ?_
      exact rd_ret hC dX4_rackFor_41 (Eq.symm (by unfold mX4_rackFor; rw [if_neg c_1, if_neg c_3]))
def mX4_noMast (σ : MS) (x1 : Int32) (x2 : Int32) : Int32 := (if (mX4_isBoat σ x1) = 0 then (-1) else (if (mX4_isAshore σ x1) = 0 then (if (mX4_of σ x1 7) = (-5) then (if x2 = 1 then (-5) else (if x2 = 0 then (if (mX4_rackFor σ x1) = (-5) then (-3) else 0) else 0)) else (if x2 = 0 then (-5) else (if x2 = 0 then (if (mX4_rackFor σ x1) = (-5) then (-3) else 0) else 0))) else (-4)))
set_option maxHeartbeats 4000000 in
set_option maxRecDepth 100000 in
theorem k_X4_noMast (l : Launch) (g : WG) (ad : AM) (σ : MS) (x1 : Int32) (x2 : Int32) : Rd l yX4_noMast cX4_noMast 3 (some .int) 3 (Wl g (cM g ad σ) (fun _ => False)) [.ref ad.1, .int x1, .int x2] (mX4_noMast σ x1 x2) := by
  refine rd_of (by decide) (Nat.le_of_ble_eq_true rfl) ?_
  intro p e s m args below meth c ls hC hW hl
  obtain ⟨hP, hK, hE⟩ := hW
  obtain ⟨hx, hb, hml, hr, hown, hts, hlk, hnm⟩ := id hC
  have hl : lv_has ls 3 [(0, .ref ad.1), (1, .int x1), (2, .int x2)] := hl
  refine lv_aload_n hx hb dX4_noMast_0 rfl (lv_at hl 0 rfl) ?_
  refine lv_iload_n hx hb dX4_noMast_1 rfl (lv_at hl 1 rfl) ?_
  refine callRd hC (k_X4_isBoat l g ad σ x1) ci_X4_isBoat lk_X4_92 ⟨Nat.le_of_ble_eq_true rfl, Nat.le_of_ble_eq_true rfl⟩ hP hK hE (q0 := 0) rfl rfl rfl rfl hl.1 rfl (Nat.le_of_ble_eq_true rfl) dX4_noMast_2 ⟨Nat.zero_le _, Nat.zero_le _⟩ ?_
  refine lv_if_ne (tgt := 10) hx hb dX4_noMast_5 (by decide) (fun c_1 => ?_) (fun c_1 => ?_)
  · refine lv_aload_n hx hb dX4_noMast_10 rfl (lv_at hl 0 rfl) ?_
    refine lv_iload_n hx hb dX4_noMast_11 rfl (lv_at hl 1 rfl) ?_
    refine callRd hC (k_X4_isAshore l g ad σ x1 (in_X4_isBoat c_1)) ci_X4_isAshore lk_X4_40 ⟨Nat.le_of_ble_eq_true rfl, Nat.le_of_ble_eq_true rfl⟩ hP hK hE (q0 := 0) rfl rfl rfl rfl hl.1 rfl (Nat.le_of_ble_eq_true rfl) dX4_noMast_12 ⟨Nat.zero_le _, Nat.zero_le _⟩ ?_
    refine lv_if_eq (tgt := 21) hx hb dX4_noMast_15 (by decide) (fun c_2 => ?_) (fun c_2 => ?_)
    · refine lv_iload_n hx hb dX4_noMast_21 rfl (lv_at hl 2 rfl) ?_
      refine lv_aload_n hx hb dX4_noMast_22 rfl (lv_at hl 0 rfl) ?_
      refine lv_iload_n hx hb dX4_noMast_23 rfl (lv_at hl 1 rfl) ?_
      refine lv_bipush (v := 7) hx hb dX4_noMast_24 (by decide) ?_
      refine callRd hC (k_X4_of l g ad σ x1 7 (in_X4_isBoat c_1) (in_iff.mpr (by decide))) ci_X4_of lk_X4_36 ⟨Nat.le_of_ble_eq_true rfl, Nat.le_of_ble_eq_true rfl⟩ hP hK hE (q0 := 0) rfl rfl rfl rfl hl.1 rfl (Nat.le_of_ble_eq_true rfl) dX4_noMast_26 ⟨Nat.zero_le _, Nat.zero_le _⟩ ?_
      refine lv_bipush (v := (-5)) hx hb dX4_noMast_29 (by decide) ?_
      refine lv_icmp_ne (tgt := 38) hx hb dX4_noMast_31 (by decide) (fun c_3 => ?_) (fun c_3 => ?_)
      · refine lv_iconst (v := 0) hx hb dX4_noMast_38 (by decide) ?_
        refine lv_icmp_ne (tgt := 45) hx hb dX4_noMast_39 (by decide) (fun c_4 => ?_) (fun c_4 => ?_)
        · refine lv_iload_n hx hb dX4_noMast_45 rfl (lv_at hl 2 rfl) ?_
          refine lv_if_ne (tgt := 64) hx hb dX4_noMast_46 (by decide) (fun c_5 => ?_) (fun c_5 => ?_)
          · refine lv_iconst (v := 0) hx hb dX4_noMast_64 (by decide) ?_
            exact rd_ret hC dX4_noMast_65 (Eq.symm (by unfold mX4_noMast; rw [if_neg c_1, if_pos c_2, if_neg c_3, if_neg c_4, if_neg c_5]))
          · refine lv_aload_n hx hb dX4_noMast_49 rfl (lv_at hl 0 rfl) ?_
            refine lv_iload_n hx hb dX4_noMast_50 rfl (lv_at hl 1 rfl) ?_
            refine callRd hC (k_X4_rackFor l g ad σ x1 (in_X4_isBoat c_1)) ci_X4_rackFor lk_X4_150 ⟨Nat.le_of_ble_eq_true rfl, Nat.le_of_ble_eq_true rfl⟩ hP hK hE (q0 := 0) rfl rfl rfl rfl hl.1 rfl (Nat.le_of_ble_eq_true rfl) dX4_noMast_51 ⟨Nat.zero_le _, Nat.zero_le _⟩ ?_
            refine lv_bipush (v := (-5)) hx hb dX4_noMast_54 (by decide) ?_
            refine lv_icmp_ne (tgt := 64) hx hb dX4_noMast_56 (by decide) (fun c_6 => ?_) (fun c_6 => ?_)
            · refine lv_iconst (v := 0) hx hb dX4_noMast_64 (by decide) ?_
              exact rd_ret hC dX4_noMast_65 (Eq.symm (by unfold mX4_noMast; rw [if_neg c_1, if_pos c_2, if_neg c_3, if_neg c_4, if_pos c_5, if_neg c_6]))
            · refine lv_bipush (v := (-3)) hx hb dX4_noMast_59 (by decide) ?_
              refine lv_goto (tgt := 65) hx hb dX4_noMast_61 (by decide) ?_
              exact rd_ret hC dX4_noMast_65 (Eq.symm (by unfold mX4_noMast; rw [if_neg c_1, if_pos c_2, if_neg c_3, if_neg c_4, if_pos c_5, if_pos c_6]))
        · refine lv_bipush (v := (-5)) hx hb dX4_noMast_42 (by decide) ?_
          exact rd_ret hC dX4_noMast_44 (Eq.symm (by unfold mX4_noMast; rw [if_neg c_1, if_pos c_2, if_neg c_3, if_pos c_4]))
      · refine lv_iconst (v := 1) hx hb dX4_noMast_34 (by decide) ?_
        refine lv_goto (tgt := 39) hx hb dX4_noMast_35 (by decide) ?_
        refine lv_icmp_ne (tgt := 45) hx hb dX4_noMast_39 (by decide) (fun c_7 => ?_) (fun c_7 => ?_)
        · refine lv_iload_n hx hb dX4_noMast_45 rfl (lv_at hl 2 rfl) ?_
          refine lv_if_ne (tgt := 64) hx hb dX4_noMast_46 (by decide) (fun c_8 => ?_) (fun c_8 => ?_)
          · refine lv_iconst (v := 0) hx hb dX4_noMast_64 (by decide) ?_
            exact rd_ret hC dX4_noMast_65 (Eq.symm (by unfold mX4_noMast; rw [if_neg c_1, if_pos c_2, if_pos c_3, if_neg c_7, if_neg c_8]))
          · refine lv_aload_n hx hb dX4_noMast_49 rfl (lv_at hl 0 rfl) ?_
            refine lv_iload_n hx hb dX4_noMast_50 rfl (lv_at hl 1 rfl) ?_
            refine callRd hC (k_X4_rackFor l g ad σ x1 (in_X4_isBoat c_1)) ci_X4_rackFor lk_X4_150 ⟨Nat.le_of_ble_eq_true rfl, Nat.le_of_ble_eq_true rfl⟩ hP hK hE (q0 := 0) rfl rfl rfl rfl hl.1 rfl (Nat.le_of_ble_eq_true rfl) dX4_noMast_51 ⟨Nat.zero_le _, Nat.zero_le _⟩ ?_
            refine lv_bipush (v := (-5)) hx hb dX4_noMast_54 (by decide) ?_
            refine lv_icmp_ne (tgt := 64) hx hb dX4_noMast_56 (by decide) (fun c_9 => ?_) (fun c_9 => ?_)
            · refine lv_iconst (v := 0) hx hb dX4_noMast_64 (by decide) ?_
              exact rd_ret hC dX4_noMast_65 (Eq.symm (by unfold mX4_noMast; rw [if_neg c_1, if_pos c_2, if_pos c_3, if_neg c_7, if_pos c_8, if_neg c_9]))
            · refine lv_bipush (v := (-3)) hx hb dX4_noMast_59 (by decide) ?_
              refine lv_goto (tgt := 65) hx hb dX4_noMast_61 (by decide) ?_
              exact rd_ret hC dX4_noMast_65 (Eq.symm (by unfold mX4_noMast; rw [if_neg c_1, if_pos c_2, if_pos c_3, if_neg c_7, if_pos c_8, if_pos c_9]))
        · refine lv_bipush (v := (-5)) hx hb dX4_noMast_42 (by decide) ?_
          exact rd_ret hC dX4_noMast_44 (Eq.symm (by unfold mX4_noMast; rw [if_neg c_1, if_pos c_2, if_pos c_3, if_pos c_7]))
    · refine lv_bipush (v := (-4)) hx hb dX4_noMast_18 (by decide) ?_
      exact rd_ret hC dX4_noMast_20 (Eq.symm (by unfold mX4_noMast; rw [if_neg c_1, if_neg c_2]))
  · refine lv_iconst (v := (-1)) hx hb dX4_noMast_8 (by decide) ?_
    exact rd_ret hC dX4_noMast_9 (Eq.symm (by unfold mX4_noMast; rw [if_pos c_1]))
def mX4_doMast (σ : MS) (x1 : Int32) (x2 : Int32) : Int32 × MS := (if x2 = 0 then (if x2 = 0 then ((mX4_rackFor σ x1), (mX4_put σ x1 7 (mX4_rackFor σ x1))) else ((mX4_rackFor σ x1), (mX4_put σ x1 7 (-5)))) else (if x2 = 0 then ((mX4_of σ x1 7), (mX4_put σ x1 7 (mX4_of σ x1 7))) else ((mX4_of σ x1 7), (mX4_put σ x1 7 (-5)))))
set_option maxHeartbeats 4000000 in
set_option maxRecDepth 100000 in
theorem k_X4_doMast (l : Launch) (g : WG) (ad : AM) (σ : MS) (x1 : Int32) (x2 : Int32) (h_1 : vp_in x1 20) : Wr l yX4_doMast cX4_doMast 4 (some .int) 3 g (cM g ad σ) (cM g ad (mX4_doMast σ x1 x2).2) [.ref ad.1, .int x1, .int x2] (mX4_doMast σ x1 x2).1 := by
  refine wr_of (by decide) (Nat.le_of_ble_eq_true rfl) ?_
  intro p e s m args below meth c ls A hC hAe hP hD hK hE hA hS hl
  obtain ⟨hx, hb, hml, hr, hown, hts, hlk, hnm⟩ := id hC
  have hl : lv_has ls 4 [(0, .ref ad.1), (1, .int x1), (2, .int x2)] := hl
  refine lv_iload_n hx hb dX4_doMast_0 rfl (lv_at hl 2 rfl) ?_
  refine lv_if_eq (tgt := 14) hx hb dX4_doMast_1 (by decide) (fun c_1 => ?_) (fun c_1 => ?_)
  · refine lv_aload_n hx hb dX4_doMast_14 rfl (lv_at hl 0 rfl) ?_
    refine lv_iload_n hx hb dX4_doMast_15 rfl (lv_at hl 1 rfl) ?_
    refine callRd hC (k_X4_rackFor l g ad σ x1 h_1) ci_X4_rackFor lk_X4_150 ⟨Nat.le_of_ble_eq_true rfl, Nat.le_of_ble_eq_true rfl⟩ hP hK (hE.S hS).none (q0 := 0) rfl rfl rfl rfl hl.1 rfl (Nat.le_of_ble_eq_true rfl) dX4_doMast_16 ⟨Nat.zero_le _, Nat.zero_le _⟩ ?_
    refine lv_istore_n (lv' := [(3, .int (mX4_rackFor σ x1)), (0, .ref ad.1), (1, .int x1), (2, .int x2)]) hx hb dX4_doMast_19 rfl hl (by decide) rfl (fun ls hl => ?_)
    refine lv_aload_n hx hb dX4_doMast_20 rfl (lv_at hl 1 rfl) ?_
    refine lv_iload_n hx hb dX4_doMast_21 rfl (lv_at hl 2 rfl) ?_
    refine lv_bipush (v := 7) hx hb dX4_doMast_22 (by decide) ?_
    refine lv_iload_n hx hb dX4_doMast_24 rfl (lv_at hl 3 rfl) ?_
    refine lv_if_eq (tgt := 33) hx hb dX4_doMast_25 (by decide) (fun c_2 => ?_) (fun c_2 => ?_)
    · refine lv_iload_n hx hb dX4_doMast_33 rfl (lv_at hl 0 rfl) ?_
      refine callWv hC (k_X4_put l g ad σ x1 7 (mX4_rackFor σ x1) h_1 (in_iff.mpr (by decide))) ci_X4_put lk_X4_70 ⟨Nat.le_of_ble_eq_true rfl, Nat.le_of_ble_eq_true rfl⟩ hP hD hK hE hS hA (q0 := 0) rfl rfl rfl rfl hl.1 rfl (Nat.le_of_ble_eq_true rfl) dX4_doMast_34 ⟨Nat.zero_le _, Nat.zero_le _⟩ (fun H locs hP _ hD hS _ _ => ?_)
      refine lv_iload_n hx hb dX4_doMast_37 rfl (lv_at hl 0 rfl) ?_
      have hm : mX4_doMast σ x1 x2 = ((mX4_rackFor σ x1), (mX4_put σ x1 7 (mX4_rackFor σ x1))) := by unfold mX4_doMast; rw [if_pos c_1, if_pos c_2]
      exact wr_ret hC hP (hAe ▸ hD) (hAe ▸ hS) dX4_doMast_38 (by rw [hm]) (by rw [hm])
    · refine lv_bipush (v := (-5)) hx hb dX4_doMast_28 (by decide) ?_
      refine lv_goto (tgt := 34) hx hb dX4_doMast_30 (by decide) ?_
      refine callWv hC (k_X4_put l g ad σ x1 7 (-5) h_1 (in_iff.mpr (by decide))) ci_X4_put lk_X4_70 ⟨Nat.le_of_ble_eq_true rfl, Nat.le_of_ble_eq_true rfl⟩ hP hD hK hE hS hA (q0 := 0) rfl rfl rfl rfl hl.1 rfl (Nat.le_of_ble_eq_true rfl) dX4_doMast_34 ⟨Nat.zero_le _, Nat.zero_le _⟩ (fun H locs hP _ hD hS _ _ => ?_)
      refine lv_iload_n hx hb dX4_doMast_37 rfl (lv_at hl 0 rfl) ?_
      have hm : mX4_doMast σ x1 x2 = ((mX4_rackFor σ x1), (mX4_put σ x1 7 (-5))) := by unfold mX4_doMast; rw [if_pos c_1, if_neg c_2]
      exact wr_ret hC hP (hAe ▸ hD) (hAe ▸ hS) dX4_doMast_38 (by rw [hm]) (by rw [hm])
  · refine lv_aload_n hx hb dX4_doMast_4 rfl (lv_at hl 0 rfl) ?_
    refine lv_iload_n hx hb dX4_doMast_5 rfl (lv_at hl 1 rfl) ?_
    refine lv_bipush (v := 7) hx hb dX4_doMast_6 (by decide) ?_
    refine callRd hC (k_X4_of l g ad σ x1 7 h_1 (in_iff.mpr (by decide))) ci_X4_of lk_X4_36 ⟨Nat.le_of_ble_eq_true rfl, Nat.le_of_ble_eq_true rfl⟩ hP hK (hE.S hS).none (q0 := 0) rfl rfl rfl rfl hl.1 rfl (Nat.le_of_ble_eq_true rfl) dX4_doMast_8 ⟨Nat.zero_le _, Nat.zero_le _⟩ ?_
    refine lv_goto (tgt := 19) hx hb dX4_doMast_11 (by decide) ?_
    refine lv_istore_n (lv' := [(3, .int (mX4_of σ x1 7)), (0, .ref ad.1), (1, .int x1), (2, .int x2)]) hx hb dX4_doMast_19 rfl hl (by decide) rfl (fun ls hl => ?_)
    refine lv_aload_n hx hb dX4_doMast_20 rfl (lv_at hl 1 rfl) ?_
    refine lv_iload_n hx hb dX4_doMast_21 rfl (lv_at hl 2 rfl) ?_
    refine lv_bipush (v := 7) hx hb dX4_doMast_22 (by decide) ?_
    refine lv_iload_n hx hb dX4_doMast_24 rfl (lv_at hl 3 rfl) ?_
    refine lv_if_eq (tgt := 33) hx hb dX4_doMast_25 (by decide) (fun c_3 => ?_) (fun c_3 => ?_)
    · refine lv_iload_n hx hb dX4_doMast_33 rfl (lv_at hl 0 rfl) ?_
      refine callWv hC (k_X4_put l g ad σ x1 7 (mX4_of σ x1 7) h_1 (in_iff.mpr (by decide))) ci_X4_put lk_X4_70 ⟨Nat.le_of_ble_eq_true rfl, Nat.le_of_ble_eq_true rfl⟩ hP hD hK hE hS hA (q0 := 0) rfl rfl rfl rfl hl.1 rfl (Nat.le_of_ble_eq_true rfl) dX4_doMast_34 ⟨Nat.zero_le _, Nat.zero_le _⟩ (fun H locs hP _ hD hS _ _ => ?_)
      refine lv_iload_n hx hb dX4_doMast_37 rfl (lv_at hl 0 rfl) ?_
      have hm : mX4_doMast σ x1 x2 = ((mX4_of σ x1 7), (mX4_put σ x1 7 (mX4_of σ x1 7))) := by unfold mX4_doMast; rw [if_neg c_1, if_pos c_3]
      exact wr_ret hC hP (hAe ▸ hD) (hAe ▸ hS) dX4_doMast_38 (by rw [hm]) (by rw [hm])
    · refine lv_bipush (v := (-5)) hx hb dX4_doMast_28 (by decide) ?_
      refine lv_goto (tgt := 34) hx hb dX4_doMast_30 (by decide) ?_
      refine callWv hC (k_X4_put l g ad σ x1 7 (-5) h_1 (in_iff.mpr (by decide))) ci_X4_put lk_X4_70 ⟨Nat.le_of_ble_eq_true rfl, Nat.le_of_ble_eq_true rfl⟩ hP hD hK hE hS hA (q0 := 0) rfl rfl rfl rfl hl.1 rfl (Nat.le_of_ble_eq_true rfl) dX4_doMast_34 ⟨Nat.zero_le _, Nat.zero_le _⟩ (fun H locs hP _ hD hS _ _ => ?_)
      refine lv_iload_n hx hb dX4_doMast_37 rfl (lv_at hl 0 rfl) ?_
      have hm : mX4_doMast σ x1 x2 = ((mX4_of σ x1 7), (mX4_put σ x1 7 (-5))) := by unfold mX4_doMast; rw [if_neg c_1, if_neg c_3]
      exact wr_ret hC hP (hAe ▸ hD) (hAe ▸ hS) dX4_doMast_38 (by rw [hm]) (by rw [hm])
