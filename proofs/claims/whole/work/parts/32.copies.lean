/-! the reference's copying loops, its pushes -/
def itr (g : Nat → Nat) (w : (Nat → Int32) → Nat → Int32) : Nat → Nat → (Nat → Int32) → (Nat → Int32)
  | 0, _, v => v
  | d + 1, i, v => itr g w d (i + 1) (upd v (g i) (w v i))
theorem copy_loop {α : Type} {L : Nat → MS → Int32 → α} {N : Nat} {S : (Nat → Int32) → MS} {g : Nat → Nat} {w : (Nat → Int32) → Nat → Int32} (hstep : ∀ n i v, i < N → L (n + 1) (S v) (nI i) = L n (S (upd v (g i) (w v i))) (nI (i + 1))) : ∀ d i v, i + d = N → L (d + 2) (S v) (nI i) = L 2 (S (itr g w d i v)) (nI N) := by
  intro d
  induction d with
  | zero =>
    intro i v hi
    have hi : i = N := by omega
    subst hi
    rfl
  | succ d ih =>
    intro i v hi
    rw [show d + 1 + 2 = (d + 2) + 1 by omega, hstep _ i v (by omega)]
    exact ih (i + 1) _ (by omega)
theorem itr_copy {base : Nat} {src : Nat → Int32} : ∀ d i v k, itr (fun i => base + i) (fun _ i => src i) d i v k = if base + i ≤ k ∧ k < base + i + d then src (k - base) else v k := by
  intro d
  induction d with
  | zero => intro i v k; rw [if_neg (by omega)]; rfl
  | succ d ih =>
    intro i v k
    show itr _ _ d (i + 1) (upd v (base + i) (src i)) k = _
    rw [ih]
    unfold upd
    by_cases a : k = base + i
    · rw [if_neg (by omega), if_pos a, if_pos (by omega), a, Nat.add_sub_cancel_left]
    · by_cases b : base + i ≤ k ∧ k < base + i + (d + 1)
      · rw [if_pos (by omega), if_pos b]
      · rw [if_neg (by omega), if_neg a, if_neg b]
theorem itr_shift {m : Nat} (hm : 0 < m) : ∀ d i v k, itr (fun i => i) (fun v i => v (m + i)) d i v k = if i ≤ k ∧ k < i + d then v (m + k) else v k := by
  intro d
  induction d with
  | zero => intro i v k; rw [if_neg (by omega)]; rfl
  | succ d ih =>
    intro i v k
    show itr _ _ d (i + 1) (upd v i (v (m + i))) k = _
    rw [ih]
    unfold upd
    by_cases a : k = i
    · rw [if_neg (by omega), if_pos a, if_pos (by omega), a]
    · by_cases b : i ≤ k ∧ k < i + (d + 1)
      · rw [if_pos (by omega), if_neg (by omega), if_pos b]
      · rw [if_neg (by omega), if_neg a, if_neg b]
theorem so_st {τ : MS} {v : Nat → Int32} : M_states (M_set_old τ v) = M_states τ := rfl
theorem sz_st {τ : MS} {v : Nat → Int32} : M_states (M_set_z τ v) = M_states τ := rfl
theorem n255 {i : Nat} (hi : i < 255) : ¬ (255 : Int32) ≤ nI i := nI_ge (b := 255) hi (by decide)
theorem e255 : (255 : Int32) ≤ nI 255 := nI_le (a := 255) (Nat.le_refl 255) (by decide)
theorem n765 {i : Nat} (hi : i < 765) : ¬ (765 : Int32) ≤ nI i := nI_ge (b := 765) hi (by decide)
theorem e765 : (765 : Int32) ≤ nI 765 := nI_le (a := 765) (Nat.le_refl 765) (by decide)
theorem ci {i : Nat} (hi : i < 100000) : (nI i).toNatClampNeg = i := nI_clamp (by omega)
theorem ci255 {s i : Nat} (hs : s < 5) (hi : i < 255) : ((255 * nI s) + nI i).toNatClampNeg = 255 * s + i := by
  rw [show (255 : Int32) = nI 255 from rfl, nI_mul, nI_add]
  exact nI_clamp (by omega)
theorem ci255' {i : Nat} (hi : i < 765) : (255 + nI i).toNatClampNeg = 255 + i := by
  rw [show (255 : Int32) = nI 255 from rfl, nI_add]
  exact nI_clamp (by omega)
theorem pz51 {τ : MS} {s : Nat} (hs : s < 5) (h : M_states τ = nI s) : mX4_push_z_L51 257 τ 0 = M_set_states (M_set_old τ (fun k => if 255 * s ≤ k ∧ k < 255 * s + 255 then M_z τ (k - 255 * s) else M_old τ k)) (nI (s + 1)) := by
  have h1 := copy_loop (L := mX4_push_z_L51) (N := 255) (S := fun v => M_set_old τ v) (g := fun i => 255 * s + i) (w := fun _ i => M_z τ i) (fun n i v hi => by
    show mX4_push_z_L51 (n + 1) (M_set_old τ v) (nI i) = _
    rw [mX4_push_z_L51, if_neg (n255 hi), nI1, show M_states (M_set_old τ v) = nI s from h, ci255 hs hi, ci (by omega)]
    rfl) 255 0 (M_old τ) (by omega)
  refine Eq.trans (show mX4_push_z_L51 257 τ 0 = mX4_push_z_L51 (255 + 2) (M_set_old τ (M_old τ)) (nI 0) from rfl) (h1.trans ?_)
  rw [mX4_push_z_L51, if_pos e255, so_st, h, nI1]
  refine congrArg (fun o => M_set_states (M_set_old τ o) (nI (s + 1))) (funext fun k => ?_)
  rw [itr_copy]
  rfl
theorem pz10 {τ : MS} : mX4_push_z_L10 767 τ 0 = mX4_push_z_L51 257 (M_set_states (M_set_old τ (fun k => if k < 765 then M_old τ (255 + k) else M_old τ k)) (M_states τ - 1)) 0 := by
  have h1 := copy_loop (L := mX4_push_z_L10) (N := 765) (S := fun v => M_set_old τ v) (g := fun i => i) (w := fun v i => v (255 + i)) (fun n i v hi => by
    show mX4_push_z_L10 (n + 1) (M_set_old τ v) (nI i) = _
    rw [mX4_push_z_L10, if_neg (n765 hi), nI1, ci (by omega), ci255' hi]
    rfl) 765 0 (M_old τ) (by omega)
  refine Eq.trans (show mX4_push_z_L10 767 τ 0 = mX4_push_z_L10 (765 + 2) (M_set_old τ (M_old τ)) (nI 0) from rfl) (h1.trans ?_)
  rw [mX4_push_z_L10, if_pos e765, so_st]
  refine congrArg (fun o => mX4_push_z_L51 257 (M_set_states (M_set_old τ o) (M_states τ - 1)) 0) (funext fun k => ?_)
  rw [itr_shift (by decide)]
  by_cases c : k < 765
  · rw [if_pos (by omega), if_pos c]
  · rw [if_neg (by omega), if_neg c]
/-- what a push of the row src leaves of the old rows -/
def pushed (s : Nat) (src o : Nat → Int32) : Nat → Int32 := fun k => if s = 4 then (if 765 ≤ k ∧ k < 1020 then src (k - 765) else if k < 765 then o (255 + k) else o k) else (if 255 * s ≤ k ∧ k < 255 * s + 255 then src (k - 255 * s) else o k)
theorem push_eq {τ : MS} {s : Nat} (hs : s ≤ 4) (h : M_states τ = nI s) : mX4_push_z τ = M_set_states (M_set_old τ (pushed s (M_z τ) (M_old τ))) (nI (if s = 4 then 4 else s + 1)) := by
  unfold mX4_push_z
  by_cases c : s = 4
  · subst c
    rw [if_pos (show M_states τ = 4 from h), pz10, pz51 (τ := (M_set_states (M_set_old τ (fun k => if k < 765 then M_old τ (255 + k) else M_old τ k)) (M_states τ - 1))) (s := 3) (by decide) (show M_states τ - 1 = nI 3 by rw [h]; rfl), if_pos rfl]
    refine congrArg (fun o => M_set_states (M_set_old τ o) (nI 4)) (funext fun k => ?_)
    unfold pushed
    rw [if_pos rfl]
    rfl
  · have h4 : ¬ M_states τ = 4 := fun e => by
      rw [h] at e
      have := congrArg Int32.toInt e
      rw [nI_ti (by omega)] at this
      have : (s : Int) = 4 := this
      omega
    rw [if_neg h4, pz51 (by omega) h, if_neg c]
    refine congrArg (fun o => M_set_states (M_set_old τ o) (nI (s + 1))) (funext fun k => ?_)
    unfold pushed
    rw [if_neg c]
theorem pa51 {τ : MS} {s : Nat} (hs : s < 5) (h : M_states τ = nI s) : mX4_push_aside_L51 257 τ 0 = M_set_states (M_set_old τ (fun k => if 255 * s ≤ k ∧ k < 255 * s + 255 then M_aside τ (k - 255 * s) else M_old τ k)) (nI (s + 1)) := by
  have h1 := copy_loop (L := mX4_push_aside_L51) (N := 255) (S := fun v => M_set_old τ v) (g := fun i => 255 * s + i) (w := fun _ i => M_aside τ i) (fun n i v hi => by
    show mX4_push_aside_L51 (n + 1) (M_set_old τ v) (nI i) = _
    rw [mX4_push_aside_L51, if_neg (n255 hi), nI1, show M_states (M_set_old τ v) = nI s from h, ci255 hs hi, ci (by omega)]
    rfl) 255 0 (M_old τ) (by omega)
  refine Eq.trans (show mX4_push_aside_L51 257 τ 0 = mX4_push_aside_L51 (255 + 2) (M_set_old τ (M_old τ)) (nI 0) from rfl) (h1.trans ?_)
  rw [mX4_push_aside_L51, if_pos e255, so_st, h, nI1]
  refine congrArg (fun o => M_set_states (M_set_old τ o) (nI (s + 1))) (funext fun k => ?_)
  rw [itr_copy]
  rfl
theorem pa10 {τ : MS} : mX4_push_aside_L10 767 τ 0 = mX4_push_aside_L51 257 (M_set_states (M_set_old τ (fun k => if k < 765 then M_old τ (255 + k) else M_old τ k)) (M_states τ - 1)) 0 := by
  have h1 := copy_loop (L := mX4_push_aside_L10) (N := 765) (S := fun v => M_set_old τ v) (g := fun i => i) (w := fun v i => v (255 + i)) (fun n i v hi => by
    show mX4_push_aside_L10 (n + 1) (M_set_old τ v) (nI i) = _
    rw [mX4_push_aside_L10, if_neg (n765 hi), nI1, ci (by omega), ci255' hi]
    rfl) 765 0 (M_old τ) (by omega)
  refine Eq.trans (show mX4_push_aside_L10 767 τ 0 = mX4_push_aside_L10 (765 + 2) (M_set_old τ (M_old τ)) (nI 0) from rfl) (h1.trans ?_)
  rw [mX4_push_aside_L10, if_pos e765, so_st]
  refine congrArg (fun o => mX4_push_aside_L51 257 (M_set_states (M_set_old τ o) (M_states τ - 1)) 0) (funext fun k => ?_)
  rw [itr_shift (by decide)]
  by_cases c : k < 765
  · rw [if_pos (by omega), if_pos c]
  · rw [if_neg (by omega), if_neg c]
theorem pusha_eq {τ : MS} {s : Nat} (hs : s ≤ 4) (h : M_states τ = nI s) : mX4_push_aside τ = M_set_states (M_set_old τ (pushed s (M_aside τ) (M_old τ))) (nI (if s = 4 then 4 else s + 1)) := by
  unfold mX4_push_aside
  by_cases c : s = 4
  · subst c
    rw [if_pos (show M_states τ = 4 from h), pa10, pa51 (τ := (M_set_states (M_set_old τ (fun k => if k < 765 then M_old τ (255 + k) else M_old τ k)) (M_states τ - 1))) (s := 3) (by decide) (show M_states τ - 1 = nI 3 by rw [h]; rfl), if_pos rfl]
    refine congrArg (fun o => M_set_states (M_set_old τ o) (nI 4)) (funext fun k => ?_)
    unfold pushed
    rw [if_pos rfl]
    rfl
  · have h4 : ¬ M_states τ = 4 := fun e => by
      rw [h] at e
      have := congrArg Int32.toInt e
      rw [nI_ti (by omega)] at this
      have : (s : Int) = 4 := this
      omega
    rw [if_neg h4, pa51 (by omega) h, if_neg c]
    refine congrArg (fun o => M_set_states (M_set_old τ o) (nI (s + 1))) (funext fun k => ?_)
    unfold pushed
    rw [if_neg c]
/-- a row put in the place of another -/
def row255 (src o : Nat → Int32) : Nat → Int32 := fun k => if k < 255 then src k else o k
theorem row255_lt {src o : Nat → Int32} {k : Nat} (hk : k < 255) : row255 src o k = src k := if_pos hk
theorem undo_eq {τ : MS} {s : Nat} (hs : s < 5) (h : M_states τ = nI s) : mX4_undo_L22 257 τ 0 = (nI s, M_set_z τ (row255 (fun k => M_old τ (255 * s + k)) (M_z τ))) := by
  have h1 := copy_loop (L := mX4_undo_L22) (N := 255) (S := fun v => M_set_z τ v) (g := fun i => 0 + i) (w := fun _ i => M_old τ (255 * s + i)) (fun n i v hi => by
    show mX4_undo_L22 (n + 1) (M_set_z τ v) (nI i) = _
    rw [mX4_undo_L22, if_neg (n255 hi), nI1, show M_states (M_set_z τ v) = nI s from h, ci255 hs hi, ci (by omega), Nat.zero_add]
    rfl) 255 0 (M_z τ) (by omega)
  refine Eq.trans (show mX4_undo_L22 257 τ 0 = mX4_undo_L22 (255 + 2) (M_set_z τ (M_z τ)) (nI 0) from rfl) (h1.trans ?_)
  rw [mX4_undo_L22, if_pos e255, sz_st, h]
  refine congrArg (fun o => (nI s, M_set_z τ o)) (funext fun k => ?_)
  rw [itr_copy (base := 0) (src := fun i => M_old τ (255 * s + i))]
  unfold row255
  by_cases c : k < 255
  · rw [if_pos (by omega), if_pos c]; rfl
  · rw [if_neg (by omega), if_neg c]
theorem keep_eq {τ : MS} : mX4_keep τ = (mX4_boats (M_set_isKept (M_set_kept τ (row255 (M_z τ) (M_kept τ))) 1), M_set_isKept (M_set_kept τ (row255 (M_z τ) (M_kept τ))) 1) := by
  have h1 := copy_loop (L := mX4_keep_L2) (N := 255) (S := fun v => M_set_kept τ v) (g := fun i => 0 + i) (w := fun _ i => M_z τ i) (fun n i v hi => by
    show mX4_keep_L2 (n + 1) (M_set_kept τ v) (nI i) = _
    rw [mX4_keep_L2, if_neg (n255 hi), nI1, ci (by omega), Nat.zero_add]
    rfl) 255 0 (M_kept τ) (by omega)
  refine Eq.trans (show mX4_keep τ = mX4_keep_L2 (255 + 2) (M_set_kept τ (M_kept τ)) (nI 0) from rfl) (h1.trans ?_)
  rw [mX4_keep_L2, if_pos e255]
  refine congrArg (fun o => (mX4_boats (M_set_isKept (M_set_kept τ o) 1), M_set_isKept (M_set_kept τ o) 1)) (funext fun k => ?_)
  rw [itr_copy (base := 0) (src := fun i => M_z τ i)]
  unfold row255
  by_cases c : k < 255
  · rw [if_pos (by omega), if_pos c]; rfl
  · rw [if_neg (by omega), if_neg c]
theorem restore_eq {τ : MS} : mX4_restore_L20 257 τ 0 = (mX4_boats (M_set_z τ (row255 (M_kept τ) (M_z τ))), M_set_z τ (row255 (M_kept τ) (M_z τ))) := by
  have h1 := copy_loop (L := mX4_restore_L20) (N := 255) (S := fun v => M_set_z τ v) (g := fun i => 0 + i) (w := fun _ i => M_kept τ i) (fun n i v hi => by
    show mX4_restore_L20 (n + 1) (M_set_z τ v) (nI i) = _
    rw [mX4_restore_L20, if_neg (n255 hi), nI1, ci (by omega), Nat.zero_add]
    rfl) 255 0 (M_z τ) (by omega)
  refine Eq.trans (show mX4_restore_L20 257 τ 0 = mX4_restore_L20 (255 + 2) (M_set_z τ (M_z τ)) (nI 0) from rfl) (h1.trans ?_)
  rw [mX4_restore_L20, if_pos e255]
  refine congrArg (fun o => (mX4_boats (M_set_z τ o), M_set_z τ o)) (funext fun k => ?_)
  rw [itr_copy (base := 0) (src := fun i => M_kept τ i)]
  unfold row255
  by_cases c : k < 255
  · rw [if_pos (by omega), if_pos c]; rfl
  · rw [if_neg (by omega), if_neg c]
theorem aside_eq {τ : MS} (w1 : Int32) : mX4_perform_L16 w1 257 τ 0 = mX4_perform_L48 w1 64 (M_set_aside τ (row255 (M_z τ) (M_aside τ))) 0 0 0 := by
  have h1 := copy_loop (L := mX4_perform_L16 w1) (N := 255) (S := fun v => M_set_aside τ v) (g := fun i => 0 + i) (w := fun _ i => M_z τ i) (fun n i v hi => by
    show mX4_perform_L16 w1 (n + 1) (M_set_aside τ v) (nI i) = _
    rw [mX4_perform_L16, if_neg (n255 hi), nI1, ci (by omega), Nat.zero_add]
    rfl) 255 0 (M_aside τ) (by omega)
  refine Eq.trans (show mX4_perform_L16 w1 257 τ 0 = mX4_perform_L16 w1 (255 + 2) (M_set_aside τ (M_aside τ)) (nI 0) from rfl) (h1.trans ?_)
  rw [mX4_perform_L16, if_pos e255]
  refine congrArg (fun o => mX4_perform_L48 w1 64 (M_set_aside τ o) 0 0 0) (funext fun k => ?_)
  rw [itr_copy (base := 0) (src := fun i => M_z τ i)]
  unfold row255
  by_cases c : k < 255
  · rw [if_pos (by omega), if_pos c]; rfl
  · rw [if_neg (by omega), if_neg c]
theorem back_eq {τ : MS} (w3 w2 w1 : Int32) : mX4_perform_L111 w3 w2 w1 257 τ 0 = (-4, M_set_stopError (M_set_stopNumber (M_set_z τ (row255 (M_aside τ) (M_z τ))) (w2 - 1)) w3) := by
  have h1 := copy_loop (L := mX4_perform_L111 w3 w2 w1) (N := 255) (S := fun v => M_set_z τ v) (g := fun i => 0 + i) (w := fun _ i => M_aside τ i) (fun n i v hi => by
    show mX4_perform_L111 w3 w2 w1 (n + 1) (M_set_z τ v) (nI i) = _
    rw [mX4_perform_L111, if_neg (n255 hi), nI1, ci (by omega), Nat.zero_add]
    rfl) 255 0 (M_z τ) (by omega)
  refine Eq.trans (show mX4_perform_L111 w3 w2 w1 257 τ 0 = mX4_perform_L111 w3 w2 w1 (255 + 2) (M_set_z τ (M_z τ)) (nI 0) from rfl) (h1.trans ?_)
  rw [mX4_perform_L111, if_pos e255]
  refine congrArg (fun o => ((-4 : Int32), M_set_stopError (M_set_stopNumber (M_set_z τ o) (w2 - 1)) w3)) (funext fun k => ?_)
  rw [itr_copy (base := 0) (src := fun i => M_aside τ i)]
  unfold row255
  by_cases c : k < 255
  · rw [if_pos (by omega), if_pos c]; rfl
  · rw [if_neg (by omega), if_neg c]
