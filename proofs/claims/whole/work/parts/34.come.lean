/-! boats that come and go -/
section COME
variable {σ : YS} {τ : MS} {T : Nat}
theorem in19 {b : Nat} (hb : b < 20) : mX4_in (nI b) 0 19 = 1 := by
  unfold mX4_in
  rw [if_neg (nI_pos (by omega)), if_neg (show ¬ (19 : Int32) < nI b from nI_nlt (b := b) (a := 19) (by omega) (by decide))]
theorem isb {b : Nat} (hb : b < 20) : mX4_isBoat τ (nI b) = if ZB (M_z τ) b 0 = 1 then 1 else 0 := by
  unfold mX4_isBoat
  rw [in19 hb, if_neg one_ne, zo0 hb]
theorem bo_ct (h : RelY σ (M_z τ) T) : mX4_boats τ = nI (ct (fun i => ZB (M_z τ) i 0 = 1) 20) := by
  rw [bo4_sm]
  refine sm_ct fun i hi => ?_
  rcases h.z01 hi with a | a
  · rw [a]; rfl
  · rw [a]; rfl
theorem bo_ge (h : RelY σ (M_z τ) T) : 0 ≤ (mX4_boats τ).toInt := by
  rw [bo_ct h]
  have := ct_le (p := fun i => ZB (M_z τ) i 0 = 1) 20
  exact ge0 (by omega)
theorem lf_up (h : RelY σ (M_z τ) T) : ∀ c i f, i + c = 20 → mX2_lowestFreeNumber_L2 σ (c + 1 + f) (nI i) = upf (fun b => ¬ ZB (M_z τ) b 0 = 1) nI (-5) c i := by
  intro c
  induction c with
  | zero =>
    intro i f hi
    have hi : i = 20 := by omega
    subst hi
    rw [show 0 + 1 + f = f + 1 by omega, mX2_lowestFreeNumber_L2, if_pos e20]
    rfl
  | succ c ih =>
    intro i f hi
    have hi20 : i < 20 := by omega
    have i1 := ih (i + 1) f (by omega)
    rw [show c + 1 + 1 + f = (c + 1 + f) + 1 by omega, mX2_lowestFreeNumber_L2, if_neg (i20 hi20), kn_eq h, isb hi20, nI1, i1]
    show _ = (if ¬ ZB (M_z τ) i 0 = 1 then _ else _)
    by_cases a : ZB (M_z τ) i 0 = 1
    · rw [if_pos a, if_neg one_ne, if_neg (fun c => c a)]
    · rw [if_neg a, if_pos rfl, if_pos a]
def coY (σ : YS) (n x1 x2 x3 x4 : Int32) : YS := mX2_noteAfloat (mX2_note (mX2_note (mX2_note (mX2_note (mX2_note (mX2_note (mX2_note σ n 0 x1) n 1 x2) n 2 x3) n 3 x4) n 7 (-5)) n 8 0) n 10 0) n
def coM (τ : MS) (n x1 x2 x3 x4 : Int32) : MS := mX4_put (mX4_put (mX4_put (mX4_put (mX4_put (mX4_put (mX4_put (mX4_put (mX4_put (mX4_put (mX4_put τ n 0 1) n 1 x1) n 2 x2) n 3 x3) n 4 x4) n 5 (-5)) n 6 (-5)) n 7 (-5)) n 8 0) n 9 0) n 10 0
theorem coM_mo {n x1 x2 x3 x4 : Int32} : (coM τ n x1 x2 x3 x4).2 = τ.2 := by
  unfold coM
  rw [put_mo, put_mo, put_mo, put_mo, put_mo, put_mo, put_mo, put_mo, put_mo, put_mo, put_mo]
theorem coY_f {k : Nat} (hk : k < 20) {x1 x2 x3 x4 : Int32} {u j : Nat} (hu : u < 11) : FY (coY σ (nI k) x1 x2 x3 x4) j u = if j = k then (if u = 9 then 0 else if u = 6 then -5 else if u = 5 then -5 else if u = 4 then -5 else if u = 10 then 0 else if u = 8 then 0 else if u = 7 then -5 else if u = 3 then x4 else if u = 2 then x3 else if u = 1 then x2 else if u = 0 then x1 else FY σ j u) else FY σ j u := by
  unfold coY mX2_noteAfloat
  rw [fn9 hk hu, fn6 hk hu, fn5 hk hu, fn4 hk hu, fn10 hk hu, fn8 hk hu, fn7 hk hu, fn3 hk hu, fn2 hk hu, fn1 hk hu, fn0 hk hu]
  by_cases e : j = k
  · simp only [e, true_and, if_true]
  · simp only [e, false_and, if_false]
theorem coM_b {k : Nat} (hk : k < 20) {x1 x2 x3 x4 : Int32} {u j : Nat} (hu : u < 12) : ZB (M_z (coM τ (nI k) x1 x2 x3 x4)) j u = if j = k then (if u = 10 then 0 else if u = 9 then 0 else if u = 8 then 0 else if u = 7 then -5 else if u = 6 then -5 else if u = 5 then -5 else if u = 4 then x4 else if u = 3 then x3 else if u = 2 then x2 else if u = 1 then x1 else if u = 0 then 1 else ZB (M_z τ) j u) else ZB (M_z τ) j u := by
  unfold coM
  rw [zp10 hk hu, zp9 hk hu, zp8 hk hu, zp7 hk hu, zp6 hk hu, zp5 hk hu, zp4 hk hu, zp3 hk hu, zp2 hk hu, zp1 hk hu, zp0 hk hu]
  by_cases e : j = k
  · simp only [e, true_and, if_true]
  · simp only [e, false_and, if_false]
theorem coM_h {k : Nat} (hk : k < 20) {x1 x2 x3 x4 : Int32} {i : Nat} (hi : i < 15) : M_z (coM τ (nI k) x1 x2 x3 x4) i = M_z τ i := by
  unfold coM
  rw [zq10 hk hi, zq9 hk hi, zq8 hk hi, zq7 hk hi, zq6 hk hi, zq5 hk hi, zq4 hk hi, zq3 hk hi, zq2 hk hi, zq1 hk hi, zq0 hk hi]
theorem coY_o {n x1 x2 x3 x4 : Int32} : (coY σ n x1 x2 x3 x4).2 = σ.2 := rfl
theorem RH.facts {σ σ' : YS} {z : Nat → Int32} (h : RH σ z) (e : σ'.2 = σ.2) : RH σ' z := by
  obtain ⟨f, r⟩ := σ
  obtain ⟨f', r'⟩ := σ'
  have e : r' = r := e
  subst e
  exact h
theorem come_core (h : RelY σ (M_z τ) T) {k : Nat} (hk : k < 20) (hb : ¬ ZB (M_z τ) k 0 = 1) {x1 x2 x3 x4 : Int32} (g1 : 3 ≤ x1.toInt ∧ x1.toInt ≤ 20) (g2 : 5 ≤ x2.toInt ∧ x2.toInt ≤ 40) (g3 : 1 ≤ x3.toInt ∧ x3.toInt ≤ 30) (g4 : 0 ≤ x4.toInt ∧ x4.toInt ≤ 2) : RelY (coY σ (nI k) x1 x2 x3 x4) (M_z (coM τ (nI k) x1 x2 x3 x4)) T := by
  obtain ⟨t, ⟨t1, t2⟩, tP⟩ := h.2.1
  have hH : ∀ i, i < 15 → M_z (coM τ (nI k) x1 x2 x3 x4) i = M_z τ i := fun i hi => coM_h hk hi
  have oF : ∀ j, j < 20 → j ≠ k → ∀ w, w < 11 → FY (coY σ (nI k) x1 x2 x3 x4) j w = FY σ j w := fun j _ hj w hw => by rw [coY_f hk hw, if_neg hj]
  have oZ : ∀ j, j < 20 → j ≠ k → ∀ w, w < 12 → ZB (M_z (coM τ (nI k) x1 x2 x3 x4)) j w = ZB (M_z τ) j w := fun j _ hj w hw => by rw [coM_b hk hw, if_neg hj]
  have kF : ∀ u, u < 11 → FY (coY σ (nI k) x1 x2 x3 x4) k u = if u = 9 then 0 else if u = 6 then -5 else if u = 5 then -5 else if u = 4 then -5 else if u = 10 then 0 else if u = 8 then 0 else if u = 7 then -5 else if u = 3 then x4 else if u = 2 then x3 else if u = 1 then x2 else if u = 0 then x1 else FY σ k u := fun u hu => by rw [coY_f hk hu, if_pos rfl]
  have kZ : ∀ u, u < 12 → ZB (M_z (coM τ (nI k) x1 x2 x3 x4)) k u = if u = 10 then 0 else if u = 9 then 0 else if u = 8 then 0 else if u = 7 then -5 else if u = 6 then -5 else if u = 5 then -5 else if u = 4 then x4 else if u = 3 then x3 else if u = 2 then x2 else if u = 1 then x1 else if u = 0 then 1 else ZB (M_z τ) k u := fun u hu => by rw [coM_b hk hu, if_pos rfl]
  have ho := coY_o (σ := σ) (n := nI k) (x1 := x1) (x2 := x2) (x3 := x3) (x4 := x4)
  generalize M_z (coM τ (nI k) x1 x2 x3 x4) = z' at *
  generalize coY σ (nI k) x1 x2 x3 x4 = σ' at *
  refine rel_mk (k := k) (t' := t) h ((h.1.facts ho).congr (fun i hi _ => hH i hi)) (by rw [hH 0 (by decide)]; exact Int.le_refl _) ⟨by rw [hH 7 (by decide)]; exact t1, t2⟩ oF oZ (Or.inr ⟨kZ 0 (by decide), ?_, ?_, ?_⟩) ?_
  · unfold RE
    rw [kF 0 (by decide), kF 1 (by decide), kF 2 (by decide), kF 3 (by decide), kF 4 (by decide), kF 6 (by decide), kF 7 (by decide), kF 8 (by decide), kF 9 (by decide), kF 10 (by decide), kZ 1 (by decide), kZ 2 (by decide), kZ 3 (by decide), kZ 4 (by decide), kZ 5 (by decide), kZ 6 (by decide), kZ 7 (by decide), kZ 8 (by decide), kZ 9 (by decide), kZ 10 (by decide)]
    exact ⟨rfl, rfl, rfl, rfl, rfl, rfl, rfl, rfl, rfl, rfl⟩
  · unfold RG
    rw [kZ 1 (by decide), kZ 2 (by decide), kZ 3 (by decide), kZ 4 (by decide), kZ 7 (by decide), kZ 8 (by decide), kZ 9 (by decide), hH 0 (by decide)]
    exact ⟨g1, g2, g3, g4, Or.inl rfl, ⟨show (0 : Int) ≤ (0 : Int32).toInt by decide, show (0 : Int32).toInt ≤ (99 : Int) by decide⟩, show (0 : Int) ≤ (0 : Int32).toInt by decide, h.1.1.2.1⟩
  · unfold RS
    rw [kZ 5 (by decide), kZ 6 (by decide), kZ 9 (by decide), kF 5 (by decide)]
    exact Or.inl ⟨rfl, rfl, rfl, rfl⟩
  · refine tP.hide (k := k) (fun j hj hjk => oF j hj hjk 5 (by decide)) (fun j hj hjk => oZ j hj hjk 0 (by decide)) (fun j hj hjk => oZ j hj hjk 5 (by decide)) (fun j hj hjk => oZ j hj hjk 11 (by decide)) (CL.hid (fun c => hb c.1)) (fun c => ?_)
    rw [kZ 5 (by decide)] at c
    exact absurd (show (0 : Int) ≤ (-5 : Int32).toInt from c.2) (by decide)
theorem come_loop {x1 x2 x3 x4 : Int32} {k : Nat} (hk : k < 20) (hn : ¬ ZB (M_z τ) k 0 = 1) (hf : ∀ j, j < k → ZB (M_z τ) j 0 = 1) : ∀ c j f, j + c = k → mX4_come_L66 x1 x2 x3 x4 (c + 1 + f) τ (nI j) = (nI k, coM τ (nI k) x1 x2 x3 x4) := by
  intro c
  induction c with
  | zero =>
    intro j f hj
    have hj : j = k := by omega
    subst hj
    rw [show 0 + 1 + f = f + 1 by omega, mX4_come_L66, zo0 hk, if_neg hn]
    rfl
  | succ c ih =>
    intro j f hj
    rw [show c + 1 + 1 + f = (c + 1 + f) + 1 by omega, mX4_come_L66, zo0 (by omega), if_pos (hf j (by omega)), nI1]
    exact ih (j + 1) f (by omega)
theorem dir_come (hz : M_z (mX4_push_z τ) = M_z τ) (h : RelY σ (M_z τ) T) (x1 x2 x3 x4 : Int32) : Dir τ T (mX2_addBoat σ x1 x2 x3 x4) (mX4_come τ x1 x2 x3 x4) := by
  rw [show mX2_addBoat σ x1 x2 x3 x4 = (if (mX2_isKind x4) = 0 then ((-1), σ) else (if (mX3_within x1 3 20) = 0 then ((-2), σ) else (if (mX3_within x2 5 40) = 0 then ((-2), σ) else (if (mX3_within x3 1 30) = 0 then ((-2), σ) else (if (mX2_lowestFreeNumber σ) = (-5) then ((-3), σ) else ((mX2_lowestFreeNumber σ), coY σ (mX2_lowestFreeNumber σ) x1 x2 x3 x4)))))) from rfl]
  unfold mX4_come
  rw [show mX2_isKind x4 = mX4_isKind x4 from rfl, show mX3_within x1 3 20 = mX4_in x1 3 20 from rfl, show mX3_within x2 5 40 = mX4_in x2 5 40 from rfl, show mX3_within x3 1 30 = mX4_in x3 1 30 from rfl]
  by_cases c1 : mX4_isKind x4 = 0
  · rw [if_pos c1, if_pos c1]; exact dneg h (by decide)
  · rw [if_neg c1, if_neg c1]
    by_cases c2 : mX4_in x1 3 20 = 0
    · rw [if_pos c2, if_pos c2]; exact dneg h (by decide)
    · rw [if_neg c2, if_neg c2]
      by_cases c3 : mX4_in x2 5 40 = 0
      · rw [if_pos c3, if_pos c3]; exact dneg h (by decide)
      · rw [if_neg c3, if_neg c3]
        by_cases c4 : mX4_in x3 1 30 = 0
        · rw [if_pos c4, if_pos c4]; exact dneg h (by decide)
        · rw [if_neg c4, if_neg c4]
          have el : mX2_lowestFreeNumber σ = upf (fun b => ¬ ZB (M_z τ) b 0 = 1) nI (-5) 20 0 := lf_up h 20 0 1 (by omega)
          rcases has_first (fun b => ¬ ZB (M_z τ) b 0 = 1) 20 with hn | ⟨k, h1, h2, h3⟩
          · have e1 : upf (fun b => ¬ ZB (M_z τ) b 0 = 1) nI (-5) 20 0 = -5 := up_none (fun j _ hj => hn j (by omega))
            have e2 : mX4_boats τ = 20 := by
              rw [bo_ct h, ct_all (fun i hi => Classical.not_not.mp (hn i hi))]
              rfl
            rw [el, e1, if_pos rfl, e2, if_pos rfl]
            exact dneg h (by decide)
          · have e1 : upf (fun b => ¬ ZB (M_z τ) b 0 = 1) nI (-5) 20 0 = nI k := up_first (P := fun b => ¬ ZB (M_z τ) b 0 = 1) h2 (Nat.zero_le _) (by omega) (fun j _ hj => h3 j hj)
            have e2 : ¬ mX4_boats τ = 20 := by
              rw [bo_ct h]
              have l := ct_lt_all (p := fun i => ZB (M_z τ) i 0 = 1) h1 h2
              intro e
              have := congrArg Int32.toInt e
              rw [nI_ti (by omega)] at this
              have : ((ct (fun i => ZB (M_z τ) i 0 = 1) 20 : Nat) : Int) = 20 := this
              omega
            rw [el, e1, if_neg (m5_ne (ge0 (by omega))), if_neg e2]
            have hh : mX4_come_L66 x1 x2 x3 x4 22 (mX4_push_z τ) 0 = (nI k, coM (mX4_push_z τ) (nI k) x1 x2 x3 x4) := by
              have := come_loop (τ := mX4_push_z τ) (x1 := x1) (x2 := x2) (x3 := x3) (x4 := x4) h1 (by rw [hz]; exact h2) (fun j hj => by rw [hz]; exact Classical.not_not.mp (h3 j hj)) k 0 (21 - k) (by omega)
              rw [show k + 1 + (21 - k) = 22 by omega] at this
              exact this
            rw [hh]
            refine ⟨rfl, Or.inr ⟨ge0 (by omega), coM_mo, ?_⟩⟩
            obtain ⟨q, hq, e4⟩ := kind_get c1
            exact (come_core (τ := mX4_push_z τ) (by rw [hz]; exact h) h1 (by rw [hz]; exact h2) (rng_get c2) (rng_get c3) (rng_get c4) (by rw [e4, nI_ti (by omega)]; omega)).up (Nat.le_succ T)
theorem fg_loop {k : Nat} (hk : k < 20) : ∀ c i (σ : YS), i + c = 11 → (∀ j u, u < 11 → FY (mX2_forget_L2 (nI k) (c + 2) σ (nI i)) j u = if j = k ∧ i ≤ u then -5 else FY σ j u) ∧ (mX2_forget_L2 (nI k) (c + 2) σ (nI i)).2 = σ.2 := by
  intro c
  induction c with
  | zero =>
    intro i σ hi
    have hi : i = 11 := by omega
    subst hi
    have e : (11 : Int32) ≤ nI 11 := nI_le (a := 11) (Nat.le_refl 11) (by decide)
    rw [mX2_forget_L2, if_pos e]
    exact ⟨fun j u hu => by rw [if_neg (fun c => by omega)], rfl⟩
  | succ c ih =>
    intro i σ hi
    have e : ¬ (11 : Int32) ≤ nI i := nI_ge (b := 11) (by omega) (by decide)
    obtain ⟨i1, i2⟩ := ih (i + 1) (mX2_note σ (nI k) (nI i) (-5)) (by omega)
    rw [show c + 1 + 2 = (c + 2) + 1 by omega, mX2_forget_L2, if_neg e, nI1]
    refine ⟨fun j u hu => ?_, i2.trans rfl⟩
    rw [i1 j u hu, FY_note hk (by omega) hu]
    by_cases a : j = k ∧ i ≤ u
    · rw [if_pos a]
      by_cases b : u = i
      · rw [if_neg (fun c => by omega), if_pos ⟨a.1, b⟩]
      · rw [if_pos ⟨a.1, by omega⟩]
    · rw [if_neg a, if_neg (fun c => a ⟨c.1, by omega⟩), if_neg (fun c => a ⟨c.1, by omega⟩)]
theorem fg_f {k : Nat} (hk : k < 20) {j u : Nat} (hu : u < 11) : FY (mX2_forget σ (nI k)) j u = if j = k then -5 else FY σ j u := by
  have := (fg_loop hk 11 0 σ (by omega)).1 j u hu
  refine Eq.trans (show FY (mX2_forget σ (nI k)) j u = FY (mX2_forget_L2 (nI k) (11 + 2) σ (nI 0)) j u from rfl) (this.trans ?_)
  by_cases e : j = k
  · rw [if_pos e, if_pos ⟨e, Nat.zero_le _⟩]
  · rw [if_neg e, if_neg (fun c => e c.1)]
theorem fg_o {k : Nat} (hk : k < 20) : (mX2_forget σ (nI k)).2 = σ.2 := (fg_loop hk 11 0 σ (by omega)).2
theorem go_core (h : RelY σ (M_z τ) T) {k : Nat} (hk : k < 20) (h5 : ZB (M_z τ) k 5 = -5) : RelY (mX2_forget σ (nI k)) (M_z (mX4_put τ (nI k) 0 0)) T := by
  obtain ⟨t, ⟨t1, t2⟩, tP⟩ := h.2.1
  have oF : ∀ j, j < 20 → j ≠ k → ∀ w, w < 11 → FY (mX2_forget σ (nI k)) j w = FY σ j w := fun j _ hj w hw => by rw [fg_f hk hw, if_neg hj]
  have oZ : ∀ j, j < 20 → j ≠ k → ∀ w, w < 12 → ZB (M_z (mX4_put τ (nI k) 0 0)) j w = ZB (M_z τ) j w := fun j _ hj w hw => by rw [zp0 hk hw, if_neg (fun c => hj c.1)]
  have z0 : ZB (M_z (mX4_put τ (nI k) 0 0)) k 0 = 0 := by rw [zp0 hk (by decide), if_pos ⟨rfl, rfl⟩]
  have kF : ∀ w, w < 11 → FY (mX2_forget σ (nI k)) k w = -5 := fun w hw => by rw [fg_f hk hw, if_pos rfl]
  refine rel_mk (k := k) (t' := t) h ((h.1.facts (fg_o hk)).congr (fun i hi _ => zq0 hk hi 0)) (by rw [zq0 hk (by decide)]; exact Int.le_refl _) ⟨by rw [zq0 hk (by decide)]; exact t1, t2⟩ oF oZ (Or.inl ⟨z0, kF 0 (by decide), kF 4 (by decide), kF 6 (by decide), kF 7 (by decide), kF 8 (by decide)⟩) ?_
  refine tP.hide (k := k) (fun j hj hjk => oF j hj hjk 5 (by decide)) (fun j hj hjk => oZ j hj hjk 0 (by decide)) (fun j hj hjk => oZ j hj hjk 5 (by decide)) (fun j hj hjk => oZ j hj hjk 11 (by decide)) (CL.hid (fun c => ?_)) (fun c => ?_)
  · rw [h5] at c; exact absurd c.2 (by decide)
  · rw [z0] at c; exact absurd c.1 (by decide)
theorem dir_go (hz : M_z (mX4_push_z τ) = M_z τ) (h : RelY σ (M_z τ) T) (x1 : Int32) : Dir τ T (mX2_removeBoat σ x1) (mX4_goAway τ x1) := by
  unfold mX2_removeBoat mX4_goAway
  rw [kn_eq h]
  by_cases c1 : mX4_isBoat τ x1 = 0
  · rw [if_pos c1, if_pos c1]; exact dneg h (by decide)
  · rw [if_neg c1, if_neg c1]
    obtain ⟨k, hk, rfl, hb⟩ := kn_get c1
    rw [as_eq h hk hb, hm_eq h hk hb, zo7 hk]
    have g7 := (h.p hk hb).2.1.2.2.2.2.1
    by_cases c2 : mX4_isAshore τ (nI k) = 0
    · rw [if_pos c2, if_pos c2]
      by_cases c3 : ZB (M_z τ) k 7 = -5
      · rw [if_pos c3, if_neg one_ne, if_pos (by rw [c3]; decide)]
        have hR := go_core (τ := mX4_push_z τ) (by rw [hz]; exact h) hk (by rw [hz]; exact (z5_af h hk hb c2).1)
        exact ⟨bo_eq hR, Or.inr ⟨by show 0 ≤ (mX2_boats _).toInt; rw [bo_eq hR]; exact bo_ge hR, put_mo, hR.up (Nat.le_succ T)⟩⟩
      · rw [if_neg c3, if_pos rfl, if_neg (by rcases g7 with q | q | q; exact absurd q c3; rw [q]; decide; rw [q]; decide)]
        exact dneg h (by decide)
    · rw [if_neg c2, if_neg c2]; exact dneg h (by decide)
end COME
