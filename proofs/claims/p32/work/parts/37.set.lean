/-! what the acts of the class answer and leave: the yard's own -/
theorem a_come {ω : WS} {x1 x2 x3 x4 : Int32} : (mX3_come ω x1 x2 x3 x4).1 = (mX2_addBoat (W_yard ω) x1 x2 x3 x4).1 := set_1
theorem w_come {ω : WS} {x1 x2 x3 x4 : Int32} : W_yard (mX3_come ω x1 x2 x3 x4).2 = (mX2_addBoat (W_yard ω) x1 x2 x3 x4).2 := rfl
theorem e_come {ω : WS} {x1 x2 x3 x4 e : Int32} {Y : YS} (h : mX2_addBoat (W_yard ω) x1 x2 x3 x4 = (e, Y)) : (mX3_come ω x1 x2 x3 x4).1 = e ∧ W_yard (mX3_come ω x1 x2 x3 x4).2 = Y := ⟨a_come.trans (congrArg Prod.fst h), w_come.trans (congrArg Prod.snd h)⟩
theorem a_goAway {ω : WS} {x1 : Int32} : (mX3_goAway ω x1).1 = (mX2_removeBoat (W_yard ω) x1).1 := set_1
theorem w_goAway {ω : WS} {x1 : Int32} : W_yard (mX3_goAway ω x1).2 = (mX2_removeBoat (W_yard ω) x1).2 := rfl
theorem e_goAway {ω : WS} {x1 e : Int32} {Y : YS} (h : mX2_removeBoat (W_yard ω) x1 = (e, Y)) : (mX3_goAway ω x1).1 = e ∧ W_yard (mX3_goAway ω x1).2 = Y := ⟨a_goAway.trans (congrArg Prod.fst h), w_goAway.trans (congrArg Prod.snd h)⟩
theorem a_setCradles {ω : WS} {x1 x2 : Int32} : (mX3_setCradles ω x1 x2).1 = (mX2_changeCradles (W_yard ω) x1 x2).1 := set_1
theorem w_setCradles {ω : WS} {x1 x2 : Int32} : W_yard (mX3_setCradles ω x1 x2).2 = (mX2_changeCradles (W_yard ω) x1 x2).2 := rfl
theorem e_setCradles {ω : WS} {x1 x2 e : Int32} {Y : YS} (h : mX2_changeCradles (W_yard ω) x1 x2 = (e, Y)) : (mX3_setCradles ω x1 x2).1 = e ∧ W_yard (mX3_setCradles ω x1 x2).2 = Y := ⟨a_setCradles.trans (congrArg Prod.fst h), w_setCradles.trans (congrArg Prod.snd h)⟩
theorem a_setRow {ω : WS} {x1 x2 : Int32} : (mX3_setRow ω x1 x2).1 = (mX2_changeRow (W_yard ω) x1 x2).1 := set_1
theorem w_setRow {ω : WS} {x1 x2 : Int32} : W_yard (mX3_setRow ω x1 x2).2 = (mX2_changeRow (W_yard ω) x1 x2).2 := rfl
theorem e_setRow {ω : WS} {x1 x2 e : Int32} {Y : YS} (h : mX2_changeRow (W_yard ω) x1 x2 = (e, Y)) : (mX3_setRow ω x1 x2).1 = e ∧ W_yard (mX3_setRow ω x1 x2).2 = Y := ⟨a_setRow.trans (congrArg Prod.fst h), w_setRow.trans (congrArg Prod.snd h)⟩
theorem a_set {ω : WS} {x1 x2 : Int32} : (mX3_set ω x1 x2).1 = (mX2_changeSetting (W_yard ω) x1 x2).1 := set_1
theorem w_set {ω : WS} {x1 x2 : Int32} : W_yard (mX3_set ω x1 x2).2 = (mX2_changeSetting (W_yard ω) x1 x2).2 := rfl
theorem e_set {ω : WS} {x1 x2 e : Int32} {Y : YS} (h : mX2_changeSetting (W_yard ω) x1 x2 = (e, Y)) : (mX3_set ω x1 x2).1 = e ∧ W_yard (mX3_set ω x1 x2).2 = Y := ⟨a_set.trans (congrArg Prod.fst h), w_set.trans (congrArg Prod.snd h)⟩
theorem a_lift {ω : WS} {x1 x2 : Int32} : (mX3_lift ω x1 x2).1 = (mX2_liftInto (W_yard ω) x1 x2).1 := set_1
theorem w_lift {ω : WS} {x1 x2 : Int32} : W_yard (mX3_lift ω x1 x2).2 = (mX2_liftInto (W_yard ω) x1 x2).2 := rfl
theorem e_lift {ω : WS} {x1 x2 e : Int32} {Y : YS} (h : mX2_liftInto (W_yard ω) x1 x2 = (e, Y)) : (mX3_lift ω x1 x2).1 = e ∧ W_yard (mX3_lift ω x1 x2).2 = Y := ⟨a_lift.trans (congrArg Prod.fst h), w_lift.trans (congrArg Prod.snd h)⟩
theorem a_launch {ω : WS} {x1 : Int32} : (mX3_launch ω x1).1 = (mX2_putAfloat (W_yard ω) x1).1 := set_1
theorem w_launch {ω : WS} {x1 : Int32} : W_yard (mX3_launch ω x1).2 = (mX2_putAfloat (W_yard ω) x1).2 := rfl
theorem e_launch {ω : WS} {x1 e : Int32} {Y : YS} (h : mX2_putAfloat (W_yard ω) x1 = (e, Y)) : (mX3_launch ω x1).1 = e ∧ W_yard (mX3_launch ω x1).2 = Y := ⟨a_launch.trans (congrArg Prod.fst h), w_launch.trans (congrArg Prod.snd h)⟩
theorem a_move {ω : WS} {x1 x2 : Int32} : (mX3_move ω x1 x2).1 = (mX2_moveTo (W_yard ω) x1 x2).1 := set_1
theorem w_move {ω : WS} {x1 x2 : Int32} : W_yard (mX3_move ω x1 x2).2 = (mX2_moveTo (W_yard ω) x1 x2).2 := rfl
theorem e_move {ω : WS} {x1 x2 e : Int32} {Y : YS} (h : mX2_moveTo (W_yard ω) x1 x2 = (e, Y)) : (mX3_move ω x1 x2).1 = e ∧ W_yard (mX3_move ω x1 x2).2 = Y := ⟨a_move.trans (congrArg Prod.fst h), w_move.trans (congrArg Prod.snd h)⟩
theorem a_work {ω : WS} {x1 x2 : Int32} : (mX3_work ω x1 x2).1 = (mX2_orderWork (W_yard ω) x1 x2).1 := set_1
theorem w_work {ω : WS} {x1 x2 : Int32} : W_yard (mX3_work ω x1 x2).2 = (mX2_orderWork (W_yard ω) x1 x2).2 := rfl
theorem e_work {ω : WS} {x1 x2 e : Int32} {Y : YS} (h : mX2_orderWork (W_yard ω) x1 x2 = (e, Y)) : (mX3_work ω x1 x2).1 = e ∧ W_yard (mX3_work ω x1 x2).2 = Y := ⟨a_work.trans (congrArg Prod.fst h), w_work.trans (congrArg Prod.snd h)⟩
theorem a_pass {ω : WS} {x1 : Int32} : (mX3_pass ω x1).1 = (mX2_letPass (W_yard ω) x1).1 := set_1
theorem w_pass {ω : WS} {x1 : Int32} : W_yard (mX3_pass ω x1).2 = (mX2_letPass (W_yard ω) x1).2 := rfl
theorem e_pass {ω : WS} {x1 e : Int32} {Y : YS} (h : mX2_letPass (W_yard ω) x1 = (e, Y)) : (mX3_pass ω x1).1 = e ∧ W_yard (mX3_pass ω x1).2 = Y := ⟨a_pass.trans (congrArg Prod.fst h), w_pass.trans (congrArg Prod.snd h)⟩
theorem e_mast0 {ω : WS} {x1 x2 e : Int32} {Y : YS} (h0 : x2 = 0) (h : mX2_takeMastOff (W_yard ω) x1 = (e, Y)) : (mX3_mast ω x1 x2).1 = e ∧ W_yard (mX3_mast ω x1 x2).2 = Y := by
  unfold mX3_mast
  rw [if_pos h0]
  exact ⟨set_1.trans (congrArg Prod.fst h), congrArg Prod.snd h⟩
theorem e_mast1 {ω : WS} {x1 x2 e : Int32} {Y : YS} (h0 : ¬ x2 = 0) (h : mX2_putMastUp (W_yard ω) x1 = (e, Y)) : (mX3_mast ω x1 x2).1 = e ∧ W_yard (mX3_mast ω x1 x2).2 = Y := by
  unfold mX3_mast
  rw [if_neg h0]
  exact ⟨set_1.trans (congrArg Prod.fst h), congrArg Prod.snd h⟩
theorem low_nI {x k : Int32} {m : Nat} (hk : k.toInt = m) (h0 : 0 < m) (hm : m < 1000) : ∃ j, j < m ∧ mL_low x k = nI j := vp_in_of (in_low hk h0) (by omega)
theorem rl_up {Y : YS} {γ : LAS} {T : Nat} {n : Nat → Nat} {q : Nat → Nat → Nat} (h : RelQ Y γ T n q) (hT : T < 100) : RelQ Y γ (T + 1) n q := by
  obtain ⟨⟨⟨a1, a2, a3⟩, ⟨b1, b2, b3⟩, c⟩, h2, h3, h4⟩ := h
  exact ⟨⟨⟨a1, a2, by omega⟩, ⟨b1, b2, by omega⟩, c⟩, h2, h3, by omega⟩
section ONE
variable {Y Y' : YS} {γ γ' : LAS} {T : Nat} {n : Nat → Nat} {q : Nat → Nat → Nat}
theorem QG.one (h : QG Y γ T) {m : Nat} {v : Int32} (hg : ∀ i, L_g γ' i = if i = m then v else L_g γ i) (hm : m ≠ 0 ∧ m ≠ 1 ∧ m ≠ 5 ∧ m ≠ 6) (y : Y_day Y' = Y_day Y ∧ Y_liftsToday Y' = Y_liftsToday Y ∧ Y_lifts Y' = Y_lifts Y ∧ Y_launches Y' = Y_launches Y)
    (s : (∀ j, j < 3 → Y_settings Y' j = L_g γ' (2 + j)) ∧ (0 ≤ (L_g γ' 2).toInt ∧ (L_g γ' 2).toInt ≤ 9) ∧ (1 ≤ (L_g γ' 3).toInt ∧ (L_g γ' 3).toInt ≤ 9) ∧ (1 ≤ (L_g γ' 4).toInt ∧ (L_g γ' 4).toInt ≤ 30))
    (c : ∀ j, j < 3 → Y_cradles Y' j = L_g γ' (7 + j) ∧ 0 ≤ (L_g γ' (7 + j)).toInt ∧ (L_g γ' (7 + j)).toInt ≤ 9) (e : ∀ j, j < 4 → Y_metres Y' j = L_g γ' (10 + j) ∧ 10 ≤ (L_g γ' (10 + j)).toInt ∧ (L_g γ' (10 + j)).toInt ≤ 60) : QG Y' γ' T := by
  obtain ⟨⟨a1, a2, a3⟩, ⟨b1, b2, b3⟩, ⟨c1, c2⟩, _⟩ := h
  unfold QG
  rw [hg 0, if_neg (fun z => hm.1 z.symm), hg 1, if_neg (fun z => hm.2.1 z.symm), hg 5, if_neg (fun z => hm.2.2.1 z.symm), hg 6, if_neg (fun z => hm.2.2.2 z.symm)]
  exact ⟨⟨y.1.trans a1, a2, a3⟩, ⟨y.2.1.trans b1, b2, b3⟩, ⟨y.2.2.1.trans c1, y.2.2.2.trans c2⟩, s, c, e⟩
theorem qs_of (h : QG Y γ T) {m : Nat} {v : Int32} (hg : ∀ i, L_g γ' i = if i = m then v else L_g γ i) (hm : 5 ≤ m) (y : Y_settings Y' = Y_settings Y) : (∀ j, j < 3 → Y_settings Y' j = L_g γ' (2 + j)) ∧ (0 ≤ (L_g γ' 2).toInt ∧ (L_g γ' 2).toInt ≤ 9) ∧ (1 ≤ (L_g γ' 3).toInt ∧ (L_g γ' 3).toInt ≤ 9) ∧ (1 ≤ (L_g γ' 4).toInt ∧ (L_g γ' 4).toInt ≤ 30) := by
  obtain ⟨_, _, _, ⟨d1, d2, d3, d4⟩, _⟩ := h
  rw [hg 2, if_neg (by omega), hg 3, if_neg (by omega), hg 4, if_neg (by omega), y]
  exact ⟨fun j hj => by rw [hg, if_neg (by omega)]; exact d1 j hj, d2, d3, d4⟩
theorem qc_of (h : QG Y γ T) {m : Nat} {v : Int32} (hg : ∀ i, L_g γ' i = if i = m then v else L_g γ i) (hm : m < 7 ∨ 10 ≤ m) (y : Y_cradles Y' = Y_cradles Y) : ∀ j, j < 3 → Y_cradles Y' j = L_g γ' (7 + j) ∧ 0 ≤ (L_g γ' (7 + j)).toInt ∧ (L_g γ' (7 + j)).toInt ≤ 9 := by
  intro j hj
  rw [hg, if_neg (by omega), y]
  exact h.2.2.2.2.1 j hj
theorem qm_of (h : QG Y γ T) {m : Nat} {v : Int32} (hg : ∀ i, L_g γ' i = if i = m then v else L_g γ i) (hm : m < 10) (y : Y_metres Y' = Y_metres Y) : ∀ j, j < 4 → Y_metres Y' j = L_g γ' (10 + j) ∧ 10 ≤ (L_g γ' (10 + j)).toInt ∧ (L_g γ' (10 + j)).toInt ≤ 60 := by
  intro j hj
  rw [hg, if_neg (by omega), y]
  exact h.2.2.2.2.2 j hj
theorem wi_ne {x lo hi : Int32} (h1 : lo.toInt ≤ x.toInt) (h2 : x.toInt ≤ hi.toInt) : ¬ mX3_within x lo hi = 0 := by
  unfold mX3_within
  rw [if_neg (by rw [lt_ti]; omega), if_neg (by rw [lt_ti]; omega)]
  decide
end ONE
section SETS
variable {σ : VS} {T : Nat} {n : Nat → Nat} {q : Nat → Nat → Nat}
theorem upd_at {f : Nat → Int32} {m : Nat} {v : Int32} (i : Nat) : upd f m v i = if i = m then v else f i := rfl
/-- one of the settings -/
theorem set_rel (h : RelQ (W_yard σ.1) σ.2 T n q) {c : Nat} (hc : c < 3) {v : Int32} (hv : (tvL c).toInt ≤ v.toInt ∧ v.toInt ≤ (tvG c).toInt) : ∃ Y', mX2_changeSetting (W_yard σ.1) (nI c) v = ((if v = L_g σ.2 (2 + c) then (-5) else L_g σ.2 (2 + c) : Int32), Y') ∧ RelQ Y' (upd (L_g σ.2) (2 + c) v, L_b σ.2, L_t σ.2, L_r σ.2) T n q := by
  have hs := h.1.2.2.2.1.1 c hc
  unfold mX2_changeSetting
  rw [if_neg (ne_X2_isSetting (vp_in_nI hc (by decide))), ixs (by omega), if_neg (wi_ne hv.1 hv.2), hs]
  have hg : ∀ i, L_g ((upd (L_g σ.2) (2 + c) v, L_b σ.2, L_t σ.2, L_r σ.2) : LAS) i = if i = 2 + c then v else L_g σ.2 i := fun i => rfl
  have key : ∀ Y', Y'.2.2.2.2 = (W_yard σ.1).2.2.2.2 → Y'.1 = (W_yard σ.1).1 → Y'.2.1 = (W_yard σ.1).2.1 → Y'.2.2.1 = (W_yard σ.1).2.2.1 → (∀ j, j < 3 → Y_settings Y' j = if j = c then v else Y_settings (W_yard σ.1) j) → RelQ Y' (upd (L_g σ.2) (2 + c) v, L_b σ.2, L_t σ.2, L_r σ.2) T n q := by
    intro Y' y1 y2 y3 y4 y5
    have yF : FY Y' = FY (W_yard σ.1) := by
      funext k w
      show Y'.1 _ = (W_yard σ.1).1 _
      rw [y2]
    refine ⟨h.1.one hg (by omega) ⟨congrArg (·.1) y1, congrArg (·.2.1) y1, congrArg (·.2.2.1) y1, congrArg (·.2.2.2) y1⟩ ⟨fun j hj => ?_, ?_⟩ (qc_of h.1 hg (by omega) y3) (qm_of h.1 hg (by omega) y4), h.2.1, ?_, h.2.2.2⟩
    · rw [y5 j hj, hg]
      by_cases e : j = c
      · rw [if_pos e, if_pos (by omega)]
      · rw [if_neg e, if_neg (by omega)]; exact h.1.2.2.2.1.1 j hj
    · obtain ⟨_, d2, d3, d4⟩ := h.1.2.2.2.1
      have hc3 : c = 0 ∨ c = 1 ∨ c = 2 := by omega
      rw [hg 2, hg 3, hg 4]
      rcases hc3 with rfl | rfl | rfl
      · rw [if_pos (by decide), if_neg (by decide), if_neg (by decide)]; exact ⟨hv, d3, d4⟩
      · rw [if_neg (by decide), if_pos (by decide), if_neg (by decide)]; exact ⟨d2, hv, d4⟩
      · rw [if_neg (by decide), if_neg (by decide), if_pos (by decide)]; exact ⟨d2, d3, hv⟩
    · rw [yF]; exact h.2.2.1
  by_cases e : L_g σ.2 (2 + c) = v
  · rw [if_pos e, if_pos e.symm]
    refine ⟨_, rfl, key _ rfl rfl rfl rfl (fun j hj => ?_)⟩
    by_cases z : j = c
    · rw [if_pos z, z, hs, e]
    · rw [if_neg z]
  · rw [if_neg e, if_neg (fun z => e z.symm)]
    exact ⟨_, rfl, key _ rfl rfl rfl rfl (fun j hj => rfl)⟩
theorem cra_rel (h : RelQ (W_yard σ.1) σ.2 T n q) {c : Nat} (hc : c < 3) {v : Int32} (hv : 0 ≤ v.toInt ∧ v.toInt ≤ 9) (ht : mL_taken σ.2 (nI c) ≤ v) : ∃ Y', mX2_changeCradles (W_yard σ.1) (nI c) v = ((if v = L_g σ.2 (7 + c) then (-5) else L_g σ.2 (7 + c) : Int32), Y') ∧ RelQ Y' (upd (L_g σ.2) (7 + c) v, L_b σ.2, L_t σ.2, L_r σ.2) T n q := by
  have hs := (h.1.2.2.2.2.1 c hc).1
  unfold mX2_changeCradles mX2_cradlesTaken
  rw [if_neg (iskind hc), ixs (by omega), if_neg (wi_ne (lo := 0) (hi := 9) hv.1 hv.2), hs, rd_taken h.2.2.1 hc, if_pos ht]
  have hg : ∀ i, L_g ((upd (L_g σ.2) (7 + c) v, L_b σ.2, L_t σ.2, L_r σ.2) : LAS) i = if i = 7 + c then v else L_g σ.2 i := fun i => rfl
  have key : ∀ Y', Y'.2.2.2 = (W_yard σ.1).2.2.2 → Y'.1 = (W_yard σ.1).1 → Y'.2.2.1 = (W_yard σ.1).2.2.1 → (∀ j, j < 3 → Y_cradles Y' j = if j = c then v else Y_cradles (W_yard σ.1) j) → RelQ Y' (upd (L_g σ.2) (7 + c) v, L_b σ.2, L_t σ.2, L_r σ.2) T n q := by
    intro Y' y1 y2 y4 y5
    have yF : FY Y' = FY (W_yard σ.1) := by
      funext k w
      show Y'.1 _ = (W_yard σ.1).1 _
      rw [y2]
    refine ⟨h.1.one hg (by omega) ⟨congrArg (·.2.1) y1, congrArg (·.2.2.1) y1, congrArg (·.2.2.2.1) y1, congrArg (·.2.2.2.2) y1⟩ (qs_of h.1 hg (by omega) (congrArg (·.1) y1)) (fun j hj => ?_) (qm_of h.1 hg (by omega) y4), h.2.1, ?_, h.2.2.2⟩
    · rw [y5 j hj, hg]
      by_cases e : j = c
      · rw [if_pos e, if_pos (by omega)]; exact ⟨rfl, hv⟩
      · rw [if_neg e, if_neg (by omega)]; exact h.1.2.2.2.2.1 j hj
    · rw [yF]; exact h.2.2.1
  by_cases e : L_g σ.2 (7 + c) = v
  · rw [if_pos e, if_pos e.symm]
    refine ⟨_, rfl, key _ rfl rfl rfl (fun j hj => ?_)⟩
    by_cases z : j = c
    · rw [if_pos z, z, hs, e]
    · rw [if_neg z]
  · rw [if_neg e, if_neg (fun z => e z.symm)]
    exact ⟨_, rfl, key _ rfl rfl rfl (fun j hj => rfl)⟩
theorem cra_no (h : RelQ (W_yard σ.1) σ.2 T n q) {c : Nat} (hc : c < 3) {v : Int32} (hv : 0 ≤ v.toInt ∧ v.toInt ≤ 9) (ht : ¬ mL_taken σ.2 (nI c) ≤ v) : mX2_changeCradles (W_yard σ.1) (nI c) v = (-4, W_yard σ.1) := by
  unfold mX2_changeCradles mX2_cradlesTaken
  rw [if_neg (iskind hc), if_neg (wi_ne (lo := 0) (hi := 9) hv.1 hv.2), rd_taken h.2.2.1 hc, if_neg ht]
theorem row_rel (h : RelQ (W_yard σ.1) σ.2 T n q) {c : Nat} (hc : c < 4) {v : Int32} (hv : 10 ≤ v.toInt ∧ v.toInt ≤ 60) (ht : mX2_metresTaken (W_yard σ.1) (nI c) ≤ v) : ∃ Y', mX2_changeRow (W_yard σ.1) (nI c) v = ((if v = L_g σ.2 (10 + c) then (-5) else L_g σ.2 (10 + c) : Int32), Y') ∧ RelQ Y' (upd (L_g σ.2) (10 + c) v, L_b σ.2, L_t σ.2, L_r σ.2) T n q := by
  have hs := (h.1.2.2.2.2.2 c hc).1
  unfold mX2_changeRow
  rw [if_neg (isrow hc), ixs (by omega), if_neg (wi_ne (lo := 10) (hi := 60) hv.1 hv.2), hs, if_pos ht]
  have hg : ∀ i, L_g ((upd (L_g σ.2) (10 + c) v, L_b σ.2, L_t σ.2, L_r σ.2) : LAS) i = if i = 10 + c then v else L_g σ.2 i := fun i => rfl
  have key : ∀ Y', Y'.2.2.2 = (W_yard σ.1).2.2.2 → Y'.1 = (W_yard σ.1).1 → Y'.2.1 = (W_yard σ.1).2.1 → (∀ j, j < 4 → Y_metres Y' j = if j = c then v else Y_metres (W_yard σ.1) j) → RelQ Y' (upd (L_g σ.2) (10 + c) v, L_b σ.2, L_t σ.2, L_r σ.2) T n q := by
    intro Y' y1 y2 y4 y5
    have yF : FY Y' = FY (W_yard σ.1) := by
      funext k w
      show Y'.1 _ = (W_yard σ.1).1 _
      rw [y2]
    refine ⟨h.1.one hg (by omega) ⟨congrArg (·.2.1) y1, congrArg (·.2.2.1) y1, congrArg (·.2.2.2.1) y1, congrArg (·.2.2.2.2) y1⟩ (qs_of h.1 hg (by omega) (congrArg (·.1) y1)) (qc_of h.1 hg (by omega) y4) (fun j hj => ?_), h.2.1, ?_, h.2.2.2⟩
    · rw [y5 j hj, hg]
      by_cases e : j = c
      · rw [if_pos e, if_pos (by omega)]; exact ⟨rfl, hv⟩
      · rw [if_neg e, if_neg (by omega)]; exact h.1.2.2.2.2.2 j hj
    · rw [yF]; exact h.2.2.1
  by_cases e : L_g σ.2 (10 + c) = v
  · rw [if_pos e, if_pos e.symm]
    refine ⟨_, rfl, key _ rfl rfl rfl (fun j hj => ?_)⟩
    by_cases z : j = c
    · rw [if_pos z, z, hs, e]
    · rw [if_neg z]
  · rw [if_neg e, if_neg (fun z => e z.symm)]
    exact ⟨_, rfl, key _ rfl rfl rfl (fun j hj => rfl)⟩
theorem row_no {Y : YS} {c : Nat} (hc : c < 4) {v : Int32} (hv : 10 ≤ v.toInt ∧ v.toInt ≤ 60) (ht : ¬ mX2_metresTaken Y (nI c) ≤ v) : mX2_changeRow Y (nI c) v = (-4, Y) := by
  unfold mX2_changeRow
  rw [if_neg (isrow hc), if_neg (wi_ne (lo := 10) (hi := 60) hv.1 hv.2), if_neg ht]
theorem sm_rng {v : Nat → Int32} {m : Nat} (hm : m ≤ 6) (h : ∀ j, j < m → 0 ≤ (v j).toInt ∧ (v j).toInt ≤ 21) : 0 ≤ (sm v m).toInt ∧ (sm v m).toInt ≤ 21 * (m : Int) := by
  induction m with
  | zero =>
    show 0 ≤ (0 : Int32).toInt ∧ (0 : Int32).toInt ≤ 21 * ((0 : Nat) : Int)
    decide
  | succ m ih =>
    obtain ⟨i1, i2⟩ := ih (by omega) (fun j hj => h j (by omega))
    have a := h m (by omega)
    show 0 ≤ (sm v m + v m).toInt ∧ (sm v m + v m).toInt ≤ _
    rw [ti_add (by omega) (by omega)]
    omega
theorem row_iff (h : RelQ (W_yard σ.1) σ.2 T n q) {c : Nat} (hc : c < 4) {v : Int32} (hv : 10 ≤ v.toInt ∧ v.toInt ≤ 60) : 0 ≤ ((mL_room σ.2 (nI c)) - L_g σ.2 (10 + c)) + v ↔ mX2_metresTaken (W_yard σ.1) (nI c) ≤ v := by
  have hn := (h.2.1 c hc).1
  have hr := sm_rng (v := fun j => BB (L_b σ.2) (q c j) 1 + 1) hn (fun j hj => by
    obtain ⟨h1, h2, h3, h4⟩ := h.2.2.1.2.2.1 c hc j hj
    obtain ⟨pE, pV, pM, pS⟩ := rq_p h h1 (by rw [h2]; exact one0)
    have e : (BB (L_b σ.2) (q c j) 1 + 1).toInt = (BB (L_b σ.2) (q c j) 1).toInt + 1 := up_add (d := 1) (k := 1) (M := 100) rfl (by have := pV.1.1; omega) (by have := pV.1.2; omega) (by decide) (by decide)
    show 0 ≤ (BB (L_b σ.2) (q c j) 1 + 1).toInt ∧ (BB (L_b σ.2) (q c j) 1 + 1).toInt ≤ 21
    rw [e]
    have := pV.1.1
    have := pV.1.2
    omega)
  rw [rd_room h.2.1 h.2.2.1 hc, rd_mt h.2.1 h.2.2.1 hc]
  generalize sm (fun j => BB (L_b σ.2) (q c j) 1 + 1) (n c) = s at *
  have e : (L_g σ.2 (10 + c) - s - L_g σ.2 (10 + c)) + v = v - s := by grind
  have e0 : (0 : Int32).toInt = 0 := rfl
  rw [e, le_ti, le_ti, ti_sub (by omega) (by omega)]
  omega
end SETS
