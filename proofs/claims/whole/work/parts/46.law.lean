/-! THE CLAIM OUT OF ONE WALK OF THE LAW'S BODY: the skeleton's rows (a starting text), and the law's walk -/
def R_law : String := "WinterYardLaw"
def lw_P (b : Addr) (xs : List Int32) (args : Array Value) (s : State) : Prop := args = #[.ref b] ∧ s.IntsAt b xs ∧ xs.length ≤ 2560 ∧ (Jvm.Cond.and given_1 narrow_1).before args s = true
def lw_Q (_ : Array Value) (s : State) (o : Outcome) (t : State) : Prop := o = .returned (some (.int 1)) ∧ Framed s o t [] 600000 7302250
def lw_Z (below : List Frame) (a : Array Value) (s : State) : State → Prop := fun t => ∃ o, t.status = .running ∧ Ended t below o ∧ lw_Q a s o t
/-- the law's own end, with 1 on the stack, nothing written that was there before, its room as the claim has it -/
theorem lw_ret {p : Program} {l : Launch} {e : Env} {s : State} {m : MethodId} {below : List Frame} {meth : Method} {c : Code} {b : Nat} (hx : p.tables.exec = Jvm.exec) (hb : c.code = code) (hr : meth.sig.returnType = ret) (hlocks : meth.locks = false) {pc : Nat} {H : Heap} {ls : Array Slot} (hdg : decode code pc = .ok (.ireturn, 1)) : W p l e room_1 s m #[Value.ref b] below meth c H [] 600000 7302250 (lw_Z below #[Value.ref b] s) (F0 m pc ls [.int 1]) := by
  intro T hT X
  obtain ⟨fs, hret, hrun, hended, hW, hframe⟩ := X.leave (v := some (.int 1)) (hlocks := hlocks) (fun h => by rw [hr] at h; cases h)
  have hmeth' : T.vm.method? m = some meth := X.method'
  refine ⟨T.setFrames fs, ?_, .returned (some (.int 1)), hrun, hended, rfl, ⟨_, rfl⟩, hW, hframe⟩
  jvm_step X.here [X.here.top, hx, hb, hdg, hmeth', hr, ret, narrow_b1]
  (try refine ⟨rfl, ?_⟩); (try refine ⟨rfl, ?_⟩)
  first | (intro acts; rw [hret _ acts rfl rfl rfl]) | rw [hret _ _ rfl rfl rfl]
  exact Steps.refl _
/-- what holds at the law's entry: the machine, the code, the tables' words (any of lw_tbl by 'hts w (by decide +kernel)'), the script of L ints xs at the cell b, what the Statement gives of the start (any of its parts by flat_of_before) -/
def lw_At (p : Program) (s : State) (m : MethodId) (meth : Method) (c : Code) (b L : Nat) (xs : Nat → Int32) : Prop :=
  p.tables.exec = Jvm.exec ∧ c.code = code ∧ meth.sig.returnType = ret ∧ c.maxLocals = 4 ∧ s.vm.findClass R_law = some m.cls ∧ (∀ w ∈ lw_tbl, w.before #[Value.ref b] s = true) ∧ va_X b L xs s s.heap ∧ b < s.heap.size ∧ meth.locks = false ∧ (Jvm.Cond.and given_1 narrow_1).before #[Value.ref b] s = true

/-- the tables, as the worlds want them -/
theorem lw_K {s : State} {args : Array Value} (hts : ∀ w ∈ lw_tbl, w.before args s = true) : ∃ g : WG, va_K g.1 vwCl (tysW g) s := by
  obtain ⟨c0, i0, h0⟩ := u_known (C := RX0) (T := TX0) (N := 3) hts (fun w h => wB_tbl (uw_X0 w h)) (hts _ (wB_tbl inst_X0))
  obtain ⟨c1, i1, h1⟩ := u_known (C := RX1) (T := TX1) (N := 7) hts (fun w h => wB_tbl (uw_X1 w h)) (hts _ (wB_tbl inst_X1))
  obtain ⟨c2, i2, h2⟩ := u_known (C := RX2) (T := TX2) (N := 8) hts (fun w h => wB_tbl (uw_X2 w h)) (hts _ (wB_tbl inst_X2))
  obtain ⟨c3, i3, h3⟩ := u_known (C := RX3) (T := TX3) (N := 7) hts (fun w h => wB_tbl (uw_X3 w h)) (hts _ (wB_tbl inst_X3))
  obtain ⟨c4, i4, h4⟩ := u_known (C := RX4) (T := TX4) (N := 13) hts (fun w h => wB_tbl (uw_X4 w h)) (hts _ (wB_tbl inst_X4))
  obtain ⟨ca, ka, pa, a1, a2, a3⟩ := Cond.arrayClass_spec (hts _ (wB_tbl arrc_int))
  obtain ⟨cb, kb, pb, b1, b2, b3⟩ := Cond.arrayClass_spec (hts _ (wB_tbl arrc_char))
  obtain ⟨py, cy, ky, y1, y2, y3, y4, y5⟩ := Cond.arrayOver_spec (hts _ aov)
  refine ⟨((fun k => if k = 0 then c0 else if k = 1 then c1 else if k = 2 then c2 else if k = 3 then c3 else c4, fun k => if k = 0 then i0 else if k = 1 then i1 else if k = 2 then i2 else if k = 3 then i3 else i4), ca, cb, cy), ?_, ?_⟩
  · intro k q hq
    match k, hq with
    | 0, hq => cases hq; exact h0
    | 1, hq => cases hq; exact h1
    | 2, hq => cases hq; exact h2
    | 3, hq => cases hq; exact h3
    | 4, hq => cases hq; exact h4
    | k + 5, hq => simp [vwCl] at hq
  · intro k q hq
    match k, hq with
    | 0, hq => cases hq; exact ⟨fun n z => ⟨fun k h => (by cases h), ka, a2, pa, a3⟩, a1⟩
    | 1, hq => cases hq; exact ⟨fun n z => ⟨fun k h => (by cases h), kb, b2, pb, b3⟩, b1⟩
    | 2, hq => cases hq; exact ⟨fun n z => ⟨fun k h => (by cases h), ky, y3, py, y4⟩, ky, py, y3, y4, y1, y5⟩
    | k + 3, hq => simp [tysW] at hq
/-- the nest mates' links, the static tables -/
theorem lw_E {s : State} {b : Nat} (hts : ∀ w ∈ lw_tbl, w.before #[Value.ref b] s = true) (hgv : (Jvm.Cond.and given_1 narrow_1).before #[Value.ref b] s = true) : Ex (AL s) s s.heap := by
  have hs := flat_of_before _ hgv
  have hA : ∀ a : Nat, a < s.heap.size → ¬ AL s a := fun a h => Nat.not_le.mpr h
  refine ⟨va_Nw.of rfl (hts _ nest_X3_32), va_Nw.of rfl (hts _ nest_X2_66), ?_, ?_, ?_⟩
  · obtain ⟨t, h1, h2⟩ := va_Tof (tm := (.static RX2 "LEAST_SETTING" "[I")) (ty := .int) (N := 3) (f := tbL) (A := AL s) (by decide) (hs (.arrayOf (.static RX2 "LEAST_SETTING" "[I") .int) (by decide +kernel)) (va_eqt (z := 3) (hs (.eq (.length (.static RX2 "LEAST_SETTING" "[I")) (.int 3)) (by decide +kernel))) (fun j hj => by
      rcases (show j = 0 ∨ j = 1 ∨ j = 2 by omega) with rfl | rfl | rfl
      · exact va_eqt (z := 0) (hs (.eq (.elem (.static RX2 "LEAST_SETTING" "[I") (.int 0)) (.int 0)) (by decide +kernel))
      · exact va_eqt (z := 1) (hs (.eq (.elem (.static RX2 "LEAST_SETTING" "[I") (.int 1)) (.int 1)) (by decide +kernel))
      · exact va_eqt (z := 1) (hs (.eq (.elem (.static RX2 "LEAST_SETTING" "[I") (.int 2)) (.int 1)) (by decide +kernel))) hA
    exact ⟨t, va_Zof (hts _ lst_LEAST_SETTING) (hts _ (wB_tbl ini_X2)) h1 hA, h2⟩
  · obtain ⟨t, h1, h2⟩ := va_Tof (tm := (.static RX2 "GREATEST_SETTING" "[I")) (ty := .int) (N := 3) (f := tbG) (A := AL s) (by decide) (hs (.arrayOf (.static RX2 "GREATEST_SETTING" "[I") .int) (by decide +kernel)) (va_eqt (z := 3) (hs (.eq (.length (.static RX2 "GREATEST_SETTING" "[I")) (.int 3)) (by decide +kernel))) (fun j hj => by
      rcases (show j = 0 ∨ j = 1 ∨ j = 2 by omega) with rfl | rfl | rfl
      · exact va_eqt (z := 9) (hs (.eq (.elem (.static RX2 "GREATEST_SETTING" "[I") (.int 0)) (.int 9)) (by decide +kernel))
      · exact va_eqt (z := 9) (hs (.eq (.elem (.static RX2 "GREATEST_SETTING" "[I") (.int 1)) (.int 9)) (by decide +kernel))
      · exact va_eqt (z := 30) (hs (.eq (.elem (.static RX2 "GREATEST_SETTING" "[I") (.int 2)) (.int 30)) (by decide +kernel))) hA
    exact ⟨t, va_Zof (hts _ lst_GREATEST_SETTING) (hts _ (wB_tbl ini_X2)) h1 hA, h2⟩
  · obtain ⟨t, h1, h2⟩ := va_Tof (tm := (.static RX2 "BEARS" "[I")) (ty := .int) (N := 3) (f := tbB) (A := AL s) (by decide) (hs (.arrayOf (.static RX2 "BEARS" "[I") .int) (by decide +kernel)) (va_eqt (z := 3) (hs (.eq (.length (.static RX2 "BEARS" "[I")) (.int 3)) (by decide +kernel))) (fun j hj => by
      rcases (show j = 0 ∨ j = 1 ∨ j = 2 by omega) with rfl | rfl | rfl
      · exact va_eqt (z := 30) (hs (.eq (.elem (.static RX2 "BEARS" "[I") (.int 0)) (.int 30)) (by decide +kernel))
      · exact va_eqt (z := 12) (hs (.eq (.elem (.static RX2 "BEARS" "[I") (.int 1)) (.int 12)) (by decide +kernel))
      · exact va_eqt (z := 20) (hs (.eq (.elem (.static RX2 "BEARS" "[I") (.int 2)) (.int 20)) (by decide +kernel))) hA
    exact ⟨t, va_Zof (hts _ lst_BEARS) (hts _ (wB_tbl ini_X2)) h1 hA, h2⟩
section LOOP
variable {p : Program} {l : Launch} {e : Env} {s : State} {m : MethodId} {below : List Frame} {meth : Method} {c : Code} {nm : String} {g : WG} {b L : Nat} {xs : Nat → Int32} {ad3 : AW} {ad4 : AM}
set_option maxHeartbeats 4000000 in
set_option maxRecDepth 100000 in
/-- one turn of the law's loop, behind its test -/
theorem law_turn {H : Heap} {locs : List Loc} {cells slots i T : Nat} {Q : State → Prop} {ls : Array Slot} {ω : WS} {τ : MS} (X : LC p s m #[Value.ref b] meth c nm ret g b L xs) (hP : va_P g.1 vwCl (cW g ad3 ω ++ cM g ad4 τ) H) (hD : va_D (AL s) (cW g ad3 ω ++ cM g ad4 τ)) (hS : va_S (AL s) s.heap H locs) (hl : lv_has ls 4 [(0, .ref b), (1, .ref ad3.1), (2, .ref ad4.1), (3, .int (nI i))]) (hi : i + 5 ≤ L) (hf : cells ≤ room_1.cells ∧ slots ≤ room_1.slots) (hT : T < 2 ^ 20) (h : RelV ω τ T) (kk : LK p l e s m #[Value.ref b] below meth c cells slots Q g ad3 ad4 b i T) : W p l e room_1 s m #[Value.ref b] below meth c H locs cells slots Q (F0 m 26 ls []) := by
  obtain ⟨hC, hK, hE, hX, hbl, hL⟩ := id X
  obtain ⟨hx, hb, -⟩ := id hC
  refine lv_aload_n hx hb dL_law_26 rfl (lv_at hl 0 rfl) ?_
  refine lv_iload_n hx hb dL_law_27 rfl (lv_at hl 3 rfl) ?_
  refine va_sld hx hb hX hbl (Nat.not_le.mpr hbl) hS (vp_in_nI (show i < L by omega) (by omega)) dL_law_28 ?_
  refine lv_bipush (v := 31) hx hb dL_law_29 (by decide) ?_
  refine lv_iand hx hb dL_law_31 ?_
  obtain ⟨q, hq, e9⟩ := pk_andE (xs (nI i).toNatClampNeg) (m := 31) 5 (by decide)
  rw [e9]
  have out : 28 < (nI q).toInt → W p l e room_1 s m #[Value.ref b] below meth c H locs cells slots Q (F0 m 32 ls [.int (nI q)]) := fun z => lv_tableOut (tgt := 949) hx hb dL_law_32 (Or.inr z) (by decide) (kk _ _ _ _ ls hP hD hS ⟨h.1.up (by omega), h.2⟩ hl)
  rcases (show q = 0 ∨ q = 1 ∨ q = 2 ∨ q = 3 ∨ q = 4 ∨ q = 5 ∨ q = 6 ∨ q = 7 ∨ q = 8 ∨ q = 9 ∨ q = 10 ∨ q = 11 ∨ q = 12 ∨ q = 13 ∨ q = 14 ∨ q = 15 ∨ q = 16 ∨ q = 17 ∨ q = 18 ∨ q = 19 ∨ q = 20 ∨ q = 21 ∨ q = 22 ∨ q = 23 ∨ q = 24 ∨ q = 25 ∨ q = 26 ∨ q = 27 ∨ q = 28 ∨ q = 29 ∨ q = 30 ∨ q = 31 by omega) with rfl | rfl | rfl | rfl | rfl | rfl | rfl | rfl | rfl | rfl | rfl | rfl | rfl | rfl | rfl | rfl | rfl | rfl | rfl | rfl | rfl | rfl | rfl | rfl | rfl | rfl | rfl | rfl | rfl | rfl | rfl | rfl
  · exact lv_tableIn (off := 132) (tgt := 164) hx hb dL_law_32 (by decide) (by decide) (by decide) (by decide) (cs_come X hP hD hS hl hi hf hT h kk)
  · exact lv_tableIn (off := 185) (tgt := 217) hx hb dL_law_32 (by decide) (by decide) (by decide) (by decide) (cs_goAway X hP hD hS hl hi hf hT h kk)
  · exact lv_tableIn (off := 208) (tgt := 240) hx hb dL_law_32 (by decide) (by decide) (by decide) (by decide) (cs_setCradles X hP hD hS hl hi hf hT h kk)
  · exact lv_tableIn (off := 241) (tgt := 273) hx hb dL_law_32 (by decide) (by decide) (by decide) (by decide) (cs_setRow X hP hD hS hl hi hf hT h kk)
  · exact lv_tableIn (off := 274) (tgt := 306) hx hb dL_law_32 (by decide) (by decide) (by decide) (by decide) (cs_set X hP hD hS hl hi hf hT h kk)
  · exact lv_tableIn (off := 307) (tgt := 339) hx hb dL_law_32 (by decide) (by decide) (by decide) (by decide) (cs_lift X hP hD hS hl hi hf hT h kk)
  · exact lv_tableIn (off := 340) (tgt := 372) hx hb dL_law_32 (by decide) (by decide) (by decide) (by decide) (cs_launch X hP hD hS hl hi hf hT h kk)
  · exact lv_tableIn (off := 363) (tgt := 395) hx hb dL_law_32 (by decide) (by decide) (by decide) (by decide) (cs_move X hP hD hS hl hi hf hT h kk)
  · exact lv_tableIn (off := 396) (tgt := 428) hx hb dL_law_32 (by decide) (by decide) (by decide) (by decide) (cs_mast X hP hD hS hl hi hf hT h kk)
  · exact lv_tableIn (off := 445) (tgt := 477) hx hb dL_law_32 (by decide) (by decide) (by decide) (by decide) (cs_work X hP hD hS hl hi hf hT h kk)
  · exact lv_tableIn (off := 478) (tgt := 510) hx hb dL_law_32 (by decide) (by decide) (by decide) (by decide) (cs_pass X hP hD hS hl hi hf hT h kk)
  · exact lv_tableIn (off := 501) (tgt := 533) hx hb dL_law_32 (by decide) (by decide) (by decide) (by decide) (cs_type X hP hD hS hl hi hf hT h kk)
  · exact lv_tableIn (off := 526) (tgt := 558) hx hb dL_law_32 (by decide) (by decide) (by decide) (by decide) (cs_clearText X hP hD hS hl hi hf hT h kk)
  · exact lv_tableIn (off := 539) (tgt := 571) hx hb dL_law_32 (by decide) (by decide) (by decide) (by decide) (cs_perform X hP hD hS hl hi hf hT h kk)
  · exact lv_tableIn (off := 552) (tgt := 584) hx hb dL_law_32 (by decide) (by decide) (by decide) (by decide) (cs_stopped X hP hD hS hl hi hf hT h kk)
  · exact lv_tableIn (off := 575) (tgt := 607) hx hb dL_law_32 (by decide) (by decide) (by decide) (by decide) (cs_undo X hP hD hS hl hi hf hT h kk)
  · exact lv_tableIn (off := 588) (tgt := 620) hx hb dL_law_32 (by decide) (by decide) (by decide) (by decide) (cs_keep X hP hD hS hl hi hf hT h kk)
  · exact lv_tableIn (off := 601) (tgt := 633) hx hb dL_law_32 (by decide) (by decide) (by decide) (by decide) (cs_restore X hP hD hS hl hi hf hT h kk)
  · exact lv_tableIn (off := 614) (tgt := 646) hx hb dL_law_32 (by decide) (by decide) (by decide) (by decide) (cs_boat X hP hD hS hl hi hf hT h kk)
  · exact lv_tableIn (off := 647) (tgt := 679) hx hb dL_law_32 (by decide) (by decide) (by decide) (by decide) (cs_row X hP hD hS hl hi hf hT h kk)
  · exact lv_tableIn (off := 680) (tgt := 712) hx hb dL_law_32 (by decide) (by decide) (by decide) (by decide) (cs_stands X hP hD hS hl hi hf hT h kk)
  · exact lv_tableIn (off := 713) (tgt := 745) hx hb dL_law_32 (by decide) (by decide) (by decide) (by decide) (cs_cradle X hP hD hS hl hi hf hT h kk)
  · exact lv_tableIn (off := 746) (tgt := 778) hx hb dL_law_32 (by decide) (by decide) (by decide) (by decide) (cs_tide X hP hD hS hl hi hf hT h kk)
  · exact lv_tableIn (off := 769) (tgt := 801) hx hb dL_law_32 (by decide) (by decide) (by decide) (by decide) (cs_liftReason X hP hD hS hl hi hf hT h kk)
  · exact lv_tableIn (off := 802) (tgt := 834) hx hb dL_law_32 (by decide) (by decide) (by decide) (by decide) (cs_launchReason X hP hD hS hl hi hf hT h kk)
  · exact lv_tableIn (off := 825) (tgt := 857) hx hb dL_law_32 (by decide) (by decide) (by decide) (by decide) (cs_blockers X hP hD hS hl hi hf hT h kk)
  · exact lv_tableIn (off := 848) (tgt := 880) hx hb dL_law_32 (by decide) (by decide) (by decide) (by decide) (cs_launchDay X hP hD hS hl hi hf hT h kk)
  · exact lv_tableIn (off := 871) (tgt := 903) hx hb dL_law_32 (by decide) (by decide) (by decide) (by decide) (cs_bestRow X hP hD hS hl hi hf hT h kk)
  · exact lv_tableIn (off := 894) (tgt := 926) hx hb dL_law_32 (by decide) (by decide) (by decide) (by decide) (cs_count X hP hD hS hl hi hf hT h kk)
  · exact out (by decide)
  · exact out (by decide)
  · exact out (by decide)
set_option maxHeartbeats 4000000 in
/-- the law's loop -/
theorem law_loop (hlocks : meth.locks = false) (X : LC p s m #[Value.ref b] meth c nm ret g b L xs) : ∀ (n k : Nat) (ω : WS) (τ : MS) (H : Heap) (locs : List Loc) (ls : Array Slot), 5 * k ≤ L → L < 5 * k + 5 * n → va_P g.1 vwCl (cW g ad3 ω ++ cM g ad4 τ) H → va_D (AL s) (cW g ad3 ω ++ cM g ad4 τ) → va_S (AL s) s.heap H locs → RelV ω τ (21 * k) → lv_has ls 4 [(0, .ref b), (1, .ref ad3.1), (2, .ref ad4.1), (3, .int (nI (5 * k)))] → W p l e room_1 s m #[Value.ref b] below meth c H locs 49 3666 (lw_Z below #[Value.ref b] s) (F0 m 18 ls []) := by
  intro n
  induction n with
  | zero => intro k ω τ H locs ls h1 h2; omega
  | succ n ih =>
    intro k ω τ H locs ls h1 h2 hP hD hS h hl
    obtain ⟨hC, hK, hE, hX, hbl, hL⟩ := id X
    obtain ⟨hx, hb, hml, hr, -⟩ := id hC
    refine lv_iload_n hx hb dL_law_18 rfl (lv_at hl 3 rfl) ?_
    refine lv_aload_n hx hb dL_law_19 rfl (lv_at hl 0 rfl) ?_
    refine va_slen hx hb hX hbl (Nat.not_le.mpr hbl) hS dL_law_20 ?_
    refine lv_iconst (v := 5) hx hb dL_law_21 (by decide) ?_
    refine lv_isub hx hb dL_law_22 ?_
    have e5 : (Int32.ofNat L - 5).toInt = (L : Int) - 5 := by
      have e1 : (Int32.ofNat L).toInt = (L : Int) := nI_ti (by omega)
      rw [ti_sub (y := 5) (by rw [e1]; show _ ≤ _ - (5 : Int); omega) (by rw [e1]; show _ - (5 : Int) < _; omega), e1]
      rfl
    refine lv_icmp_gt (tgt := 955) hx hb dL_law_23 (by decide) (fun c_1 => ?_) (fun c_1 => ?_)
    · refine lv_iconst (v := 1) hx hb dL_law_955 (by decide) ?_
      refine va_forget (fun q hq => hS.2.2 q hq) ?_
      refine W.widen (k := 600000) (n := 7302250) (Nat.le_of_ble_eq_true rfl) (Nat.le_of_ble_eq_true rfl) ?_
      exact lw_ret hx hb hr hlocks dL_law_956
    · have hi : 5 * k + 5 ≤ L := by
        rw [lt_ti, e5, nI_ti (by omega)] at c_1
        omega
      refine law_turn X hP hD hS hl hi ⟨Nat.le_of_ble_eq_true rfl, Nat.le_of_ble_eq_true rfl⟩ (by omega) h ?_
      intro ω' τ' H1 locs1 ls1 hP1 hD1 hS1 h1' hl1
      refine lv_iinc (v := nI (5 * (k + 1))) (lv' := [(3, .int (nI (5 * (k + 1)))), (0, .ref b), (1, .ref ad3.1), (2, .ref ad4.1)]) hx hb dL_law_949 hl1 (k := 3) rfl (by show nI (5 * k) + nI 5 = _; rw [nI_add]; exact congrArg nI (by omega)) (by decide) rfl (fun ls hl => ?_)
      refine lv_goto (tgt := 18) hx hb dL_law_952 (by decide) ?_
      exact ih (k + 1) ω' τ' H1 locs1 ls (by omega) (by omega) hP1 hD1 hS1 (by rw [show 21 * (k + 1) = 21 * k + 21 by omega]; exact h1') (lv_sub hl [1, 2, 3, 0] rfl)
end LOOP
set_option maxHeartbeats 4000000 in
set_option maxRecDepth 100000 in
/-- THE LAW, from its entry -/
theorem whole_start {p : Program} {e : Env} {s : State} {m : MethodId} {below : List Frame} {meth : Method} {c : Code} (l : Launch) (hflags : l.flags = flags0) {b L : Nat} {xs : Nat → Int32} (hL : L ≤ 2560) (C0 : lw_At p s m meth c b L xs) : W p l e room_1 s m #[Value.ref b] below meth c s.heap [] 0 0 (lw_Z below #[Value.ref b] s) (entryFrame m ([Value.ref b] : List Value).toArray 4) := by
  obtain ⟨hx, hb, hr, hml, hown, hts, hX, hbl, hlocks, hgv⟩ := id C0
  have hA : ∀ q : Nat, s.heap.size ≤ q → AL s q := fun _ h => h
  have hC : Cx p s m #[Value.ref b] meth c (yoL meth.name) cL_law 4 ret := ⟨hx, hb, hml, hr, hown, fun w hw => hts w (wB_tbl hw), hlocks, rfl⟩
  obtain ⟨g, hK⟩ := lw_K hts
  have hE := lw_E hts hgv
  have hO : va_AO OBJY s := va_AO.of (hts _ aov)
  have X : LC p s m #[Value.ref b] meth c meth.name ret g b L xs := ⟨hC, hK, hE, hX, hbl, hL⟩
  have hS : va_S (AL s) s.heap s.heap [] := va_S.rf
  have hP : va_P g.1 vwCl [] s.heap := fun k q h => by simp at h
  have hD : va_D (AL s) [] := ⟨fun i j p q h => by simp at h, fun k q h => by simp at h⟩
  have hl := lv_entry ([.ref b]) (n := 4) (Nat.le_of_ble_eq_true rfl)
  rw [lg_entry_eq]
  generalize (lg_sl ([.ref b]) ++ List.replicate (4 - (lg_sl ([.ref b])).length) Slot.unset).toArray = ls at hl ⊢
  have hl : lv_has ls 4 [(0, .ref b)] := hl
  refine va_new (ci := 3) (fs := [.null, .null, .int 0, .null, .null, .int 0, .int 0]) (C := RX3) (T := TX3) (N := 7) hx hb hts (fun w h => wB_tbl (uw_X3 w h)) tyX3 tyX3_ok hown (hts _ (wB_tbl cl_L_7)) (hts _ (wB_tbl inst_X3)) (hts _ (wB_tbl ini_X3)) hK hP hD hS hA rfl (fun j hj => by rcases (show j = 0 ∨ j = 1 ∨ j = 2 ∨ j = 3 ∨ j = 4 ∨ j = 5 ∨ j = 6 by omega) with rfl | rfl | rfl | rfl | rfl | rfl | rfl <;> rfl) (Nat.le_of_ble_eq_true rfl) (Nat.le_of_ble_eq_true rfl) dL_law_0 (fun q3 H hP hD hS => ?_)
  refine lv_dup hx hb dL_law_3 rfl ?_
  refine callNv (w1 := []) (wc := [(q3, .inr (3, [.null, .null, .int 0, .null, .null, .int 0, .int 0]))]) hC (k_X3_init l g q3) ci_X3_init lk_L_9 ⟨Nat.le_of_ble_eq_true rfl, Nat.le_of_ble_eq_true rfl⟩ hP hD hK hE hO hS hA hl.1 (Nat.le_of_ble_eq_true rfl) dL_law_4 ⟨Nat.le_of_ble_eq_true rfl, Nat.le_of_ble_eq_true rfl⟩ (fun x3 H locs hP hD hS => ?_)
  have hP : va_P g.1 vwCl (cW g (q3, x3) mX3_init) H := hP
  have hD : va_D (AL s) (cW g (q3, x3) mX3_init) := hD
  refine lv_astore_n (lv' := [(1, .ref q3), (0, .ref b)]) hx hb dL_law_7 rfl hl (by decide) rfl (fun ls hl => ?_)
  refine va_new (ci := 4) (fs := [.null, .null, .null, .int 0, .null, .int 0, .null, .int 0, .int 0, .int 0, .int 0, .int 0, .int 0]) (C := RX4) (T := TX4) (N := 13) hx hb hts (fun w h => wB_tbl (uw_X4 w h)) tyX4 tyX4_ok hown (hts _ (wB_tbl cl_L_10)) (hts _ (wB_tbl inst_X4)) (hts _ (wB_tbl ini_X4)) hK hP hD hS hA rfl (fun j hj => by rcases (show j = 0 ∨ j = 1 ∨ j = 2 ∨ j = 3 ∨ j = 4 ∨ j = 5 ∨ j = 6 ∨ j = 7 ∨ j = 8 ∨ j = 9 ∨ j = 10 ∨ j = 11 ∨ j = 12 by omega) with rfl | rfl | rfl | rfl | rfl | rfl | rfl | rfl | rfl | rfl | rfl | rfl | rfl <;> rfl) (Nat.le_of_ble_eq_true rfl) (Nat.le_of_ble_eq_true rfl) dL_law_8 (fun q4 H hP hD hS => ?_)
  refine lv_dup hx hb dL_law_11 rfl ?_
  refine callNv (w1 := cW g (q3, x3) mX3_init) (wc := [(q4, .inr (4, [.null, .null, .null, .int 0, .null, .int 0, .null, .int 0, .int 0, .int 0, .int 0, .int 0, .int 0]))]) hC (k_X4_init l g q4) ci_X4_init lk_L_12 ⟨Nat.le_of_ble_eq_true rfl, Nat.le_of_ble_eq_true rfl⟩ hP hD hK hE hO hS hA hl.1 (Nat.le_of_ble_eq_true rfl) dL_law_12 ⟨Nat.le_of_ble_eq_true rfl, Nat.le_of_ble_eq_true rfl⟩ (fun x4 H locs hP hD hS => ?_)
  refine lv_astore_n (lv' := [(2, .ref q4), (1, .ref q3), (0, .ref b)]) hx hb dL_law_15 rfl hl (by decide) rfl (fun ls hl => ?_)
  refine lv_iconst (v := 0) hx hb dL_law_16 (by decide) ?_
  refine lv_istore_n (lv' := [(3, .int 0), (2, .ref q4), (1, .ref q3), (0, .ref b)]) hx hb dL_law_17 rfl hl (by decide) rfl (fun ls hl => ?_)
  exact law_loop (ad3 := (q3, x3)) (ad4 := (q4, x4)) hlocks X (L + 1) 0 mX3_init mX4_init H locs ls (Nat.zero_le _) (by omega) hP hD hS rv_init (lv_sub hl [3, 2, 1, 0] rfl)
