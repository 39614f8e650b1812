/-- the tables, as the worlds want them -/
theorem lw_K {s : State} {args : Array Value} (hts : ∀ w ∈ lw_tbl, w.before args s = true) : ∃ g : WG, va_K g.1 vwCl (tysW g) s := by
  obtain ⟨c0, i0, h0⟩ := u_known (C := RX0) (T := TX0) (N := 3) hts (fun w h => wB_tbl (uw_X0 w h)) (hts _ (wB_tbl inst_X0))
  obtain ⟨c1, i1, h1⟩ := u_known (C := RX1) (T := TX1) (N := 7) hts (fun w h => wB_tbl (uw_X1 w h)) (hts _ (wB_tbl inst_X1))
  obtain ⟨c2, i2, h2⟩ := u_known (C := RX2) (T := TX2) (N := 8) hts (fun w h => wB_tbl (uw_X2 w h)) (hts _ (wB_tbl inst_X2))
  obtain ⟨c3, i3, h3⟩ := u_known (C := RX3) (T := TX3) (N := 7) hts (fun w h => wB_tbl (uw_X3 w h)) (hts _ (wB_tbl inst_X3))
  obtain ⟨ca, ka, pa, a1, a2, a3⟩ := Cond.arrayClass_spec (hts _ (wB_tbl arrc_int))
  obtain ⟨cb, kb, pb, b1, b2, b3⟩ := Cond.arrayClass_spec (hts _ (wB_tbl arrc_char))
  obtain ⟨py, cy, ky, y1, y2, y3, y4, y5⟩ := Cond.arrayOver_spec (hts _ aov)
  refine ⟨((fun k => if k = 0 then c0 else if k = 1 then c1 else if k = 2 then c2 else c3, fun k => if k = 0 then i0 else if k = 1 then i1 else if k = 2 then i2 else i3), ca, cb, cy), ?_, ?_⟩
  · intro k q hq
    match k, hq with
    | 0, hq => cases hq; exact h0
    | 1, hq => cases hq; exact h1
    | 2, hq => cases hq; exact h2
    | 3, hq => cases hq; exact h3
    | k + 4, hq => simp [vwCl] at hq
  · intro k q hq
    match k, hq with
    | 0, hq => cases hq; exact ⟨fun n z => ⟨fun k h => (by cases h), ka, a2, pa, a3⟩, a1⟩
    | 1, hq => cases hq; exact ⟨fun n z => ⟨fun k h => (by cases h), kb, b2, pb, b3⟩, b1⟩
    | 2, hq => cases hq; exact ⟨fun n z => ⟨fun k h => (by cases h), ky, y3, py, y4⟩, ky, py, y3, y4, y1, y5⟩
    | k + 3, hq => simp [tysW] at hq
/-- the nest mates' links, the static tables -/
theorem lw_E {s : State} {b : Nat} (hts : ∀ w ∈ lw_tbl, w.before #[Value.ref b] s = true) (hgv : (Jvm.Cond.and given_1 narrow_1).before #[Value.ref b] s = true) : Ex (Anew s) s s.heap := by
  have hs := flat_of_before _ hgv
  have hA : ∀ a : Nat, a < s.heap.size → ¬ Anew s a := fun a h => Nat.not_le.mpr h
  refine ⟨va_Nw.of rfl (hts _ nest_X3_32), va_Nw.of rfl (hts _ nest_X2_66), ?_, ?_, ?_⟩
  · obtain ⟨t, h1, h2⟩ := va_Tof (tm := (.static RX2 "LEAST_SETTING" "[I")) (ty := .int) (N := 3) (f := tbL) (A := Anew s) (by decide) (hs (.arrayOf (.static RX2 "LEAST_SETTING" "[I") .int) (by decide +kernel)) (va_eqt (z := 3) (hs (.eq (.length (.static RX2 "LEAST_SETTING" "[I")) (.int 3)) (by decide +kernel))) (fun j hj => by
      rcases (show j = 0 ∨ j = 1 ∨ j = 2 by omega) with rfl | rfl | rfl
      · exact va_eqt (z := 0) (hs (.eq (.elem (.static RX2 "LEAST_SETTING" "[I") (.int 0)) (.int 0)) (by decide +kernel))
      · exact va_eqt (z := 1) (hs (.eq (.elem (.static RX2 "LEAST_SETTING" "[I") (.int 1)) (.int 1)) (by decide +kernel))
      · exact va_eqt (z := 1) (hs (.eq (.elem (.static RX2 "LEAST_SETTING" "[I") (.int 2)) (.int 1)) (by decide +kernel))) hA
    exact ⟨t, va_Zof (hts _ lst_LEAST_SETTING) (hts _ (wB_tbl ini_X2)) h1 hA, h2⟩
  · obtain ⟨t, h1, h2⟩ := va_Tof (tm := (.static RX2 "GREATEST_SETTING" "[I")) (ty := .int) (N := 3) (f := tbG) (A := Anew s) (by decide) (hs (.arrayOf (.static RX2 "GREATEST_SETTING" "[I") .int) (by decide +kernel)) (va_eqt (z := 3) (hs (.eq (.length (.static RX2 "GREATEST_SETTING" "[I")) (.int 3)) (by decide +kernel))) (fun j hj => by
      rcases (show j = 0 ∨ j = 1 ∨ j = 2 by omega) with rfl | rfl | rfl
      · exact va_eqt (z := 9) (hs (.eq (.elem (.static RX2 "GREATEST_SETTING" "[I") (.int 0)) (.int 9)) (by decide +kernel))
      · exact va_eqt (z := 9) (hs (.eq (.elem (.static RX2 "GREATEST_SETTING" "[I") (.int 1)) (.int 9)) (by decide +kernel))
      · exact va_eqt (z := 30) (hs (.eq (.elem (.static RX2 "GREATEST_SETTING" "[I") (.int 2)) (.int 30)) (by decide +kernel))) hA
    exact ⟨t, va_Zof (hts _ lst_GREATEST_SETTING) (hts _ (wB_tbl ini_X2)) h1 hA, h2⟩
  · obtain ⟨t, h1, h2⟩ := va_Tof (tm := (.static RX2 "BEARS" "[I")) (ty := .int) (N := 3) (f := tbB) (A := Anew s) (by decide) (hs (.arrayOf (.static RX2 "BEARS" "[I") .int) (by decide +kernel)) (va_eqt (z := 3) (hs (.eq (.length (.static RX2 "BEARS" "[I")) (.int 3)) (by decide +kernel))) (fun j hj => by
      rcases (show j = 0 ∨ j = 1 ∨ j = 2 by omega) with rfl | rfl | rfl
      · exact va_eqt (z := 30) (hs (.eq (.elem (.static RX2 "BEARS" "[I") (.int 0)) (.int 30)) (by decide +kernel))
      · exact va_eqt (z := 12) (hs (.eq (.elem (.static RX2 "BEARS" "[I") (.int 1)) (.int 12)) (by decide +kernel))
      · exact va_eqt (z := 20) (hs (.eq (.elem (.static RX2 "BEARS" "[I") (.int 2)) (.int 20)) (by decide +kernel))) hA
    exact ⟨t, va_Zof (hts _ lst_BEARS) (hts _ (wB_tbl ini_X2)) h1 hA, h2⟩
set_option maxHeartbeats 4000000 in
set_option maxRecDepth 100000 in
/-- THE LAW, from its entry -/
theorem whole_start {p : Program} {e : Env} {s : State} {m : MethodId} {below : List Frame} {meth : Method} {c : Code} (l : Launch) (hflags : l.flags = flags0) {b L : Nat} {xs : Nat → Int32} (hL : L ≤ 260) (C0 : lw_At p s m meth c b L xs) : W p l e room_1 s m #[Value.ref b] below meth c s.heap [] 0 0 (lw_Z below #[Value.ref b] s) (entryFrame m ([Value.ref b] : List Value).toArray 11) := by
  obtain ⟨hx, hb, hr, hml, hown, hts, hX, hbl, hlocks, hgv⟩ := id C0
  have hA : ∀ q : Nat, s.heap.size ≤ q → Anew s q := fun _ h => h
  have hC : Cx p s m #[Value.ref b] meth c (yoL meth.name) cL_law 11 ret := ⟨hx, hb, hml, hr, hown, fun w hw => hts w (wB_tbl hw), hlocks, rfl⟩
  obtain ⟨g, hK⟩ := lw_K hts
  have hE := lw_E hts hgv
  have hO : va_AO OBJY s := va_AO.of (hts _ aov)
  have X : LC p s m #[Value.ref b] meth c meth.name ret g b L xs := ⟨hC, hK, hE, hX, hbl, hL⟩
  have hS : va_S (Anew s) s.heap s.heap [] := va_S.rf
  have hP : va_P g.1 vwCl [] s.heap := fun k q h => by simp at h
  have hD : va_D (Anew s) [] := ⟨fun i j p q h => by simp at h, fun k q h => by simp at h⟩
  have hl := lv_entry ([.ref b]) (n := 11) (Nat.le_of_ble_eq_true rfl)
  rw [lg_entry_eq]
  generalize (lg_sl ([.ref b]) ++ List.replicate (11 - (lg_sl ([.ref b])).length) Slot.unset).toArray = ls at hl ⊢
  have hl : lv_has ls 11 [(0, .ref b)] := hl
  refine va_new (ci := 3) (fs := [.null, .null, .int 0, .null, .null, .int 0, .int 0]) (C := RX3) (T := TX3) (N := 7) hx hb hts (fun w h => wB_tbl (uw_X3 w h)) tyX3 tyX3_ok hown (hts _ (wB_tbl cl_L_46)) (hts _ (wB_tbl inst_X3)) (hts _ (wB_tbl ini_X3)) hK hP hD hS hA rfl (fun j hj => by rcases (show j = 0 ∨ j = 1 ∨ j = 2 ∨ j = 3 ∨ j = 4 ∨ j = 5 ∨ j = 6 by omega) with rfl | rfl | rfl | rfl | rfl | rfl | rfl <;> rfl) (Nat.le_of_ble_eq_true rfl) (Nat.le_of_ble_eq_true rfl) dL_law_0 (fun q3 H hP hD hS => ?_)
  refine lv_dup hx hb dL_law_3 rfl ?_
  refine callNv (w1 := []) (wc := [(q3, .inr (3, [.null, .null, .int 0, .null, .null, .int 0, .int 0]))]) hC (k_X3_init l g q3) ci_X3_init lk_L_131 ⟨Nat.le_of_ble_eq_true rfl, Nat.le_of_ble_eq_true rfl⟩ hP hD hK hE hO hS hA hl.1 (Nat.le_of_ble_eq_true rfl) dL_law_4 ⟨Nat.le_of_ble_eq_true rfl, Nat.le_of_ble_eq_true rfl⟩ (fun x3 H locs hP hD hS => ?_)
  have hP : va_P g.1 vwCl (cW g (q3, x3) mX3_init) H := hP
  have hD : va_D (Anew s) (cW g (q3, x3) mX3_init) := hD
  refine lv_astore_n (lv' := [(1, .ref q3), (0, .ref b)]) hx hb dL_law_7 rfl hl (by decide) rfl (fun ls hl => ?_)
  refine lv_bipush (v := 14) hx hb dL_law_8 (by decide) ?_
  refine nw_int hC hK hP hD hS hA (N := 14) (by decide) (by decide) (by decide) (Nat.le_of_ble_eq_true rfl) (Nat.le_of_ble_eq_true rfl) dL_law_10 (fun qg H hP hD hS => ?_)
  refine lv_astore_n (lv' := [(2, .ref qg), (1, .ref q3), (0, .ref b)]) hx hb dL_law_12 rfl hl (by decide) rfl (fun ls hl => ?_)
  refine lv_bipush (v := 60) hx hb dL_law_13 (by decide) ?_
  refine nw_int hC hK hP hD hS hA (N := 60) (by decide) (by decide) (by decide) (Nat.le_of_ble_eq_true rfl) (Nat.le_of_ble_eq_true rfl) dL_law_15 (fun qb H hP hD hS => ?_)
  refine lv_astore_n (lv' := [(3, .ref qb), (2, .ref qg), (1, .ref q3), (0, .ref b)]) hx hb dL_law_17 rfl hl (by decide) rfl (fun ls hl => ?_)
  refine lv_bipush (v := 6) hx hb dL_law_18 (by decide) ?_
  refine nw_int hC hK hP hD hS hA (N := 6) (by decide) (by decide) (by decide) (Nat.le_of_ble_eq_true rfl) (Nat.le_of_ble_eq_true rfl) dL_law_20 (fun qt H hP hD hS => ?_)
  refine lv_astore (lv' := [(4, .ref qt), (3, .ref qb), (2, .ref qg), (1, .ref q3), (0, .ref b)]) hx hb dL_law_22 hl (by decide) rfl (fun ls hl => ?_)
  refine lv_bipush (v := 28) hx hb dL_law_24 (by decide) ?_
  refine nw_int hC hK hP hD hS hA (N := 28) (by decide) (by decide) (by decide) (Nat.le_of_ble_eq_true rfl) (Nat.le_of_ble_eq_true rfl) dL_law_26 (fun qr H hP hD hS => ?_)
  refine lv_astore (lv' := [(5, .ref qr), (4, .ref qt), (3, .ref qb), (2, .ref qg), (1, .ref q3), (0, .ref b)]) hx hb dL_law_28 hl (by decide) rfl (fun ls hl => ?_)
  have hP := hP.sub (ws' := cV g ((q3, x3), (qg, qb, qt, qr)) (mX3_init, ((fun _ => 0), (fun _ => 0), (fun _ => 0), (fun _ => 0)))) [43, 44, 45, 46, 0, 1, 2, 3, 4, 5, 6, 7, 8, 9, 10, 11, 12, 13, 14, 15, 16, 17, 18, 19, 20, 21, 22, 23, 24, 25, 26, 27, 28, 29, 30, 31, 32, 33, 34, 35, 36, 37, 38, 39, 40, 41, 42] rfl
  have hD := hD.sub (ws' := cV g ((q3, x3), (qg, qb, qt, qr)) (mX3_init, ((fun _ => 0), (fun _ => 0), (fun _ => 0), (fun _ => 0)))) [43, 44, 45, 46, 0, 1, 2, 3, 4, 5, 6, 7, 8, 9, 10, 11, 12, 13, 14, 15, 16, 17, 18, 19, 20, 21, 22, 23, 24, 25, 26, 27, 28, 29, 30, 31, 32, 33, 34, 35, 36, 37, 38, 39, 40, 41, 42] (by decide) rfl
  exact law_start (ad := ((q3, x3), (qg, qb, qt, qr))) hlocks X hP hD hS hl ⟨Nat.le_of_ble_eq_true rfl, Nat.le_of_ble_eq_true rfl⟩
