/-! the law's walk -/
abbrev Anew (s : State) : Nat → Prop := fun q => s.heap.size ≤ q
/-- the law's name, as a walk's context wants one -/
abbrev yoL (nm : String) : MethodName := ⟨RL, nm, ""⟩
/-- a number of the script, or one made up -/
def cellF (L : Nat) (xs : Nat → Int32) (i : Int32) : Int32 := if Int32.ofNat L ≤ i then 1291169091 * (i + 1) else xs i.toNatClampNeg
theorem k_L_cell (l : Launch) (b L : Nat) (xs : Nat → Int32) (i : Int32) (hi : 0 ≤ i.toInt) (hL : L ≤ 260) : Rd l yL_cell cL_cell 2 (some .int) 0 (fun U => va_X b L xs U U.heap) [.ref b, .int i] (cellF L xs i) := by
  refine rd_of (by decide) (Nat.le_of_ble_eq_true rfl) ?_
  intro p e s m args below meth c ls hC hX hl
  obtain ⟨hx, hb, hml, hr, hown, hts, hlk, hnm⟩ := id hC
  have hl : lv_has ls 2 [(0, .ref b), (1, .int i)] := hl
  have hbl : b < s.heap.size := by
    obtain ⟨scr, h1, _⟩ := hX
    exact (Array.getElem?_eq_some_iff.mp h1).1
  have hS : va_S (fun _ => False) s.heap s.heap [] := va_S.rf
  refine lv_iload_n hx hb dL_cell_0 rfl (lv_at hl 1 rfl) ?_
  refine lv_aload_n hx hb dL_cell_1 rfl (lv_at hl 0 rfl) ?_
  refine va_slen hx hb hX hbl (fun h => h) hS dL_cell_2 ?_
  refine lv_icmp_ge (tgt := 12) hx hb dL_cell_3 (by decide) (fun c_1 => ?_) (fun c_1 => ?_)
  · refine lv_ldc (own := RL) hx hb hown (hts _ con_L_7) dL_cell_12 ?_
    refine lv_iload_n hx hb dL_cell_14 rfl (lv_at hl 1 rfl) ?_
    refine lv_iconst (v := 1) hx hb dL_cell_15 (by decide) ?_
    refine lv_iadd hx hb dL_cell_16 ?_
    refine lv_imul hx hb dL_cell_17 ?_
    exact rd_ret hC dL_cell_18 (if_pos c_1).symm
  · refine lv_aload_n hx hb dL_cell_6 rfl (lv_at hl 0 rfl) ?_
    refine lv_iload_n hx hb dL_cell_7 rfl (lv_at hl 1 rfl) ?_
    refine va_sld hx hb hX hbl (fun h => h) hS (in_up (n := L) (nI_ti (n := L) (by omega)) hi c_1) dL_cell_8 ?_
    refine lv_goto (tgt := 18) hx hb dL_cell_9 (by decide) ?_
    exact rd_ret hC dL_cell_18 (if_neg c_1).symm
section CL
variable {p : Program} {l : Launch} {e : Env} {R : Room} {s : State} {m : MethodId} {args : Array Value} {below : List Frame} {meth : Method} {c : Code} {H : Heap} {locs : List Loc} {cells slots : Nat} {Q : State → Prop}
variable {pc : Nat} {ls : Array Slot} {rest : List Value}
theorem callCell {yo : MethodName} {cc : ByteArray} {nL : Nat} {ro : Option FieldType} {idx : Nat} {b L : Nat} {xs : Nat → Int32} {As : List Value} {r : Int32} {st : List Value}
    (hC : Cx p s m args meth c yo cc nL ro) (hM : Rd l yL_cell cL_cell 2 (some .int) 0 (fun U => va_X b L xs U U.heap) As r) (hl : Cond.methodLink yo.cls idx yL_cell ∈ wB) (hR : 0 + 1 ≤ R.frames ∧ 40 * (0 + 1) ≤ R.locals)
    (hX : va_X b L xs s H) (hn : As.length = 2) (hsz : ls.size = nL) (hst : st = As.reverse ++ rest) (hW : (rest.map fun v => v.category).sum ≤ 8) (hdg : decode cc pc = .ok (.invokestatic idx, 3)) (hf : cells ≤ R.cells ∧ slots ≤ R.slots)
    (kk : W p l e R s m args below meth c H locs cells slots Q (F0 m (pc + 3) ls (.int r :: rest))) : W p l e R s m args below meth c H locs cells slots Q (F0 m pc ls st) := by
  obtain ⟨hx, hb, hml, hr, hown, hts, hlk, hnm⟩ := hC
  refine vp_callSi (post := fun x => x = r) (W.runS (As := As) (rest := rest) ⟨hx, hb, hml, hown, hts⟩ hM (va_cwS 2 hts (gd_S ci_L_cell hl) rfl rfl rfl ci_L_cell.1 (rmk ci_L_cell.2.1 hR)) ⟨fun a U g mk q => ⟨q.1, va_X.moved (u := U) (U := U.calling g mk a) (Vm.Alike.refl U.vm) q.2⟩, fun U hU hW => ⟨rfl, by show va_X b L xs U U.heap; rw [hU]; exact hX.moved hW.alike⟩⟩ rfl hn hsz hst (lv_room hW) hdg hf) (fun r' e' => by subst e'; exact kk)
/-- a call of a static writer that answers: its cells are the walk's whole world -/
theorem callSr {yo : MethodName} {cc : ByteArray} {nL : Nat} {ro : Option FieldType} {y : MethodName} {b : ByteArray} {n np k idx : Nat} {ty : FieldType} {g : WG} {wc wc' : va_W} {A : Nat → Prop} {As : List Value} {r : Int32} {st : List Value}
    (hC : Cx p s m args meth c yo cc nL ro) (hM : Wr l y b n (some ty) k g wc wc' As r) (ci : CIs y b n (some ty) np) (hl : Cond.methodLink yo.cls idx y ∈ wB) (hR : k + 1 ≤ R.frames ∧ 40 * (k + 1) ≤ R.locals)
    (hP : va_P g.1 vwCl wc H) (hD : va_D A wc) (hK : va_K g.1 vwCl (tysW g) s) (hE : Ex A s s.heap) (hS : va_S A s.heap H locs) (hA : ∀ q : Nat, s.heap.size ≤ q → A q) (hn : As.length = np) (hsz : ls.size = nL) (hst : st = As.reverse ++ rest) (hW : (rest.map fun v => v.category).sum ≤ 8) (hdg : decode cc pc = .ok (.invokestatic idx, 3)) (hf : cells ≤ R.cells ∧ slots ≤ R.slots)
    (kk : ∀ (H1 : Heap) (locs1 : List Loc), va_P g.1 vwCl wc' H1 → va_D A wc' → va_S A s.heap H1 locs1 → W p l e R s m args below meth c H1 locs1 cells slots Q (F0 m (pc + 3) ls (.int r :: rest))) : W p l e R s m args below meth c H locs cells slots Q (F0 m pc ls st) := by
  obtain ⟨hx, hb, hml, hr, hown, hts, hlk, hnm⟩ := hC
  have hF : ∀ q, va_A wc H.size q → A q := by
    intro q h
    rcases h with ⟨k, e, h⟩ | h
    · exact hD.2 k (q, e) h
    · exact hA q (Nat.le_trans hS.1 h)
  refine va_calli (va_runS (As := As) (rest := rest) ⟨hx, hb, hml, hown, hts⟩ (hM H.size) (va_cwS np hts (gd_S ci hl) rfl rfl rfl ci.1 (rmk ci.2.1 hR)) ⟨fun a U g mk q => ⟨q.1, q.2.call⟩, fun U hU hW => ⟨rfl, by rw [hU], hD.weaken (fun _ _ _ _ => trivial), by rw [hU]; exact hP, va_K.moved hW.alike hK, by rw [hU]; exact (Ex.warm hW (hE.S hS)).narrow hF⟩⟩ rfl hn hsz hst (lv_room hW) hdg hf) hS (fun q _ h => hF q h) hF (fun r' u t H1 locs1 ht hvm hr' hB hz hk hS1 => ?_)
  subst hr'
  obtain ⟨hP1, hD1⟩ := hB
  rw [ht] at hP1
  exact kk H1 locs1 hP1 (hD1.weaken (fun _ q _ h => hF q.1 h)) hS1
end CL
theorem t2_nn {t : Nat} (ht : t < 100) : 0 ≤ ((2 : Int32) * nI t).toInt := by
  rw [show (2 : Int32) = nI 2 from rfl, nI_mul, nI_ti (by omega)]
  omega
theorem t3_nn {t : Nat} (ht : t < 100) : 0 ≤ (((2 : Int32) * nI t) + 1).toInt := by
  rw [show (2 : Int32) = nI 2 from rfl, nI_mul, nI1, nI_ti (by omega)]
  omega
/-- what is known all along the law's walk -/
def LC (p : Program) (s : State) (m : MethodId) (args : Array Value) (meth : Method) (c : Code) (nm : String) (ro : Option FieldType) (g : WG) (b L : Nat) (xs : Nat → Int32) : Prop := Cx p s m args meth c (yoL nm) cL_law 11 ro ∧ va_K g.1 vwCl (tysW g) s ∧ Ex (Anew s) s s.heap ∧ va_X b L xs s s.heap ∧ b < s.heap.size ∧ L ≤ 260
def R_law : String := "WinterYardLaw"
def lw_P (b : Addr) (xs : List Int32) (args : Array Value) (s : State) : Prop := args = #[.ref b] ∧ s.IntsAt b xs ∧ xs.length ≤ 260 ∧ (Jvm.Cond.and given_1 narrow_1).before args s = true
def lw_Q (_ : Array Value) (s : State) (o : Outcome) (t : State) : Prop := o = .returned (some (.int 1)) ∧ Framed s o t [] 600000 7302250
def lw_Z (below : List Frame) (a : Array Value) (s : State) : State → Prop := fun t => ∃ o, t.status = .running ∧ Ended t below o ∧ lw_Q a s o t
/-- the law's own end, with 1 on the stack, nothing written that was there before, its room as the claim has it -/
theorem lw_ret {p : Program} {l : Launch} {e : Env} {s : State} {m : MethodId} {below : List Frame} {meth : Method} {c : Code} {b : Nat} (hx : p.tables.exec = Jvm.exec) (hb : c.code = code) (hr : meth.sig.returnType = ret) (hlocks : meth.locks = false) {pc : Nat} {H : Heap} {ls : Array Slot} (hdg : decode code pc = .ok (.ireturn, 1)) : W p l e room_1 s m #[Value.ref b] below meth c H [] 600000 7302250 (lw_Z below #[Value.ref b] s) (F0 m pc ls [.int 1]) := by
  intro T hT X
  obtain ⟨fs, hret, hrun, hended, hW, hframe⟩ := X.leave (v := some (.int 1)) (hlocks := hlocks) (fun h => by rw [hr] at h; cases h)
  have hmeth' : T.vm.method? m = some meth := X.method'
  refine ⟨T.setFrames fs, ?_, .returned (some (.int 1)), hrun, hended, rfl, ⟨_, rfl⟩, hW, hframe⟩
  jvm_step X.here [X.here.top, hx, hb, hdg, hmeth', hr, ret, narrow_b1]
  (try refine ⟨rfl, ?_⟩); (try refine ⟨rfl, ?_⟩)
  first | (intro acts; rw [hret _ acts rfl rfl rfl]) | rw [hret _ _ rfl rfl rfl]
  exact Steps.refl _
/-- what holds at the law's entry: the machine, the code, the tables' words (any of lw_tbl by 'hts w (by decide +kernel)'), the script of L ints xs at the cell b, what the Statement gives of the start (any of its parts by flat_of_before) -/
def lw_At (p : Program) (s : State) (m : MethodId) (meth : Method) (c : Code) (b L : Nat) (xs : Nat → Int32) : Prop :=
  p.tables.exec = Jvm.exec ∧ c.code = code ∧ meth.sig.returnType = ret ∧ c.maxLocals = 11 ∧ s.vm.findClass R_law = some m.cls ∧ (∀ w ∈ lw_tbl, w.before #[Value.ref b] s = true) ∧ va_X b L xs s s.heap ∧ b < s.heap.size ∧ meth.locks = false ∧ (Jvm.Cond.and given_1 narrow_1).before #[Value.ref b] s = true
set_option maxHeartbeats 4000000 in
set_option maxRecDepth 100000 in
theorem law_end {p : Program} {l : Launch} {e : Env} {s : State} {m : MethodId} {below : List Frame} {meth : Method} {c : Code} {nm : String} {g : WG} {b L : Nat} {xs : Nat → Int32} {ad : AV} {H : Heap} {locs : List Loc} {cells slots T t : Nat} {ls : Array Slot} {σ : VS} (hlocks : meth.locks = false) (X : LC p s m #[Value.ref b] meth c nm ret g b L xs) (hP : va_P g.1 vwCl (cV g ad σ) H) (hD : va_D (Anew s) (cV g ad σ)) (hS : va_S (Anew s) s.heap H locs) (hl : lv_has ls 11 [(0, .ref b), (1, .ref ad.1.1), (2, .ref ad.2.1), (3, .ref ad.2.2.1), (4, .ref ad.2.2.2.1), (5, .ref ad.2.2.2.2), (6, .int (nI t))]) (hf : cells ≤ room_1.cells ∧ slots ≤ room_1.slots) (hr : RV σ T) : W p l e room_1 s m #[Value.ref b] below meth c H locs cells slots (lw_Z below #[Value.ref b] s) (F0 m 282 ls []) := by
  obtain ⟨hC, hK, hE, hX, hbl, hL⟩ := id X
  obtain ⟨hx, hb, hml, hro, hown, hts, hlk, hnm⟩ := id hC
  have hA : ∀ q : Nat, s.heap.size ≤ q → Anew s q := fun _ h => h
  refine lv_aload_n hx hb dL_law_282 rfl (lv_at hl 1 rfl) ?_
  refine lv_iconst (v := 0) hx hb dL_law_283 (by decide) ?_
  refine callWrR hC (k_X3_pass l g ad.1 σ.1 0 hr.2) ci_X3_pass lk_L_63 ⟨Nat.le_of_ble_eq_true rfl, Nat.le_of_ble_eq_true rfl⟩ hP hD hK hE hS hA (q0 := 0) rfl rfl rfl rfl hl.1 rfl (Nat.le_of_ble_eq_true rfl) dL_law_284 hf (fun H locs hP hD hS => ?_)
  have hP : va_P g.1 vwCl (cV g ad ((mX3_pass σ.1 0).2, σ.2)) H := hP
  have hD : va_D (Anew s) (cV g ad ((mX3_pass σ.1 0).2, σ.2)) := hD
  refine lv_bipush (v := (-2)) hx hb dL_law_287 (by decide) ?_
  refine lv_icmp_ne (tgt := 405) hx hb dL_law_289 (by decide) (fun c_1 => absurd z_pass0 c_1) (fun c_1 => ?_)
  refine lv_aload_n hx hb dL_law_292 rfl (lv_at hl 1 rfl) ?_
  refine lv_bipush (v := 100) hx hb dL_law_293 (by decide) ?_
  refine callWrR hC (k_X3_pass l g ad.1 (mX3_pass σ.1 0).2 100 (hok_pass hr.2)) ci_X3_pass lk_L_63 ⟨Nat.le_of_ble_eq_true rfl, Nat.le_of_ble_eq_true rfl⟩ hP hD hK hE hS hA (q0 := 0) rfl rfl rfl rfl hl.1 rfl (Nat.le_of_ble_eq_true rfl) dL_law_295 hf (fun H locs hP hD hS => ?_)
  have hP : va_P g.1 vwCl (cV g ad ((mX3_pass (mX3_pass σ.1 0).2 100).2, σ.2)) H := hP
  have hD : va_D (Anew s) (cV g ad ((mX3_pass (mX3_pass σ.1 0).2 100).2, σ.2)) := hD
  refine lv_bipush (v := (-2)) hx hb dL_law_298 (by decide) ?_
  refine lv_icmp_ne (tgt := 405) hx hb dL_law_300 (by decide) (fun c_2 => absurd z_pass1 c_2) (fun c_2 => ?_)
  refine lv_aload_n hx hb dL_law_303 rfl (lv_at hl 1 rfl) ?_
  refine lv_iconst (v := (-1)) hx hb dL_law_304 (by decide) ?_
  refine callRd hC (k_X3_tide l g ad.1 (mX3_pass (mX3_pass σ.1 0).2 100).2 (-1)) ci_X3_tide lk_L_129 ⟨Nat.le_of_ble_eq_true rfl, Nat.le_of_ble_eq_true rfl⟩ (P_right hP) hK (hE.S hS).none (q0 := 0) rfl rfl rfl rfl hl.1 rfl (Nat.le_of_ble_eq_true rfl) dL_law_305 hf ?_
  refine lv_bipush (v := (-2)) hx hb dL_law_308 (by decide) ?_
  refine lv_icmp_ne (tgt := 405) hx hb dL_law_310 (by decide) (fun c_3 => absurd z_tide0 c_3) (fun c_3 => ?_)
  refine lv_aload_n hx hb dL_law_313 rfl (lv_at hl 1 rfl) ?_
  refine lv_sipush (v := 10000) hx hb dL_law_314 (by decide) ?_
  refine callRd hC (k_X3_tide l g ad.1 (mX3_pass (mX3_pass σ.1 0).2 100).2 10000) ci_X3_tide lk_L_129 ⟨Nat.le_of_ble_eq_true rfl, Nat.le_of_ble_eq_true rfl⟩ (P_right hP) hK (hE.S hS).none (q0 := 0) rfl rfl rfl rfl hl.1 rfl (Nat.le_of_ble_eq_true rfl) dL_law_317 hf ?_
  refine lv_bipush (v := (-2)) hx hb dL_law_320 (by decide) ?_
  refine lv_icmp_ne (tgt := 405) hx hb dL_law_322 (by decide) (fun c_4 => absurd z_tide1 c_4) (fun c_4 => ?_)
  refine lv_aload_n hx hb dL_law_325 rfl (lv_at hl 1 rfl) ?_
  refine lv_bipush (v := 20) hx hb dL_law_326 (by decide) ?_
  refine lv_bipush (v := 11) hx hb dL_law_328 (by decide) ?_
  refine callRd hC (k_X3_boat l g ad.1 (mX3_pass (mX3_pass σ.1 0).2 100).2 20 11) ci_X3_boat lk_L_93 ⟨Nat.le_of_ble_eq_true rfl, Nat.le_of_ble_eq_true rfl⟩ (P_right hP) hK (hE.S hS).none (q0 := 0) rfl rfl rfl rfl hl.1 rfl (Nat.le_of_ble_eq_true rfl) dL_law_330 hf ?_
  refine lv_iconst (v := (-1)) hx hb dL_law_333 (by decide) ?_
  refine lv_icmp_ne (tgt := 405) hx hb dL_law_334 (by decide) (fun c_5 => absurd z_boat c_5) (fun c_5 => ?_)
  refine lv_aload_n hx hb dL_law_337 rfl (lv_at hl 1 rfl) ?_
  refine lv_iconst (v := 4) hx hb dL_law_338 (by decide) ?_
  refine lv_iconst (v := 4) hx hb dL_law_339 (by decide) ?_
  refine callRd hC (k_X3_row l g ad.1 (mX3_pass (mX3_pass σ.1 0).2 100).2 4 4) ci_X3_row lk_L_118 ⟨Nat.le_of_ble_eq_true rfl, Nat.le_of_ble_eq_true rfl⟩ (P_right hP) hK (hE.S hS).none (q0 := 0) rfl rfl rfl rfl hl.1 rfl (Nat.le_of_ble_eq_true rfl) dL_law_340 hf ?_
  refine lv_iconst (v := (-1)) hx hb dL_law_343 (by decide) ?_
  refine lv_icmp_ne (tgt := 405) hx hb dL_law_344 (by decide) (fun c_6 => absurd z_row0 c_6) (fun c_6 => ?_)
  refine lv_aload_n hx hb dL_law_347 rfl (lv_at hl 1 rfl) ?_
  refine lv_iconst (v := 0) hx hb dL_law_348 (by decide) ?_
  refine lv_iconst (v := 4) hx hb dL_law_349 (by decide) ?_
  refine callRd hC (k_X3_row l g ad.1 (mX3_pass (mX3_pass σ.1 0).2 100).2 0 4) ci_X3_row lk_L_118 ⟨Nat.le_of_ble_eq_true rfl, Nat.le_of_ble_eq_true rfl⟩ (P_right hP) hK (hE.S hS).none (q0 := 0) rfl rfl rfl rfl hl.1 rfl (Nat.le_of_ble_eq_true rfl) dL_law_350 hf ?_
  refine lv_bipush (v := (-2)) hx hb dL_law_353 (by decide) ?_
  refine lv_icmp_ne (tgt := 405) hx hb dL_law_355 (by decide) (fun c_7 => absurd z_row1 c_7) (fun c_7 => ?_)
  refine lv_aload_n hx hb dL_law_358 rfl (lv_at hl 1 rfl) ?_
  refine lv_iconst (v := 0) hx hb dL_law_359 (by decide) ?_
  refine lv_iconst (v := (-1)) hx hb dL_law_360 (by decide) ?_
  refine callRd hC (k_X3_stands l g ad.1 (mX3_pass (mX3_pass σ.1 0).2 100).2 0 (-1)) ci_X3_stands lk_L_115 ⟨Nat.le_of_ble_eq_true rfl, Nat.le_of_ble_eq_true rfl⟩ (P_right hP) hK (hE.S hS).none (q0 := 0) rfl rfl rfl rfl hl.1 rfl (Nat.le_of_ble_eq_true rfl) dL_law_361 hf ?_
  refine lv_bipush (v := (-2)) hx hb dL_law_364 (by decide) ?_
  refine lv_icmp_ne (tgt := 405) hx hb dL_law_366 (by decide) (fun c_8 => absurd z_stands0 c_8) (fun c_8 => ?_)
  refine lv_aload_n hx hb dL_law_369 rfl (lv_at hl 1 rfl) ?_
  refine lv_iconst (v := (-1)) hx hb dL_law_370 (by decide) ?_
  refine lv_iconst (v := (-1)) hx hb dL_law_371 (by decide) ?_
  refine callRd hC (k_X3_stands l g ad.1 (mX3_pass (mX3_pass σ.1 0).2 100).2 (-1) (-1)) ci_X3_stands lk_L_115 ⟨Nat.le_of_ble_eq_true rfl, Nat.le_of_ble_eq_true rfl⟩ (P_right hP) hK (hE.S hS).none (q0 := 0) rfl rfl rfl rfl hl.1 rfl (Nat.le_of_ble_eq_true rfl) dL_law_372 hf ?_
  refine lv_iconst (v := (-1)) hx hb dL_law_375 (by decide) ?_
  refine lv_icmp_ne (tgt := 405) hx hb dL_law_376 (by decide) (fun c_9 => absurd z_stands1 c_9) (fun c_9 => ?_)
  refine lv_aload_n hx hb dL_law_379 rfl (lv_at hl 1 rfl) ?_
  refine lv_iconst (v := 0) hx hb dL_law_380 (by decide) ?_
  refine lv_iconst (v := 3) hx hb dL_law_381 (by decide) ?_
  refine callRd hC (k_X3_cradle l g ad.1 (mX3_pass (mX3_pass σ.1 0).2 100).2 0 3) ci_X3_cradle lk_L_121 ⟨Nat.le_of_ble_eq_true rfl, Nat.le_of_ble_eq_true rfl⟩ (P_right hP) hK (hE.S hS).none (q0 := 0) rfl rfl rfl rfl hl.1 rfl (Nat.le_of_ble_eq_true rfl) dL_law_382 hf ?_
  refine lv_bipush (v := (-2)) hx hb dL_law_385 (by decide) ?_
  refine lv_icmp_ne (tgt := 405) hx hb dL_law_387 (by decide) (fun c_10 => absurd z_cradle c_10) (fun c_10 => ?_)
  refine lv_aload_n hx hb dL_law_390 rfl (lv_at hl 1 rfl) ?_
  refine lv_bipush (v := 15) hx hb dL_law_391 (by decide) ?_
  refine callRd hC (k_X3_count l g ad.1 (mX3_pass (mX3_pass σ.1 0).2 100).2 15) ci_X3_count lk_L_123 ⟨Nat.le_of_ble_eq_true rfl, Nat.le_of_ble_eq_true rfl⟩ (P_right hP) hK (hE.S hS).none (q0 := 0) rfl rfl rfl rfl hl.1 rfl (Nat.le_of_ble_eq_true rfl) dL_law_393 hf ?_
  refine lv_bipush (v := (-2)) hx hb dL_law_396 (by decide) ?_
  refine lv_icmp_ne (tgt := 405) hx hb dL_law_398 (by decide) (fun c_11 => absurd z_count c_11) (fun c_11 => ?_)
  refine lv_iconst (v := 1) hx hb dL_law_401 (by decide) ?_
  refine lv_goto (tgt := 406) hx hb dL_law_402 (by decide) ?_
  refine va_forget (fun q hq => hS.2.2 q hq) ?_
  refine W.widen (k := 600000) (n := 7302250) hf.1 hf.2 ?_
  exact lw_ret hx hb hro hlocks dL_law_406
set_option maxHeartbeats 4000000 in
set_option maxRecDepth 100000 in
theorem law_mid {p : Program} {l : Launch} {e : Env} {s : State} {m : MethodId} {below : List Frame} {meth : Method} {c : Code} {nm : String} {g : WG} {b L : Nat} {xs : Nat → Int32} {ad : AV} {H : Heap} {locs : List Loc} {cells slots t : Nat} {Q : State → Prop} {ls : Array Slot} {σ : VS} {x y z r : Int32} (X : LC p s m #[Value.ref b] meth c nm ret g b L xs) (hP : va_P g.1 vwCl (cV g ad σ) H) (hD : va_D (Anew s) (cV g ad σ)) (hS : va_S (Anew s) s.heap H locs) (hl : lv_has ls 11 [(0, .ref b), (1, .ref ad.1.1), (2, .ref ad.2.1), (3, .ref ad.2.2.1), (4, .ref ad.2.2.2.1), (5, .ref ad.2.2.2.2), (6, .int (nI t)), (7, .int x), (8, .int y), (9, .int z)]) (hf : cells ≤ room_1.cells ∧ slots ≤ room_1.slots) (hr1 : r = 1) (hr : RV σ (t + 1)) (kk : ∀ (σ : VS) (H : Heap) (locs : List Loc) (ls : Array Slot), va_P g.1 vwCl (cV g ad σ) H → va_D (Anew s) (cV g ad σ) → va_S (Anew s) s.heap H locs → RV σ (t + 1) → lv_has ls 11 [(0, .ref b), (1, .ref ad.1.1), (2, .ref ad.2.1), (3, .ref ad.2.2.1), (4, .ref ad.2.2.2.1), (5, .ref ad.2.2.2.2), (6, .int (nI t))] → W p l e room_1 s m #[Value.ref b] below meth c H locs cells slots Q (F0 m 276 ls [])) : W p l e room_1 s m #[Value.ref b] below meth c H locs cells slots Q (F0 m 254 ls [.int r]) := by
  subst hr1
  obtain ⟨hC, hK, hE, hX, hbl, hL⟩ := id X
  obtain ⟨hx, hb, hml, hro, hown, hts, hlk, hnm⟩ := id hC
  have hA : ∀ q : Nat, s.heap.size ≤ q → Anew s q := fun _ h => h
  refine lv_istore (lv' := [(10, .int 1), (0, .ref b), (1, .ref ad.1.1), (2, .ref ad.2.1), (3, .ref ad.2.2.1), (4, .ref ad.2.2.2.1), (5, .ref ad.2.2.2.2), (6, .int (nI t)), (7, .int x), (8, .int y), (9, .int z)]) hx hb dL_law_254 hl (by decide) rfl (fun ls hl => ?_)
  refine lv_iload hx hb dL_law_256 (lv_at hl 0 rfl) ?_
  refine lv_if_eq (tgt := 274) hx hb dL_law_258 (by decide) (fun c_1 => absurd c_1 (by decide)) (fun c_1 => ?_)
  refine lv_aload_n hx hb dL_law_261 rfl (lv_at hl 2 rfl) ?_
  refine lv_aload_n hx hb dL_law_262 rfl (lv_at hl 3 rfl) ?_
  refine lv_aload_n hx hb dL_law_263 rfl (lv_at hl 4 rfl) ?_
  refine lv_aload hx hb dL_law_264 (lv_at hl 5 rfl) ?_
  refine lv_aload hx hb dL_law_266 (lv_at hl 6 rfl) ?_
  refine callSd hC (k_L_isSo l g ad σ (rv_so hr).1) ci_L_isSo lk_L_132 ⟨Nat.le_of_ble_eq_true rfl, Nat.le_of_ble_eq_true rfl⟩ hP hK (hE.S hS).none rfl hl.1 rfl (Nat.le_of_ble_eq_true rfl) dL_law_268 hf ?_
  refine lv_if_ne (tgt := 276) hx hb dL_law_271 (by decide) (fun c_2 => ?_) (fun c_2 => absurd c_2 (by rw [(rv_so hr).2]; decide))
  exact kk σ H locs ls hP hD hS hr (lv_sub hl [1, 2, 3, 4, 5, 6, 7] rfl)
set_option maxHeartbeats 4000000 in
set_option maxRecDepth 100000 in
theorem law_turn {p : Program} {l : Launch} {e : Env} {s : State} {m : MethodId} {below : List Frame} {meth : Method} {c : Code} {nm : String} {g : WG} {b L : Nat} {xs : Nat → Int32} {ad : AV} {H : Heap} {locs : List Loc} {cells slots t : Nat} {Q : State → Prop} {ls : Array Slot} {σ : VS} (X : LC p s m #[Value.ref b] meth c nm ret g b L xs) (hP : va_P g.1 vwCl (cV g ad σ) H) (hD : va_D (Anew s) (cV g ad σ)) (hS : va_S (Anew s) s.heap H locs) (hl : lv_has ls 11 [(0, .ref b), (1, .ref ad.1.1), (2, .ref ad.2.1), (3, .ref ad.2.2.1), (4, .ref ad.2.2.2.1), (5, .ref ad.2.2.2.2), (6, .int (nI t))]) (hf : cells ≤ room_1.cells ∧ slots ≤ room_1.slots) (ht : t < 100) (hr : RV σ t) (kk : ∀ (σ : VS) (H : Heap) (locs : List Loc) (ls : Array Slot), va_P g.1 vwCl (cV g ad σ) H → va_D (Anew s) (cV g ad σ) → va_S (Anew s) s.heap H locs → RV σ (t + 1) → lv_has ls 11 [(0, .ref b), (1, .ref ad.1.1), (2, .ref ad.2.1), (3, .ref ad.2.2.1), (4, .ref ad.2.2.2.1), (5, .ref ad.2.2.2.2), (6, .int (nI t))] → W p l e room_1 s m #[Value.ref b] below meth c H locs cells slots Q (F0 m 276 ls [])) : W p l e room_1 s m #[Value.ref b] below meth c H locs cells slots Q (F0 m 161 ls []) := by
  have ht100 := ht
  obtain ⟨hC, hK, hE, hX, hbl, hL⟩ := id X
  obtain ⟨hx, hb, hml, hro, hown, hts, hlk, hnm⟩ := id hC
  have hA : ∀ q : Nat, s.heap.size ≤ q → Anew s q := fun _ h => h
  refine lv_aload_n hx hb dL_law_161 rfl (lv_at hl 0 rfl) ?_
  refine lv_iconst (v := 2) hx hb dL_law_162 (by decide) ?_
  refine lv_iload hx hb dL_law_163 (lv_at hl 6 rfl) ?_
  refine lv_imul hx hb dL_law_165 ?_
  refine callCell hC (k_L_cell l b L xs (2 * (nI t)) (t2_nn ht) hL) lk_L_146 ⟨Nat.le_of_ble_eq_true rfl, Nat.le_of_ble_eq_true rfl⟩ (hX.kept (hS.2.1 b hbl (Nat.not_le.mpr hbl))) rfl hl.1 rfl (Nat.le_of_ble_eq_true rfl) dL_law_166 hf ?_
  refine lv_istore (lv' := [(7, .int (cellF L xs (2 * (nI t)))), (0, .ref b), (1, .ref ad.1.1), (2, .ref ad.2.1), (3, .ref ad.2.2.1), (4, .ref ad.2.2.2.1), (5, .ref ad.2.2.2.2), (6, .int (nI t))]) hx hb dL_law_169 hl (by decide) rfl (fun ls hl => ?_)
  refine lv_aload_n hx hb dL_law_171 rfl (lv_at hl 1 rfl) ?_
  refine lv_iconst (v := 2) hx hb dL_law_172 (by decide) ?_
  refine lv_iload hx hb dL_law_173 (lv_at hl 7 rfl) ?_
  refine lv_imul hx hb dL_law_175 ?_
  refine lv_iconst (v := 1) hx hb dL_law_176 (by decide) ?_
  refine lv_iadd hx hb dL_law_177 ?_
  refine callCell hC (k_L_cell l b L xs ((2 * (nI t)) + 1) (t3_nn ht) hL) lk_L_146 ⟨Nat.le_of_ble_eq_true rfl, Nat.le_of_ble_eq_true rfl⟩ (hX.kept (hS.2.1 b hbl (Nat.not_le.mpr hbl))) rfl hl.1 rfl (Nat.le_of_ble_eq_true rfl) dL_law_178 hf ?_
  refine lv_istore (lv' := [(8, .int (cellF L xs ((2 * (nI t)) + 1))), (7, .int (cellF L xs (2 * (nI t)))), (0, .ref b), (1, .ref ad.1.1), (2, .ref ad.2.1), (3, .ref ad.2.2.1), (4, .ref ad.2.2.2.1), (5, .ref ad.2.2.2.2), (6, .int (nI t))]) hx hb dL_law_181 hl (by decide) rfl (fun ls hl => ?_)
  refine lv_iload hx hb dL_law_183 (lv_at hl 8 rfl) ?_
  refine lv_iconst (v := 3) hx hb dL_law_185 (by decide) ?_
  refine dia (J := 206) (V := ((if (nI t) < 3 then 1 else ((if (mL_low ((cellF L xs (2 * (nI t))) >>> ((6 : Int32) &&& 31)) 3) = 0 then 1 else 0) : Int32)) : Int32)) (rest := []) (fun kk_2 => ?_) ?_
  · refine lv_icmp_lt (tgt := 201) hx hb dL_law_186 (by decide) (fun c_3 => ?_) (fun c_3 => ?_)
    · refine lv_iconst (v := 1) hx hb dL_law_201 (by decide) ?_
      refine lv_goto (tgt := 206) hx hb dL_law_202 (by decide) ?_
      exact kk_2 _ (if_pos c_3)
    · refine lv_iload hx hb dL_law_189 (lv_at hl 1 rfl) ?_
      refine lv_bipush (v := 6) hx hb dL_law_191 (by decide) ?_
      refine lv_ishr hx hb dL_law_193 ?_
      refine lv_iconst (v := 3) hx hb dL_law_194 (by decide) ?_
      refine callRs hC (k_L_low l g ((cellF L xs (2 * (nI t))) >>> ((6 : Int32) &&& 31)) 3 (by decide)) ci_L_low lk_L_41 ⟨Nat.le_of_ble_eq_true rfl, Nat.le_of_ble_eq_true rfl⟩ hK (hE.S hS).none rfl hl.1 rfl (Nat.le_of_ble_eq_true rfl) dL_law_195 hf ?_
      refine dia (J := 206) (V := ((if (mL_low ((cellF L xs (2 * (nI t))) >>> ((6 : Int32) &&& 31)) 3) = 0 then 1 else 0) : Int32)) (rest := []) (fun kk_5 => ?_) ?_
      · refine lv_if_ne (tgt := 205) hx hb dL_law_198 (by decide) (fun c_6 => ?_) (fun c_6 => ?_)
        · refine lv_iconst (v := 0) hx hb dL_law_205 (by decide) ?_
          exact kk_5 _ (if_neg c_6)
        · refine lv_iconst (v := 1) hx hb dL_law_201 (by decide) ?_
          refine lv_goto (tgt := 206) hx hb dL_law_202 (by decide) ?_
          exact kk_5 _ (if_pos c_6)
      exact kk_2 _ (if_neg c_3)
  refine lv_istore (lv' := [(9, .int ((if (nI t) < 3 then 1 else ((if (mL_low ((cellF L xs (2 * (nI t))) >>> ((6 : Int32) &&& 31)) 3) = 0 then 1 else 0) : Int32)) : Int32)), (8, .int (cellF L xs ((2 * (nI t)) + 1))), (7, .int (cellF L xs (2 * (nI t)))), (0, .ref b), (1, .ref ad.1.1), (2, .ref ad.2.1), (3, .ref ad.2.2.1), (4, .ref ad.2.2.2.1), (5, .ref ad.2.2.2.2), (6, .int (nI t))]) hx hb dL_law_206 hl (by decide) rfl (fun ls hl => ?_)
  refine lv_iload hx hb dL_law_208 (lv_at hl 0 rfl) ?_
  refine lv_if_eq (tgt := 240) hx hb dL_law_210 (by decide) (fun c_7 => ?_) (fun c_7 => ?_)
  · refine lv_aload_n hx hb dL_law_240 rfl (lv_at hl 4 rfl) ?_
    refine lv_iload hx hb dL_law_241 (lv_at hl 2 rfl) ?_
    refine lv_iload hx hb dL_law_243 (lv_at hl 1 rfl) ?_
    refine lv_aload_n hx hb dL_law_245 rfl (lv_at hl 5 rfl) ?_
    refine lv_aload_n hx hb dL_law_246 rfl (lv_at hl 6 rfl) ?_
    refine lv_aload hx hb dL_law_247 (lv_at hl 7 rfl) ?_
    refine lv_aload hx hb dL_law_249 (lv_at hl 8 rfl) ?_
    obtain ⟨hv, hh, hfr, hkl, hG⟩ := rv_boats hr ht100 (cellF L xs (2 * (nI t))) (cellF L xs ((2 * (nI t)) + 1))
    refine callSr hC (k_L_boats l g ad σ (cellF L xs (2 * (nI t))) (cellF L xs ((2 * (nI t)) + 1)) hv hh hfr hkl) ci_L_boats lk_L_154 ⟨Nat.le_of_ble_eq_true rfl, Nat.le_of_ble_eq_true rfl⟩ hP hD hK hE hS hA rfl hl.1 rfl (Nat.le_of_ble_eq_true rfl) dL_law_251 hf (fun H locs hP hD hS => ?_)
    exact law_mid X hP hD hS (lv_sub hl [3, 4, 5, 6, 7, 8, 9, 2, 1, 0] rfl) hf hG.1 hG.2 kk
  · refine lv_aload_n hx hb dL_law_213 rfl (lv_at hl 4 rfl) ?_
    refine lv_iload hx hb dL_law_214 (lv_at hl 9 rfl) ?_
    refine lv_iconst (v := 3) hx hb dL_law_216 (by decide) ?_
    refine dia (J := 226) (V := ((if 3 ≤ (nI t) then (cellF L xs (2 * (nI t))) else 0) : Int32)) (rest := [.ref ad.1.1]) (fun kk_9 => ?_) ?_
    · refine lv_icmp_ge (tgt := 224) hx hb dL_law_217 (by decide) (fun c_10 => ?_) (fun c_10 => ?_)
      · refine lv_iload hx hb dL_law_224 (lv_at hl 2 rfl) ?_
        exact kk_9 _ (if_pos c_10)
      · refine lv_iconst (v := 0) hx hb dL_law_220 (by decide) ?_
        refine lv_goto (tgt := 226) hx hb dL_law_221 (by decide) ?_
        exact kk_9 _ (if_neg c_10)
    refine lv_iload hx hb dL_law_226 (lv_at hl 1 rfl) ?_
    refine lv_aload_n hx hb dL_law_228 rfl (lv_at hl 5 rfl) ?_
    refine lv_aload_n hx hb dL_law_229 rfl (lv_at hl 6 rfl) ?_
    refine lv_aload hx hb dL_law_230 (lv_at hl 7 rfl) ?_
    refine lv_aload hx hb dL_law_232 (lv_at hl 8 rfl) ?_
    obtain ⟨hv, hh, hG⟩ := rv_yard hr ht100 ((if 3 ≤ (nI t) then (cellF L xs (2 * (nI t))) else 0) : Int32) (cellF L xs ((2 * (nI t)) + 1))
    refine callSr hC (k_L_yard l g ad σ ((if 3 ≤ (nI t) then (cellF L xs (2 * (nI t))) else 0) : Int32) (cellF L xs ((2 * (nI t)) + 1)) hv hh) ci_L_yard lk_L_150 ⟨Nat.le_of_ble_eq_true rfl, Nat.le_of_ble_eq_true rfl⟩ hP hD hK hE hS hA rfl hl.1 rfl (Nat.le_of_ble_eq_true rfl) dL_law_234 hf (fun H locs hP hD hS => ?_)
    refine lv_goto (tgt := 254) hx hb dL_law_237 (by decide) ?_
    exact law_mid X hP hD hS (lv_sub hl [3, 4, 5, 6, 7, 8, 9, 2, 1, 0] rfl) hf hG.1 hG.2 kk
set_option maxHeartbeats 4000000 in
set_option maxRecDepth 100000 in
theorem law_loop {p : Program} {l : Launch} {e : Env} {s : State} {m : MethodId} {below : List Frame} {meth : Method} {c : Code} {nm : String} {g : WG} {b L : Nat} {xs : Nat → Int32} {ad : AV} {cells slots : Nat} (hlocks : meth.locks = false) (X : LC p s m #[Value.ref b] meth c nm ret g b L xs) (hf : cells ≤ room_1.cells ∧ slots ≤ room_1.slots) : ∀ (n t : Nat) (σ : VS) (H : Heap) (locs : List Loc) (ls : Array Slot), t + n = 48 → va_P g.1 vwCl (cV g ad σ) H → va_D (Anew s) (cV g ad σ) → va_S (Anew s) s.heap H locs → RV σ t → lv_has ls 11 [(0, .ref b), (1, .ref ad.1.1), (2, .ref ad.2.1), (3, .ref ad.2.2.1), (4, .ref ad.2.2.2.1), (5, .ref ad.2.2.2.2), (6, .int (nI t))] → W p l e room_1 s m #[Value.ref b] below meth c H locs cells slots (lw_Z below #[Value.ref b] s) (F0 m 154 ls []) := by
  intro n
  induction n with
  | zero =>
    intro t σ H locs ls h1 hP hD hS hr hl
    obtain ⟨hC, hK, hE, hX, hbl, hL⟩ := id X
    obtain ⟨hx, hb, hml, hro, hown, hts, hlk, hnm⟩ := id hC
    have hA : ∀ q : Nat, s.heap.size ≤ q → Anew s q := fun _ h => h
    refine lv_iload hx hb dL_law_154 (lv_at hl 6 rfl) ?_
    refine lv_bipush (v := 48) hx hb dL_law_156 (by decide) ?_
    refine lv_icmp_ge (tgt := 282) hx hb dL_law_158 (by decide) (fun c_1 => ?_) (fun c_1 => absurd (show (48 : Int32) ≤ nI t by rw [show t = 48 by omega]; decide) c_1)
    exact law_end hlocks X hP hD hS hl hf hr
  | succ n ih =>
    intro t σ H locs ls h1 hP hD hS hr hl
    obtain ⟨hC, hK, hE, hX, hbl, hL⟩ := id X
    obtain ⟨hx, hb, hml, hro, hown, hts, hlk, hnm⟩ := id hC
    have hA : ∀ q : Nat, s.heap.size ≤ q → Anew s q := fun _ h => h
    refine lv_iload hx hb dL_law_154 (lv_at hl 6 rfl) ?_
    refine lv_bipush (v := 48) hx hb dL_law_156 (by decide) ?_
    refine lv_icmp_ge (tgt := 282) hx hb dL_law_158 (by decide) (fun c_1 => absurd c_1 (nI_ge (a := t) (b := 48) (by omega) (by decide))) (fun c_1 => ?_)
    refine law_turn X hP hD hS hl hf (by omega) hr ?_
    intro σ' H1 locs1 ls1 hP1 hD1 hS1 hr1 hl1
    refine lv_iinc (v := nI (t + 1)) (lv' := [(6, .int (nI (t + 1))), (0, .ref b), (1, .ref ad.1.1), (2, .ref ad.2.1), (3, .ref ad.2.2.1), (4, .ref ad.2.2.2.1), (5, .ref ad.2.2.2.2)]) hx hb dL_law_276 hl1 (k := 6) rfl (nI1 t) (by decide) rfl (fun ls hl => ?_)
    refine lv_goto (tgt := 154) hx hb dL_law_279 (by decide) ?_
    exact ih (t + 1) σ' H1 locs1 ls (by omega) hP1 hD1 hS1 hr1 (lv_sub hl [1, 2, 3, 4, 5, 6, 0] rfl)
set_option maxHeartbeats 4000000 in
set_option maxRecDepth 100000 in
theorem law_start {p : Program} {l : Launch} {e : Env} {s : State} {m : MethodId} {below : List Frame} {meth : Method} {c : Code} {nm : String} {g : WG} {b L : Nat} {xs : Nat → Int32} {ad : AV} {H : Heap} {locs : List Loc} {cells slots : Nat} {ls : Array Slot} (hlocks : meth.locks = false) (X : LC p s m #[Value.ref b] meth c nm ret g b L xs) (hP : va_P g.1 vwCl (cV g ad (mX3_init, ((fun _ => 0), (fun _ => 0), (fun _ => 0), (fun _ => 0)))) H) (hD : va_D (Anew s) (cV g ad (mX3_init, ((fun _ => 0), (fun _ => 0), (fun _ => 0), (fun _ => 0))))) (hS : va_S (Anew s) s.heap H locs) (hl : lv_has ls 11 [(5, .ref ad.2.2.2.2), (4, .ref ad.2.2.2.1), (3, .ref ad.2.2.1), (2, .ref ad.2.1), (1, .ref ad.1.1), (0, .ref b)]) (hf : cells ≤ room_1.cells ∧ slots ≤ room_1.slots) : W p l e room_1 s m #[Value.ref b] below meth c H locs cells slots (lw_Z below #[Value.ref b] s) (F0 m 30 ls []) := by
  obtain ⟨hC, hK, hE, hX, hbl, hL⟩ := id X
  obtain ⟨hx, hb, hml, hro, hown, hts, hlk, hnm⟩ := id hC
  have hA : ∀ q : Nat, s.heap.size ≤ q → Anew s q := fun _ h => h
  refine lv_aload_n hx hb dL_law_30 rfl (lv_at hl 3 rfl) ?_
  refine lv_iconst (v := 2) hx hb dL_law_31 (by decide) ?_
  refine lv_iconst (v := 3) hx hb dL_law_32 (by decide) ?_
  refine sV_g hC hK hP hD hS (in_iff.mpr (by decide)) dL_law_33 (fun H locs hP hD hS => ?_)
  have hP : va_P g.1 vwCl (cV g ad (mX3_init, ((upd (fun _ => 0) (2 : Int32).toNatClampNeg 3), (fun _ => 0), (fun _ => 0), (fun _ => 0)))) H := hP
  have hD : va_D (Anew s) (cV g ad (mX3_init, ((upd (fun _ => 0) (2 : Int32).toNatClampNeg 3), (fun _ => 0), (fun _ => 0), (fun _ => 0)))) := hD
  refine lv_aload_n hx hb dL_law_34 rfl (lv_at hl 3 rfl) ?_
  refine lv_iconst (v := 3) hx hb dL_law_35 (by decide) ?_
  refine lv_iconst (v := 4) hx hb dL_law_36 (by decide) ?_
  refine sV_g hC hK hP hD hS (in_iff.mpr (by decide)) dL_law_37 (fun H locs hP hD hS => ?_)
  have hP : va_P g.1 vwCl (cV g ad (mX3_init, ((upd (upd (fun _ => 0) (2 : Int32).toNatClampNeg 3) (3 : Int32).toNatClampNeg 4), (fun _ => 0), (fun _ => 0), (fun _ => 0)))) H := hP
  have hD : va_D (Anew s) (cV g ad (mX3_init, ((upd (upd (fun _ => 0) (2 : Int32).toNatClampNeg 3) (3 : Int32).toNatClampNeg 4), (fun _ => 0), (fun _ => 0), (fun _ => 0)))) := hD
  refine lv_aload_n hx hb dL_law_38 rfl (lv_at hl 3 rfl) ?_
  refine lv_iconst (v := 4) hx hb dL_law_39 (by decide) ?_
  refine lv_bipush (v := 20) hx hb dL_law_40 (by decide) ?_
  refine sV_g hC hK hP hD hS (in_iff.mpr (by decide)) dL_law_42 (fun H locs hP hD hS => ?_)
  have hP : va_P g.1 vwCl (cV g ad (mX3_init, ((upd (upd (upd (fun _ => 0) (2 : Int32).toNatClampNeg 3) (3 : Int32).toNatClampNeg 4) (4 : Int32).toNatClampNeg 20), (fun _ => 0), (fun _ => 0), (fun _ => 0)))) H := hP
  have hD : va_D (Anew s) (cV g ad (mX3_init, ((upd (upd (upd (fun _ => 0) (2 : Int32).toNatClampNeg 3) (3 : Int32).toNatClampNeg 4) (4 : Int32).toNatClampNeg 20), (fun _ => 0), (fun _ => 0), (fun _ => 0)))) := hD
  refine lv_bipush (v := 7) hx hb dL_law_43 (by decide) ?_
  refine lv_istore (lv' := [(6, .int 7), (5, .ref ad.2.2.2.2), (4, .ref ad.2.2.2.1), (3, .ref ad.2.2.1), (2, .ref ad.2.1), (1, .ref ad.1.1), (0, .ref b)]) hx hb dL_law_45 hl (by decide) rfl (fun ls hl => ?_)
  refine lv_iload hx hb dL_law_47 (lv_at hl 0 rfl) ?_
  refine lv_bipush (v := 10) hx hb dL_law_49 (by decide) ?_
  refine lv_icmp_ge (tgt := 65) hx hb dL_law_51 (by decide) (fun c_1 => absurd c_1 (by decide)) (fun c_1 => ?_)
  refine lv_aload_n hx hb dL_law_54 rfl (lv_at hl 4 rfl) ?_
  refine lv_iload hx hb dL_law_55 (lv_at hl 0 rfl) ?_
  refine lv_iconst (v := 4) hx hb dL_law_57 (by decide) ?_
  refine sV_g hC hK hP hD hS (in_iff.mpr (by decide)) dL_law_58 (fun H locs hP hD hS => ?_)
  have hP : va_P g.1 vwCl (cV g ad (mX3_init, ((upd (upd (upd (upd (fun _ => 0) (2 : Int32).toNatClampNeg 3) (3 : Int32).toNatClampNeg 4) (4 : Int32).toNatClampNeg 20) (7 : Int32).toNatClampNeg 4), (fun _ => 0), (fun _ => 0), (fun _ => 0)))) H := hP
  have hD : va_D (Anew s) (cV g ad (mX3_init, ((upd (upd (upd (upd (fun _ => 0) (2 : Int32).toNatClampNeg 3) (3 : Int32).toNatClampNeg 4) (4 : Int32).toNatClampNeg 20) (7 : Int32).toNatClampNeg 4), (fun _ => 0), (fun _ => 0), (fun _ => 0)))) := hD
  refine lv_iinc (v := 8) (lv' := [(6, .int 8), (5, .ref ad.2.2.2.2), (4, .ref ad.2.2.2.1), (3, .ref ad.2.2.1), (2, .ref ad.2.1), (1, .ref ad.1.1), (0, .ref b)]) hx hb dL_law_59 hl (k := 0) rfl rfl (by decide) rfl (fun ls hl => ?_)
  refine lv_goto (tgt := 47) hx hb dL_law_62 (by decide) ?_
  refine lv_iload hx hb dL_law_47 (lv_at hl 0 rfl) ?_
  refine lv_bipush (v := 10) hx hb dL_law_49 (by decide) ?_
  refine lv_icmp_ge (tgt := 65) hx hb dL_law_51 (by decide) (fun c_2 => absurd c_2 (by decide)) (fun c_2 => ?_)
  refine lv_aload_n hx hb dL_law_54 rfl (lv_at hl 4 rfl) ?_
  refine lv_iload hx hb dL_law_55 (lv_at hl 0 rfl) ?_
  refine lv_iconst (v := 4) hx hb dL_law_57 (by decide) ?_
  refine sV_g hC hK hP hD hS (in_iff.mpr (by decide)) dL_law_58 (fun H locs hP hD hS => ?_)
  have hP : va_P g.1 vwCl (cV g ad (mX3_init, ((upd (upd (upd (upd (upd (fun _ => 0) (2 : Int32).toNatClampNeg 3) (3 : Int32).toNatClampNeg 4) (4 : Int32).toNatClampNeg 20) (7 : Int32).toNatClampNeg 4) (8 : Int32).toNatClampNeg 4), (fun _ => 0), (fun _ => 0), (fun _ => 0)))) H := hP
  have hD : va_D (Anew s) (cV g ad (mX3_init, ((upd (upd (upd (upd (upd (fun _ => 0) (2 : Int32).toNatClampNeg 3) (3 : Int32).toNatClampNeg 4) (4 : Int32).toNatClampNeg 20) (7 : Int32).toNatClampNeg 4) (8 : Int32).toNatClampNeg 4), (fun _ => 0), (fun _ => 0), (fun _ => 0)))) := hD
  refine lv_iinc (v := 9) (lv' := [(6, .int 9), (5, .ref ad.2.2.2.2), (4, .ref ad.2.2.2.1), (3, .ref ad.2.2.1), (2, .ref ad.2.1), (1, .ref ad.1.1), (0, .ref b)]) hx hb dL_law_59 hl (k := 0) rfl rfl (by decide) rfl (fun ls hl => ?_)
  refine lv_goto (tgt := 47) hx hb dL_law_62 (by decide) ?_
  refine lv_iload hx hb dL_law_47 (lv_at hl 0 rfl) ?_
  refine lv_bipush (v := 10) hx hb dL_law_49 (by decide) ?_
  refine lv_icmp_ge (tgt := 65) hx hb dL_law_51 (by decide) (fun c_3 => absurd c_3 (by decide)) (fun c_3 => ?_)
  refine lv_aload_n hx hb dL_law_54 rfl (lv_at hl 4 rfl) ?_
  refine lv_iload hx hb dL_law_55 (lv_at hl 0 rfl) ?_
  refine lv_iconst (v := 4) hx hb dL_law_57 (by decide) ?_
  refine sV_g hC hK hP hD hS (in_iff.mpr (by decide)) dL_law_58 (fun H locs hP hD hS => ?_)
  have hP : va_P g.1 vwCl (cV g ad (mX3_init, ((upd (upd (upd (upd (upd (upd (fun _ => 0) (2 : Int32).toNatClampNeg 3) (3 : Int32).toNatClampNeg 4) (4 : Int32).toNatClampNeg 20) (7 : Int32).toNatClampNeg 4) (8 : Int32).toNatClampNeg 4) (9 : Int32).toNatClampNeg 4), (fun _ => 0), (fun _ => 0), (fun _ => 0)))) H := hP
  have hD : va_D (Anew s) (cV g ad (mX3_init, ((upd (upd (upd (upd (upd (upd (fun _ => 0) (2 : Int32).toNatClampNeg 3) (3 : Int32).toNatClampNeg 4) (4 : Int32).toNatClampNeg 20) (7 : Int32).toNatClampNeg 4) (8 : Int32).toNatClampNeg 4) (9 : Int32).toNatClampNeg 4), (fun _ => 0), (fun _ => 0), (fun _ => 0)))) := hD
  refine lv_iinc (v := 10) (lv' := [(6, .int 10), (5, .ref ad.2.2.2.2), (4, .ref ad.2.2.2.1), (3, .ref ad.2.2.1), (2, .ref ad.2.1), (1, .ref ad.1.1), (0, .ref b)]) hx hb dL_law_59 hl (k := 0) rfl rfl (by decide) rfl (fun ls hl => ?_)
  refine lv_goto (tgt := 47) hx hb dL_law_62 (by decide) ?_
  refine lv_iload hx hb dL_law_47 (lv_at hl 0 rfl) ?_
  refine lv_bipush (v := 10) hx hb dL_law_49 (by decide) ?_
  refine lv_icmp_ge (tgt := 65) hx hb dL_law_51 (by decide) (fun c_4 => ?_) (fun c_4 => absurd c_4 (by decide))
  refine lv_bipush (v := 10) hx hb dL_law_65 (by decide) ?_
  refine lv_istore (lv' := [(6, .int 10), (5, .ref ad.2.2.2.2), (4, .ref ad.2.2.2.1), (3, .ref ad.2.2.1), (2, .ref ad.2.1), (1, .ref ad.1.1), (0, .ref b)]) hx hb dL_law_67 hl (by decide) rfl (fun ls hl => ?_)
  refine lv_iload hx hb dL_law_69 (lv_at hl 0 rfl) ?_
  refine lv_bipush (v := 14) hx hb dL_law_71 (by decide) ?_
  refine lv_icmp_ge (tgt := 88) hx hb dL_law_73 (by decide) (fun c_5 => absurd c_5 (by decide)) (fun c_5 => ?_)
  refine lv_aload_n hx hb dL_law_76 rfl (lv_at hl 4 rfl) ?_
  refine lv_iload hx hb dL_law_77 (lv_at hl 0 rfl) ?_
  refine lv_bipush (v := 40) hx hb dL_law_79 (by decide) ?_
  refine sV_g hC hK hP hD hS (in_iff.mpr (by decide)) dL_law_81 (fun H locs hP hD hS => ?_)
  have hP : va_P g.1 vwCl (cV g ad (mX3_init, ((upd (upd (upd (upd (upd (upd (upd (fun _ => 0) (2 : Int32).toNatClampNeg 3) (3 : Int32).toNatClampNeg 4) (4 : Int32).toNatClampNeg 20) (7 : Int32).toNatClampNeg 4) (8 : Int32).toNatClampNeg 4) (9 : Int32).toNatClampNeg 4) (10 : Int32).toNatClampNeg 40), (fun _ => 0), (fun _ => 0), (fun _ => 0)))) H := hP
  have hD : va_D (Anew s) (cV g ad (mX3_init, ((upd (upd (upd (upd (upd (upd (upd (fun _ => 0) (2 : Int32).toNatClampNeg 3) (3 : Int32).toNatClampNeg 4) (4 : Int32).toNatClampNeg 20) (7 : Int32).toNatClampNeg 4) (8 : Int32).toNatClampNeg 4) (9 : Int32).toNatClampNeg 4) (10 : Int32).toNatClampNeg 40), (fun _ => 0), (fun _ => 0), (fun _ => 0)))) := hD
  refine lv_iinc (v := 11) (lv' := [(6, .int 11), (5, .ref ad.2.2.2.2), (4, .ref ad.2.2.2.1), (3, .ref ad.2.2.1), (2, .ref ad.2.1), (1, .ref ad.1.1), (0, .ref b)]) hx hb dL_law_82 hl (k := 0) rfl rfl (by decide) rfl (fun ls hl => ?_)
  refine lv_goto (tgt := 69) hx hb dL_law_85 (by decide) ?_
  refine lv_iload hx hb dL_law_69 (lv_at hl 0 rfl) ?_
  refine lv_bipush (v := 14) hx hb dL_law_71 (by decide) ?_
  refine lv_icmp_ge (tgt := 88) hx hb dL_law_73 (by decide) (fun c_6 => absurd c_6 (by decide)) (fun c_6 => ?_)
  refine lv_aload_n hx hb dL_law_76 rfl (lv_at hl 4 rfl) ?_
  refine lv_iload hx hb dL_law_77 (lv_at hl 0 rfl) ?_
  refine lv_bipush (v := 40) hx hb dL_law_79 (by decide) ?_
  refine sV_g hC hK hP hD hS (in_iff.mpr (by decide)) dL_law_81 (fun H locs hP hD hS => ?_)
  have hP : va_P g.1 vwCl (cV g ad (mX3_init, ((upd (upd (upd (upd (upd (upd (upd (upd (fun _ => 0) (2 : Int32).toNatClampNeg 3) (3 : Int32).toNatClampNeg 4) (4 : Int32).toNatClampNeg 20) (7 : Int32).toNatClampNeg 4) (8 : Int32).toNatClampNeg 4) (9 : Int32).toNatClampNeg 4) (10 : Int32).toNatClampNeg 40) (11 : Int32).toNatClampNeg 40), (fun _ => 0), (fun _ => 0), (fun _ => 0)))) H := hP
  have hD : va_D (Anew s) (cV g ad (mX3_init, ((upd (upd (upd (upd (upd (upd (upd (upd (fun _ => 0) (2 : Int32).toNatClampNeg 3) (3 : Int32).toNatClampNeg 4) (4 : Int32).toNatClampNeg 20) (7 : Int32).toNatClampNeg 4) (8 : Int32).toNatClampNeg 4) (9 : Int32).toNatClampNeg 4) (10 : Int32).toNatClampNeg 40) (11 : Int32).toNatClampNeg 40), (fun _ => 0), (fun _ => 0), (fun _ => 0)))) := hD
  refine lv_iinc (v := 12) (lv' := [(6, .int 12), (5, .ref ad.2.2.2.2), (4, .ref ad.2.2.2.1), (3, .ref ad.2.2.1), (2, .ref ad.2.1), (1, .ref ad.1.1), (0, .ref b)]) hx hb dL_law_82 hl (k := 0) rfl rfl (by decide) rfl (fun ls hl => ?_)
  refine lv_goto (tgt := 69) hx hb dL_law_85 (by decide) ?_
  refine lv_iload hx hb dL_law_69 (lv_at hl 0 rfl) ?_
  refine lv_bipush (v := 14) hx hb dL_law_71 (by decide) ?_
  refine lv_icmp_ge (tgt := 88) hx hb dL_law_73 (by decide) (fun c_7 => absurd c_7 (by decide)) (fun c_7 => ?_)
  refine lv_aload_n hx hb dL_law_76 rfl (lv_at hl 4 rfl) ?_
  refine lv_iload hx hb dL_law_77 (lv_at hl 0 rfl) ?_
  refine lv_bipush (v := 40) hx hb dL_law_79 (by decide) ?_
  refine sV_g hC hK hP hD hS (in_iff.mpr (by decide)) dL_law_81 (fun H locs hP hD hS => ?_)
  have hP : va_P g.1 vwCl (cV g ad (mX3_init, ((upd (upd (upd (upd (upd (upd (upd (upd (upd (fun _ => 0) (2 : Int32).toNatClampNeg 3) (3 : Int32).toNatClampNeg 4) (4 : Int32).toNatClampNeg 20) (7 : Int32).toNatClampNeg 4) (8 : Int32).toNatClampNeg 4) (9 : Int32).toNatClampNeg 4) (10 : Int32).toNatClampNeg 40) (11 : Int32).toNatClampNeg 40) (12 : Int32).toNatClampNeg 40), (fun _ => 0), (fun _ => 0), (fun _ => 0)))) H := hP
  have hD : va_D (Anew s) (cV g ad (mX3_init, ((upd (upd (upd (upd (upd (upd (upd (upd (upd (fun _ => 0) (2 : Int32).toNatClampNeg 3) (3 : Int32).toNatClampNeg 4) (4 : Int32).toNatClampNeg 20) (7 : Int32).toNatClampNeg 4) (8 : Int32).toNatClampNeg 4) (9 : Int32).toNatClampNeg 4) (10 : Int32).toNatClampNeg 40) (11 : Int32).toNatClampNeg 40) (12 : Int32).toNatClampNeg 40), (fun _ => 0), (fun _ => 0), (fun _ => 0)))) := hD
  refine lv_iinc (v := 13) (lv' := [(6, .int 13), (5, .ref ad.2.2.2.2), (4, .ref ad.2.2.2.1), (3, .ref ad.2.2.1), (2, .ref ad.2.1), (1, .ref ad.1.1), (0, .ref b)]) hx hb dL_law_82 hl (k := 0) rfl rfl (by decide) rfl (fun ls hl => ?_)
  refine lv_goto (tgt := 69) hx hb dL_law_85 (by decide) ?_
  refine lv_iload hx hb dL_law_69 (lv_at hl 0 rfl) ?_
  refine lv_bipush (v := 14) hx hb dL_law_71 (by decide) ?_
  refine lv_icmp_ge (tgt := 88) hx hb dL_law_73 (by decide) (fun c_8 => absurd c_8 (by decide)) (fun c_8 => ?_)
  refine lv_aload_n hx hb dL_law_76 rfl (lv_at hl 4 rfl) ?_
  refine lv_iload hx hb dL_law_77 (lv_at hl 0 rfl) ?_
  refine lv_bipush (v := 40) hx hb dL_law_79 (by decide) ?_
  refine sV_g hC hK hP hD hS (in_iff.mpr (by decide)) dL_law_81 (fun H locs hP hD hS => ?_)
  have hP : va_P g.1 vwCl (cV g ad (mX3_init, ((upd (upd (upd (upd (upd (upd (upd (upd (upd (upd (fun _ => 0) (2 : Int32).toNatClampNeg 3) (3 : Int32).toNatClampNeg 4) (4 : Int32).toNatClampNeg 20) (7 : Int32).toNatClampNeg 4) (8 : Int32).toNatClampNeg 4) (9 : Int32).toNatClampNeg 4) (10 : Int32).toNatClampNeg 40) (11 : Int32).toNatClampNeg 40) (12 : Int32).toNatClampNeg 40) (13 : Int32).toNatClampNeg 40), (fun _ => 0), (fun _ => 0), (fun _ => 0)))) H := hP
  have hD : va_D (Anew s) (cV g ad (mX3_init, ((upd (upd (upd (upd (upd (upd (upd (upd (upd (upd (fun _ => 0) (2 : Int32).toNatClampNeg 3) (3 : Int32).toNatClampNeg 4) (4 : Int32).toNatClampNeg 20) (7 : Int32).toNatClampNeg 4) (8 : Int32).toNatClampNeg 4) (9 : Int32).toNatClampNeg 4) (10 : Int32).toNatClampNeg 40) (11 : Int32).toNatClampNeg 40) (12 : Int32).toNatClampNeg 40) (13 : Int32).toNatClampNeg 40), (fun _ => 0), (fun _ => 0), (fun _ => 0)))) := hD
  refine lv_iinc (v := 14) (lv' := [(6, .int 14), (5, .ref ad.2.2.2.2), (4, .ref ad.2.2.2.1), (3, .ref ad.2.2.1), (2, .ref ad.2.1), (1, .ref ad.1.1), (0, .ref b)]) hx hb dL_law_82 hl (k := 0) rfl rfl (by decide) rfl (fun ls hl => ?_)
  refine lv_goto (tgt := 69) hx hb dL_law_85 (by decide) ?_
  refine lv_iload hx hb dL_law_69 (lv_at hl 0 rfl) ?_
  refine lv_bipush (v := 14) hx hb dL_law_71 (by decide) ?_
  refine lv_icmp_ge (tgt := 88) hx hb dL_law_73 (by decide) (fun c_9 => ?_) (fun c_9 => absurd c_9 (by decide))
  have hP : va_P g.1 vwCl (cV g ad (mX3_init, γL0)) H := hP
  have hD : va_D (Anew s) (cV g ad (mX3_init, γL0)) := hD
  refine lv_aload_n hx hb dL_law_88 rfl (lv_at hl 5 rfl) ?_
  refine lv_aload_n hx hb dL_law_89 rfl (lv_at hl 4 rfl) ?_
  refine lv_aload_n hx hb dL_law_90 rfl (lv_at hl 3 rfl) ?_
  refine lv_aload hx hb dL_law_91 (lv_at hl 2 rfl) ?_
  refine lv_aload hx hb dL_law_93 (lv_at hl 1 rfl) ?_
  refine callSd hC (k_L_isSo l g ad (mX3_init, γL0) (rv_so rv_init).1) ci_L_isSo lk_L_132 ⟨Nat.le_of_ble_eq_true rfl, Nat.le_of_ble_eq_true rfl⟩ hP hK (hE.S hS).none rfl hl.1 rfl (Nat.le_of_ble_eq_true rfl) dL_law_95 hf ?_
  refine lv_if_eq (tgt := 149) hx hb dL_law_98 (by decide) (fun c_1 => absurd c_1 (by rw [(rv_so rv_init).2]; decide)) (fun c_1 => ?_)
  refine lv_aload_n hx hb dL_law_101 rfl (lv_at hl 5 rfl) ?_
  refine callWrR hC (k_undo0 l g ad.1) ci_X3_undo lk_L_136 ⟨Nat.le_of_ble_eq_true rfl, Nat.le_of_ble_eq_true rfl⟩ hP hD hK hE hS hA (q0 := 0) rfl rfl rfl rfl hl.1 rfl (Nat.le_of_ble_eq_true rfl) dL_law_102 hf (fun H locs hP hD hS => ?_)
  have hP : va_P g.1 vwCl (cV g ad (mX3_init, γL0)) H := hP
  have hD : va_D (Anew s) (cV g ad (mX3_init, γL0)) := hD
  refine lv_bipush (v := (-5)) hx hb dL_law_105 (by decide) ?_
  refine lv_icmp_ne (tgt := 149) hx hb dL_law_107 (by decide) (fun c_2 => absurd c_2 (by decide)) (fun c_2 => ?_)
  refine lv_aload_n hx hb dL_law_110 rfl (lv_at hl 5 rfl) ?_
  refine callWrR hC (k_restore0 l g ad.1) ci_X3_restore lk_L_140 ⟨Nat.le_of_ble_eq_true rfl, Nat.le_of_ble_eq_true rfl⟩ hP hD hK hE hS hA (q0 := 0) rfl rfl rfl rfl hl.1 rfl (Nat.le_of_ble_eq_true rfl) dL_law_111 hf (fun H locs hP hD hS => ?_)
  have hP : va_P g.1 vwCl (cV g ad (mX3_init, γL0)) H := hP
  have hD : va_D (Anew s) (cV g ad (mX3_init, γL0)) := hD
  refine lv_bipush (v := (-5)) hx hb dL_law_114 (by decide) ?_
  refine lv_icmp_ne (tgt := 149) hx hb dL_law_116 (by decide) (fun c_3 => absurd c_3 (by decide)) (fun c_3 => ?_)
  refine lv_aload_n hx hb dL_law_119 rfl (lv_at hl 5 rfl) ?_
  refine lv_iconst (v := 0) hx hb dL_law_120 (by decide) ?_
  refine callRd hC (k_X3_stopped l g ad.1 mX3_init 0) ci_X3_stopped lk_L_143 ⟨Nat.le_of_ble_eq_true rfl, Nat.le_of_ble_eq_true rfl⟩ (P_right hP) hK (hE.S hS).none (q0 := 0) rfl rfl rfl rfl hl.1 rfl (Nat.le_of_ble_eq_true rfl) dL_law_121 hf ?_
  refine lv_bipush (v := (-5)) hx hb dL_law_124 (by decide) ?_
  refine lv_icmp_ne (tgt := 149) hx hb dL_law_126 (by decide) (fun c_4 => absurd stop0 c_4) (fun c_4 => ?_)
  refine lv_aload_n hx hb dL_law_129 rfl (lv_at hl 5 rfl) ?_
  refine lv_iconst (v := 1) hx hb dL_law_130 (by decide) ?_
  refine callRd hC (k_X3_stopped l g ad.1 mX3_init 1) ci_X3_stopped lk_L_143 ⟨Nat.le_of_ble_eq_true rfl, Nat.le_of_ble_eq_true rfl⟩ (P_right hP) hK (hE.S hS).none (q0 := 0) rfl rfl rfl rfl hl.1 rfl (Nat.le_of_ble_eq_true rfl) dL_law_131 hf ?_
  refine lv_bipush (v := (-5)) hx hb dL_law_134 (by decide) ?_
  refine lv_icmp_ne (tgt := 149) hx hb dL_law_136 (by decide) (fun c_5 => absurd stop1 c_5) (fun c_5 => ?_)
  refine lv_aload_n hx hb dL_law_139 rfl (lv_at hl 5 rfl) ?_
  refine lv_iconst (v := 2) hx hb dL_law_140 (by decide) ?_
  refine callRd hC (k_X3_stopped l g ad.1 mX3_init 2) ci_X3_stopped lk_L_143 ⟨Nat.le_of_ble_eq_true rfl, Nat.le_of_ble_eq_true rfl⟩ (P_right hP) hK (hE.S hS).none (q0 := 0) rfl rfl rfl rfl hl.1 rfl (Nat.le_of_ble_eq_true rfl) dL_law_141 hf ?_
  refine lv_bipush (v := (-2)) hx hb dL_law_144 (by decide) ?_
  refine lv_icmp_eq (tgt := 151) hx hb dL_law_146 (by decide) (fun c_6 => ?_) (fun c_6 => absurd stop2 c_6)
  refine lv_iconst (v := 0) hx hb dL_law_151 (by decide) ?_
  refine lv_istore (lv' := [(6, .int 0), (5, .ref ad.2.2.2.2), (4, .ref ad.2.2.2.1), (3, .ref ad.2.2.1), (2, .ref ad.2.1), (1, .ref ad.1.1), (0, .ref b)]) hx hb dL_law_152 hl (by decide) rfl (fun ls hl => ?_)
  exact law_loop hlocks X hf 48 0 (mX3_init, γL0) H locs ls (by decide) hP hD hS rv_init (lv_sub hl [6, 5, 4, 3, 2, 1, 0] rfl)
