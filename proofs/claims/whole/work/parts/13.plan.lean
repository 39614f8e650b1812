/-! the plan: a state, its cells, its fields -/
abbrev PS : Type := (Nat → Int32) × (Nat → Int32) × (Nat → Int32) × (Nat → Int32) × Int32 × Int32 × Int32
def P_text (σ : PS) : Nat → Int32 := σ.1
def P_set_text (σ : PS) (v : Nat → Int32) : PS := (v, σ.2.1, σ.2.2.1, σ.2.2.2.1, σ.2.2.2.2.1, σ.2.2.2.2.2.1, σ.2.2.2.2.2.2)
def P_signs (σ : PS) : Nat → Int32 := σ.2.1
def P_set_signs (σ : PS) (v : Nat → Int32) : PS := (σ.1, v, σ.2.2.1, σ.2.2.2.1, σ.2.2.2.2.1, σ.2.2.2.2.2.1, σ.2.2.2.2.2.2)
def P_firsts (σ : PS) : Nat → Int32 := σ.2.2.1
def P_set_firsts (σ : PS) (v : Nat → Int32) : PS := (σ.1, σ.2.1, v, σ.2.2.2.1, σ.2.2.2.2.1, σ.2.2.2.2.2.1, σ.2.2.2.2.2.2)
def P_seconds (σ : PS) : Nat → Int32 := σ.2.2.2.1
def P_set_seconds (σ : PS) (v : Nat → Int32) : PS := (σ.1, σ.2.1, σ.2.2.1, v, σ.2.2.2.2.1, σ.2.2.2.2.2.1, σ.2.2.2.2.2.2)
def P_length (σ : PS) : Int32 := σ.2.2.2.2.1
def P_set_length (σ : PS) (v : Int32) : PS := (σ.1, σ.2.1, σ.2.2.1, σ.2.2.2.1, v, σ.2.2.2.2.2.1, σ.2.2.2.2.2.2)
def P_at (σ : PS) : Int32 := σ.2.2.2.2.2.1
def P_set_at (σ : PS) (v : Int32) : PS := (σ.1, σ.2.1, σ.2.2.1, σ.2.2.2.1, σ.2.2.2.2.1, v, σ.2.2.2.2.2.2)
def P_things (σ : PS) : Int32 := σ.2.2.2.2.2.2
def P_set_things (σ : PS) (v : Int32) : PS := (σ.1, σ.2.1, σ.2.2.1, σ.2.2.2.1, σ.2.2.2.2.1, σ.2.2.2.2.2.1, v)
abbrev AP : Type := Nat × Nat × Nat × Nat × Nat
abbrev cP (g : WG) (ad : AP) (σ : PS) : va_W := [(ad.1, .inr (1, [.ref ad.2.1, .int (P_length σ), .int (P_at σ), .ref ad.2.2.1, .ref ad.2.2.2.1, .ref ad.2.2.2.2, .int (P_things σ)])), (ad.2.1, .inl (g.2.2.1, 60, .inl (P_text σ))), (ad.2.2.1, .inl (g.2.2.1, 20, .inl (P_signs σ))), (ad.2.2.2.1, .inl (g.2.1, 20, .inl (P_firsts σ))), (ad.2.2.2.2, .inl (g.2.1, 20, .inl (P_seconds σ)))]
section FR
variable {p : Program} {l : Launch} {e : Env} {R : Room} {s : State} {m : MethodId} {args : Array Value} {below : List Frame} {meth : Method} {c : Code} {H : Heap} {locs : List Loc} {cells slots : Nat} {Q : State → Prop}
variable {pc : Nat} {ls : Array Slot} {rest : List Value}
theorem gt_X1_text {y : MethodName} {cc : ByteArray} {nL : Nat} {ro : Option FieldType} {g : WG} {ws : va_W} {a : Nat} {fs : List Value} {v : Value} (hC : Cx p s m args meth c y cc nL ro) (hy : y.cls = RX1) (hK : va_K g.1 vwCl (tysW g) s) (hP : va_P g.1 vwCl ws H) (q0 : Nat) (he : ws[q0]? = some (a, .inr (1, fs))) (hv : fs[0]? = some v) (hdg : decode cc pc = .ok (.getfield 11, 3)) (kk : W p l e R s m args below meth c H locs cells slots Q (F0 m (pc + 3) ls (v :: rest))) : W p l e R s m args below meth c H locs cells slots Q (F0 m pc ls (.ref a :: rest)) := by
  obtain ⟨hx, hb, hml, hr, hown, hts, hlk, hnm⟩ := hC
  rw [hy] at hown
  exact va_get (C := RX1) (T := TX1) (N := 7) hx hb hts uw_X1 hown hK hP q0 he rfl 0 (by decide) (hts _ fl_X1_11) (fun _ h => h) hv hdg kk
theorem gt_X1_length {y : MethodName} {cc : ByteArray} {nL : Nat} {ro : Option FieldType} {g : WG} {ws : va_W} {a : Nat} {fs : List Value} {v : Value} (hC : Cx p s m args meth c y cc nL ro) (hy : y.cls = RX1) (hK : va_K g.1 vwCl (tysW g) s) (hP : va_P g.1 vwCl ws H) (q0 : Nat) (he : ws[q0]? = some (a, .inr (1, fs))) (hv : fs[1]? = some v) (hdg : decode cc pc = .ok (.getfield 15, 3)) (kk : W p l e R s m args below meth c H locs cells slots Q (F0 m (pc + 3) ls (v :: rest))) : W p l e R s m args below meth c H locs cells slots Q (F0 m pc ls (.ref a :: rest)) := by
  obtain ⟨hx, hb, hml, hr, hown, hts, hlk, hnm⟩ := hC
  rw [hy] at hown
  exact va_get (C := RX1) (T := TX1) (N := 7) hx hb hts uw_X1 hown hK hP q0 he rfl 1 (by decide) (hts _ fl_X1_15) (fun _ h => h) hv hdg kk
theorem pt_X1_length {y : MethodName} {cc : ByteArray} {nL : Nat} {ro : Option FieldType} {g : WG} {ws : va_W} {A : Nat → Prop} {H0 : Heap} {a : Nat} {fs : List Value} {v : Int32} (hC : Cx p s m args meth c y cc nL ro) (hy : y.cls = RX1) (hK : va_K g.1 vwCl (tysW g) s) (hP : va_P g.1 vwCl ws H) (hD : va_D A ws) (hS : va_S A H0 H locs) (q0 : Nat) (he : ws[q0]? = some (a, .inr (1, fs))) (hl : 1 < fs.length) (hdg : decode cc pc = .ok (.putfield 15, 3)) (kk : ∀ (H1 : Heap) (locs1 : List Loc), va_P g.1 vwCl (ws.set q0 (a, .inr (1, fs.set 1 (.int v)))) H1 → va_D A (ws.set q0 (a, .inr (1, fs.set 1 (.int v)))) → va_S A H0 H1 locs1 → W p l e R s m args below meth c H1 locs1 cells slots Q (F0 m (pc + 3) ls rest)) : W p l e R s m args below meth c H locs cells slots Q (F0 m pc ls (.int v :: .ref a :: rest)) := by
  obtain ⟨hx, hb, hml, hr, hown, hts, hlk, hnm⟩ := hC
  rw [hy] at hown
  exact va_put (C := RX1) (T := TX1) (N := 7) (ty := .int) hx hb hts uw_X1 tyX1 tyX1_ok nmX1 hown hK hP hD hS q0 he rfl 1 (by decide) (hts _ fl_X1_15) (fun _ h => h) rfl (by decide +kernel) rfl rfl hl hdg kk
theorem gt_X1_at {y : MethodName} {cc : ByteArray} {nL : Nat} {ro : Option FieldType} {g : WG} {ws : va_W} {a : Nat} {fs : List Value} {v : Value} (hC : Cx p s m args meth c y cc nL ro) (hy : y.cls = RX1) (hK : va_K g.1 vwCl (tysW g) s) (hP : va_P g.1 vwCl ws H) (q0 : Nat) (he : ws[q0]? = some (a, .inr (1, fs))) (hv : fs[2]? = some v) (hdg : decode cc pc = .ok (.getfield 19, 3)) (kk : W p l e R s m args below meth c H locs cells slots Q (F0 m (pc + 3) ls (v :: rest))) : W p l e R s m args below meth c H locs cells slots Q (F0 m pc ls (.ref a :: rest)) := by
  obtain ⟨hx, hb, hml, hr, hown, hts, hlk, hnm⟩ := hC
  rw [hy] at hown
  exact va_get (C := RX1) (T := TX1) (N := 7) hx hb hts uw_X1 hown hK hP q0 he rfl 2 (by decide) (hts _ fl_X1_19) (fun _ h => h) hv hdg kk
theorem pt_X1_at {y : MethodName} {cc : ByteArray} {nL : Nat} {ro : Option FieldType} {g : WG} {ws : va_W} {A : Nat → Prop} {H0 : Heap} {a : Nat} {fs : List Value} {v : Int32} (hC : Cx p s m args meth c y cc nL ro) (hy : y.cls = RX1) (hK : va_K g.1 vwCl (tysW g) s) (hP : va_P g.1 vwCl ws H) (hD : va_D A ws) (hS : va_S A H0 H locs) (q0 : Nat) (he : ws[q0]? = some (a, .inr (1, fs))) (hl : 2 < fs.length) (hdg : decode cc pc = .ok (.putfield 19, 3)) (kk : ∀ (H1 : Heap) (locs1 : List Loc), va_P g.1 vwCl (ws.set q0 (a, .inr (1, fs.set 2 (.int v)))) H1 → va_D A (ws.set q0 (a, .inr (1, fs.set 2 (.int v)))) → va_S A H0 H1 locs1 → W p l e R s m args below meth c H1 locs1 cells slots Q (F0 m (pc + 3) ls rest)) : W p l e R s m args below meth c H locs cells slots Q (F0 m pc ls (.int v :: .ref a :: rest)) := by
  obtain ⟨hx, hb, hml, hr, hown, hts, hlk, hnm⟩ := hC
  rw [hy] at hown
  exact va_put (C := RX1) (T := TX1) (N := 7) (ty := .int) hx hb hts uw_X1 tyX1 tyX1_ok nmX1 hown hK hP hD hS q0 he rfl 2 (by decide) (hts _ fl_X1_19) (fun _ h => h) rfl (by decide +kernel) rfl rfl hl hdg kk
theorem gt_X1_signs {y : MethodName} {cc : ByteArray} {nL : Nat} {ro : Option FieldType} {g : WG} {ws : va_W} {a : Nat} {fs : List Value} {v : Value} (hC : Cx p s m args meth c y cc nL ro) (hy : y.cls = RX1) (hK : va_K g.1 vwCl (tysW g) s) (hP : va_P g.1 vwCl ws H) (q0 : Nat) (he : ws[q0]? = some (a, .inr (1, fs))) (hv : fs[3]? = some v) (hdg : decode cc pc = .ok (.getfield 22, 3)) (kk : W p l e R s m args below meth c H locs cells slots Q (F0 m (pc + 3) ls (v :: rest))) : W p l e R s m args below meth c H locs cells slots Q (F0 m pc ls (.ref a :: rest)) := by
  obtain ⟨hx, hb, hml, hr, hown, hts, hlk, hnm⟩ := hC
  rw [hy] at hown
  exact va_get (C := RX1) (T := TX1) (N := 7) hx hb hts uw_X1 hown hK hP q0 he rfl 3 (by decide) (hts _ fl_X1_22) (fun _ h => h) hv hdg kk
theorem gt_X1_firsts {y : MethodName} {cc : ByteArray} {nL : Nat} {ro : Option FieldType} {g : WG} {ws : va_W} {a : Nat} {fs : List Value} {v : Value} (hC : Cx p s m args meth c y cc nL ro) (hy : y.cls = RX1) (hK : va_K g.1 vwCl (tysW g) s) (hP : va_P g.1 vwCl ws H) (q0 : Nat) (he : ws[q0]? = some (a, .inr (1, fs))) (hv : fs[4]? = some v) (hdg : decode cc pc = .ok (.getfield 25, 3)) (kk : W p l e R s m args below meth c H locs cells slots Q (F0 m (pc + 3) ls (v :: rest))) : W p l e R s m args below meth c H locs cells slots Q (F0 m pc ls (.ref a :: rest)) := by
  obtain ⟨hx, hb, hml, hr, hown, hts, hlk, hnm⟩ := hC
  rw [hy] at hown
  exact va_get (C := RX1) (T := TX1) (N := 7) hx hb hts uw_X1 hown hK hP q0 he rfl 4 (by decide) (hts _ fl_X1_25) (fun _ h => h) hv hdg kk
theorem gt_X1_seconds {y : MethodName} {cc : ByteArray} {nL : Nat} {ro : Option FieldType} {g : WG} {ws : va_W} {a : Nat} {fs : List Value} {v : Value} (hC : Cx p s m args meth c y cc nL ro) (hy : y.cls = RX1) (hK : va_K g.1 vwCl (tysW g) s) (hP : va_P g.1 vwCl ws H) (q0 : Nat) (he : ws[q0]? = some (a, .inr (1, fs))) (hv : fs[5]? = some v) (hdg : decode cc pc = .ok (.getfield 29, 3)) (kk : W p l e R s m args below meth c H locs cells slots Q (F0 m (pc + 3) ls (v :: rest))) : W p l e R s m args below meth c H locs cells slots Q (F0 m pc ls (.ref a :: rest)) := by
  obtain ⟨hx, hb, hml, hr, hown, hts, hlk, hnm⟩ := hC
  rw [hy] at hown
  exact va_get (C := RX1) (T := TX1) (N := 7) hx hb hts uw_X1 hown hK hP q0 he rfl 5 (by decide) (hts _ fl_X1_29) (fun _ h => h) hv hdg kk
theorem gt_X1_things {y : MethodName} {cc : ByteArray} {nL : Nat} {ro : Option FieldType} {g : WG} {ws : va_W} {a : Nat} {fs : List Value} {v : Value} (hC : Cx p s m args meth c y cc nL ro) (hy : y.cls = RX1) (hK : va_K g.1 vwCl (tysW g) s) (hP : va_P g.1 vwCl ws H) (q0 : Nat) (he : ws[q0]? = some (a, .inr (1, fs))) (hv : fs[6]? = some v) (hdg : decode cc pc = .ok (.getfield 32, 3)) (kk : W p l e R s m args below meth c H locs cells slots Q (F0 m (pc + 3) ls (v :: rest))) : W p l e R s m args below meth c H locs cells slots Q (F0 m pc ls (.ref a :: rest)) := by
  obtain ⟨hx, hb, hml, hr, hown, hts, hlk, hnm⟩ := hC
  rw [hy] at hown
  exact va_get (C := RX1) (T := TX1) (N := 7) hx hb hts uw_X1 hown hK hP q0 he rfl 6 (by decide) (hts _ fl_X1_32) (fun _ h => h) hv hdg kk
theorem pt_X1_things {y : MethodName} {cc : ByteArray} {nL : Nat} {ro : Option FieldType} {g : WG} {ws : va_W} {A : Nat → Prop} {H0 : Heap} {a : Nat} {fs : List Value} {v : Int32} (hC : Cx p s m args meth c y cc nL ro) (hy : y.cls = RX1) (hK : va_K g.1 vwCl (tysW g) s) (hP : va_P g.1 vwCl ws H) (hD : va_D A ws) (hS : va_S A H0 H locs) (q0 : Nat) (he : ws[q0]? = some (a, .inr (1, fs))) (hl : 6 < fs.length) (hdg : decode cc pc = .ok (.putfield 32, 3)) (kk : ∀ (H1 : Heap) (locs1 : List Loc), va_P g.1 vwCl (ws.set q0 (a, .inr (1, fs.set 6 (.int v)))) H1 → va_D A (ws.set q0 (a, .inr (1, fs.set 6 (.int v)))) → va_S A H0 H1 locs1 → W p l e R s m args below meth c H1 locs1 cells slots Q (F0 m (pc + 3) ls rest)) : W p l e R s m args below meth c H locs cells slots Q (F0 m pc ls (.int v :: .ref a :: rest)) := by
  obtain ⟨hx, hb, hml, hr, hown, hts, hlk, hnm⟩ := hC
  rw [hy] at hown
  exact va_put (C := RX1) (T := TX1) (N := 7) (ty := .int) hx hb hts uw_X1 tyX1 tyX1_ok nmX1 hown hK hP hD hS q0 he rfl 6 (by decide) (hts _ fl_X1_32) (fun _ h => h) rfl (by decide +kernel) rfl rfl hl hdg kk
theorem gP_text {y : MethodName} {cc : ByteArray} {nL : Nat} {ro : Option FieldType} {g : WG} {ad : AP} {σ : PS} (hC : Cx p s m args meth c y cc nL ro) (hy : y.cls = RX1) (hK : va_K g.1 vwCl (tysW g) s) (hP : va_P g.1 vwCl (cP g ad σ) H) (hdg : decode cc pc = .ok (.getfield 11, 3)) (kk : W p l e R s m args below meth c H locs cells slots Q (F0 m (pc + 3) ls (.ref ad.2.1 :: rest))) : W p l e R s m args below meth c H locs cells slots Q (F0 m pc ls (.ref ad.1 :: rest)) := gt_X1_text hC hy hK hP 0 rfl rfl hdg kk
theorem gP_length {y : MethodName} {cc : ByteArray} {nL : Nat} {ro : Option FieldType} {g : WG} {ad : AP} {σ : PS} (hC : Cx p s m args meth c y cc nL ro) (hy : y.cls = RX1) (hK : va_K g.1 vwCl (tysW g) s) (hP : va_P g.1 vwCl (cP g ad σ) H) (hdg : decode cc pc = .ok (.getfield 15, 3)) (kk : W p l e R s m args below meth c H locs cells slots Q (F0 m (pc + 3) ls (.int (P_length σ) :: rest))) : W p l e R s m args below meth c H locs cells slots Q (F0 m pc ls (.ref ad.1 :: rest)) := gt_X1_length hC hy hK hP 0 rfl rfl hdg kk
theorem pP_length {y : MethodName} {cc : ByteArray} {nL : Nat} {ro : Option FieldType} {g : WG} {ad : AP} {σ : PS} {A : Nat → Prop} {H0 : Heap} {v : Int32} (hC : Cx p s m args meth c y cc nL ro) (hy : y.cls = RX1) (hK : va_K g.1 vwCl (tysW g) s) (hP : va_P g.1 vwCl (cP g ad σ) H) (hD : va_D A (cP g ad σ)) (hS : va_S A H0 H locs) (hdg : decode cc pc = .ok (.putfield 15, 3)) (kk : ∀ (H1 : Heap) (locs1 : List Loc), va_P g.1 vwCl (cP g ad (P_set_length σ v)) H1 → va_D A (cP g ad (P_set_length σ v)) → va_S A H0 H1 locs1 → W p l e R s m args below meth c H1 locs1 cells slots Q (F0 m (pc + 3) ls (rest))) : W p l e R s m args below meth c H locs cells slots Q (F0 m pc ls (.int v :: .ref ad.1 :: rest)) := pt_X1_length hC hy hK hP hD hS 0 rfl (Nat.le_of_ble_eq_true rfl) hdg kk
theorem gP_at {y : MethodName} {cc : ByteArray} {nL : Nat} {ro : Option FieldType} {g : WG} {ad : AP} {σ : PS} (hC : Cx p s m args meth c y cc nL ro) (hy : y.cls = RX1) (hK : va_K g.1 vwCl (tysW g) s) (hP : va_P g.1 vwCl (cP g ad σ) H) (hdg : decode cc pc = .ok (.getfield 19, 3)) (kk : W p l e R s m args below meth c H locs cells slots Q (F0 m (pc + 3) ls (.int (P_at σ) :: rest))) : W p l e R s m args below meth c H locs cells slots Q (F0 m pc ls (.ref ad.1 :: rest)) := gt_X1_at hC hy hK hP 0 rfl rfl hdg kk
theorem pP_at {y : MethodName} {cc : ByteArray} {nL : Nat} {ro : Option FieldType} {g : WG} {ad : AP} {σ : PS} {A : Nat → Prop} {H0 : Heap} {v : Int32} (hC : Cx p s m args meth c y cc nL ro) (hy : y.cls = RX1) (hK : va_K g.1 vwCl (tysW g) s) (hP : va_P g.1 vwCl (cP g ad σ) H) (hD : va_D A (cP g ad σ)) (hS : va_S A H0 H locs) (hdg : decode cc pc = .ok (.putfield 19, 3)) (kk : ∀ (H1 : Heap) (locs1 : List Loc), va_P g.1 vwCl (cP g ad (P_set_at σ v)) H1 → va_D A (cP g ad (P_set_at σ v)) → va_S A H0 H1 locs1 → W p l e R s m args below meth c H1 locs1 cells slots Q (F0 m (pc + 3) ls (rest))) : W p l e R s m args below meth c H locs cells slots Q (F0 m pc ls (.int v :: .ref ad.1 :: rest)) := pt_X1_at hC hy hK hP hD hS 0 rfl (Nat.le_of_ble_eq_true rfl) hdg kk
theorem gP_signs {y : MethodName} {cc : ByteArray} {nL : Nat} {ro : Option FieldType} {g : WG} {ad : AP} {σ : PS} (hC : Cx p s m args meth c y cc nL ro) (hy : y.cls = RX1) (hK : va_K g.1 vwCl (tysW g) s) (hP : va_P g.1 vwCl (cP g ad σ) H) (hdg : decode cc pc = .ok (.getfield 22, 3)) (kk : W p l e R s m args below meth c H locs cells slots Q (F0 m (pc + 3) ls (.ref ad.2.2.1 :: rest))) : W p l e R s m args below meth c H locs cells slots Q (F0 m pc ls (.ref ad.1 :: rest)) := gt_X1_signs hC hy hK hP 0 rfl rfl hdg kk
theorem gP_firsts {y : MethodName} {cc : ByteArray} {nL : Nat} {ro : Option FieldType} {g : WG} {ad : AP} {σ : PS} (hC : Cx p s m args meth c y cc nL ro) (hy : y.cls = RX1) (hK : va_K g.1 vwCl (tysW g) s) (hP : va_P g.1 vwCl (cP g ad σ) H) (hdg : decode cc pc = .ok (.getfield 25, 3)) (kk : W p l e R s m args below meth c H locs cells slots Q (F0 m (pc + 3) ls (.ref ad.2.2.2.1 :: rest))) : W p l e R s m args below meth c H locs cells slots Q (F0 m pc ls (.ref ad.1 :: rest)) := gt_X1_firsts hC hy hK hP 0 rfl rfl hdg kk
theorem gP_seconds {y : MethodName} {cc : ByteArray} {nL : Nat} {ro : Option FieldType} {g : WG} {ad : AP} {σ : PS} (hC : Cx p s m args meth c y cc nL ro) (hy : y.cls = RX1) (hK : va_K g.1 vwCl (tysW g) s) (hP : va_P g.1 vwCl (cP g ad σ) H) (hdg : decode cc pc = .ok (.getfield 29, 3)) (kk : W p l e R s m args below meth c H locs cells slots Q (F0 m (pc + 3) ls (.ref ad.2.2.2.2 :: rest))) : W p l e R s m args below meth c H locs cells slots Q (F0 m pc ls (.ref ad.1 :: rest)) := gt_X1_seconds hC hy hK hP 0 rfl rfl hdg kk
theorem gP_things {y : MethodName} {cc : ByteArray} {nL : Nat} {ro : Option FieldType} {g : WG} {ad : AP} {σ : PS} (hC : Cx p s m args meth c y cc nL ro) (hy : y.cls = RX1) (hK : va_K g.1 vwCl (tysW g) s) (hP : va_P g.1 vwCl (cP g ad σ) H) (hdg : decode cc pc = .ok (.getfield 32, 3)) (kk : W p l e R s m args below meth c H locs cells slots Q (F0 m (pc + 3) ls (.int (P_things σ) :: rest))) : W p l e R s m args below meth c H locs cells slots Q (F0 m pc ls (.ref ad.1 :: rest)) := gt_X1_things hC hy hK hP 0 rfl rfl hdg kk
theorem pP_things {y : MethodName} {cc : ByteArray} {nL : Nat} {ro : Option FieldType} {g : WG} {ad : AP} {σ : PS} {A : Nat → Prop} {H0 : Heap} {v : Int32} (hC : Cx p s m args meth c y cc nL ro) (hy : y.cls = RX1) (hK : va_K g.1 vwCl (tysW g) s) (hP : va_P g.1 vwCl (cP g ad σ) H) (hD : va_D A (cP g ad σ)) (hS : va_S A H0 H locs) (hdg : decode cc pc = .ok (.putfield 32, 3)) (kk : ∀ (H1 : Heap) (locs1 : List Loc), va_P g.1 vwCl (cP g ad (P_set_things σ v)) H1 → va_D A (cP g ad (P_set_things σ v)) → va_S A H0 H1 locs1 → W p l e R s m args below meth c H1 locs1 cells slots Q (F0 m (pc + 3) ls (rest))) : W p l e R s m args below meth c H locs cells slots Q (F0 m pc ls (.int v :: .ref ad.1 :: rest)) := pt_X1_things hC hy hK hP hD hS 0 rfl (Nat.le_of_ble_eq_true rfl) hdg kk
theorem lP_text {y : MethodName} {cc : ByteArray} {nL : Nat} {ro : Option FieldType} {g : WG} {ad : AP} {σ : PS} (hC : Cx p s m args meth c y cc nL ro) (hK : va_K g.1 vwCl (tysW g) s) (hP : va_P g.1 vwCl (cP g ad σ) H) {i : Int32} (hin : vp_in i 60) (hdg : decode cc pc = .ok (.caload, 1)) (kk : W p l e R s m args below meth c H locs cells slots Q (F0 m (pc + 1) ls (.int ((P_text σ) i.toNatClampNeg) :: rest))) : W p l e R s m args below meth c H locs cells slots Q (F0 m pc ls (.int i :: .ref ad.2.1 :: rest)) := va_cald hC.1 hC.2.1 hK hP 1 1 rfl rfl hin hdg kk
theorem nP_text {y : MethodName} {cc : ByteArray} {nL : Nat} {ro : Option FieldType} {g : WG} {ad : AP} {σ : PS} (hC : Cx p s m args meth c y cc nL ro) (hK : va_K g.1 vwCl (tysW g) s) (hP : va_P g.1 vwCl (cP g ad σ) H) (hdg : decode cc pc = .ok (.arraylength, 1)) (kk : W p l e R s m args below meth c H locs cells slots Q (F0 m (pc + 1) ls (.int 60 :: rest))) : W p l e R s m args below meth c H locs cells slots Q (F0 m pc ls (.ref ad.2.1 :: rest)) := va_alen (v := 60) hC.1 hC.2.1 hK hP 1 1 rfl rfl rfl hdg kk
theorem sP_text {y : MethodName} {cc : ByteArray} {nL : Nat} {ro : Option FieldType} {g : WG} {ad : AP} {σ : PS} {A : Nat → Prop} {H0 : Heap} {i x : Int32} (hC : Cx p s m args meth c y cc nL ro) (hK : va_K g.1 vwCl (tysW g) s) (hP : va_P g.1 vwCl (cP g ad σ) H) (hD : va_D A (cP g ad σ)) (hS : va_S A H0 H locs) (hin : vp_in i 60) (hdg : decode cc pc = .ok (.castore, 1)) (kk : ∀ (H1 : Heap) (locs1 : List Loc), va_P g.1 vwCl (cP g ad (P_set_text σ (upd (P_text σ) i.toNatClampNeg (vp_nar .char x)))) H1 → va_D A (cP g ad (P_set_text σ (upd (P_text σ) i.toNatClampNeg (vp_nar .char x)))) → va_S A H0 H1 locs1 → W p l e R s m args below meth c H1 locs1 cells slots Q (F0 m (pc + 1) ls (rest))) : W p l e R s m args below meth c H locs cells slots Q (F0 m pc ls (.int x :: .int i :: .ref ad.2.1 :: rest)) := va_cast hC.1 hC.2.1 hK hP hD hS 1 1 rfl rfl hin hdg kk
theorem lP_signs {y : MethodName} {cc : ByteArray} {nL : Nat} {ro : Option FieldType} {g : WG} {ad : AP} {σ : PS} (hC : Cx p s m args meth c y cc nL ro) (hK : va_K g.1 vwCl (tysW g) s) (hP : va_P g.1 vwCl (cP g ad σ) H) {i : Int32} (hin : vp_in i 20) (hdg : decode cc pc = .ok (.caload, 1)) (kk : W p l e R s m args below meth c H locs cells slots Q (F0 m (pc + 1) ls (.int ((P_signs σ) i.toNatClampNeg) :: rest))) : W p l e R s m args below meth c H locs cells slots Q (F0 m pc ls (.int i :: .ref ad.2.2.1 :: rest)) := va_cald hC.1 hC.2.1 hK hP 2 1 rfl rfl hin hdg kk
theorem nP_signs {y : MethodName} {cc : ByteArray} {nL : Nat} {ro : Option FieldType} {g : WG} {ad : AP} {σ : PS} (hC : Cx p s m args meth c y cc nL ro) (hK : va_K g.1 vwCl (tysW g) s) (hP : va_P g.1 vwCl (cP g ad σ) H) (hdg : decode cc pc = .ok (.arraylength, 1)) (kk : W p l e R s m args below meth c H locs cells slots Q (F0 m (pc + 1) ls (.int 20 :: rest))) : W p l e R s m args below meth c H locs cells slots Q (F0 m pc ls (.ref ad.2.2.1 :: rest)) := va_alen (v := 20) hC.1 hC.2.1 hK hP 2 1 rfl rfl rfl hdg kk
theorem sP_signs {y : MethodName} {cc : ByteArray} {nL : Nat} {ro : Option FieldType} {g : WG} {ad : AP} {σ : PS} {A : Nat → Prop} {H0 : Heap} {i x : Int32} (hC : Cx p s m args meth c y cc nL ro) (hK : va_K g.1 vwCl (tysW g) s) (hP : va_P g.1 vwCl (cP g ad σ) H) (hD : va_D A (cP g ad σ)) (hS : va_S A H0 H locs) (hin : vp_in i 20) (hdg : decode cc pc = .ok (.castore, 1)) (kk : ∀ (H1 : Heap) (locs1 : List Loc), va_P g.1 vwCl (cP g ad (P_set_signs σ (upd (P_signs σ) i.toNatClampNeg (vp_nar .char x)))) H1 → va_D A (cP g ad (P_set_signs σ (upd (P_signs σ) i.toNatClampNeg (vp_nar .char x)))) → va_S A H0 H1 locs1 → W p l e R s m args below meth c H1 locs1 cells slots Q (F0 m (pc + 1) ls (rest))) : W p l e R s m args below meth c H locs cells slots Q (F0 m pc ls (.int x :: .int i :: .ref ad.2.2.1 :: rest)) := va_cast hC.1 hC.2.1 hK hP hD hS 2 1 rfl rfl hin hdg kk
theorem lP_firsts {y : MethodName} {cc : ByteArray} {nL : Nat} {ro : Option FieldType} {g : WG} {ad : AP} {σ : PS} (hC : Cx p s m args meth c y cc nL ro) (hK : va_K g.1 vwCl (tysW g) s) (hP : va_P g.1 vwCl (cP g ad σ) H) {i : Int32} (hin : vp_in i 20) (hdg : decode cc pc = .ok (.iaload, 1)) (kk : W p l e R s m args below meth c H locs cells slots Q (F0 m (pc + 1) ls (.int ((P_firsts σ) i.toNatClampNeg) :: rest))) : W p l e R s m args below meth c H locs cells slots Q (F0 m pc ls (.int i :: .ref ad.2.2.2.1 :: rest)) := va_iald hC.1 hC.2.1 hK hP 3 0 rfl rfl hin hdg kk
theorem nP_firsts {y : MethodName} {cc : ByteArray} {nL : Nat} {ro : Option FieldType} {g : WG} {ad : AP} {σ : PS} (hC : Cx p s m args meth c y cc nL ro) (hK : va_K g.1 vwCl (tysW g) s) (hP : va_P g.1 vwCl (cP g ad σ) H) (hdg : decode cc pc = .ok (.arraylength, 1)) (kk : W p l e R s m args below meth c H locs cells slots Q (F0 m (pc + 1) ls (.int 20 :: rest))) : W p l e R s m args below meth c H locs cells slots Q (F0 m pc ls (.ref ad.2.2.2.1 :: rest)) := va_alen (v := 20) hC.1 hC.2.1 hK hP 3 0 rfl rfl rfl hdg kk
theorem sP_firsts {y : MethodName} {cc : ByteArray} {nL : Nat} {ro : Option FieldType} {g : WG} {ad : AP} {σ : PS} {A : Nat → Prop} {H0 : Heap} {i x : Int32} (hC : Cx p s m args meth c y cc nL ro) (hK : va_K g.1 vwCl (tysW g) s) (hP : va_P g.1 vwCl (cP g ad σ) H) (hD : va_D A (cP g ad σ)) (hS : va_S A H0 H locs) (hin : vp_in i 20) (hdg : decode cc pc = .ok (.iastore, 1)) (kk : ∀ (H1 : Heap) (locs1 : List Loc), va_P g.1 vwCl (cP g ad (P_set_firsts σ (upd (P_firsts σ) i.toNatClampNeg x))) H1 → va_D A (cP g ad (P_set_firsts σ (upd (P_firsts σ) i.toNatClampNeg x))) → va_S A H0 H1 locs1 → W p l e R s m args below meth c H1 locs1 cells slots Q (F0 m (pc + 1) ls (rest))) : W p l e R s m args below meth c H locs cells slots Q (F0 m pc ls (.int x :: .int i :: .ref ad.2.2.2.1 :: rest)) := va_iast hC.1 hC.2.1 hK hP hD hS 3 0 rfl rfl hin hdg kk
theorem lP_seconds {y : MethodName} {cc : ByteArray} {nL : Nat} {ro : Option FieldType} {g : WG} {ad : AP} {σ : PS} (hC : Cx p s m args meth c y cc nL ro) (hK : va_K g.1 vwCl (tysW g) s) (hP : va_P g.1 vwCl (cP g ad σ) H) {i : Int32} (hin : vp_in i 20) (hdg : decode cc pc = .ok (.iaload, 1)) (kk : W p l e R s m args below meth c H locs cells slots Q (F0 m (pc + 1) ls (.int ((P_seconds σ) i.toNatClampNeg) :: rest))) : W p l e R s m args below meth c H locs cells slots Q (F0 m pc ls (.int i :: .ref ad.2.2.2.2 :: rest)) := va_iald hC.1 hC.2.1 hK hP 4 0 rfl rfl hin hdg kk
theorem nP_seconds {y : MethodName} {cc : ByteArray} {nL : Nat} {ro : Option FieldType} {g : WG} {ad : AP} {σ : PS} (hC : Cx p s m args meth c y cc nL ro) (hK : va_K g.1 vwCl (tysW g) s) (hP : va_P g.1 vwCl (cP g ad σ) H) (hdg : decode cc pc = .ok (.arraylength, 1)) (kk : W p l e R s m args below meth c H locs cells slots Q (F0 m (pc + 1) ls (.int 20 :: rest))) : W p l e R s m args below meth c H locs cells slots Q (F0 m pc ls (.ref ad.2.2.2.2 :: rest)) := va_alen (v := 20) hC.1 hC.2.1 hK hP 4 0 rfl rfl rfl hdg kk
theorem sP_seconds {y : MethodName} {cc : ByteArray} {nL : Nat} {ro : Option FieldType} {g : WG} {ad : AP} {σ : PS} {A : Nat → Prop} {H0 : Heap} {i x : Int32} (hC : Cx p s m args meth c y cc nL ro) (hK : va_K g.1 vwCl (tysW g) s) (hP : va_P g.1 vwCl (cP g ad σ) H) (hD : va_D A (cP g ad σ)) (hS : va_S A H0 H locs) (hin : vp_in i 20) (hdg : decode cc pc = .ok (.iastore, 1)) (kk : ∀ (H1 : Heap) (locs1 : List Loc), va_P g.1 vwCl (cP g ad (P_set_seconds σ (upd (P_seconds σ) i.toNatClampNeg x))) H1 → va_D A (cP g ad (P_set_seconds σ (upd (P_seconds σ) i.toNatClampNeg x))) → va_S A H0 H1 locs1 → W p l e R s m args below meth c H1 locs1 cells slots Q (F0 m (pc + 1) ls (rest))) : W p l e R s m args below meth c H locs cells slots Q (F0 m pc ls (.int x :: .int i :: .ref ad.2.2.2.2 :: rest)) := va_iast hC.1 hC.2.1 hK hP hD hS 4 0 rfl rfl hin hdg kk
end FR
def mX1_length (σ : PS) : Int32 := (P_length σ)
set_option maxHeartbeats 4000000 in
set_option maxRecDepth 100000 in
theorem k_X1_length (l : Launch) (g : WG) (ad : AP) (σ : PS) : Rd l yX1_length cX1_length 1 (some .int) 0 (Wl g (cP g ad σ) (fun _ => False)) [.ref ad.1] (mX1_length σ) := by
  refine rd_of (by decide) (Nat.le_of_ble_eq_true rfl) ?_
  intro p e s m args below meth c ls hC hW hl
  obtain ⟨hP, hK, hE⟩ := hW
  obtain ⟨hx, hb, hml, hr, hown, hts, hlk, hnm⟩ := id hC
  have hl : lv_has ls 1 [(0, .ref ad.1)] := hl
  refine lv_aload_n hx hb dX1_length_0 rfl (lv_at hl 0 rfl) ?_
  refine gP_length hC rfl hK hP dX1_length_1 ?_
  exact rd_ret hC dX1_length_4 (Eq.symm (by unfold mX1_length; rfl))
theorem in_lt {x N : Int32} {n : Nat} (hN : N.toInt = n) (h0 : 0 ≤ x.toInt) (c : x < N) : vp_in x n := in_iff.mpr ⟨h0, by rw [lt_ti] at c; omega⟩
def mX1_append (σ : PS) (x1 : Int32) : Int32 × PS := (if (P_length σ) < 60 then ((P_length (P_set_length (P_set_text σ (upd (P_text σ) (P_length σ).toNatClampNeg (vp_nar .char x1))) ((P_length (P_set_text σ (upd (P_text σ) (P_length σ).toNatClampNeg (vp_nar .char x1)))) + 1))), (P_set_length (P_set_text σ (upd (P_text σ) (P_length σ).toNatClampNeg (vp_nar .char x1))) ((P_length (P_set_text σ (upd (P_text σ) (P_length σ).toNatClampNeg (vp_nar .char x1)))) + 1))) else ((-3), σ))
set_option maxHeartbeats 4000000 in
set_option maxRecDepth 100000 in
theorem k_X1_append (l : Launch) (g : WG) (ad : AP) (σ : PS) (x1 : Int32) (h_len : 0 ≤ (P_length σ).toInt) : Wr l yX1_append cX1_append 2 (some .int) 0 g (cP g ad σ) (cP g ad (mX1_append σ x1).2) [.ref ad.1, .int x1] (mX1_append σ x1).1 := by
  refine wr_of (by decide) (Nat.le_of_ble_eq_true rfl) ?_
  intro p e s m args below meth c ls A hC hAe hP hD hK hE hA hS hl
  obtain ⟨hx, hb, hml, hr, hown, hts, hlk, hnm⟩ := id hC
  have hl : lv_has ls 2 [(0, .ref ad.1), (1, .int x1)] := hl
  refine lv_aload_n hx hb dX1_append_0 rfl (lv_at hl 0 rfl) ?_
  refine gP_length hC rfl hK hP dX1_append_1 ?_
  refine lv_bipush (v := 60) hx hb dX1_append_4 (by decide) ?_
  refine lv_icmp_lt (tgt := 12) hx hb dX1_append_6 (by decide) (fun c_1 => ?_) (fun c_1 => ?_)
  · refine lv_aload_n hx hb dX1_append_12 rfl (lv_at hl 0 rfl) ?_
    refine gP_text hC rfl hK hP dX1_append_13 ?_
    refine lv_aload_n hx hb dX1_append_16 rfl (lv_at hl 0 rfl) ?_
    refine gP_length hC rfl hK hP dX1_append_17 ?_
    refine lv_iload_n hx hb dX1_append_20 rfl (lv_at hl 1 rfl) ?_
    refine sP_text hC hK hP hD hS (in_lt (n := 60) rfl h_len c_1) dX1_append_21 (fun H locs hP hD hS => ?_)
    refine lv_aload_n hx hb dX1_append_22 rfl (lv_at hl 0 rfl) ?_
    refine lv_dup hx hb dX1_append_23 rfl ?_
    refine gP_length hC rfl hK hP dX1_append_24 ?_
    refine lv_iconst (v := 1) hx hb dX1_append_27 (by decide) ?_
    refine lv_iadd hx hb dX1_append_28 ?_
    refine pP_length hC rfl hK hP hD hS dX1_append_29 (fun H locs hP hD hS => ?_)
    refine lv_aload_n hx hb dX1_append_32 rfl (lv_at hl 0 rfl) ?_
    refine gP_length hC rfl hK hP dX1_append_33 ?_
    have hm : mX1_append σ x1 = ((P_length (P_set_length (P_set_text σ (upd (P_text σ) (P_length σ).toNatClampNeg (vp_nar .char x1))) ((P_length (P_set_text σ (upd (P_text σ) (P_length σ).toNatClampNeg (vp_nar .char x1)))) + 1))), (P_set_length (P_set_text σ (upd (P_text σ) (P_length σ).toNatClampNeg (vp_nar .char x1))) ((P_length (P_set_text σ (upd (P_text σ) (P_length σ).toNatClampNeg (vp_nar .char x1)))) + 1))) := by unfold mX1_append; rw [if_pos c_1]
    exact wr_ret hC hP (hAe ▸ hD) (hAe ▸ hS) dX1_append_36 (by rw [hm]) (by rw [hm])
  · refine lv_bipush (v := (-3)) hx hb dX1_append_9 (by decide) ?_
    have hm : mX1_append σ x1 = ((-3), σ) := by unfold mX1_append; rw [if_neg c_1]
    exact wr_ret hC hP (hAe ▸ hD) (hAe ▸ hS) dX1_append_11 (by rw [hm]) (by rw [hm])
def mX1_empty (σ : PS) : Int32 × PS := ((P_length σ), (P_set_length σ 0))
set_option maxHeartbeats 4000000 in
set_option maxRecDepth 100000 in
theorem k_X1_empty (l : Launch) (g : WG) (ad : AP) (σ : PS) : Wr l yX1_empty cX1_empty 2 (some .int) 0 g (cP g ad σ) (cP g ad (mX1_empty σ).2) [.ref ad.1] (mX1_empty σ).1 := by
  refine wr_of (by decide) (Nat.le_of_ble_eq_true rfl) ?_
  intro p e s m args below meth c ls A hC hAe hP hD hK hE hA hS hl
  obtain ⟨hx, hb, hml, hr, hown, hts, hlk, hnm⟩ := id hC
  have hl : lv_has ls 2 [(0, .ref ad.1)] := hl
  refine lv_aload_n hx hb dX1_empty_0 rfl (lv_at hl 0 rfl) ?_
  refine gP_length hC rfl hK hP dX1_empty_1 ?_
  refine lv_istore_n (lv' := [(1, .int (P_length σ)), (0, .ref ad.1)]) hx hb dX1_empty_4 rfl hl (by decide) rfl (fun ls hl => ?_)
  refine lv_aload_n hx hb dX1_empty_5 rfl (lv_at hl 1 rfl) ?_
  refine lv_iconst (v := 0) hx hb dX1_empty_6 (by decide) ?_
  refine pP_length hC rfl hK hP hD hS dX1_empty_7 (fun H locs hP hD hS => ?_)
  refine lv_iload_n hx hb dX1_empty_10 rfl (lv_at hl 0 rfl) ?_
  have hm : mX1_empty σ = ((P_length σ), (P_set_length σ 0)) := by unfold mX1_empty; rfl
  exact wr_ret hC hP (hAe ▸ hD) (hAe ▸ hS) dX1_empty_11 (by rw [hm]) (by rw [hm])
def mX1_things (σ : PS) : Int32 := (P_things σ)
set_option maxHeartbeats 4000000 in
set_option maxRecDepth 100000 in
theorem k_X1_things (l : Launch) (g : WG) (ad : AP) (σ : PS) : Rd l yX1_things cX1_things 1 (some .int) 0 (Wl g (cP g ad σ) (fun _ => False)) [.ref ad.1] (mX1_things σ) := by
  refine rd_of (by decide) (Nat.le_of_ble_eq_true rfl) ?_
  intro p e s m args below meth c ls hC hW hl
  obtain ⟨hP, hK, hE⟩ := hW
  obtain ⟨hx, hb, hml, hr, hown, hts, hlk, hnm⟩ := id hC
  have hl : lv_has ls 1 [(0, .ref ad.1)] := hl
  refine lv_aload_n hx hb dX1_things_0 rfl (lv_at hl 0 rfl) ?_
  refine gP_things hC rfl hK hP dX1_things_1 ?_
  exact rd_ret hC dX1_things_4 (Eq.symm (by unfold mX1_things; rfl))
def mX1_has (σ : PS) (x1 : Int32) : Int32 := (if x1 < 0 then 0 else (if (P_things σ) ≤ x1 then 0 else 1))
set_option maxHeartbeats 4000000 in
set_option maxRecDepth 100000 in
theorem k_X1_has (l : Launch) (g : WG) (ad : AP) (σ : PS) (x1 : Int32) : Rd l yX1_has cX1_has 2 (some .boolean) 0 (Wl g (cP g ad σ) (fun _ => False)) [.ref ad.1, .int x1] (mX1_has σ x1) := by
  refine rd_of (by decide) (Nat.le_of_ble_eq_true rfl) ?_
  intro p e s m args below meth c ls hC hW hl
  obtain ⟨hP, hK, hE⟩ := hW
  obtain ⟨hx, hb, hml, hr, hown, hts, hlk, hnm⟩ := id hC
  have hl : lv_has ls 2 [(0, .ref ad.1), (1, .int x1)] := hl
  refine lv_iload_n hx hb dX1_has_0 rfl (lv_at hl 1 rfl) ?_
  refine lv_if_lt (tgt := 16) hx hb dX1_has_1 (by decide) (fun c_1 => ?_) (fun c_1 => ?_)
  · refine lv_iconst (v := 0) hx hb dX1_has_16 (by decide) ?_
    exact rd_zret hC dX1_has_17 rfl (Eq.symm (by unfold mX1_has; rw [if_pos c_1]))
  · refine lv_iload_n hx hb dX1_has_4 rfl (lv_at hl 1 rfl) ?_
    refine lv_aload_n hx hb dX1_has_5 rfl (lv_at hl 0 rfl) ?_
    refine gP_things hC rfl hK hP dX1_has_6 ?_
    refine lv_icmp_ge (tgt := 16) hx hb dX1_has_9 (by decide) (fun c_2 => ?_) (fun c_2 => ?_)
    · refine lv_iconst (v := 0) hx hb dX1_has_16 (by decide) ?_
      exact rd_zret hC dX1_has_17 rfl (Eq.symm (by unfold mX1_has; rw [if_neg c_1, if_pos c_2]))
    · refine lv_iconst (v := 1) hx hb dX1_has_12 (by decide) ?_
      refine lv_goto (tgt := 17) hx hb dX1_has_13 (by decide) ?_
      exact rd_zret hC dX1_has_17 rfl (Eq.symm (by unfold mX1_has; rw [if_neg c_1, if_neg c_2]))
/-- a thing that there is -/
theorem hs_in {π : PS} {u w : Int32} (h0 : 0 ≤ u.toInt) (e : P_things π = w) (c : ¬ w ≤ u) : ¬ mX1_has π u = 0 := by
  have e0 : (0 : Int32).toInt = 0 := rfl
  unfold mX1_has
  rw [e, if_neg (by rw [lt_ti]; omega), if_neg c]
  decide
def mX1_signG (σ : PS) (x1 : Int32) : Int32 := (if (mX1_has σ x1) = 0 then 32 else ((P_signs σ) x1.toNatClampNeg))
set_option maxHeartbeats 4000000 in
set_option maxRecDepth 100000 in
theorem k_X1_signG (l : Launch) (g : WG) (ad : AP) (σ : PS) (x1 : Int32) (h_1 : vp_in x1 20) (h_chr : ∀ j, narrow .char (.int ((P_signs σ) j)) = .int ((P_signs σ) j)) : Rd l yX1_sign cX1_sign 2 (some .char) 1 (Wl g (cP g ad σ) (fun _ => False)) [.ref ad.1, .int x1] (mX1_signG σ x1) := by
  refine rd_of (by decide) (Nat.le_of_ble_eq_true rfl) ?_
  intro p e s m args below meth c ls hC hW hl
  obtain ⟨hP, hK, hE⟩ := hW
  obtain ⟨hx, hb, hml, hr, hown, hts, hlk, hnm⟩ := id hC
  have hl : lv_has ls 2 [(0, .ref ad.1), (1, .int x1)] := hl
  refine lv_aload_n hx hb dX1_sign_0 rfl (lv_at hl 0 rfl) ?_
  refine lv_iload_n hx hb dX1_sign_1 rfl (lv_at hl 1 rfl) ?_
  refine callRd hC (k_X1_has l g ad σ x1) ci_X1_has lk_X1_35 ⟨Nat.le_of_ble_eq_true rfl, Nat.le_of_ble_eq_true rfl⟩ hP hK hE (q0 := 0) rfl rfl rfl rfl hl.1 rfl (Nat.le_of_ble_eq_true rfl) dX1_sign_2 ⟨Nat.zero_le _, Nat.zero_le _⟩ ?_
  refine lv_if_eq (tgt := 17) hx hb dX1_sign_5 (by decide) (fun c_1 => ?_) (fun c_1 => ?_)
  · refine lv_bipush (v := 32) hx hb dX1_sign_17 (by decide) ?_
    exact rd_zret hC dX1_sign_19 rfl (Eq.symm (by unfold mX1_signG; rw [if_pos c_1]))
  · refine lv_aload_n hx hb dX1_sign_8 rfl (lv_at hl 0 rfl) ?_
    refine gP_signs hC rfl hK hP dX1_sign_9 ?_
    refine lv_iload_n hx hb dX1_sign_12 rfl (lv_at hl 1 rfl) ?_
    refine lP_signs hC hK hP h_1 dX1_sign_13 ?_
    refine lv_goto (tgt := 19) hx hb dX1_sign_14 (by decide) ?_
    exact rd_zret hC dX1_sign_19 (h_chr _) (Eq.symm (by unfold mX1_signG; rw [if_neg c_1]))
def mX1_sign (σ : PS) (x1 : Int32) : Int32 := ((P_signs σ) x1.toNatClampNeg)
theorem ad_X1_sign {σ : PS} {x1 : Int32} (h_1 : vp_in x1 20) (h_chr : ∀ j, narrow .char (.int ((P_signs σ) j)) = .int ((P_signs σ) j)) (h_hs : ¬ mX1_has σ x1 = 0) : mX1_signG σ x1 = mX1_sign σ x1 := if_neg h_hs
theorem k_X1_sign (l : Launch) (g : WG) (ad : AP) (σ : PS) (x1 : Int32) (h_1 : vp_in x1 20) (h_chr : ∀ j, narrow .char (.int ((P_signs σ) j)) = .int ((P_signs σ) j)) (h_hs : ¬ mX1_has σ x1 = 0) : Rd l yX1_sign cX1_sign 2 (some .char) 1 (Wl g (cP g ad σ) (fun _ => False)) [.ref ad.1, .int x1] (mX1_sign σ x1) := (ad_X1_sign h_1 h_chr h_hs) ▸ (k_X1_signG l g ad σ x1 h_1 h_chr)
def mX1_firstG (σ : PS) (x1 : Int32) : Int32 := (if (mX1_has σ x1) = 0 then (-5) else ((P_firsts σ) x1.toNatClampNeg))
set_option maxHeartbeats 4000000 in
set_option maxRecDepth 100000 in
theorem k_X1_firstG (l : Launch) (g : WG) (ad : AP) (σ : PS) (x1 : Int32) (h_1 : vp_in x1 20) : Rd l yX1_first cX1_first 2 (some .int) 1 (Wl g (cP g ad σ) (fun _ => False)) [.ref ad.1, .int x1] (mX1_firstG σ x1) := by
  refine rd_of (by decide) (Nat.le_of_ble_eq_true rfl) ?_
  intro p e s m args below meth c ls hC hW hl
  obtain ⟨hP, hK, hE⟩ := hW
  obtain ⟨hx, hb, hml, hr, hown, hts, hlk, hnm⟩ := id hC
  have hl : lv_has ls 2 [(0, .ref ad.1), (1, .int x1)] := hl
  refine lv_aload_n hx hb dX1_first_0 rfl (lv_at hl 0 rfl) ?_
  refine lv_iload_n hx hb dX1_first_1 rfl (lv_at hl 1 rfl) ?_
  refine callRd hC (k_X1_has l g ad σ x1) ci_X1_has lk_X1_35 ⟨Nat.le_of_ble_eq_true rfl, Nat.le_of_ble_eq_true rfl⟩ hP hK hE (q0 := 0) rfl rfl rfl rfl hl.1 rfl (Nat.le_of_ble_eq_true rfl) dX1_first_2 ⟨Nat.zero_le _, Nat.zero_le _⟩ ?_
  refine lv_if_eq (tgt := 17) hx hb dX1_first_5 (by decide) (fun c_1 => ?_) (fun c_1 => ?_)
  · refine lv_bipush (v := (-5)) hx hb dX1_first_17 (by decide) ?_
    exact rd_ret hC dX1_first_19 (Eq.symm (by unfold mX1_firstG; rw [if_pos c_1]))
  · refine lv_aload_n hx hb dX1_first_8 rfl (lv_at hl 0 rfl) ?_
    refine gP_firsts hC rfl hK hP dX1_first_9 ?_
    refine lv_iload_n hx hb dX1_first_12 rfl (lv_at hl 1 rfl) ?_
    refine lP_firsts hC hK hP h_1 dX1_first_13 ?_
    refine lv_goto (tgt := 19) hx hb dX1_first_14 (by decide) ?_
    exact rd_ret hC dX1_first_19 (Eq.symm (by unfold mX1_firstG; rw [if_neg c_1]))
def mX1_first (σ : PS) (x1 : Int32) : Int32 := ((P_firsts σ) x1.toNatClampNeg)
theorem ad_X1_first {σ : PS} {x1 : Int32} (h_1 : vp_in x1 20) (h_hs : ¬ mX1_has σ x1 = 0) : mX1_firstG σ x1 = mX1_first σ x1 := if_neg h_hs
theorem k_X1_first (l : Launch) (g : WG) (ad : AP) (σ : PS) (x1 : Int32) (h_1 : vp_in x1 20) (h_hs : ¬ mX1_has σ x1 = 0) : Rd l yX1_first cX1_first 2 (some .int) 1 (Wl g (cP g ad σ) (fun _ => False)) [.ref ad.1, .int x1] (mX1_first σ x1) := (ad_X1_first h_1 h_hs) ▸ (k_X1_firstG l g ad σ x1 h_1)
def mX1_secondG (σ : PS) (x1 : Int32) : Int32 := (if (mX1_has σ x1) = 0 then (-5) else ((P_seconds σ) x1.toNatClampNeg))
set_option maxHeartbeats 4000000 in
set_option maxRecDepth 100000 in
theorem k_X1_secondG (l : Launch) (g : WG) (ad : AP) (σ : PS) (x1 : Int32) (h_1 : vp_in x1 20) : Rd l yX1_second cX1_second 2 (some .int) 1 (Wl g (cP g ad σ) (fun _ => False)) [.ref ad.1, .int x1] (mX1_secondG σ x1) := by
  refine rd_of (by decide) (Nat.le_of_ble_eq_true rfl) ?_
  intro p e s m args below meth c ls hC hW hl
  obtain ⟨hP, hK, hE⟩ := hW
  obtain ⟨hx, hb, hml, hr, hown, hts, hlk, hnm⟩ := id hC
  have hl : lv_has ls 2 [(0, .ref ad.1), (1, .int x1)] := hl
  refine lv_aload_n hx hb dX1_second_0 rfl (lv_at hl 0 rfl) ?_
  refine lv_iload_n hx hb dX1_second_1 rfl (lv_at hl 1 rfl) ?_
  refine callRd hC (k_X1_has l g ad σ x1) ci_X1_has lk_X1_35 ⟨Nat.le_of_ble_eq_true rfl, Nat.le_of_ble_eq_true rfl⟩ hP hK hE (q0 := 0) rfl rfl rfl rfl hl.1 rfl (Nat.le_of_ble_eq_true rfl) dX1_second_2 ⟨Nat.zero_le _, Nat.zero_le _⟩ ?_
  refine lv_if_eq (tgt := 17) hx hb dX1_second_5 (by decide) (fun c_1 => ?_) (fun c_1 => ?_)
  · refine lv_bipush (v := (-5)) hx hb dX1_second_17 (by decide) ?_
    exact rd_ret hC dX1_second_19 (Eq.symm (by unfold mX1_secondG; rw [if_pos c_1]))
  · refine lv_aload_n hx hb dX1_second_8 rfl (lv_at hl 0 rfl) ?_
    refine gP_seconds hC rfl hK hP dX1_second_9 ?_
    refine lv_iload_n hx hb dX1_second_12 rfl (lv_at hl 1 rfl) ?_
    refine lP_seconds hC hK hP h_1 dX1_second_13 ?_
    refine lv_goto (tgt := 19) hx hb dX1_second_14 (by decide) ?_
    exact rd_ret hC dX1_second_19 (Eq.symm (by unfold mX1_secondG; rw [if_neg c_1]))
def mX1_second (σ : PS) (x1 : Int32) : Int32 := ((P_seconds σ) x1.toNatClampNeg)
theorem ad_X1_second {σ : PS} {x1 : Int32} (h_1 : vp_in x1 20) (h_hs : ¬ mX1_has σ x1 = 0) : mX1_secondG σ x1 = mX1_second σ x1 := if_neg h_hs
theorem k_X1_second (l : Launch) (g : WG) (ad : AP) (σ : PS) (x1 : Int32) (h_1 : vp_in x1 20) (h_hs : ¬ mX1_has σ x1 = 0) : Rd l yX1_second cX1_second 2 (some .int) 1 (Wl g (cP g ad σ) (fun _ => False)) [.ref ad.1, .int x1] (mX1_second σ x1) := (ad_X1_second h_1 h_hs) ▸ (k_X1_secondG l g ad σ x1 h_1)
/-- the reading place, the text's length -/
def POK (σ : PS) : Prop := 0 ≤ (P_at σ).toInt ∧ (P_at σ).toInt ≤ (P_length σ).toInt ∧ (P_length σ).toInt ≤ 60
theorem pok_in {σ : PS} (h : POK σ) (c : ¬ (P_length σ) ≤ (P_at σ)) : vp_in (P_at σ) 60 := by
  obtain ⟨h1, h2, h3⟩ := h
  rw [le_ti] at c
  exact in_iff.mpr ⟨h1, by omega⟩
theorem pok_in' {σ : PS} (h : POK σ) (c : (P_at σ) < (P_length σ)) : vp_in (P_at σ) 60 := by
  obtain ⟨h1, h2, h3⟩ := h
  rw [lt_ti] at c
  exact in_iff.mpr ⟨h1, by omega⟩
theorem pok_next {σ : PS} (h : POK σ) (c : (P_at σ).toInt < (P_length σ).toInt) : POK (P_set_at σ ((P_at σ) + 1)) := by
  obtain ⟨h1, h2, h3⟩ := h
  have e : ((P_at σ) + 1).toInt = (P_at σ).toInt + 1 := up_add (d := 1) (k := 1) (M := 60) rfl h1 (by omega) (by decide) (by decide)
  show 0 ≤ ((P_at σ) + 1).toInt ∧ ((P_at σ) + 1).toInt ≤ (P_length σ).toInt ∧ (P_length σ).toInt ≤ 60
  rw [e]
  omega
theorem pok_ge {σ : PS} (c : ¬ (P_length σ) ≤ (P_at σ)) : (P_at σ).toInt < (P_length σ).toInt := by rw [le_ti] at c; omega
theorem pok_lt {σ : PS} (c : (P_at σ) < (P_length σ)) : (P_at σ).toInt < (P_length σ).toInt := lt_ti.mp c
def mX1_digit (σ : PS) : Int32 := (if (P_length σ) ≤ (P_at σ) then (-5) else (if ((P_text σ) (P_at σ).toNatClampNeg) < 48 then (-5) else (if ((P_text σ) (P_at σ).toNatClampNeg) ≤ 57 then (((P_text σ) (P_at σ).toNatClampNeg) - 48) else (-5))))
set_option maxHeartbeats 4000000 in
set_option maxRecDepth 100000 in
theorem k_X1_digit (l : Launch) (g : WG) (ad : AP) (σ : PS) (h_pok : POK σ) : Rd l yX1_digit cX1_digit 1 (some .int) 0 (Wl g (cP g ad σ) (fun _ => False)) [.ref ad.1] (mX1_digit σ) := by
  refine rd_of (by decide) (Nat.le_of_ble_eq_true rfl) ?_
  intro p e s m args below meth c ls hC hW hl
  obtain ⟨hP, hK, hE⟩ := hW
  obtain ⟨hx, hb, hml, hr, hown, hts, hlk, hnm⟩ := id hC
  have hl : lv_has ls 1 [(0, .ref ad.1)] := hl
  refine lv_aload_n hx hb dX1_digit_0 rfl (lv_at hl 0 rfl) ?_
  refine gP_at hC rfl hK hP dX1_digit_1 ?_
  refine lv_aload_n hx hb dX1_digit_4 rfl (lv_at hl 0 rfl) ?_
  refine gP_length hC rfl hK hP dX1_digit_5 ?_
  refine lv_icmp_ge (tgt := 39) hx hb dX1_digit_8 (by decide) (fun c_1 => ?_) (fun c_1 => ?_)
  · refine lv_bipush (v := (-5)) hx hb dX1_digit_39 (by decide) ?_
    exact rd_ret hC dX1_digit_41 (Eq.symm (by unfold mX1_digit; rw [if_pos c_1]))
  · refine lv_aload_n hx hb dX1_digit_11 rfl (lv_at hl 0 rfl) ?_
    refine gP_text hC rfl hK hP dX1_digit_12 ?_
    refine lv_aload_n hx hb dX1_digit_15 rfl (lv_at hl 0 rfl) ?_
    refine gP_at hC rfl hK hP dX1_digit_16 ?_
    refine lP_text hC hK hP (pok_in h_pok c_1) dX1_digit_19 ?_
    refine lv_bipush (v := 48) hx hb dX1_digit_20 (by decide) ?_
    refine lv_icmp_lt (tgt := 39) hx hb dX1_digit_22 (by decide) (fun c_2 => ?_) (fun c_2 => ?_)
    · refine lv_bipush (v := (-5)) hx hb dX1_digit_39 (by decide) ?_
      exact rd_ret hC dX1_digit_41 (Eq.symm (by unfold mX1_digit; rw [if_neg c_1, if_pos c_2]))
    · refine lv_aload_n hx hb dX1_digit_25 rfl (lv_at hl 0 rfl) ?_
      refine gP_text hC rfl hK hP dX1_digit_26 ?_
      refine lv_aload_n hx hb dX1_digit_29 rfl (lv_at hl 0 rfl) ?_
      refine gP_at hC rfl hK hP dX1_digit_30 ?_
      refine lP_text hC hK hP (pok_in h_pok c_1) dX1_digit_33 ?_
      refine lv_bipush (v := 57) hx hb dX1_digit_34 (by decide) ?_
      refine lv_icmp_le (tgt := 42) hx hb dX1_digit_36 (by decide) (fun c_3 => ?_) (fun c_3 => ?_)
      · refine lv_aload_n hx hb dX1_digit_42 rfl (lv_at hl 0 rfl) ?_
        refine gP_text hC rfl hK hP dX1_digit_43 ?_
        refine lv_aload_n hx hb dX1_digit_46 rfl (lv_at hl 0 rfl) ?_
        refine gP_at hC rfl hK hP dX1_digit_47 ?_
        refine lP_text hC hK hP (pok_in h_pok c_1) dX1_digit_50 ?_
        refine lv_bipush (v := 48) hx hb dX1_digit_51 (by decide) ?_
        refine lv_isub hx hb dX1_digit_53 ?_
        exact rd_ret hC dX1_digit_54 (Eq.symm (by unfold mX1_digit; rw [if_neg c_1, if_neg c_2, if_pos c_3]))
      · refine lv_bipush (v := (-5)) hx hb dX1_digit_39 (by decide) ?_
        exact rd_ret hC dX1_digit_41 (Eq.symm (by unfold mX1_digit; rw [if_neg c_1, if_neg c_2, if_neg c_3]))
theorem dg_lt {σ : PS} (c : ¬ mX1_digit σ = -5) : (P_at σ).toInt < (P_length σ).toInt := by
  unfold mX1_digit at c
  split at c
  · exact absurd rfl c
  · rename_i h; exact pok_ge h
theorem dg_ne {σ : PS} {a : Int32} (h0 : 0 ≤ a.toInt) (c : ¬ mX1_digit σ < a) : (P_at σ).toInt < (P_length σ).toInt := by
  refine dg_lt (fun q => c ?_)
  rw [q, lt_ti]
  have : (-5 : Int32).toInt = -5 := rfl
  omega
def mX1_readNumber (σ : PS) (x1 : Int32) (x2 : Int32) : Int32 × PS := (if (mX1_digit σ) < x1 then ((-5), σ) else (if (mX1_digit σ) ≤ x2 then (if (mX1_digit σ) ≤ 0 then ((mX1_digit σ), (P_set_at σ ((P_at σ) + 1))) else (if (mX1_digit (P_set_at σ ((P_at σ) + 1))) = (-5) then ((mX1_digit σ), (P_set_at σ ((P_at σ) + 1))) else (if x2 < (((mX1_digit σ) * 10) + (mX1_digit (P_set_at σ ((P_at σ) + 1)))) then ((mX1_digit σ), (P_set_at σ ((P_at σ) + 1))) else ((((mX1_digit σ) * 10) + (mX1_digit (P_set_at σ ((P_at σ) + 1)))), (P_set_at (P_set_at σ ((P_at σ) + 1)) ((P_at (P_set_at σ ((P_at σ) + 1))) + 1)))))) else ((-5), σ)))
set_option maxHeartbeats 4000000 in
set_option maxRecDepth 100000 in
theorem k_X1_readNumber (l : Launch) (g : WG) (ad : AP) (σ : PS) (x1 : Int32) (x2 : Int32) (h_pok : POK σ) (h_lo : 0 ≤ x1.toInt) : Wr l yX1_readNumber cX1_readNumber 5 (some .int) 1 g (cP g ad σ) (cP g ad (mX1_readNumber σ x1 x2).2) [.ref ad.1, .int x1, .int x2] (mX1_readNumber σ x1 x2).1 := by
  refine wr_of (by decide) (Nat.le_of_ble_eq_true rfl) ?_
  intro p e s m args below meth c ls A hC hAe hP hD hK hE hA hS hl
  obtain ⟨hx, hb, hml, hr, hown, hts, hlk, hnm⟩ := id hC
  have hl : lv_has ls 5 [(0, .ref ad.1), (1, .int x1), (2, .int x2)] := hl
  refine lv_aload_n hx hb dX1_readNumber_0 rfl (lv_at hl 0 rfl) ?_
  refine callRd hC (k_X1_digit l g ad σ h_pok) ci_X1_digit lk_X1_55 ⟨Nat.le_of_ble_eq_true rfl, Nat.le_of_ble_eq_true rfl⟩ hP hK (hE.S hS).none (q0 := 0) rfl rfl rfl rfl hl.1 rfl (Nat.le_of_ble_eq_true rfl) dX1_readNumber_1 ⟨Nat.zero_le _, Nat.zero_le _⟩ ?_
  refine lv_istore_n (lv' := [(3, .int (mX1_digit σ)), (0, .ref ad.1), (1, .int x1), (2, .int x2)]) hx hb dX1_readNumber_4 rfl hl (by decide) rfl (fun ls hl => ?_)
  refine lv_iload_n hx hb dX1_readNumber_5 rfl (lv_at hl 0 rfl) ?_
  refine lv_iload_n hx hb dX1_readNumber_6 rfl (lv_at hl 2 rfl) ?_
  refine lv_icmp_lt (tgt := 15) hx hb dX1_readNumber_7 (by decide) (fun c_1 => ?_) (fun c_1 => ?_)
  · refine lv_bipush (v := (-5)) hx hb dX1_readNumber_15 (by decide) ?_
    have hm : mX1_readNumber σ x1 x2 = ((-5), σ) := by unfold mX1_readNumber; rw [if_pos c_1]
    exact wr_ret hC hP (hAe ▸ hD) (hAe ▸ hS) dX1_readNumber_17 (by rw [hm]) (by rw [hm])
  · refine lv_iload_n hx hb dX1_readNumber_10 rfl (lv_at hl 0 rfl) ?_
    refine lv_iload_n hx hb dX1_readNumber_11 rfl (lv_at hl 3 rfl) ?_
    refine lv_icmp_le (tgt := 18) hx hb dX1_readNumber_12 (by decide) (fun c_2 => ?_) (fun c_2 => ?_)
    · refine lv_aload_n hx hb dX1_readNumber_18 rfl (lv_at hl 1 rfl) ?_
      refine lv_dup hx hb dX1_readNumber_19 rfl ?_
      refine gP_at hC rfl hK hP dX1_readNumber_20 ?_
      refine lv_iconst (v := 1) hx hb dX1_readNumber_23 (by decide) ?_
      refine lv_iadd hx hb dX1_readNumber_24 ?_
      refine pP_at hC rfl hK hP hD hS dX1_readNumber_25 (fun H locs hP hD hS => ?_)
      refine lv_aload_n hx hb dX1_readNumber_28 rfl (lv_at hl 1 rfl) ?_
      refine callRd hC (k_X1_digit l g ad (P_set_at σ ((P_at σ) + 1)) (pok_next h_pok (dg_ne h_lo c_1))) ci_X1_digit lk_X1_55 ⟨Nat.le_of_ble_eq_true rfl, Nat.le_of_ble_eq_true rfl⟩ hP hK (hE.S hS).none (q0 := 0) rfl rfl rfl rfl hl.1 rfl (Nat.le_of_ble_eq_true rfl) dX1_readNumber_29 ⟨Nat.zero_le _, Nat.zero_le _⟩ ?_
      refine lv_istore (lv' := [(4, .int (mX1_digit (P_set_at σ ((P_at σ) + 1)))), (3, .int (mX1_digit σ)), (0, .ref ad.1), (1, .int x1), (2, .int x2)]) hx hb dX1_readNumber_32 hl (by decide) rfl (fun ls hl => ?_)
      refine lv_iload_n hx hb dX1_readNumber_34 rfl (lv_at hl 1 rfl) ?_
      refine lv_if_le (tgt := 74) hx hb dX1_readNumber_35 (by decide) (fun c_3 => ?_) (fun c_3 => ?_)
      · refine lv_iload_n hx hb dX1_readNumber_74 rfl (lv_at hl 1 rfl) ?_
        have hm : mX1_readNumber σ x1 x2 = ((mX1_digit σ), (P_set_at σ ((P_at σ) + 1))) := by unfold mX1_readNumber; rw [if_neg c_1, if_pos c_2, if_pos c_3]
        exact wr_ret hC hP (hAe ▸ hD) (hAe ▸ hS) dX1_readNumber_75 (by rw [hm]) (by rw [hm])
      · refine lv_iload hx hb dX1_readNumber_38 (lv_at hl 0 rfl) ?_
        refine lv_bipush (v := (-5)) hx hb dX1_readNumber_40 (by decide) ?_
        refine lv_icmp_eq (tgt := 74) hx hb dX1_readNumber_42 (by decide) (fun c_4 => ?_) (fun c_4 => ?_)
        · refine lv_iload_n hx hb dX1_readNumber_74 rfl (lv_at hl 1 rfl) ?_
          have hm : mX1_readNumber σ x1 x2 = ((mX1_digit σ), (P_set_at σ ((P_at σ) + 1))) := by unfold mX1_readNumber; rw [if_neg c_1, if_pos c_2, if_neg c_3, if_pos c_4]
          exact wr_ret hC hP (hAe ▸ hD) (hAe ▸ hS) dX1_readNumber_75 (by rw [hm]) (by rw [hm])
        · refine lv_iload_n hx hb dX1_readNumber_45 rfl (lv_at hl 1 rfl) ?_
          refine lv_bipush (v := 10) hx hb dX1_readNumber_46 (by decide) ?_
          refine lv_imul hx hb dX1_readNumber_48 ?_
          refine lv_iload hx hb dX1_readNumber_49 (lv_at hl 0 rfl) ?_
          refine lv_iadd hx hb dX1_readNumber_51 ?_
          refine lv_iload_n hx hb dX1_readNumber_52 rfl (lv_at hl 4 rfl) ?_
          refine lv_icmp_gt (tgt := 74) hx hb dX1_readNumber_53 (by decide) (fun c_5 => ?_) (fun c_5 => ?_)
          · refine lv_iload_n hx hb dX1_readNumber_74 rfl (lv_at hl 1 rfl) ?_
            have hm : mX1_readNumber σ x1 x2 = ((mX1_digit σ), (P_set_at σ ((P_at σ) + 1))) := by unfold mX1_readNumber; rw [if_neg c_1, if_pos c_2, if_neg c_3, if_neg c_4, if_pos c_5]
            exact wr_ret hC hP (hAe ▸ hD) (hAe ▸ hS) dX1_readNumber_75 (by rw [hm]) (by rw [hm])
          · refine lv_aload_n hx hb dX1_readNumber_56 rfl (lv_at hl 2 rfl) ?_
            refine lv_dup hx hb dX1_readNumber_57 rfl ?_
            refine gP_at hC rfl hK hP dX1_readNumber_58 ?_
            refine lv_iconst (v := 1) hx hb dX1_readNumber_61 (by decide) ?_
            refine lv_iadd hx hb dX1_readNumber_62 ?_
            refine pP_at hC rfl hK hP hD hS dX1_readNumber_63 (fun H locs hP hD hS => ?_)
            refine lv_iload_n hx hb dX1_readNumber_66 rfl (lv_at hl 1 rfl) ?_
            refine lv_bipush (v := 10) hx hb dX1_readNumber_67 (by decide) ?_
            refine lv_imul hx hb dX1_readNumber_69 ?_
            refine lv_iload hx hb dX1_readNumber_70 (lv_at hl 0 rfl) ?_
            refine lv_iadd hx hb dX1_readNumber_72 ?_
            refine lv_istore_n (lv' := [(3, .int (((mX1_digit σ) * 10) + (mX1_digit (P_set_at σ ((P_at σ) + 1))))), (4, .int (mX1_digit (P_set_at σ ((P_at σ) + 1)))), (0, .ref ad.1), (1, .int x1), (2, .int x2)]) hx hb dX1_readNumber_73 rfl hl (by decide) rfl (fun ls hl => ?_)
            refine lv_iload_n hx hb dX1_readNumber_74 rfl (lv_at hl 0 rfl) ?_
            have hm : mX1_readNumber σ x1 x2 = ((((mX1_digit σ) * 10) + (mX1_digit (P_set_at σ ((P_at σ) + 1)))), (P_set_at (P_set_at σ ((P_at σ) + 1)) ((P_at (P_set_at σ ((P_at σ) + 1))) + 1))) := by unfold mX1_readNumber; rw [if_neg c_1, if_pos c_2, if_neg c_3, if_neg c_4, if_neg c_5]
            exact wr_ret hC hP (hAe ▸ hD) (hAe ▸ hS) dX1_readNumber_75 (by rw [hm]) (by rw [hm])
    · refine lv_bipush (v := (-5)) hx hb dX1_readNumber_15 (by decide) ?_
      have hm : mX1_readNumber σ x1 x2 = ((-5), σ) := by unfold mX1_readNumber; rw [if_neg c_1, if_neg c_2]
      exact wr_ret hC hP (hAe ▸ hD) (hAe ▸ hS) dX1_readNumber_17 (by rw [hm]) (by rw [hm])
theorem pok_rn {σ : PS} {a b : Int32} (h : POK σ) (h0 : 0 ≤ a.toInt) : POK (mX1_readNumber σ a b).2 := by
  unfold mX1_readNumber
  split
  · exact h
  · rename_i c1
    have h1 := pok_next h (dg_ne h0 c1)
    split
    · split
      · exact h1
      · split
        · exact h1
        · rename_i c4
          split
          · exact h1
          · exact pok_next h1 (dg_lt c4)
    · exact h
theorem th_rn {σ : PS} {a b : Int32} : P_things (mX1_readNumber σ a b).2 = P_things σ := by
  unfold mX1_readNumber
  split
  · rfl
  · split
    · split
      · rfl
      · split
        · rfl
        · split <;> rfl
    · rfl
def mX1_readCharacter (σ : PS) (x1 : Int32) : Int32 × PS := (if (P_length σ) ≤ (P_at σ) then (0, σ) else (if ((P_text σ) (P_at σ).toNatClampNeg) = x1 then (1, (P_set_at σ ((P_at σ) + 1))) else (0, σ)))
set_option maxHeartbeats 4000000 in
set_option maxRecDepth 100000 in
theorem k_X1_readCharacter (l : Launch) (g : WG) (ad : AP) (σ : PS) (x1 : Int32) (h_pok : POK σ) : Wr l yX1_readCharacter cX1_readCharacter 2 (some .boolean) 0 g (cP g ad σ) (cP g ad (mX1_readCharacter σ x1).2) [.ref ad.1, .int x1] (mX1_readCharacter σ x1).1 := by
  refine wr_of (by decide) (Nat.le_of_ble_eq_true rfl) ?_
  intro p e s m args below meth c ls A hC hAe hP hD hK hE hA hS hl
  obtain ⟨hx, hb, hml, hr, hown, hts, hlk, hnm⟩ := id hC
  have hl : lv_has ls 2 [(0, .ref ad.1), (1, .int x1)] := hl
  refine lv_aload_n hx hb dX1_readCharacter_0 rfl (lv_at hl 0 rfl) ?_
  refine gP_at hC rfl hK hP dX1_readCharacter_1 ?_
  refine lv_aload_n hx hb dX1_readCharacter_4 rfl (lv_at hl 0 rfl) ?_
  refine gP_length hC rfl hK hP dX1_readCharacter_5 ?_
  refine lv_icmp_ge (tgt := 24) hx hb dX1_readCharacter_8 (by decide) (fun c_1 => ?_) (fun c_1 => ?_)
  · refine lv_iconst (v := 0) hx hb dX1_readCharacter_24 (by decide) ?_
    have hm : mX1_readCharacter σ x1 = (0, σ) := by unfold mX1_readCharacter; rw [if_pos c_1]
    exact wr_zret hC hP (hAe ▸ hD) (hAe ▸ hS) dX1_readCharacter_25 rfl (by rw [hm]) (by rw [hm])
  · refine lv_aload_n hx hb dX1_readCharacter_11 rfl (lv_at hl 0 rfl) ?_
    refine gP_text hC rfl hK hP dX1_readCharacter_12 ?_
    refine lv_aload_n hx hb dX1_readCharacter_15 rfl (lv_at hl 0 rfl) ?_
    refine gP_at hC rfl hK hP dX1_readCharacter_16 ?_
    refine lP_text hC hK hP (pok_in h_pok c_1) dX1_readCharacter_19 ?_
    refine lv_iload_n hx hb dX1_readCharacter_20 rfl (lv_at hl 1 rfl) ?_
    refine lv_icmp_eq (tgt := 26) hx hb dX1_readCharacter_21 (by decide) (fun c_2 => ?_) (fun c_2 => ?_)
    · refine lv_aload_n hx hb dX1_readCharacter_26 rfl (lv_at hl 0 rfl) ?_
      refine lv_dup hx hb dX1_readCharacter_27 rfl ?_
      refine gP_at hC rfl hK hP dX1_readCharacter_28 ?_
      refine lv_iconst (v := 1) hx hb dX1_readCharacter_31 (by decide) ?_
      refine lv_iadd hx hb dX1_readCharacter_32 ?_
      refine pP_at hC rfl hK hP hD hS dX1_readCharacter_33 (fun H locs hP hD hS => ?_)
      refine lv_iconst (v := 1) hx hb dX1_readCharacter_36 (by decide) ?_
      have hm : mX1_readCharacter σ x1 = (1, (P_set_at σ ((P_at σ) + 1))) := by unfold mX1_readCharacter; rw [if_neg c_1, if_pos c_2]
      exact wr_zret hC hP (hAe ▸ hD) (hAe ▸ hS) dX1_readCharacter_37 rfl (by rw [hm]) (by rw [hm])
    · refine lv_iconst (v := 0) hx hb dX1_readCharacter_24 (by decide) ?_
      have hm : mX1_readCharacter σ x1 = (0, σ) := by unfold mX1_readCharacter; rw [if_neg c_1, if_neg c_2]
      exact wr_zret hC hP (hAe ▸ hD) (hAe ▸ hS) dX1_readCharacter_25 rfl (by rw [hm]) (by rw [hm])
theorem pok_rc {σ : PS} {a : Int32} (h : POK σ) : POK (mX1_readCharacter σ a).2 := by
  unfold mX1_readCharacter
  split
  · exact h
  · rename_i c1
    split
    · exact pok_next h (pok_ge c1)
    · exact h
theorem th_rc {σ : PS} {a : Int32} : P_things (mX1_readCharacter σ a).2 = P_things σ := by
  unfold mX1_readCharacter
  split
  · rfl
  · split <;> rfl
theorem hh_sg {σ : PS} {v : Nat → Int32} (h : vp_in (P_things σ) 20) : vp_in (P_things (P_set_signs σ v)) 20 := h
theorem hh_fi {σ : PS} {v : Nat → Int32} (h : vp_in (P_things σ) 20) : vp_in (P_things (P_set_firsts σ v)) 20 := h
theorem pok_sg {σ : PS} {u v w : Nat → Int32} {x : Int32} (h : POK σ) : POK (P_set_things (P_set_seconds (P_set_firsts (P_set_signs σ u) v) w) x) := h
theorem tn_rn {σ : PS} {a b : Int32} (h : 0 ≤ (P_things σ).toInt) : 0 ≤ (P_things (mX1_readNumber σ a b).2).toInt := by rw [th_rn]; exact h
theorem tn_rc {σ : PS} {a : Int32} (h : 0 ≤ (P_things σ).toInt) : 0 ≤ (P_things (mX1_readCharacter σ a).2).toInt := by rw [th_rc]; exact h
theorem tn_at {σ : PS} {v : Int32} (h : 0 ≤ (P_things σ).toInt) : 0 ≤ (P_things (P_set_at σ v)).toInt := h
def mX1_add (σ : PS) (x1 : Int32) (x2 : Int32) (x3 : Int32) : Int32 × PS := (if (P_things σ) < 20 then (1, (P_set_things (P_set_seconds (P_set_firsts (P_set_signs σ (upd (P_signs σ) (P_things σ).toNatClampNeg (vp_nar .char x1))) (upd (P_firsts (P_set_signs σ (upd (P_signs σ) (P_things σ).toNatClampNeg (vp_nar .char x1)))) (P_things (P_set_signs σ (upd (P_signs σ) (P_things σ).toNatClampNeg (vp_nar .char x1)))).toNatClampNeg x2)) (upd (P_seconds (P_set_firsts (P_set_signs σ (upd (P_signs σ) (P_things σ).toNatClampNeg (vp_nar .char x1))) (upd (P_firsts (P_set_signs σ (upd (P_signs σ) (P_things σ).toNatClampNeg (vp_nar .char x1)))) (P_things (P_set_signs σ (upd (P_signs σ) (P_things σ).toNatClampNeg (vp_nar .char x1)))).toNatClampNeg x2))) (P_things (P_set_firsts (P_set_signs σ (upd (P_signs σ) (P_things σ).toNatClampNeg (vp_nar .char x1))) (upd (P_firsts (P_set_signs σ (upd (P_signs σ) (P_things σ).toNatClampNeg (vp_nar .char x1)))) (P_things (P_set_signs σ (upd (P_signs σ) (P_things σ).toNatClampNeg (vp_nar .char x1)))).toNatClampNeg x2))).toNatClampNeg x3)) ((P_things (P_set_seconds (P_set_firsts (P_set_signs σ (upd (P_signs σ) (P_things σ).toNatClampNeg (vp_nar .char x1))) (upd (P_firsts (P_set_signs σ (upd (P_signs σ) (P_things σ).toNatClampNeg (vp_nar .char x1)))) (P_things (P_set_signs σ (upd (P_signs σ) (P_things σ).toNatClampNeg (vp_nar .char x1)))).toNatClampNeg x2)) (upd (P_seconds (P_set_firsts (P_set_signs σ (upd (P_signs σ) (P_things σ).toNatClampNeg (vp_nar .char x1))) (upd (P_firsts (P_set_signs σ (upd (P_signs σ) (P_things σ).toNatClampNeg (vp_nar .char x1)))) (P_things (P_set_signs σ (upd (P_signs σ) (P_things σ).toNatClampNeg (vp_nar .char x1)))).toNatClampNeg x2))) (P_things (P_set_firsts (P_set_signs σ (upd (P_signs σ) (P_things σ).toNatClampNeg (vp_nar .char x1))) (upd (P_firsts (P_set_signs σ (upd (P_signs σ) (P_things σ).toNatClampNeg (vp_nar .char x1)))) (P_things (P_set_signs σ (upd (P_signs σ) (P_things σ).toNatClampNeg (vp_nar .char x1)))).toNatClampNeg x2))).toNatClampNeg x3))) + 1))) else (0, σ))
set_option maxHeartbeats 4000000 in
set_option maxRecDepth 100000 in
theorem k_X1_add (l : Launch) (g : WG) (ad : AP) (σ : PS) (x1 : Int32) (x2 : Int32) (x3 : Int32) (h_tn : 0 ≤ (P_things σ).toInt) : Wr l yX1_add cX1_add 4 (some .boolean) 0 g (cP g ad σ) (cP g ad (mX1_add σ x1 x2 x3).2) [.ref ad.1, .int x1, .int x2, .int x3] (mX1_add σ x1 x2 x3).1 := by
  refine wr_of (by decide) (Nat.le_of_ble_eq_true rfl) ?_
  intro p e s m args below meth c ls A hC hAe hP hD hK hE hA hS hl
  obtain ⟨hx, hb, hml, hr, hown, hts, hlk, hnm⟩ := id hC
  have hl : lv_has ls 4 [(0, .ref ad.1), (1, .int x1), (2, .int x2), (3, .int x3)] := hl
  refine lv_aload_n hx hb dX1_add_0 rfl (lv_at hl 0 rfl) ?_
  refine gP_things hC rfl hK hP dX1_add_1 ?_
  refine lv_bipush (v := 20) hx hb dX1_add_4 (by decide) ?_
  refine lv_icmp_lt (tgt := 11) hx hb dX1_add_6 (by decide) (fun c_1 => ?_) (fun c_1 => ?_)
  · refine lv_aload_n hx hb dX1_add_11 rfl (lv_at hl 0 rfl) ?_
    refine gP_signs hC rfl hK hP dX1_add_12 ?_
    refine lv_aload_n hx hb dX1_add_15 rfl (lv_at hl 0 rfl) ?_
    refine gP_things hC rfl hK hP dX1_add_16 ?_
    refine lv_iload_n hx hb dX1_add_19 rfl (lv_at hl 1 rfl) ?_
    refine sP_signs hC hK hP hD hS (in_lt (n := 20) rfl h_tn c_1) dX1_add_20 (fun H locs hP hD hS => ?_)
    refine lv_aload_n hx hb dX1_add_21 rfl (lv_at hl 0 rfl) ?_
    refine gP_firsts hC rfl hK hP dX1_add_22 ?_
    refine lv_aload_n hx hb dX1_add_25 rfl (lv_at hl 0 rfl) ?_
    refine gP_things hC rfl hK hP dX1_add_26 ?_
    refine lv_iload_n hx hb dX1_add_29 rfl (lv_at hl 2 rfl) ?_
    refine sP_firsts hC hK hP hD hS (hh_sg (in_lt (n := 20) rfl h_tn c_1)) dX1_add_30 (fun H locs hP hD hS => ?_)
    refine lv_aload_n hx hb dX1_add_31 rfl (lv_at hl 0 rfl) ?_
    refine gP_seconds hC rfl hK hP dX1_add_32 ?_
    refine lv_aload_n hx hb dX1_add_35 rfl (lv_at hl 0 rfl) ?_
    refine gP_things hC rfl hK hP dX1_add_36 ?_
    refine lv_iload_n hx hb dX1_add_39 rfl (lv_at hl 3 rfl) ?_
    refine sP_seconds hC hK hP hD hS (hh_fi (hh_sg (in_lt (n := 20) rfl h_tn c_1))) dX1_add_40 (fun H locs hP hD hS => ?_)
    refine lv_aload_n hx hb dX1_add_41 rfl (lv_at hl 0 rfl) ?_
    refine lv_dup hx hb dX1_add_42 rfl ?_
    refine gP_things hC rfl hK hP dX1_add_43 ?_
    refine lv_iconst (v := 1) hx hb dX1_add_46 (by decide) ?_
    refine lv_iadd hx hb dX1_add_47 ?_
    refine pP_things hC rfl hK hP hD hS dX1_add_48 (fun H locs hP hD hS => ?_)
    refine lv_iconst (v := 1) hx hb dX1_add_51 (by decide) ?_
    have hm : mX1_add σ x1 x2 x3 = (1, (P_set_things (P_set_seconds (P_set_firsts (P_set_signs σ (upd (P_signs σ) (P_things σ).toNatClampNeg (vp_nar .char x1))) (upd (P_firsts (P_set_signs σ (upd (P_signs σ) (P_things σ).toNatClampNeg (vp_nar .char x1)))) (P_things (P_set_signs σ (upd (P_signs σ) (P_things σ).toNatClampNeg (vp_nar .char x1)))).toNatClampNeg x2)) (upd (P_seconds (P_set_firsts (P_set_signs σ (upd (P_signs σ) (P_things σ).toNatClampNeg (vp_nar .char x1))) (upd (P_firsts (P_set_signs σ (upd (P_signs σ) (P_things σ).toNatClampNeg (vp_nar .char x1)))) (P_things (P_set_signs σ (upd (P_signs σ) (P_things σ).toNatClampNeg (vp_nar .char x1)))).toNatClampNeg x2))) (P_things (P_set_firsts (P_set_signs σ (upd (P_signs σ) (P_things σ).toNatClampNeg (vp_nar .char x1))) (upd (P_firsts (P_set_signs σ (upd (P_signs σ) (P_things σ).toNatClampNeg (vp_nar .char x1)))) (P_things (P_set_signs σ (upd (P_signs σ) (P_things σ).toNatClampNeg (vp_nar .char x1)))).toNatClampNeg x2))).toNatClampNeg x3)) ((P_things (P_set_seconds (P_set_firsts (P_set_signs σ (upd (P_signs σ) (P_things σ).toNatClampNeg (vp_nar .char x1))) (upd (P_firsts (P_set_signs σ (upd (P_signs σ) (P_things σ).toNatClampNeg (vp_nar .char x1)))) (P_things (P_set_signs σ (upd (P_signs σ) (P_things σ).toNatClampNeg (vp_nar .char x1)))).toNatClampNeg x2)) (upd (P_seconds (P_set_firsts (P_set_signs σ (upd (P_signs σ) (P_things σ).toNatClampNeg (vp_nar .char x1))) (upd (P_firsts (P_set_signs σ (upd (P_signs σ) (P_things σ).toNatClampNeg (vp_nar .char x1)))) (P_things (P_set_signs σ (upd (P_signs σ) (P_things σ).toNatClampNeg (vp_nar .char x1)))).toNatClampNeg x2))) (P_things (P_set_firsts (P_set_signs σ (upd (P_signs σ) (P_things σ).toNatClampNeg (vp_nar .char x1))) (upd (P_firsts (P_set_signs σ (upd (P_signs σ) (P_things σ).toNatClampNeg (vp_nar .char x1)))) (P_things (P_set_signs σ (upd (P_signs σ) (P_things σ).toNatClampNeg (vp_nar .char x1)))).toNatClampNeg x2))).toNatClampNeg x3))) + 1))) := by unfold mX1_add; rw [if_pos c_1]
    exact wr_zret hC hP (hAe ▸ hD) (hAe ▸ hS) dX1_add_52 rfl (by rw [hm]) (by rw [hm])
  · refine lv_iconst (v := 0) hx hb dX1_add_9 (by decide) ?_
    have hm : mX1_add σ x1 x2 x3 = (0, σ) := by unfold mX1_add; rw [if_neg c_1]
    exact wr_zret hC hP (hAe ▸ hD) (hAe ▸ hS) dX1_add_10 rfl (by rw [hm]) (by rw [hm])
theorem pok_ad {σ : PS} {a b c : Int32} (h : POK σ) : POK (mX1_add σ a b c).2 := by
  unfold mX1_add
  split
  · exact pok_sg h
  · exact h
theorem tn_ad {σ : PS} {a b c : Int32} (h : 0 ≤ (P_things σ).toInt) : 0 ≤ (P_things (mX1_add σ a b c).2).toInt := by
  unfold mX1_add
  split
  · rename_i c1
    show 0 ≤ ((P_things σ) + 1).toInt
    rw [lt_ti] at c1
    have e2 : (20 : Int32).toInt = 20 := rfl
    rw [up_add (d := 1) (k := 1) (M := 20) rfl h (by omega) (by decide) (by decide)]
    omega
  · exact h
def mX1_readThing_J178 (σ : PS) (u1 : Int32) (u2 : Int32) (u3 : Int32) : Int32 × PS := (if u2 = (-5) then (0, σ) else (if (mX1_add σ u1 u2 u3).1 = 0 then (0, (mX1_add σ u1 u2 u3).2) else (1, (mX1_add σ u1 u2 u3).2)))
set_option maxHeartbeats 4000000 in
set_option maxRecDepth 100000 in
theorem j_X1_readThing_178 {p : Program} {e : Env} {s : State} {m : MethodId} {args : Array Value} {below : List Frame} {meth : Method} {c : Code} (l : Launch) (g : WG) (ad : AP) (σ : PS) (u1 : Int32) (u2 : Int32) (u3 : Int32) (h_tn : 0 ≤ (P_things σ).toInt) (hC : Cx p s m args meth c yX1_readThing cX1_readThing 4 (some .boolean)) (hK : va_K g.1 vwCl (tysW g) s) {A : Nat → Prop} {ws0 : va_W} (hE : Ex A s s.heap) (hA : ∀ q : Nat, s.heap.size ≤ q → A q) (hAe : A = va_A ws0 s.heap.size) (H : Heap) (locs : List Loc) (hP : va_P g.1 vwCl (cP g ad σ) H) (hD : va_D A (cP g ad σ)) (hS : va_S A s.heap H locs) {r : Int32 × PS} (hR : r = mX1_readThing_J178 σ u1 u2 u3) (ls : Array Slot) (hl : lv_has ls 4 [(0, .ref ad.1), (1, .int u1), (2, .int u2), (3, .int u3)]) : W p l e (rk 2) s m args below meth c H locs 0 0 (MQ below (va_Qi (fun x _ => x = r.1) (Bw g ws0 (cP g ad r.2) s.heap.size) (va_A ws0 s.heap.size)) args s 0 0 (va_A ws0 s.heap.size)) (F0 m 178 ls []) := by
  obtain ⟨hx, hb, hml, hr, hown, hts, hlk, hnm⟩ := id hC
  refine lv_iload_n hx hb dX1_readThing_178 rfl (lv_at hl 2 rfl) ?_
  refine lv_bipush (v := (-5)) hx hb dX1_readThing_179 (by decide) ?_
  refine lv_icmp_eq (tgt := 198) hx hb dX1_readThing_181 (by decide) (fun c_3 => ?_) (fun c_3 => ?_)
  · refine lv_iconst (v := 0) hx hb dX1_readThing_198 (by decide) ?_
    have hm : r = (0, σ) := by rw [hR, mX1_readThing_J178, if_pos c_3]
    exact wr_zret hC hP (hAe ▸ hD) (hAe ▸ hS) dX1_readThing_199 rfl (by rw [hm]) (by rw [hm])
  · refine lv_aload_n hx hb dX1_readThing_184 rfl (lv_at hl 0 rfl) ?_
    refine lv_iload_n hx hb dX1_readThing_185 rfl (lv_at hl 1 rfl) ?_
    refine lv_iload_n hx hb dX1_readThing_186 rfl (lv_at hl 2 rfl) ?_
    refine lv_iload_n hx hb dX1_readThing_187 rfl (lv_at hl 3 rfl) ?_
    refine callWr hC (k_X1_add l g ad σ u1 u2 u3 h_tn) ci_X1_add lk_X1_51 ⟨Nat.le_of_ble_eq_true rfl, Nat.le_of_ble_eq_true rfl⟩ hP hD hK hE hS hA (q0 := 0) rfl rfl rfl rfl hl.1 rfl (Nat.le_of_ble_eq_true rfl) dX1_readThing_188 ⟨Nat.zero_le _, Nat.zero_le _⟩ (fun H locs hP _ hD hS _ _ => ?_)
    refine lv_if_eq (tgt := 198) hx hb dX1_readThing_191 (by decide) (fun c_4 => ?_) (fun c_4 => ?_)
    · refine lv_iconst (v := 0) hx hb dX1_readThing_198 (by decide) ?_
      have hm : r = (0, (mX1_add σ u1 u2 u3).2) := by rw [hR, mX1_readThing_J178, if_neg c_3, if_pos c_4]
      exact wr_zret hC hP (hAe ▸ hD) (hAe ▸ hS) dX1_readThing_199 rfl (by rw [hm]) (by rw [hm])
    · refine lv_iconst (v := 1) hx hb dX1_readThing_194 (by decide) ?_
      refine lv_goto (tgt := 199) hx hb dX1_readThing_195 (by decide) ?_
      have hm : r = (1, (mX1_add σ u1 u2 u3).2) := by rw [hR, mX1_readThing_J178, if_neg c_3, if_neg c_4]
      exact wr_zret hC hP (hAe ▸ hD) (hAe ▸ hS) dX1_readThing_199 rfl (by rw [hm]) (by rw [hm])
def mX1_readThing (σ : PS) : Int32 × PS := (if (P_at σ) < (P_length σ) then (if ((P_text σ) (P_at σ).toNatClampNeg) = 43 then (mX1_readThing_J178 (mX1_readNumber (P_set_at σ ((P_at σ) + 1)) 0 19).2 ((P_text σ) (P_at σ).toNatClampNeg) (mX1_readNumber (P_set_at σ ((P_at σ) + 1)) 0 19).1 (-5)) else (if ((P_text σ) (P_at σ).toNatClampNeg) = 45 then (mX1_readThing_J178 (mX1_readNumber (P_set_at σ ((P_at σ) + 1)) 0 19).2 ((P_text σ) (P_at σ).toNatClampNeg) (mX1_readNumber (P_set_at σ ((P_at σ) + 1)) 0 19).1 (-5)) else (if ((P_text σ) (P_at σ).toNatClampNeg) = 46 then (mX1_readThing_J178 (mX1_readNumber (P_set_at σ ((P_at σ) + 1)) 1 99).2 ((P_text σ) (P_at σ).toNatClampNeg) (mX1_readNumber (P_set_at σ ((P_at σ) + 1)) 1 99).1 (-5)) else (if ((P_text σ) (P_at σ).toNatClampNeg) = 100 then (mX1_readThing_J178 (mX1_readNumber (P_set_at σ ((P_at σ) + 1)) 0 19).2 ((P_text σ) (P_at σ).toNatClampNeg) (mX1_readNumber (P_set_at σ ((P_at σ) + 1)) 0 19).1 (-5)) else (if ((P_text σ) (P_at σ).toNatClampNeg) = 109 then (if (mX1_readNumber (P_set_at σ ((P_at σ) + 1)) 0 19).1 = (-5) then (0, (mX1_readNumber (P_set_at σ ((P_at σ) + 1)) 0 19).2) else (if (mX1_readCharacter (mX1_readNumber (P_set_at σ ((P_at σ) + 1)) 0 19).2 58).1 = 0 then (0, (mX1_readCharacter (mX1_readNumber (P_set_at σ ((P_at σ) + 1)) 0 19).2 58).2) else (if (mX1_readNumber (mX1_readCharacter (mX1_readNumber (P_set_at σ ((P_at σ) + 1)) 0 19).2 58).2 0 3).1 = (-5) then (0, (mX1_readNumber (mX1_readCharacter (mX1_readNumber (P_set_at σ ((P_at σ) + 1)) 0 19).2 58).2 0 3).2) else (mX1_readThing_J178 (mX1_readNumber (mX1_readCharacter (mX1_readNumber (P_set_at σ ((P_at σ) + 1)) 0 19).2 58).2 0 3).2 ((P_text σ) (P_at σ).toNatClampNeg) (mX1_readNumber (P_set_at σ ((P_at σ) + 1)) 0 19).1 (mX1_readNumber (mX1_readCharacter (mX1_readNumber (P_set_at σ ((P_at σ) + 1)) 0 19).2 58).2 0 3).1)))) else (if ((P_text σ) (P_at σ).toNatClampNeg) = 117 then (if (mX1_readNumber (P_set_at σ ((P_at σ) + 1)) 0 19).1 = (-5) then (0, (mX1_readNumber (P_set_at σ ((P_at σ) + 1)) 0 19).2) else (if (mX1_readCharacter (mX1_readNumber (P_set_at σ ((P_at σ) + 1)) 0 19).2 58).1 = 0 then (0, (mX1_readCharacter (mX1_readNumber (P_set_at σ ((P_at σ) + 1)) 0 19).2 58).2) else (if (mX1_readNumber (mX1_readCharacter (mX1_readNumber (P_set_at σ ((P_at σ) + 1)) 0 19).2 58).2 0 3).1 = (-5) then (0, (mX1_readNumber (mX1_readCharacter (mX1_readNumber (P_set_at σ ((P_at σ) + 1)) 0 19).2 58).2 0 3).2) else (mX1_readThing_J178 (mX1_readNumber (mX1_readCharacter (mX1_readNumber (P_set_at σ ((P_at σ) + 1)) 0 19).2 58).2 0 3).2 ((P_text σ) (P_at σ).toNatClampNeg) (mX1_readNumber (P_set_at σ ((P_at σ) + 1)) 0 19).1 (mX1_readNumber (mX1_readCharacter (mX1_readNumber (P_set_at σ ((P_at σ) + 1)) 0 19).2 58).2 0 3).1)))) else (0, σ))))))) else (0, σ))
set_option maxHeartbeats 4000000 in
set_option maxRecDepth 100000 in
theorem k_X1_readThing (l : Launch) (g : WG) (ad : AP) (σ : PS) (h_pok : POK σ) (h_tn : 0 ≤ (P_things σ).toInt) : Wr l yX1_readThing cX1_readThing 4 (some .boolean) 2 g (cP g ad σ) (cP g ad (mX1_readThing σ).2) [.ref ad.1] (mX1_readThing σ).1 := by
  refine wr_of (by decide) (Nat.le_of_ble_eq_true rfl) ?_
  intro p e s m args below meth c ls A hC hAe hP hD hK hE hA hS hl
  obtain ⟨hx, hb, hml, hr, hown, hts, hlk, hnm⟩ := id hC
  have hl : lv_has ls 4 [(0, .ref ad.1)] := hl
  refine lv_aload_n hx hb dX1_readThing_0 rfl (lv_at hl 0 rfl) ?_
  refine gP_at hC rfl hK hP dX1_readThing_1 ?_
  refine lv_aload_n hx hb dX1_readThing_4 rfl (lv_at hl 0 rfl) ?_
  refine gP_length hC rfl hK hP dX1_readThing_5 ?_
  refine lv_icmp_lt (tgt := 13) hx hb dX1_readThing_8 (by decide) (fun c_1 => ?_) (fun c_1 => ?_)
  · refine lv_aload_n hx hb dX1_readThing_13 rfl (lv_at hl 0 rfl) ?_
    refine gP_text hC rfl hK hP dX1_readThing_14 ?_
    refine lv_aload_n hx hb dX1_readThing_17 rfl (lv_at hl 0 rfl) ?_
    refine gP_at hC rfl hK hP dX1_readThing_18 ?_
    refine lP_text hC hK hP (pok_in' h_pok c_1) dX1_readThing_21 ?_
    refine lv_istore_n (lv' := [(1, .int ((P_text σ) (P_at σ).toNatClampNeg)), (0, .ref ad.1)]) hx hb dX1_readThing_22 rfl hl (by decide) rfl (fun ls hl => ?_)
    refine lv_bipush (v := (-5)) hx hb dX1_readThing_23 (by decide) ?_
    refine lv_istore_n (lv' := [(3, .int (-5)), (1, .int ((P_text σ) (P_at σ).toNatClampNeg)), (0, .ref ad.1)]) hx hb dX1_readThing_25 rfl hl (by decide) rfl (fun ls hl => ?_)
    refine lv_iload_n hx hb dX1_readThing_26 rfl (lv_at hl 1 rfl) ?_
    by_cases c_2 : ((P_text σ) (P_at σ).toNatClampNeg) = 43
    · refine lv_lookup (tgt := 134) (off := 107) hx hb dX1_readThing_27 (by decide) (by rw [c_2]; rfl) (by decide) ?_
      refine lv_aload_n hx hb dX1_readThing_134 rfl (lv_at hl 2 rfl) ?_
      refine lv_dup hx hb dX1_readThing_135 rfl ?_
      refine gP_at hC rfl hK hP dX1_readThing_136 ?_
      refine lv_iconst (v := 1) hx hb dX1_readThing_139 (by decide) ?_
      refine lv_iadd hx hb dX1_readThing_140 ?_
      refine pP_at hC rfl hK hP hD hS dX1_readThing_141 (fun H locs hP hD hS => ?_)
      refine lv_aload_n hx hb dX1_readThing_144 rfl (lv_at hl 2 rfl) ?_
      refine lv_iconst (v := 0) hx hb dX1_readThing_145 (by decide) ?_
      refine lv_bipush (v := 19) hx hb dX1_readThing_146 (by decide) ?_
      refine callWr hC (k_X1_readNumber l g ad (P_set_at σ ((P_at σ) + 1)) 0 19 (pok_next h_pok (pok_lt c_1)) (by decide)) ci_X1_readNumber lk_X1_47 ⟨Nat.le_of_ble_eq_true rfl, Nat.le_of_ble_eq_true rfl⟩ hP hD hK hE hS hA (q0 := 0) rfl rfl rfl rfl hl.1 rfl (Nat.le_of_ble_eq_true rfl) dX1_readThing_148 ⟨Nat.zero_le _, Nat.zero_le _⟩ (fun H locs hP _ hD hS _ _ => ?_)
      refine lv_istore_n (lv' := [(2, .int (mX1_readNumber (P_set_at σ ((P_at σ) + 1)) 0 19).1), (3, .int (-5)), (1, .int ((P_text σ) (P_at σ).toNatClampNeg)), (0, .ref ad.1)]) hx hb dX1_readThing_151 rfl hl (by decide) rfl (fun ls hl => ?_)
      refine lv_goto (tgt := 178) hx hb dX1_readThing_152 (by decide) ?_
      refine j_X1_readThing_178 l g ad (mX1_readNumber (P_set_at σ ((P_at σ) + 1)) 0 19).2 ((P_text σ) (P_at σ).toNatClampNeg) (mX1_readNumber (P_set_at σ ((P_at σ) + 1)) 0 19).1 (-5) (tn_rn (tn_at h_tn)) hC hK hE hA hAe _ _ hP hD hS ?_ _ (lv_sub hl [3, 2, 0, 1] rfl)
      exact by unfold mX1_readThing; rw [if_pos c_1, if_pos c_2]
    · by_cases c_5 : ((P_text σ) (P_at σ).toNatClampNeg) = 45
      · refine lv_lookup (tgt := 134) (off := 107) hx hb dX1_readThing_27 (by decide) (by rw [c_5]; rfl) (by decide) ?_
        refine lv_aload_n hx hb dX1_readThing_134 rfl (lv_at hl 2 rfl) ?_
        refine lv_dup hx hb dX1_readThing_135 rfl ?_
        refine gP_at hC rfl hK hP dX1_readThing_136 ?_
        refine lv_iconst (v := 1) hx hb dX1_readThing_139 (by decide) ?_
        refine lv_iadd hx hb dX1_readThing_140 ?_
        refine pP_at hC rfl hK hP hD hS dX1_readThing_141 (fun H locs hP hD hS => ?_)
        refine lv_aload_n hx hb dX1_readThing_144 rfl (lv_at hl 2 rfl) ?_
        refine lv_iconst (v := 0) hx hb dX1_readThing_145 (by decide) ?_
        refine lv_bipush (v := 19) hx hb dX1_readThing_146 (by decide) ?_
        refine callWr hC (k_X1_readNumber l g ad (P_set_at σ ((P_at σ) + 1)) 0 19 (pok_next h_pok (pok_lt c_1)) (by decide)) ci_X1_readNumber lk_X1_47 ⟨Nat.le_of_ble_eq_true rfl, Nat.le_of_ble_eq_true rfl⟩ hP hD hK hE hS hA (q0 := 0) rfl rfl rfl rfl hl.1 rfl (Nat.le_of_ble_eq_true rfl) dX1_readThing_148 ⟨Nat.zero_le _, Nat.zero_le _⟩ (fun H locs hP _ hD hS _ _ => ?_)
        refine lv_istore_n (lv' := [(2, .int (mX1_readNumber (P_set_at σ ((P_at σ) + 1)) 0 19).1), (3, .int (-5)), (1, .int ((P_text σ) (P_at σ).toNatClampNeg)), (0, .ref ad.1)]) hx hb dX1_readThing_151 rfl hl (by decide) rfl (fun ls hl => ?_)
        refine lv_goto (tgt := 178) hx hb dX1_readThing_152 (by decide) ?_
        refine j_X1_readThing_178 l g ad (mX1_readNumber (P_set_at σ ((P_at σ) + 1)) 0 19).2 ((P_text σ) (P_at σ).toNatClampNeg) (mX1_readNumber (P_set_at σ ((P_at σ) + 1)) 0 19).1 (-5) (tn_rn (tn_at h_tn)) hC hK hE hA hAe _ _ hP hD hS ?_ _ (lv_sub hl [3, 2, 0, 1] rfl)
        exact by unfold mX1_readThing; rw [if_pos c_1, if_neg c_2, if_pos c_5]
      · by_cases c_6 : ((P_text σ) (P_at σ).toNatClampNeg) = 46
        · refine lv_lookup (tgt := 155) (off := 128) hx hb dX1_readThing_27 (by decide) (by rw [c_6]; rfl) (by decide) ?_
          refine lv_aload_n hx hb dX1_readThing_155 rfl (lv_at hl 2 rfl) ?_
          refine lv_dup hx hb dX1_readThing_156 rfl ?_
          refine gP_at hC rfl hK hP dX1_readThing_157 ?_
          refine lv_iconst (v := 1) hx hb dX1_readThing_160 (by decide) ?_
          refine lv_iadd hx hb dX1_readThing_161 ?_
          refine pP_at hC rfl hK hP hD hS dX1_readThing_162 (fun H locs hP hD hS => ?_)
          refine lv_aload_n hx hb dX1_readThing_165 rfl (lv_at hl 2 rfl) ?_
          refine lv_iconst (v := 1) hx hb dX1_readThing_166 (by decide) ?_
          refine lv_bipush (v := 99) hx hb dX1_readThing_167 (by decide) ?_
          refine callWr hC (k_X1_readNumber l g ad (P_set_at σ ((P_at σ) + 1)) 1 99 (pok_next h_pok (pok_lt c_1)) (by decide)) ci_X1_readNumber lk_X1_47 ⟨Nat.le_of_ble_eq_true rfl, Nat.le_of_ble_eq_true rfl⟩ hP hD hK hE hS hA (q0 := 0) rfl rfl rfl rfl hl.1 rfl (Nat.le_of_ble_eq_true rfl) dX1_readThing_169 ⟨Nat.zero_le _, Nat.zero_le _⟩ (fun H locs hP _ hD hS _ _ => ?_)
          refine lv_istore_n (lv' := [(2, .int (mX1_readNumber (P_set_at σ ((P_at σ) + 1)) 1 99).1), (3, .int (-5)), (1, .int ((P_text σ) (P_at σ).toNatClampNeg)), (0, .ref ad.1)]) hx hb dX1_readThing_172 rfl hl (by decide) rfl (fun ls hl => ?_)
          refine lv_goto (tgt := 178) hx hb dX1_readThing_173 (by decide) ?_
          refine j_X1_readThing_178 l g ad (mX1_readNumber (P_set_at σ ((P_at σ) + 1)) 1 99).2 ((P_text σ) (P_at σ).toNatClampNeg) (mX1_readNumber (P_set_at σ ((P_at σ) + 1)) 1 99).1 (-5) (tn_rn (tn_at h_tn)) hC hK hE hA hAe _ _ hP hD hS ?_ _ (lv_sub hl [3, 2, 0, 1] rfl)
          exact by unfold mX1_readThing; rw [if_pos c_1, if_neg c_2, if_neg c_5, if_pos c_6]
        · by_cases c_7 : ((P_text σ) (P_at σ).toNatClampNeg) = 100
          · refine lv_lookup (tgt := 134) (off := 107) hx hb dX1_readThing_27 (by decide) (by rw [c_7]; rfl) (by decide) ?_
            refine lv_aload_n hx hb dX1_readThing_134 rfl (lv_at hl 2 rfl) ?_
            refine lv_dup hx hb dX1_readThing_135 rfl ?_
            refine gP_at hC rfl hK hP dX1_readThing_136 ?_
            refine lv_iconst (v := 1) hx hb dX1_readThing_139 (by decide) ?_
            refine lv_iadd hx hb dX1_readThing_140 ?_
            refine pP_at hC rfl hK hP hD hS dX1_readThing_141 (fun H locs hP hD hS => ?_)
            refine lv_aload_n hx hb dX1_readThing_144 rfl (lv_at hl 2 rfl) ?_
            refine lv_iconst (v := 0) hx hb dX1_readThing_145 (by decide) ?_
            refine lv_bipush (v := 19) hx hb dX1_readThing_146 (by decide) ?_
            refine callWr hC (k_X1_readNumber l g ad (P_set_at σ ((P_at σ) + 1)) 0 19 (pok_next h_pok (pok_lt c_1)) (by decide)) ci_X1_readNumber lk_X1_47 ⟨Nat.le_of_ble_eq_true rfl, Nat.le_of_ble_eq_true rfl⟩ hP hD hK hE hS hA (q0 := 0) rfl rfl rfl rfl hl.1 rfl (Nat.le_of_ble_eq_true rfl) dX1_readThing_148 ⟨Nat.zero_le _, Nat.zero_le _⟩ (fun H locs hP _ hD hS _ _ => ?_)
            refine lv_istore_n (lv' := [(2, .int (mX1_readNumber (P_set_at σ ((P_at σ) + 1)) 0 19).1), (3, .int (-5)), (1, .int ((P_text σ) (P_at σ).toNatClampNeg)), (0, .ref ad.1)]) hx hb dX1_readThing_151 rfl hl (by decide) rfl (fun ls hl => ?_)
            refine lv_goto (tgt := 178) hx hb dX1_readThing_152 (by decide) ?_
            refine j_X1_readThing_178 l g ad (mX1_readNumber (P_set_at σ ((P_at σ) + 1)) 0 19).2 ((P_text σ) (P_at σ).toNatClampNeg) (mX1_readNumber (P_set_at σ ((P_at σ) + 1)) 0 19).1 (-5) (tn_rn (tn_at h_tn)) hC hK hE hA hAe _ _ hP hD hS ?_ _ (lv_sub hl [3, 2, 0, 1] rfl)
            exact by unfold mX1_readThing; rw [if_pos c_1, if_neg c_2, if_neg c_5, if_neg c_6, if_pos c_7]
          · by_cases c_8 : ((P_text σ) (P_at σ).toNatClampNeg) = 109
            · refine lv_lookup (tgt := 84) (off := 57) hx hb dX1_readThing_27 (by decide) (by rw [c_8]; rfl) (by decide) ?_
              refine lv_aload_n hx hb dX1_readThing_84 rfl (lv_at hl 2 rfl) ?_
              refine lv_dup hx hb dX1_readThing_85 rfl ?_
              refine gP_at hC rfl hK hP dX1_readThing_86 ?_
              refine lv_iconst (v := 1) hx hb dX1_readThing_89 (by decide) ?_
              refine lv_iadd hx hb dX1_readThing_90 ?_
              refine pP_at hC rfl hK hP hD hS dX1_readThing_91 (fun H locs hP hD hS => ?_)
              refine lv_aload_n hx hb dX1_readThing_94 rfl (lv_at hl 2 rfl) ?_
              refine lv_iconst (v := 0) hx hb dX1_readThing_95 (by decide) ?_
              refine lv_bipush (v := 19) hx hb dX1_readThing_96 (by decide) ?_
              refine callWr hC (k_X1_readNumber l g ad (P_set_at σ ((P_at σ) + 1)) 0 19 (pok_next h_pok (pok_lt c_1)) (by decide)) ci_X1_readNumber lk_X1_47 ⟨Nat.le_of_ble_eq_true rfl, Nat.le_of_ble_eq_true rfl⟩ hP hD hK hE hS hA (q0 := 0) rfl rfl rfl rfl hl.1 rfl (Nat.le_of_ble_eq_true rfl) dX1_readThing_98 ⟨Nat.zero_le _, Nat.zero_le _⟩ (fun H locs hP _ hD hS _ _ => ?_)
              refine lv_istore_n (lv' := [(2, .int (mX1_readNumber (P_set_at σ ((P_at σ) + 1)) 0 19).1), (3, .int (-5)), (1, .int ((P_text σ) (P_at σ).toNatClampNeg)), (0, .ref ad.1)]) hx hb dX1_readThing_101 rfl hl (by decide) rfl (fun ls hl => ?_)
              refine lv_iload_n hx hb dX1_readThing_102 rfl (lv_at hl 0 rfl) ?_
              refine lv_bipush (v := (-5)) hx hb dX1_readThing_103 (by decide) ?_
              refine lv_icmp_eq (tgt := 117) hx hb dX1_readThing_105 (by decide) (fun c_9 => ?_) (fun c_9 => ?_)
              · refine lv_iconst (v := 0) hx hb dX1_readThing_117 (by decide) ?_
                have hm : mX1_readThing σ = (0, (mX1_readNumber (P_set_at σ ((P_at σ) + 1)) 0 19).2) := by unfold mX1_readThing; rw [if_pos c_1, if_neg c_2, if_neg c_5, if_neg c_6, if_neg c_7, if_pos c_8, if_pos c_9]
                exact wr_zret hC hP (hAe ▸ hD) (hAe ▸ hS) dX1_readThing_118 rfl (by rw [hm]) (by rw [hm])
              · refine lv_aload_n hx hb dX1_readThing_108 rfl (lv_at hl 3 rfl) ?_
                refine lv_bipush (v := 58) hx hb dX1_readThing_109 (by decide) ?_
                refine callWr hC (k_X1_readCharacter l g ad (mX1_readNumber (P_set_at σ ((P_at σ) + 1)) 0 19).2 58 (pok_rn (pok_next h_pok (pok_lt c_1)) (by decide))) ci_X1_readCharacter lk_X1_43 ⟨Nat.le_of_ble_eq_true rfl, Nat.le_of_ble_eq_true rfl⟩ hP hD hK hE hS hA (q0 := 0) rfl rfl rfl rfl hl.1 rfl (Nat.le_of_ble_eq_true rfl) dX1_readThing_111 ⟨Nat.zero_le _, Nat.zero_le _⟩ (fun H locs hP _ hD hS _ _ => ?_)
                refine lv_if_ne (tgt := 119) hx hb dX1_readThing_114 (by decide) (fun c_10 => ?_) (fun c_10 => ?_)
                · refine lv_aload_n hx hb dX1_readThing_119 rfl (lv_at hl 3 rfl) ?_
                  refine lv_iconst (v := 0) hx hb dX1_readThing_120 (by decide) ?_
                  refine lv_iconst (v := 3) hx hb dX1_readThing_121 (by decide) ?_
                  refine callWr hC (k_X1_readNumber l g ad (mX1_readCharacter (mX1_readNumber (P_set_at σ ((P_at σ) + 1)) 0 19).2 58).2 0 3 (pok_rc (pok_rn (pok_next h_pok (pok_lt c_1)) (by decide))) (by decide)) ci_X1_readNumber lk_X1_47 ⟨Nat.le_of_ble_eq_true rfl, Nat.le_of_ble_eq_true rfl⟩ hP hD hK hE hS hA (q0 := 0) rfl rfl rfl rfl hl.1 rfl (Nat.le_of_ble_eq_true rfl) dX1_readThing_122 ⟨Nat.zero_le _, Nat.zero_le _⟩ (fun H locs hP _ hD hS _ _ => ?_)
                  refine lv_istore_n (lv' := [(3, .int (mX1_readNumber (mX1_readCharacter (mX1_readNumber (P_set_at σ ((P_at σ) + 1)) 0 19).2 58).2 0 3).1), (2, .int (mX1_readNumber (P_set_at σ ((P_at σ) + 1)) 0 19).1), (1, .int ((P_text σ) (P_at σ).toNatClampNeg)), (0, .ref ad.1)]) hx hb dX1_readThing_125 rfl hl (by decide) rfl (fun ls hl => ?_)
                  refine lv_iload_n hx hb dX1_readThing_126 rfl (lv_at hl 0 rfl) ?_
                  refine lv_bipush (v := (-5)) hx hb dX1_readThing_127 (by decide) ?_
                  refine lv_icmp_ne (tgt := 178) hx hb dX1_readThing_129 (by decide) (fun c_11 => ?_) (fun c_11 => ?_)
                  · refine j_X1_readThing_178 l g ad (mX1_readNumber (mX1_readCharacter (mX1_readNumber (P_set_at σ ((P_at σ) + 1)) 0 19).2 58).2 0 3).2 ((P_text σ) (P_at σ).toNatClampNeg) (mX1_readNumber (P_set_at σ ((P_at σ) + 1)) 0 19).1 (mX1_readNumber (mX1_readCharacter (mX1_readNumber (P_set_at σ ((P_at σ) + 1)) 0 19).2 58).2 0 3).1 (tn_rn (tn_rc (tn_rn (tn_at h_tn)))) hC hK hE hA hAe _ _ hP hD hS ?_ _ (lv_sub hl [3, 2, 1, 0] rfl)
                    exact by unfold mX1_readThing; rw [if_pos c_1, if_neg c_2, if_neg c_5, if_neg c_6, if_neg c_7, if_pos c_8, if_neg c_9, if_neg c_10, if_neg c_11]
                  · refine lv_iconst (v := 0) hx hb dX1_readThing_132 (by decide) ?_
                    have hm : mX1_readThing σ = (0, (mX1_readNumber (mX1_readCharacter (mX1_readNumber (P_set_at σ ((P_at σ) + 1)) 0 19).2 58).2 0 3).2) := by unfold mX1_readThing; rw [if_pos c_1, if_neg c_2, if_neg c_5, if_neg c_6, if_neg c_7, if_pos c_8, if_neg c_9, if_neg c_10, if_pos c_11]
                    exact wr_zret hC hP (hAe ▸ hD) (hAe ▸ hS) dX1_readThing_133 rfl (by rw [hm]) (by rw [hm])
                · refine lv_iconst (v := 0) hx hb dX1_readThing_117 (by decide) ?_
                  have hm : mX1_readThing σ = (0, (mX1_readCharacter (mX1_readNumber (P_set_at σ ((P_at σ) + 1)) 0 19).2 58).2) := by unfold mX1_readThing; rw [if_pos c_1, if_neg c_2, if_neg c_5, if_neg c_6, if_neg c_7, if_pos c_8, if_neg c_9, if_pos c_10]
                  exact wr_zret hC hP (hAe ▸ hD) (hAe ▸ hS) dX1_readThing_118 rfl (by rw [hm]) (by rw [hm])
            · by_cases c_12 : ((P_text σ) (P_at σ).toNatClampNeg) = 117
              · refine lv_lookup (tgt := 84) (off := 57) hx hb dX1_readThing_27 (by decide) (by rw [c_12]; rfl) (by decide) ?_
                refine lv_aload_n hx hb dX1_readThing_84 rfl (lv_at hl 2 rfl) ?_
                refine lv_dup hx hb dX1_readThing_85 rfl ?_
                refine gP_at hC rfl hK hP dX1_readThing_86 ?_
                refine lv_iconst (v := 1) hx hb dX1_readThing_89 (by decide) ?_
                refine lv_iadd hx hb dX1_readThing_90 ?_
                refine pP_at hC rfl hK hP hD hS dX1_readThing_91 (fun H locs hP hD hS => ?_)
                refine lv_aload_n hx hb dX1_readThing_94 rfl (lv_at hl 2 rfl) ?_
                refine lv_iconst (v := 0) hx hb dX1_readThing_95 (by decide) ?_
                refine lv_bipush (v := 19) hx hb dX1_readThing_96 (by decide) ?_
                refine callWr hC (k_X1_readNumber l g ad (P_set_at σ ((P_at σ) + 1)) 0 19 (pok_next h_pok (pok_lt c_1)) (by decide)) ci_X1_readNumber lk_X1_47 ⟨Nat.le_of_ble_eq_true rfl, Nat.le_of_ble_eq_true rfl⟩ hP hD hK hE hS hA (q0 := 0) rfl rfl rfl rfl hl.1 rfl (Nat.le_of_ble_eq_true rfl) dX1_readThing_98 ⟨Nat.zero_le _, Nat.zero_le _⟩ (fun H locs hP _ hD hS _ _ => ?_)
                refine lv_istore_n (lv' := [(2, .int (mX1_readNumber (P_set_at σ ((P_at σ) + 1)) 0 19).1), (3, .int (-5)), (1, .int ((P_text σ) (P_at σ).toNatClampNeg)), (0, .ref ad.1)]) hx hb dX1_readThing_101 rfl hl (by decide) rfl (fun ls hl => ?_)
                refine lv_iload_n hx hb dX1_readThing_102 rfl (lv_at hl 0 rfl) ?_
                refine lv_bipush (v := (-5)) hx hb dX1_readThing_103 (by decide) ?_
                refine lv_icmp_eq (tgt := 117) hx hb dX1_readThing_105 (by decide) (fun c_13 => ?_) (fun c_13 => ?_)
                · refine lv_iconst (v := 0) hx hb dX1_readThing_117 (by decide) ?_
                  have hm : mX1_readThing σ = (0, (mX1_readNumber (P_set_at σ ((P_at σ) + 1)) 0 19).2) := by unfold mX1_readThing; rw [if_pos c_1, if_neg c_2, if_neg c_5, if_neg c_6, if_neg c_7, if_neg c_8, if_pos c_12, if_pos c_13]
                  exact wr_zret hC hP (hAe ▸ hD) (hAe ▸ hS) dX1_readThing_118 rfl (by rw [hm]) (by rw [hm])
                · refine lv_aload_n hx hb dX1_readThing_108 rfl (lv_at hl 3 rfl) ?_
                  refine lv_bipush (v := 58) hx hb dX1_readThing_109 (by decide) ?_
                  refine callWr hC (k_X1_readCharacter l g ad (mX1_readNumber (P_set_at σ ((P_at σ) + 1)) 0 19).2 58 (pok_rn (pok_next h_pok (pok_lt c_1)) (by decide))) ci_X1_readCharacter lk_X1_43 ⟨Nat.le_of_ble_eq_true rfl, Nat.le_of_ble_eq_true rfl⟩ hP hD hK hE hS hA (q0 := 0) rfl rfl rfl rfl hl.1 rfl (Nat.le_of_ble_eq_true rfl) dX1_readThing_111 ⟨Nat.zero_le _, Nat.zero_le _⟩ (fun H locs hP _ hD hS _ _ => ?_)
                  refine lv_if_ne (tgt := 119) hx hb dX1_readThing_114 (by decide) (fun c_14 => ?_) (fun c_14 => ?_)
                  · refine lv_aload_n hx hb dX1_readThing_119 rfl (lv_at hl 3 rfl) ?_
                    refine lv_iconst (v := 0) hx hb dX1_readThing_120 (by decide) ?_
                    refine lv_iconst (v := 3) hx hb dX1_readThing_121 (by decide) ?_
                    refine callWr hC (k_X1_readNumber l g ad (mX1_readCharacter (mX1_readNumber (P_set_at σ ((P_at σ) + 1)) 0 19).2 58).2 0 3 (pok_rc (pok_rn (pok_next h_pok (pok_lt c_1)) (by decide))) (by decide)) ci_X1_readNumber lk_X1_47 ⟨Nat.le_of_ble_eq_true rfl, Nat.le_of_ble_eq_true rfl⟩ hP hD hK hE hS hA (q0 := 0) rfl rfl rfl rfl hl.1 rfl (Nat.le_of_ble_eq_true rfl) dX1_readThing_122 ⟨Nat.zero_le _, Nat.zero_le _⟩ (fun H locs hP _ hD hS _ _ => ?_)
                    refine lv_istore_n (lv' := [(3, .int (mX1_readNumber (mX1_readCharacter (mX1_readNumber (P_set_at σ ((P_at σ) + 1)) 0 19).2 58).2 0 3).1), (2, .int (mX1_readNumber (P_set_at σ ((P_at σ) + 1)) 0 19).1), (1, .int ((P_text σ) (P_at σ).toNatClampNeg)), (0, .ref ad.1)]) hx hb dX1_readThing_125 rfl hl (by decide) rfl (fun ls hl => ?_)
                    refine lv_iload_n hx hb dX1_readThing_126 rfl (lv_at hl 0 rfl) ?_
                    refine lv_bipush (v := (-5)) hx hb dX1_readThing_127 (by decide) ?_
                    refine lv_icmp_ne (tgt := 178) hx hb dX1_readThing_129 (by decide) (fun c_15 => ?_) (fun c_15 => ?_)
                    · refine j_X1_readThing_178 l g ad (mX1_readNumber (mX1_readCharacter (mX1_readNumber (P_set_at σ ((P_at σ) + 1)) 0 19).2 58).2 0 3).2 ((P_text σ) (P_at σ).toNatClampNeg) (mX1_readNumber (P_set_at σ ((P_at σ) + 1)) 0 19).1 (mX1_readNumber (mX1_readCharacter (mX1_readNumber (P_set_at σ ((P_at σ) + 1)) 0 19).2 58).2 0 3).1 (tn_rn (tn_rc (tn_rn (tn_at h_tn)))) hC hK hE hA hAe _ _ hP hD hS ?_ _ (lv_sub hl [3, 2, 1, 0] rfl)
                      exact by unfold mX1_readThing; rw [if_pos c_1, if_neg c_2, if_neg c_5, if_neg c_6, if_neg c_7, if_neg c_8, if_pos c_12, if_neg c_13, if_neg c_14, if_neg c_15]
                    · refine lv_iconst (v := 0) hx hb dX1_readThing_132 (by decide) ?_
                      have hm : mX1_readThing σ = (0, (mX1_readNumber (mX1_readCharacter (mX1_readNumber (P_set_at σ ((P_at σ) + 1)) 0 19).2 58).2 0 3).2) := by unfold mX1_readThing; rw [if_pos c_1, if_neg c_2, if_neg c_5, if_neg c_6, if_neg c_7, if_neg c_8, if_pos c_12, if_neg c_13, if_neg c_14, if_pos c_15]
                      exact wr_zret hC hP (hAe ▸ hD) (hAe ▸ hS) dX1_readThing_133 rfl (by rw [hm]) (by rw [hm])
                  · refine lv_iconst (v := 0) hx hb dX1_readThing_117 (by decide) ?_
                    have hm : mX1_readThing σ = (0, (mX1_readCharacter (mX1_readNumber (P_set_at σ ((P_at σ) + 1)) 0 19).2 58).2) := by unfold mX1_readThing; rw [if_pos c_1, if_neg c_2, if_neg c_5, if_neg c_6, if_neg c_7, if_neg c_8, if_pos c_12, if_neg c_13, if_pos c_14]
                    exact wr_zret hC hP (hAe ▸ hD) (hAe ▸ hS) dX1_readThing_118 rfl (by rw [hm]) (by rw [hm])
              · refine lv_lookup (tgt := 176) (off := 149) hx hb dX1_readThing_27 (by decide) (by show Op.lookupswitch.offset [(43, 107), (45, 107), (46, 128), (100, 107), (109, 57), (117, 57)] 149 _ = _; rw [lv_osw (a := 43) c_2 rfl, lv_osw (a := 45) c_5 rfl, lv_osw (a := 46) c_6 rfl, lv_osw (a := 100) c_7 rfl, lv_osw (a := 109) c_8 rfl, lv_osw (a := 117) c_12 rfl]; rfl) (by decide) ?_
                refine lv_iconst (v := 0) hx hb dX1_readThing_176 (by decide) ?_
                have hm : mX1_readThing σ = (0, σ) := by unfold mX1_readThing; rw [if_pos c_1, if_neg c_2, if_neg c_5, if_neg c_6, if_neg c_7, if_neg c_8, if_neg c_12]
                exact wr_zret hC hP (hAe ▸ hD) (hAe ▸ hS) dX1_readThing_177 rfl (by rw [hm]) (by rw [hm])
  · refine lv_iconst (v := 0) hx hb dX1_readThing_11 (by decide) ?_
    have hm : mX1_readThing σ = (0, σ) := by unfold mX1_readThing; rw [if_neg c_1]
    exact wr_zret hC hP (hAe ▸ hD) (hAe ▸ hS) dX1_readThing_12 rfl (by rw [hm]) (by rw [hm])
theorem pok_j {σ : PS} {a b c : Int32} (h : POK σ) : POK (mX1_readThing_J178 σ a b c).2 := by
  unfold mX1_readThing_J178
  split
  · exact h
  · split <;> exact pok_ad h
theorem tn_j {σ : PS} {a b c : Int32} (h : 0 ≤ (P_things σ).toInt) : 0 ≤ (P_things (mX1_readThing_J178 σ a b c).2).toInt := by
  unfold mX1_readThing_J178
  split
  · exact h
  · split <;> exact tn_ad h
set_option maxHeartbeats 4000000 in
theorem pok_rt {σ : PS} (h : POK σ) : POK (mX1_readThing σ).2 := by
  unfold mX1_readThing
  split
  · rename_i c1
    have h1 := pok_next h (pok_lt c1)
    have h2 : POK (mX1_readNumber (P_set_at σ (P_at σ + 1)) 0 19).2 := pok_rn h1 (by decide)
    have h3 : POK (mX1_readNumber (P_set_at σ (P_at σ + 1)) 1 99).2 := pok_rn h1 (by decide)
    have h4 : POK (mX1_readCharacter (mX1_readNumber (P_set_at σ (P_at σ + 1)) 0 19).2 58).2 := pok_rc h2
    have h5 : POK (mX1_readNumber (mX1_readCharacter (mX1_readNumber (P_set_at σ (P_at σ + 1)) 0 19).2 58).2 0 3).2 := pok_rn h4 (by decide)
    repeat' split
    all_goals first | with_reducible exact pok_j h2 | with_reducible exact pok_j h3 | with_reducible exact pok_j h5 | with_reducible exact h2 | with_reducible exact h4 | with_reducible exact h5 | with_reducible exact h
  · exact h
set_option maxHeartbeats 4000000 in
theorem tn_rt {σ : PS} (h : 0 ≤ (P_things σ).toInt) : 0 ≤ (P_things (mX1_readThing σ).2).toInt := by
  unfold mX1_readThing
  have h2 : 0 ≤ (P_things (mX1_readNumber (P_set_at σ (P_at σ + 1)) 0 19).2).toInt := tn_rn (tn_at h)
  have h3 : 0 ≤ (P_things (mX1_readNumber (P_set_at σ (P_at σ + 1)) 1 99).2).toInt := tn_rn (tn_at h)
  have h4 : 0 ≤ (P_things (mX1_readCharacter (mX1_readNumber (P_set_at σ (P_at σ + 1)) 0 19).2 58).2).toInt := tn_rc h2
  have h5 : 0 ≤ (P_things (mX1_readNumber (mX1_readCharacter (mX1_readNumber (P_set_at σ (P_at σ + 1)) 0 19).2 58).2 0 3).2).toInt := tn_rn h4
  repeat' split
  all_goals first | with_reducible exact tn_j h2 | with_reducible exact tn_j h3 | with_reducible exact tn_j h5 | with_reducible exact h2 | with_reducible exact h4 | with_reducible exact h5 | with_reducible exact h
def mX1_read_L12  : Nat → PS → Int32 → Int32 × PS
  | 0, σ, _ => (0, σ)
  | n + 1, σ, u1 => (if 20 ≤ u1 then ((P_at σ), σ) else (if (mX1_readThing σ).1 = 0 then ((P_at (mX1_readThing σ).2), (mX1_readThing σ).2) else (if (P_at (mX1_readThing σ).2) = (P_length (mX1_readThing σ).2) then ((-5), (mX1_readThing σ).2) else (if (mX1_readCharacter (mX1_readThing σ).2 59).1 = 0 then ((P_at (mX1_readCharacter (mX1_readThing σ).2 59).2), (mX1_readCharacter (mX1_readThing σ).2 59).2) else (mX1_read_L12 n (mX1_readCharacter (mX1_readThing σ).2 59).2 (u1 + 1))))))
set_option maxHeartbeats 4000000 in
set_option maxRecDepth 100000 in
theorem q_X1_read_12 {p : Program} {e : Env} {s : State} {m : MethodId} {args : Array Value} {below : List Frame} {meth : Method} {c : Code} (l : Launch) (g : WG) (ad : AP) (hC : Cx p s m args meth c yX1_read cX1_read 2 (some .int)) (hK : va_K g.1 vwCl (tysW g) s) {A : Nat → Prop} {ws0 : va_W} (hE : Ex A s s.heap) (hA : ∀ q : Nat, s.heap.size ≤ q → A q) (hAe : A = va_A ws0 s.heap.size) {r : Int32 × PS} : ∀ (n : Nat) (σ : PS) (H : Heap) (locs : List Loc) (hP : va_P g.1 vwCl (cP g ad σ) H) (hD : va_D A (cP g ad σ)) (hS : va_S A s.heap H locs) (u1 : Int32) (hi0 : 0 ≤ u1.toInt) (hi1 : u1.toInt ≤ 20) (hp : POK σ) (htn : 0 ≤ (P_things σ).toInt) (hm : ((21 : Int) - u1.toInt).toNat < n) (hR : r = mX1_read_L12 n σ u1) (ls : Array Slot) (hl : lv_has ls 2 [(1, .int u1), (0, .ref ad.1)]), W p l e (rk 3) s m args below meth c H locs 0 0 (MQ below (va_Qi (fun x _ => x = r.1) (Bw g ws0 (cP g ad r.2) s.heap.size) (va_A ws0 s.heap.size)) args s 0 0 (va_A ws0 s.heap.size)) (F0 m 12 ls []) := by
  obtain ⟨hx, hb, hml, hr, hown, hts, hlk, hnm⟩ := id hC
  intro n
  induction n with
  | zero => intro σ H locs hP hD hS u1 hi0 hi1 hp htn hm hR ls hl; exact absurd hm (Nat.not_lt_zero _)
  | succ n ih =>
    intro σ H locs hP hD hS u1 hi0 hi1 hp htn hm hR ls hl
    refine lv_iload_n hx hb dX1_read_12 rfl (lv_at hl 0 rfl) ?_
    refine lv_bipush (v := 20) hx hb dX1_read_13 (by decide) ?_
    refine lv_icmp_ge (tgt := 59) hx hb dX1_read_15 (by decide) (fun c_1 => ?_) (fun c_1 => ?_)
    · refine lv_aload_n hx hb dX1_read_59 rfl (lv_at hl 1 rfl) ?_
      refine gP_at hC rfl hK hP dX1_read_60 ?_
      have hm : r = ((P_at σ), σ) := by rw [hR, mX1_read_L12, if_pos c_1]
      exact wr_ret hC hP (hAe ▸ hD) (hAe ▸ hS) dX1_read_63 (by rw [hm]) (by rw [hm])
    · refine lv_aload_n hx hb dX1_read_18 rfl (lv_at hl 1 rfl) ?_
      refine callWr hC (k_X1_readThing l g ad σ hp htn) ci_X1_readThing lk_X1_39 ⟨Nat.le_of_ble_eq_true rfl, Nat.le_of_ble_eq_true rfl⟩ hP hD hK hE hS hA (q0 := 0) rfl rfl rfl rfl hl.1 rfl (Nat.le_of_ble_eq_true rfl) dX1_read_19 ⟨Nat.zero_le _, Nat.zero_le _⟩ (fun H locs hP _ hD hS _ _ => ?_)
      refine lv_if_eq (tgt := 59) hx hb dX1_read_22 (by decide) (fun c_2 => ?_) (fun c_2 => ?_)
      · refine lv_aload_n hx hb dX1_read_59 rfl (lv_at hl 1 rfl) ?_
        refine gP_at hC rfl hK hP dX1_read_60 ?_
        have hm : r = ((P_at (mX1_readThing σ).2), (mX1_readThing σ).2) := by rw [hR, mX1_read_L12, if_neg c_1, if_pos c_2]
        exact wr_ret hC hP (hAe ▸ hD) (hAe ▸ hS) dX1_read_63 (by rw [hm]) (by rw [hm])
      · refine lv_aload_n hx hb dX1_read_25 rfl (lv_at hl 1 rfl) ?_
        refine gP_at hC rfl hK hP dX1_read_26 ?_
        refine lv_aload_n hx hb dX1_read_29 rfl (lv_at hl 1 rfl) ?_
        refine gP_length hC rfl hK hP dX1_read_30 ?_
        refine lv_icmp_ne (tgt := 39) hx hb dX1_read_33 (by decide) (fun c_3 => ?_) (fun c_3 => ?_)
        · refine lv_aload_n hx hb dX1_read_39 rfl (lv_at hl 1 rfl) ?_
          refine lv_bipush (v := 59) hx hb dX1_read_40 (by decide) ?_
          refine callWr hC (k_X1_readCharacter l g ad (mX1_readThing σ).2 59 (pok_rt hp)) ci_X1_readCharacter lk_X1_43 ⟨Nat.le_of_ble_eq_true rfl, Nat.le_of_ble_eq_true rfl⟩ hP hD hK hE hS hA (q0 := 0) rfl rfl rfl rfl hl.1 rfl (Nat.le_of_ble_eq_true rfl) dX1_read_42 ⟨Nat.zero_le _, Nat.zero_le _⟩ (fun H locs hP _ hD hS _ _ => ?_)
          refine lv_if_ne (tgt := 53) hx hb dX1_read_45 (by decide) (fun c_4 => ?_) (fun c_4 => ?_)
          · refine lv_iinc (v := (u1 + 1)) (lv' := [(1, .int (u1 + 1)), (0, .ref ad.1)]) hx hb dX1_read_53 hl (k := 0) rfl rfl (by decide) rfl (fun ls hl => ?_)
            refine lv_goto (tgt := 12) hx hb dX1_read_56 (by decide) ?_
            have e9 := up_add (d := 1) (k := 1) (M := 20) rfl hi0 hi1 (by decide) (by decide)
            have e8 := nle_ti (k := 20) rfl c_1
            exact ih (mX1_readCharacter (mX1_readThing σ).2 59).2 _ _ hP hD hS (u1 + 1) (by rw [e9]; omega) (by rw [e9]; omega) (pok_rc (pok_rt hp)) (tn_rc (tn_rt htn)) (by rw [e9]; omega) (by rw [hR, mX1_read_L12, if_neg c_1, if_neg c_2, if_neg c_3, if_neg c_4]) _ (lv_sub hl [0, 1] rfl)
          · refine lv_aload_n hx hb dX1_read_48 rfl (lv_at hl 1 rfl) ?_
            refine gP_at hC rfl hK hP dX1_read_49 ?_
            have hm : r = ((P_at (mX1_readCharacter (mX1_readThing σ).2 59).2), (mX1_readCharacter (mX1_readThing σ).2 59).2) := by rw [hR, mX1_read_L12, if_neg c_1, if_neg c_2, if_neg c_3, if_pos c_4]
            exact wr_ret hC hP (hAe ▸ hD) (hAe ▸ hS) dX1_read_52 (by rw [hm]) (by rw [hm])
        · refine lv_bipush (v := (-5)) hx hb dX1_read_36 (by decide) ?_
          have hm : r = ((-5), (mX1_readThing σ).2) := by rw [hR, mX1_read_L12, if_neg c_1, if_neg c_2, if_pos c_3]
          exact wr_ret hC hP (hAe ▸ hD) (hAe ▸ hS) dX1_read_38 (by rw [hm]) (by rw [hm])
def mX1_read (σ : PS) : Int32 × PS := (mX1_read_L12 22 (P_set_things (P_set_at σ 0) 0) 0)
set_option maxHeartbeats 4000000 in
set_option maxRecDepth 100000 in
theorem k_X1_read (l : Launch) (g : WG) (ad : AP) (σ : PS) (h_len : 0 ≤ (P_length σ).toInt ∧ (P_length σ).toInt ≤ 60) : Wr l yX1_read cX1_read 2 (some .int) 3 g (cP g ad σ) (cP g ad (mX1_read σ).2) [.ref ad.1] (mX1_read σ).1 := by
  refine wr_of (by decide) (Nat.le_of_ble_eq_true rfl) ?_
  intro p e s m args below meth c ls A hC hAe hP hD hK hE hA hS hl
  obtain ⟨hx, hb, hml, hr, hown, hts, hlk, hnm⟩ := id hC
  have hl : lv_has ls 2 [(0, .ref ad.1)] := hl
  refine lv_aload_n hx hb dX1_read_0 rfl (lv_at hl 0 rfl) ?_
  refine lv_iconst (v := 0) hx hb dX1_read_1 (by decide) ?_
  refine pP_at hC rfl hK hP hD hS dX1_read_2 (fun H locs hP hD hS => ?_)
  refine lv_aload_n hx hb dX1_read_5 rfl (lv_at hl 0 rfl) ?_
  refine lv_iconst (v := 0) hx hb dX1_read_6 (by decide) ?_
  refine pP_things hC rfl hK hP hD hS dX1_read_7 (fun H locs hP hD hS => ?_)
  refine lv_iconst (v := 0) hx hb dX1_read_10 (by decide) ?_
  refine lv_istore_n (lv' := [(1, .int 0), (0, .ref ad.1)]) hx hb dX1_read_11 rfl hl (by decide) rfl (fun ls hl => ?_)
  refine q_X1_read_12 l g ad hC hK hE hA hAe 22 (P_set_things (P_set_at σ 0) 0) _ _ hP hD hS 0 (by decide) (by decide) ⟨(by show (0 : Int) ≤ (0 : Int32).toInt; decide), h_len.1, h_len.2⟩ (by show (0 : Int) ≤ (0 : Int32).toInt; decide) (by decide) ?_ _ (lv_sub hl [0, 1] rfl)
  exact by unfold mX1_read; rfl
