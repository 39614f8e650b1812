/-! the yard: a state, its cells, its fields -/
abbrev YS : Type := (Nat → Int32) × (Nat → Int32) × (Nat → Int32) × (Nat → Int32) × Int32 × Int32 × Int32 × Int32
def Y_facts (σ : YS) : Nat → Int32 := σ.1
def Y_set_facts (σ : YS) (v : Nat → Int32) : YS := (v, σ.2.1, σ.2.2.1, σ.2.2.2.1, σ.2.2.2.2.1, σ.2.2.2.2.2.1, σ.2.2.2.2.2.2.1, σ.2.2.2.2.2.2.2)
def Y_cradles (σ : YS) : Nat → Int32 := σ.2.1
def Y_set_cradles (σ : YS) (v : Nat → Int32) : YS := (σ.1, v, σ.2.2.1, σ.2.2.2.1, σ.2.2.2.2.1, σ.2.2.2.2.2.1, σ.2.2.2.2.2.2.1, σ.2.2.2.2.2.2.2)
def Y_metres (σ : YS) : Nat → Int32 := σ.2.2.1
def Y_set_metres (σ : YS) (v : Nat → Int32) : YS := (σ.1, σ.2.1, v, σ.2.2.2.1, σ.2.2.2.2.1, σ.2.2.2.2.2.1, σ.2.2.2.2.2.2.1, σ.2.2.2.2.2.2.2)
def Y_settings (σ : YS) : Nat → Int32 := σ.2.2.2.1
def Y_set_settings (σ : YS) (v : Nat → Int32) : YS := (σ.1, σ.2.1, σ.2.2.1, v, σ.2.2.2.2.1, σ.2.2.2.2.2.1, σ.2.2.2.2.2.2.1, σ.2.2.2.2.2.2.2)
def Y_day (σ : YS) : Int32 := σ.2.2.2.2.1
def Y_set_day (σ : YS) (v : Int32) : YS := (σ.1, σ.2.1, σ.2.2.1, σ.2.2.2.1, v, σ.2.2.2.2.2.1, σ.2.2.2.2.2.2.1, σ.2.2.2.2.2.2.2)
def Y_liftsToday (σ : YS) : Int32 := σ.2.2.2.2.2.1
def Y_set_liftsToday (σ : YS) (v : Int32) : YS := (σ.1, σ.2.1, σ.2.2.1, σ.2.2.2.1, σ.2.2.2.2.1, v, σ.2.2.2.2.2.2.1, σ.2.2.2.2.2.2.2)
def Y_lifts (σ : YS) : Int32 := σ.2.2.2.2.2.2.1
def Y_set_lifts (σ : YS) (v : Int32) : YS := (σ.1, σ.2.1, σ.2.2.1, σ.2.2.2.1, σ.2.2.2.2.1, σ.2.2.2.2.2.1, v, σ.2.2.2.2.2.2.2)
def Y_launches (σ : YS) : Int32 := σ.2.2.2.2.2.2.2
def Y_set_launches (σ : YS) (v : Int32) : YS := (σ.1, σ.2.1, σ.2.2.1, σ.2.2.2.1, σ.2.2.2.2.1, σ.2.2.2.2.2.1, σ.2.2.2.2.2.2.1, v)
abbrev AY : Type := Nat × Nat × Nat × Nat × Nat
abbrev cY (g : WG) (ad : AY) (σ : YS) : va_W := [(ad.1, .inr (2, [.ref ad.2.1, .ref ad.2.2.1, .ref ad.2.2.2.1, .ref ad.2.2.2.2, .int (Y_day σ), .int (Y_liftsToday σ), .int (Y_lifts σ), .int (Y_launches σ)])), (ad.2.1, .inl (g.2.1, 220, .inl (Y_facts σ))), (ad.2.2.1, .inl (g.2.1, 3, .inl (Y_cradles σ))), (ad.2.2.2.1, .inl (g.2.1, 4, .inl (Y_metres σ))), (ad.2.2.2.2, .inl (g.2.1, 3, .inl (Y_settings σ)))]
section FR
variable {p : Program} {l : Launch} {e : Env} {R : Room} {s : State} {m : MethodId} {args : Array Value} {below : List Frame} {meth : Method} {c : Code} {H : Heap} {locs : List Loc} {cells slots : Nat} {Q : State → Prop}
variable {pc : Nat} {ls : Array Slot} {rest : List Value}
theorem gt_X2_facts {y : MethodName} {cc : ByteArray} {nL : Nat} {ro : Option FieldType} {g : WG} {ws : va_W} {a : Nat} {fs : List Value} {v : Value} (hC : Cx p s m args meth c y cc nL ro) (hy : y.cls = RX2) (hK : va_K g.1 vwCl (tysW g) s) (hP : va_P g.1 vwCl ws H) (q0 : Nat) (he : ws[q0]? = some (a, .inr (2, fs))) (hv : fs[0]? = some v) (hdg : decode cc pc = .ok (.getfield 11, 3)) (kk : W p l e R s m args below meth c H locs cells slots Q (F0 m (pc + 3) ls (v :: rest))) : W p l e R s m args below meth c H locs cells slots Q (F0 m pc ls (.ref a :: rest)) := by
  obtain ⟨hx, hb, hml, hr, hown, hts, hlk, hnm⟩ := hC
  rw [hy] at hown
  exact va_get (C := RX2) (T := TX2) (N := 8) hx hb hts uw_X2 hown hK hP q0 he rfl 0 (by decide) (hts _ fl_X2_11) (fun _ h => h) hv hdg kk
theorem gt_X2_cradles {y : MethodName} {cc : ByteArray} {nL : Nat} {ro : Option FieldType} {g : WG} {ws : va_W} {a : Nat} {fs : List Value} {v : Value} (hC : Cx p s m args meth c y cc nL ro) (hy : y.cls = RX2) (hK : va_K g.1 vwCl (tysW g) s) (hP : va_P g.1 vwCl ws H) (q0 : Nat) (he : ws[q0]? = some (a, .inr (2, fs))) (hv : fs[1]? = some v) (hdg : decode cc pc = .ok (.getfield 15, 3)) (kk : W p l e R s m args below meth c H locs cells slots Q (F0 m (pc + 3) ls (v :: rest))) : W p l e R s m args below meth c H locs cells slots Q (F0 m pc ls (.ref a :: rest)) := by
  obtain ⟨hx, hb, hml, hr, hown, hts, hlk, hnm⟩ := hC
  rw [hy] at hown
  exact va_get (C := RX2) (T := TX2) (N := 8) hx hb hts uw_X2 hown hK hP q0 he rfl 1 (by decide) (hts _ fl_X2_15) (fun _ h => h) hv hdg kk
theorem gt_X2_metres {y : MethodName} {cc : ByteArray} {nL : Nat} {ro : Option FieldType} {g : WG} {ws : va_W} {a : Nat} {fs : List Value} {v : Value} (hC : Cx p s m args meth c y cc nL ro) (hy : y.cls = RX2) (hK : va_K g.1 vwCl (tysW g) s) (hP : va_P g.1 vwCl ws H) (q0 : Nat) (he : ws[q0]? = some (a, .inr (2, fs))) (hv : fs[2]? = some v) (hdg : decode cc pc = .ok (.getfield 18, 3)) (kk : W p l e R s m args below meth c H locs cells slots Q (F0 m (pc + 3) ls (v :: rest))) : W p l e R s m args below meth c H locs cells slots Q (F0 m pc ls (.ref a :: rest)) := by
  obtain ⟨hx, hb, hml, hr, hown, hts, hlk, hnm⟩ := hC
  rw [hy] at hown
  exact va_get (C := RX2) (T := TX2) (N := 8) hx hb hts uw_X2 hown hK hP q0 he rfl 2 (by decide) (hts _ fl_X2_18) (fun _ h => h) hv hdg kk
theorem gt_X2_settings {y : MethodName} {cc : ByteArray} {nL : Nat} {ro : Option FieldType} {g : WG} {ws : va_W} {a : Nat} {fs : List Value} {v : Value} (hC : Cx p s m args meth c y cc nL ro) (hy : y.cls = RX2) (hK : va_K g.1 vwCl (tysW g) s) (hP : va_P g.1 vwCl ws H) (q0 : Nat) (he : ws[q0]? = some (a, .inr (2, fs))) (hv : fs[3]? = some v) (hdg : decode cc pc = .ok (.getfield 21, 3)) (kk : W p l e R s m args below meth c H locs cells slots Q (F0 m (pc + 3) ls (v :: rest))) : W p l e R s m args below meth c H locs cells slots Q (F0 m pc ls (.ref a :: rest)) := by
  obtain ⟨hx, hb, hml, hr, hown, hts, hlk, hnm⟩ := hC
  rw [hy] at hown
  exact va_get (C := RX2) (T := TX2) (N := 8) hx hb hts uw_X2 hown hK hP q0 he rfl 3 (by decide) (hts _ fl_X2_21) (fun _ h => h) hv hdg kk
theorem gt_X2_day {y : MethodName} {cc : ByteArray} {nL : Nat} {ro : Option FieldType} {g : WG} {ws : va_W} {a : Nat} {fs : List Value} {v : Value} (hC : Cx p s m args meth c y cc nL ro) (hy : y.cls = RX2) (hK : va_K g.1 vwCl (tysW g) s) (hP : va_P g.1 vwCl ws H) (q0 : Nat) (he : ws[q0]? = some (a, .inr (2, fs))) (hv : fs[4]? = some v) (hdg : decode cc pc = .ok (.getfield 24, 3)) (kk : W p l e R s m args below meth c H locs cells slots Q (F0 m (pc + 3) ls (v :: rest))) : W p l e R s m args below meth c H locs cells slots Q (F0 m pc ls (.ref a :: rest)) := by
  obtain ⟨hx, hb, hml, hr, hown, hts, hlk, hnm⟩ := hC
  rw [hy] at hown
  exact va_get (C := RX2) (T := TX2) (N := 8) hx hb hts uw_X2 hown hK hP q0 he rfl 4 (by decide) (hts _ fl_X2_24) (fun _ h => h) hv hdg kk
theorem pt_X2_day {y : MethodName} {cc : ByteArray} {nL : Nat} {ro : Option FieldType} {g : WG} {ws : va_W} {A : Nat → Prop} {H0 : Heap} {a : Nat} {fs : List Value} {v : Int32} (hC : Cx p s m args meth c y cc nL ro) (hy : y.cls = RX2) (hK : va_K g.1 vwCl (tysW g) s) (hP : va_P g.1 vwCl ws H) (hD : va_D A ws) (hS : va_S A H0 H locs) (q0 : Nat) (he : ws[q0]? = some (a, .inr (2, fs))) (hl : 4 < fs.length) (hdg : decode cc pc = .ok (.putfield 24, 3)) (kk : ∀ (H1 : Heap) (locs1 : List Loc), va_P g.1 vwCl (ws.set q0 (a, .inr (2, fs.set 4 (.int v)))) H1 → va_D A (ws.set q0 (a, .inr (2, fs.set 4 (.int v)))) → va_S A H0 H1 locs1 → W p l e R s m args below meth c H1 locs1 cells slots Q (F0 m (pc + 3) ls rest)) : W p l e R s m args below meth c H locs cells slots Q (F0 m pc ls (.int v :: .ref a :: rest)) := by
  obtain ⟨hx, hb, hml, hr, hown, hts, hlk, hnm⟩ := hC
  rw [hy] at hown
  exact va_put (C := RX2) (T := TX2) (N := 8) (ty := .int) hx hb hts uw_X2 tyX2 tyX2_ok nmX2 hown hK hP hD hS q0 he rfl 4 (by decide) (hts _ fl_X2_24) (fun _ h => h) rfl (by decide +kernel) rfl rfl hl hdg kk
theorem gt_X2_liftsToday {y : MethodName} {cc : ByteArray} {nL : Nat} {ro : Option FieldType} {g : WG} {ws : va_W} {a : Nat} {fs : List Value} {v : Value} (hC : Cx p s m args meth c y cc nL ro) (hy : y.cls = RX2) (hK : va_K g.1 vwCl (tysW g) s) (hP : va_P g.1 vwCl ws H) (q0 : Nat) (he : ws[q0]? = some (a, .inr (2, fs))) (hv : fs[5]? = some v) (hdg : decode cc pc = .ok (.getfield 28, 3)) (kk : W p l e R s m args below meth c H locs cells slots Q (F0 m (pc + 3) ls (v :: rest))) : W p l e R s m args below meth c H locs cells slots Q (F0 m pc ls (.ref a :: rest)) := by
  obtain ⟨hx, hb, hml, hr, hown, hts, hlk, hnm⟩ := hC
  rw [hy] at hown
  exact va_get (C := RX2) (T := TX2) (N := 8) hx hb hts uw_X2 hown hK hP q0 he rfl 5 (by decide) (hts _ fl_X2_28) (fun _ h => h) hv hdg kk
theorem pt_X2_liftsToday {y : MethodName} {cc : ByteArray} {nL : Nat} {ro : Option FieldType} {g : WG} {ws : va_W} {A : Nat → Prop} {H0 : Heap} {a : Nat} {fs : List Value} {v : Int32} (hC : Cx p s m args meth c y cc nL ro) (hy : y.cls = RX2) (hK : va_K g.1 vwCl (tysW g) s) (hP : va_P g.1 vwCl ws H) (hD : va_D A ws) (hS : va_S A H0 H locs) (q0 : Nat) (he : ws[q0]? = some (a, .inr (2, fs))) (hl : 5 < fs.length) (hdg : decode cc pc = .ok (.putfield 28, 3)) (kk : ∀ (H1 : Heap) (locs1 : List Loc), va_P g.1 vwCl (ws.set q0 (a, .inr (2, fs.set 5 (.int v)))) H1 → va_D A (ws.set q0 (a, .inr (2, fs.set 5 (.int v)))) → va_S A H0 H1 locs1 → W p l e R s m args below meth c H1 locs1 cells slots Q (F0 m (pc + 3) ls rest)) : W p l e R s m args below meth c H locs cells slots Q (F0 m pc ls (.int v :: .ref a :: rest)) := by
  obtain ⟨hx, hb, hml, hr, hown, hts, hlk, hnm⟩ := hC
  rw [hy] at hown
  exact va_put (C := RX2) (T := TX2) (N := 8) (ty := .int) hx hb hts uw_X2 tyX2 tyX2_ok nmX2 hown hK hP hD hS q0 he rfl 5 (by decide) (hts _ fl_X2_28) (fun _ h => h) rfl (by decide +kernel) rfl rfl hl hdg kk
theorem gt_X2_lifts {y : MethodName} {cc : ByteArray} {nL : Nat} {ro : Option FieldType} {g : WG} {ws : va_W} {a : Nat} {fs : List Value} {v : Value} (hC : Cx p s m args meth c y cc nL ro) (hy : y.cls = RX2) (hK : va_K g.1 vwCl (tysW g) s) (hP : va_P g.1 vwCl ws H) (q0 : Nat) (he : ws[q0]? = some (a, .inr (2, fs))) (hv : fs[6]? = some v) (hdg : decode cc pc = .ok (.getfield 31, 3)) (kk : W p l e R s m args below meth c H locs cells slots Q (F0 m (pc + 3) ls (v :: rest))) : W p l e R s m args below meth c H locs cells slots Q (F0 m pc ls (.ref a :: rest)) := by
  obtain ⟨hx, hb, hml, hr, hown, hts, hlk, hnm⟩ := hC
  rw [hy] at hown
  exact va_get (C := RX2) (T := TX2) (N := 8) hx hb hts uw_X2 hown hK hP q0 he rfl 6 (by decide) (hts _ fl_X2_31) (fun _ h => h) hv hdg kk
theorem pt_X2_lifts {y : MethodName} {cc : ByteArray} {nL : Nat} {ro : Option FieldType} {g : WG} {ws : va_W} {A : Nat → Prop} {H0 : Heap} {a : Nat} {fs : List Value} {v : Int32} (hC : Cx p s m args meth c y cc nL ro) (hy : y.cls = RX2) (hK : va_K g.1 vwCl (tysW g) s) (hP : va_P g.1 vwCl ws H) (hD : va_D A ws) (hS : va_S A H0 H locs) (q0 : Nat) (he : ws[q0]? = some (a, .inr (2, fs))) (hl : 6 < fs.length) (hdg : decode cc pc = .ok (.putfield 31, 3)) (kk : ∀ (H1 : Heap) (locs1 : List Loc), va_P g.1 vwCl (ws.set q0 (a, .inr (2, fs.set 6 (.int v)))) H1 → va_D A (ws.set q0 (a, .inr (2, fs.set 6 (.int v)))) → va_S A H0 H1 locs1 → W p l e R s m args below meth c H1 locs1 cells slots Q (F0 m (pc + 3) ls rest)) : W p l e R s m args below meth c H locs cells slots Q (F0 m pc ls (.int v :: .ref a :: rest)) := by
  obtain ⟨hx, hb, hml, hr, hown, hts, hlk, hnm⟩ := hC
  rw [hy] at hown
  exact va_put (C := RX2) (T := TX2) (N := 8) (ty := .int) hx hb hts uw_X2 tyX2 tyX2_ok nmX2 hown hK hP hD hS q0 he rfl 6 (by decide) (hts _ fl_X2_31) (fun _ h => h) rfl (by decide +kernel) rfl rfl hl hdg kk
theorem gt_X2_launches {y : MethodName} {cc : ByteArray} {nL : Nat} {ro : Option FieldType} {g : WG} {ws : va_W} {a : Nat} {fs : List Value} {v : Value} (hC : Cx p s m args meth c y cc nL ro) (hy : y.cls = RX2) (hK : va_K g.1 vwCl (tysW g) s) (hP : va_P g.1 vwCl ws H) (q0 : Nat) (he : ws[q0]? = some (a, .inr (2, fs))) (hv : fs[7]? = some v) (hdg : decode cc pc = .ok (.getfield 34, 3)) (kk : W p l e R s m args below meth c H locs cells slots Q (F0 m (pc + 3) ls (v :: rest))) : W p l e R s m args below meth c H locs cells slots Q (F0 m pc ls (.ref a :: rest)) := by
  obtain ⟨hx, hb, hml, hr, hown, hts, hlk, hnm⟩ := hC
  rw [hy] at hown
  exact va_get (C := RX2) (T := TX2) (N := 8) hx hb hts uw_X2 hown hK hP q0 he rfl 7 (by decide) (hts _ fl_X2_34) (fun _ h => h) hv hdg kk
theorem pt_X2_launches {y : MethodName} {cc : ByteArray} {nL : Nat} {ro : Option FieldType} {g : WG} {ws : va_W} {A : Nat → Prop} {H0 : Heap} {a : Nat} {fs : List Value} {v : Int32} (hC : Cx p s m args meth c y cc nL ro) (hy : y.cls = RX2) (hK : va_K g.1 vwCl (tysW g) s) (hP : va_P g.1 vwCl ws H) (hD : va_D A ws) (hS : va_S A H0 H locs) (q0 : Nat) (he : ws[q0]? = some (a, .inr (2, fs))) (hl : 7 < fs.length) (hdg : decode cc pc = .ok (.putfield 34, 3)) (kk : ∀ (H1 : Heap) (locs1 : List Loc), va_P g.1 vwCl (ws.set q0 (a, .inr (2, fs.set 7 (.int v)))) H1 → va_D A (ws.set q0 (a, .inr (2, fs.set 7 (.int v)))) → va_S A H0 H1 locs1 → W p l e R s m args below meth c H1 locs1 cells slots Q (F0 m (pc + 3) ls rest)) : W p l e R s m args below meth c H locs cells slots Q (F0 m pc ls (.int v :: .ref a :: rest)) := by
  obtain ⟨hx, hb, hml, hr, hown, hts, hlk, hnm⟩ := hC
  rw [hy] at hown
  exact va_put (C := RX2) (T := TX2) (N := 8) (ty := .int) hx hb hts uw_X2 tyX2 tyX2_ok nmX2 hown hK hP hD hS q0 he rfl 7 (by decide) (hts _ fl_X2_34) (fun _ h => h) rfl (by decide +kernel) rfl rfl hl hdg kk
end FR
def tvL (j : Nat) : Int32 := if j = 0 then 0 else 1
def tvG (j : Nat) : Int32 := if j = 2 then 30 else 9
def tvB (j : Nat) : Int32 := if j = 0 then 30 else if j = 1 then 12 else 20
