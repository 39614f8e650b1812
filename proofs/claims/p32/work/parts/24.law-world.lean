/-! the law's own state: four rows of ints; with the class: VS -/
abbrev LAS : Type := (Nat → Int32) × (Nat → Int32) × (Nat → Int32) × (Nat → Int32)
abbrev L_g (σ : LAS) : Nat → Int32 := σ.1
abbrev L_b (σ : LAS) : Nat → Int32 := σ.2.1
abbrev L_t (σ : LAS) : Nat → Int32 := σ.2.2.1
abbrev L_r (σ : LAS) : Nat → Int32 := σ.2.2.2
abbrev AL : Type := Nat × Nat × Nat × Nat
abbrev cL (g : WG) (ad : AL) (σ : LAS) : va_W := [(ad.1, .inl (g.2.1, 14, .inl (L_g σ))), (ad.2.1, .inl (g.2.1, 60, .inl (L_b σ))), (ad.2.2.1, .inl (g.2.1, 6, .inl (L_t σ))), (ad.2.2.2, .inl (g.2.1, 28, .inl (L_r σ)))]
abbrev VS : Type := WS × LAS
abbrev AV : Type := AW × AL
abbrev cV (g : WG) (ad : AV) (σ : VS) : va_W := cL g ad.2 σ.2 ++ cW g ad.1 σ.1
section FR
variable {p : Program} {l : Launch} {e : Env} {R : Room} {s : State} {m : MethodId} {args : Array Value} {below : List Frame} {meth : Method} {c : Code} {H : Heap} {locs : List Loc} {cells slots : Nat} {Q : State → Prop}
variable {pc : Nat} {ls : Array Slot} {rest : List Value}
theorem lL_g {y : MethodName} {cc : ByteArray} {nL : Nat} {ro : Option FieldType} {g : WG} {ad : AL} {σ : LAS} (hC : Cx p s m args meth c y cc nL ro) (hK : va_K g.1 vwCl (tysW g) s) (hP : va_P g.1 vwCl (cL g ad σ) H) {i : Int32} (hin : vp_in i 14) (hdg : decode cc pc = .ok (.iaload, 1)) (kk : W p l e R s m args below meth c H locs cells slots Q (F0 m (pc + 1) ls (.int ((L_g σ) i.toNatClampNeg) :: rest))) : W p l e R s m args below meth c H locs cells slots Q (F0 m pc ls (.int i :: .ref ad.1 :: rest)) := va_iald hC.1 hC.2.1 hK hP 0 0 rfl rfl hin hdg kk
theorem sL_g {y : MethodName} {cc : ByteArray} {nL : Nat} {ro : Option FieldType} {g : WG} {ad : AL} {σ : LAS} {A : Nat → Prop} {H0 : Heap} (hC : Cx p s m args meth c y cc nL ro) {i x : Int32} (hK : va_K g.1 vwCl (tysW g) s) (hP : va_P g.1 vwCl (cL g ad σ) H) (hD : va_D A (cL g ad σ)) (hS : va_S A H0 H locs) (hin : vp_in i 14) (hdg : decode cc pc = .ok (.iastore, 1)) (kk : ∀ (H1 : Heap) (locs1 : List Loc), va_P g.1 vwCl (cL g ad (upd (L_g σ) i.toNatClampNeg x, (L_b σ), (L_t σ), (L_r σ))) H1 → va_D A (cL g ad (upd (L_g σ) i.toNatClampNeg x, (L_b σ), (L_t σ), (L_r σ))) → va_S A H0 H1 locs1 → W p l e R s m args below meth c H1 locs1 cells slots Q (F0 m (pc + 1) ls (rest))) : W p l e R s m args below meth c H locs cells slots Q (F0 m pc ls (.int x :: .int i :: .ref ad.1 :: rest)) := va_iast hC.1 hC.2.1 hK hP hD hS 0 0 rfl rfl hin hdg kk
theorem lL_b {y : MethodName} {cc : ByteArray} {nL : Nat} {ro : Option FieldType} {g : WG} {ad : AL} {σ : LAS} (hC : Cx p s m args meth c y cc nL ro) (hK : va_K g.1 vwCl (tysW g) s) (hP : va_P g.1 vwCl (cL g ad σ) H) {i : Int32} (hin : vp_in i 60) (hdg : decode cc pc = .ok (.iaload, 1)) (kk : W p l e R s m args below meth c H locs cells slots Q (F0 m (pc + 1) ls (.int ((L_b σ) i.toNatClampNeg) :: rest))) : W p l e R s m args below meth c H locs cells slots Q (F0 m pc ls (.int i :: .ref ad.2.1 :: rest)) := va_iald hC.1 hC.2.1 hK hP 1 0 rfl rfl hin hdg kk
theorem sL_b {y : MethodName} {cc : ByteArray} {nL : Nat} {ro : Option FieldType} {g : WG} {ad : AL} {σ : LAS} {A : Nat → Prop} {H0 : Heap} (hC : Cx p s m args meth c y cc nL ro) {i x : Int32} (hK : va_K g.1 vwCl (tysW g) s) (hP : va_P g.1 vwCl (cL g ad σ) H) (hD : va_D A (cL g ad σ)) (hS : va_S A H0 H locs) (hin : vp_in i 60) (hdg : decode cc pc = .ok (.iastore, 1)) (kk : ∀ (H1 : Heap) (locs1 : List Loc), va_P g.1 vwCl (cL g ad ((L_g σ), upd (L_b σ) i.toNatClampNeg x, (L_t σ), (L_r σ))) H1 → va_D A (cL g ad ((L_g σ), upd (L_b σ) i.toNatClampNeg x, (L_t σ), (L_r σ))) → va_S A H0 H1 locs1 → W p l e R s m args below meth c H1 locs1 cells slots Q (F0 m (pc + 1) ls (rest))) : W p l e R s m args below meth c H locs cells slots Q (F0 m pc ls (.int x :: .int i :: .ref ad.2.1 :: rest)) := va_iast hC.1 hC.2.1 hK hP hD hS 1 0 rfl rfl hin hdg kk
theorem lL_t {y : MethodName} {cc : ByteArray} {nL : Nat} {ro : Option FieldType} {g : WG} {ad : AL} {σ : LAS} (hC : Cx p s m args meth c y cc nL ro) (hK : va_K g.1 vwCl (tysW g) s) (hP : va_P g.1 vwCl (cL g ad σ) H) {i : Int32} (hin : vp_in i 6) (hdg : decode cc pc = .ok (.iaload, 1)) (kk : W p l e R s m args below meth c H locs cells slots Q (F0 m (pc + 1) ls (.int ((L_t σ) i.toNatClampNeg) :: rest))) : W p l e R s m args below meth c H locs cells slots Q (F0 m pc ls (.int i :: .ref ad.2.2.1 :: rest)) := va_iald hC.1 hC.2.1 hK hP 2 0 rfl rfl hin hdg kk
theorem sL_t {y : MethodName} {cc : ByteArray} {nL : Nat} {ro : Option FieldType} {g : WG} {ad : AL} {σ : LAS} {A : Nat → Prop} {H0 : Heap} (hC : Cx p s m args meth c y cc nL ro) {i x : Int32} (hK : va_K g.1 vwCl (tysW g) s) (hP : va_P g.1 vwCl (cL g ad σ) H) (hD : va_D A (cL g ad σ)) (hS : va_S A H0 H locs) (hin : vp_in i 6) (hdg : decode cc pc = .ok (.iastore, 1)) (kk : ∀ (H1 : Heap) (locs1 : List Loc), va_P g.1 vwCl (cL g ad ((L_g σ), (L_b σ), upd (L_t σ) i.toNatClampNeg x, (L_r σ))) H1 → va_D A (cL g ad ((L_g σ), (L_b σ), upd (L_t σ) i.toNatClampNeg x, (L_r σ))) → va_S A H0 H1 locs1 → W p l e R s m args below meth c H1 locs1 cells slots Q (F0 m (pc + 1) ls (rest))) : W p l e R s m args below meth c H locs cells slots Q (F0 m pc ls (.int x :: .int i :: .ref ad.2.2.1 :: rest)) := va_iast hC.1 hC.2.1 hK hP hD hS 2 0 rfl rfl hin hdg kk
theorem lL_r {y : MethodName} {cc : ByteArray} {nL : Nat} {ro : Option FieldType} {g : WG} {ad : AL} {σ : LAS} (hC : Cx p s m args meth c y cc nL ro) (hK : va_K g.1 vwCl (tysW g) s) (hP : va_P g.1 vwCl (cL g ad σ) H) {i : Int32} (hin : vp_in i 28) (hdg : decode cc pc = .ok (.iaload, 1)) (kk : W p l e R s m args below meth c H locs cells slots Q (F0 m (pc + 1) ls (.int ((L_r σ) i.toNatClampNeg) :: rest))) : W p l e R s m args below meth c H locs cells slots Q (F0 m pc ls (.int i :: .ref ad.2.2.2 :: rest)) := va_iald hC.1 hC.2.1 hK hP 3 0 rfl rfl hin hdg kk
theorem sL_r {y : MethodName} {cc : ByteArray} {nL : Nat} {ro : Option FieldType} {g : WG} {ad : AL} {σ : LAS} {A : Nat → Prop} {H0 : Heap} (hC : Cx p s m args meth c y cc nL ro) {i x : Int32} (hK : va_K g.1 vwCl (tysW g) s) (hP : va_P g.1 vwCl (cL g ad σ) H) (hD : va_D A (cL g ad σ)) (hS : va_S A H0 H locs) (hin : vp_in i 28) (hdg : decode cc pc = .ok (.iastore, 1)) (kk : ∀ (H1 : Heap) (locs1 : List Loc), va_P g.1 vwCl (cL g ad ((L_g σ), (L_b σ), (L_t σ), upd (L_r σ) i.toNatClampNeg x)) H1 → va_D A (cL g ad ((L_g σ), (L_b σ), (L_t σ), upd (L_r σ) i.toNatClampNeg x)) → va_S A H0 H1 locs1 → W p l e R s m args below meth c H1 locs1 cells slots Q (F0 m (pc + 1) ls (rest))) : W p l e R s m args below meth c H locs cells slots Q (F0 m pc ls (.int x :: .int i :: .ref ad.2.2.2 :: rest)) := va_iast hC.1 hC.2.1 hK hP hD hS 3 0 rfl rfl hin hdg kk
theorem lV_g {y : MethodName} {cc : ByteArray} {nL : Nat} {ro : Option FieldType} {g : WG} {ad : AV} {σ : VS} (hC : Cx p s m args meth c y cc nL ro) (hK : va_K g.1 vwCl (tysW g) s) (hP : va_P g.1 vwCl (cV g ad σ) H) {i : Int32} (hin : vp_in i 14) (hdg : decode cc pc = .ok (.iaload, 1)) (kk : W p l e R s m args below meth c H locs cells slots Q (F0 m (pc + 1) ls (.int ((L_g σ.2) i.toNatClampNeg) :: rest))) : W p l e R s m args below meth c H locs cells slots Q (F0 m pc ls (.int i :: .ref ad.2.1 :: rest)) := va_iald hC.1 hC.2.1 hK hP 0 0 rfl rfl hin hdg kk
theorem sV_g {y : MethodName} {cc : ByteArray} {nL : Nat} {ro : Option FieldType} {g : WG} {ad : AV} {σ : VS} {A : Nat → Prop} {H0 : Heap} (hC : Cx p s m args meth c y cc nL ro) {i x : Int32} (hK : va_K g.1 vwCl (tysW g) s) (hP : va_P g.1 vwCl (cV g ad σ) H) (hD : va_D A (cV g ad σ)) (hS : va_S A H0 H locs) (hin : vp_in i 14) (hdg : decode cc pc = .ok (.iastore, 1)) (kk : ∀ (H1 : Heap) (locs1 : List Loc), va_P g.1 vwCl (cV g ad (σ.1, (upd (L_g σ.2) i.toNatClampNeg x, (L_b σ.2), (L_t σ.2), (L_r σ.2)))) H1 → va_D A (cV g ad (σ.1, (upd (L_g σ.2) i.toNatClampNeg x, (L_b σ.2), (L_t σ.2), (L_r σ.2)))) → va_S A H0 H1 locs1 → W p l e R s m args below meth c H1 locs1 cells slots Q (F0 m (pc + 1) ls (rest))) : W p l e R s m args below meth c H locs cells slots Q (F0 m pc ls (.int x :: .int i :: .ref ad.2.1 :: rest)) := va_iast hC.1 hC.2.1 hK hP hD hS 0 0 rfl rfl hin hdg kk
theorem lV_b {y : MethodName} {cc : ByteArray} {nL : Nat} {ro : Option FieldType} {g : WG} {ad : AV} {σ : VS} (hC : Cx p s m args meth c y cc nL ro) (hK : va_K g.1 vwCl (tysW g) s) (hP : va_P g.1 vwCl (cV g ad σ) H) {i : Int32} (hin : vp_in i 60) (hdg : decode cc pc = .ok (.iaload, 1)) (kk : W p l e R s m args below meth c H locs cells slots Q (F0 m (pc + 1) ls (.int ((L_b σ.2) i.toNatClampNeg) :: rest))) : W p l e R s m args below meth c H locs cells slots Q (F0 m pc ls (.int i :: .ref ad.2.2.1 :: rest)) := va_iald hC.1 hC.2.1 hK hP 1 0 rfl rfl hin hdg kk
theorem sV_b {y : MethodName} {cc : ByteArray} {nL : Nat} {ro : Option FieldType} {g : WG} {ad : AV} {σ : VS} {A : Nat → Prop} {H0 : Heap} (hC : Cx p s m args meth c y cc nL ro) {i x : Int32} (hK : va_K g.1 vwCl (tysW g) s) (hP : va_P g.1 vwCl (cV g ad σ) H) (hD : va_D A (cV g ad σ)) (hS : va_S A H0 H locs) (hin : vp_in i 60) (hdg : decode cc pc = .ok (.iastore, 1)) (kk : ∀ (H1 : Heap) (locs1 : List Loc), va_P g.1 vwCl (cV g ad (σ.1, ((L_g σ.2), upd (L_b σ.2) i.toNatClampNeg x, (L_t σ.2), (L_r σ.2)))) H1 → va_D A (cV g ad (σ.1, ((L_g σ.2), upd (L_b σ.2) i.toNatClampNeg x, (L_t σ.2), (L_r σ.2)))) → va_S A H0 H1 locs1 → W p l e R s m args below meth c H1 locs1 cells slots Q (F0 m (pc + 1) ls (rest))) : W p l e R s m args below meth c H locs cells slots Q (F0 m pc ls (.int x :: .int i :: .ref ad.2.2.1 :: rest)) := va_iast hC.1 hC.2.1 hK hP hD hS 1 0 rfl rfl hin hdg kk
theorem lV_t {y : MethodName} {cc : ByteArray} {nL : Nat} {ro : Option FieldType} {g : WG} {ad : AV} {σ : VS} (hC : Cx p s m args meth c y cc nL ro) (hK : va_K g.1 vwCl (tysW g) s) (hP : va_P g.1 vwCl (cV g ad σ) H) {i : Int32} (hin : vp_in i 6) (hdg : decode cc pc = .ok (.iaload, 1)) (kk : W p l e R s m args below meth c H locs cells slots Q (F0 m (pc + 1) ls (.int ((L_t σ.2) i.toNatClampNeg) :: rest))) : W p l e R s m args below meth c H locs cells slots Q (F0 m pc ls (.int i :: .ref ad.2.2.2.1 :: rest)) := va_iald hC.1 hC.2.1 hK hP 2 0 rfl rfl hin hdg kk
theorem sV_t {y : MethodName} {cc : ByteArray} {nL : Nat} {ro : Option FieldType} {g : WG} {ad : AV} {σ : VS} {A : Nat → Prop} {H0 : Heap} (hC : Cx p s m args meth c y cc nL ro) {i x : Int32} (hK : va_K g.1 vwCl (tysW g) s) (hP : va_P g.1 vwCl (cV g ad σ) H) (hD : va_D A (cV g ad σ)) (hS : va_S A H0 H locs) (hin : vp_in i 6) (hdg : decode cc pc = .ok (.iastore, 1)) (kk : ∀ (H1 : Heap) (locs1 : List Loc), va_P g.1 vwCl (cV g ad (σ.1, ((L_g σ.2), (L_b σ.2), upd (L_t σ.2) i.toNatClampNeg x, (L_r σ.2)))) H1 → va_D A (cV g ad (σ.1, ((L_g σ.2), (L_b σ.2), upd (L_t σ.2) i.toNatClampNeg x, (L_r σ.2)))) → va_S A H0 H1 locs1 → W p l e R s m args below meth c H1 locs1 cells slots Q (F0 m (pc + 1) ls (rest))) : W p l e R s m args below meth c H locs cells slots Q (F0 m pc ls (.int x :: .int i :: .ref ad.2.2.2.1 :: rest)) := va_iast hC.1 hC.2.1 hK hP hD hS 2 0 rfl rfl hin hdg kk
theorem lV_r {y : MethodName} {cc : ByteArray} {nL : Nat} {ro : Option FieldType} {g : WG} {ad : AV} {σ : VS} (hC : Cx p s m args meth c y cc nL ro) (hK : va_K g.1 vwCl (tysW g) s) (hP : va_P g.1 vwCl (cV g ad σ) H) {i : Int32} (hin : vp_in i 28) (hdg : decode cc pc = .ok (.iaload, 1)) (kk : W p l e R s m args below meth c H locs cells slots Q (F0 m (pc + 1) ls (.int ((L_r σ.2) i.toNatClampNeg) :: rest))) : W p l e R s m args below meth c H locs cells slots Q (F0 m pc ls (.int i :: .ref ad.2.2.2.2 :: rest)) := va_iald hC.1 hC.2.1 hK hP 3 0 rfl rfl hin hdg kk
theorem sV_r {y : MethodName} {cc : ByteArray} {nL : Nat} {ro : Option FieldType} {g : WG} {ad : AV} {σ : VS} {A : Nat → Prop} {H0 : Heap} (hC : Cx p s m args meth c y cc nL ro) {i x : Int32} (hK : va_K g.1 vwCl (tysW g) s) (hP : va_P g.1 vwCl (cV g ad σ) H) (hD : va_D A (cV g ad σ)) (hS : va_S A H0 H locs) (hin : vp_in i 28) (hdg : decode cc pc = .ok (.iastore, 1)) (kk : ∀ (H1 : Heap) (locs1 : List Loc), va_P g.1 vwCl (cV g ad (σ.1, ((L_g σ.2), (L_b σ.2), (L_t σ.2), upd (L_r σ.2) i.toNatClampNeg x))) H1 → va_D A (cV g ad (σ.1, ((L_g σ.2), (L_b σ.2), (L_t σ.2), upd (L_r σ.2) i.toNatClampNeg x))) → va_S A H0 H1 locs1 → W p l e R s m args below meth c H1 locs1 cells slots Q (F0 m (pc + 1) ls (rest))) : W p l e R s m args below meth c H locs cells slots Q (F0 m pc ls (.int x :: .int i :: .ref ad.2.2.2.2 :: rest)) := va_iast hC.1 hC.2.1 hK hP hD hS 3 0 rfl rfl hin hdg kk
/-- two ways that come together again with one number more on the stack -/
theorem dia {J : Nat} {V : Int32} {rest st : List Value} (h2 : (∀ v : Int32, V = v → W p l e R s m args below meth c H locs cells slots Q (F0 m J ls (.int v :: rest))) → W p l e R s m args below meth c H locs cells slots Q (F0 m pc ls st)) (h1 : W p l e R s m args below meth c H locs cells slots Q (F0 m J ls (.int V :: rest))) : W p l e R s m args below meth c H locs cells slots Q (F0 m pc ls st) := h2 (fun v e => e ▸ h1)
/-- a call of a static reader that looks at cells -/
theorem callSd {yo : MethodName} {cc : ByteArray} {nL : Nat} {ro : Option FieldType} {y : MethodName} {b : ByteArray} {n np k idx : Nat} {rt : Option FieldType} {g : WG} {wc : va_W} {As : List Value} {r : Int32} {st : List Value}
    (hC : Cx p s m args meth c yo cc nL ro) (hM : Rd l y b n rt k (Wl g wc (fun _ => False)) As r) (ci : CIs y b n rt np) (hl : Cond.methodLink yo.cls idx y ∈ wB) (hR : k + 1 ≤ R.frames ∧ 40 * (k + 1) ≤ R.locals)
    (hP : va_P g.1 vwCl wc H) (hK : va_K g.1 vwCl (tysW g) s) (hE : Ex (fun _ => False) s H) (hn : As.length = np) (hsz : ls.size = nL) (hst : st = As.reverse ++ rest) (hW : (rest.map fun v => v.category).sum ≤ 8) (hdg : decode cc pc = .ok (.invokestatic idx, 3)) (hf : cells ≤ R.cells ∧ slots ≤ R.slots)
    (kk : W p l e R s m args below meth c H locs cells slots Q (F0 m (pc + 3) ls (.int r :: rest))) : W p l e R s m args below meth c H locs cells slots Q (F0 m pc ls st) := by
  obtain ⟨hx, hb, hml, hr, hown, hts, hlk, hnm⟩ := hC
  refine vp_callSi (post := fun x => x = r) (W.runS (As := As) (rest := rest) ⟨hx, hb, hml, hown, hts⟩ hM (va_cwS np hts (gd_S ci hl) rfl rfl rfl ci.1 (rmk ci.2.1 hR)) ⟨fun a U g mk q => ⟨q.1, q.2.call⟩, fun U hU hW => ⟨rfl, by rw [hU]; exact hP, va_K.moved hW.alike hK, by rw [hU]; exact Ex.warm hW hE⟩⟩ rfl hn hsz hst (lv_room hW) hdg hf) (fun r' e' => by subst e'; exact kk)
/-- a call of a static writer: its cells wc come first in the walk's world -/
theorem callSv {yo : MethodName} {cc : ByteArray} {nL : Nat} {ro : Option FieldType} {y : MethodName} {b : ByteArray} {n np k idx : Nat} {g : WG} {wc wc' w2 : va_W} {A : Nat → Prop} {As : List Value} {st : List Value}
    (hC : Cx p s m args meth c yo cc nL ro) (hM : Wv l y b n k g wc wc' As) (ci : CIs y b n none np) (hl : Cond.methodLink yo.cls idx y ∈ wB) (hR : k + 1 ≤ R.frames ∧ 40 * (k + 1) ≤ R.locals)
    (hP : va_P g.1 vwCl (wc ++ w2) H) (hD : va_D A (wc ++ w2)) (hK : va_K g.1 vwCl (tysW g) s) (hE : Ex A s s.heap) (hS : va_S A s.heap H locs) (hA : ∀ q : Nat, s.heap.size ≤ q → A q) (hn : As.length = np) (hsz : ls.size = nL) (hst : st = As.reverse ++ rest) (hW : (rest.map fun v => v.category).sum ≤ 8) (hdg : decode cc pc = .ok (.invokestatic idx, 3)) (hf : cells ≤ R.cells ∧ slots ≤ R.slots)
    (kk : ∀ (H1 : Heap) (locs1 : List Loc), va_P g.1 vwCl (wc' ++ w2) H1 → va_D A (wc' ++ w2) → va_S A s.heap H1 locs1 → W p l e R s m args below meth c H1 locs1 cells slots Q (F0 m (pc + 3) ls rest)) : W p l e R s m args below meth c H locs cells slots Q (F0 m pc ls st) := by
  obtain ⟨hx, hb, hml, hr, hown, hts, hlk, hnm⟩ := hC
  have hPc : va_P g.1 vwCl wc H := P_left hP
  have hDc : va_D A wc := D_left hD
  have hF : ∀ q, va_A wc H.size q → A q := by
    intro q h
    rcases h with ⟨k, e, h⟩ | h
    · exact hDc.2 k (q, e) h
    · exact hA q (Nat.le_trans hS.1 h)
  refine va_callv (va_runS (As := As) (rest := rest) ⟨hx, hb, hml, hown, hts⟩ (hM H.size) (va_cwS np hts (gd_S ci hl) rfl rfl rfl ci.1 (rmk ci.2.1 hR)) ⟨fun a U g mk q => ⟨q.1, q.2.call⟩, fun U hU hW => ⟨rfl, by rw [hU], hDc.weaken (fun _ _ _ _ => trivial), by rw [hU]; exact hPc, va_K.moved hW.alike hK, by rw [hU]; exact (Ex.warm hW (hE.S hS)).narrow hF⟩⟩ rfl hn hsz hst (lv_room hW) hdg hf) hS (fun q _ h => hF q h) hF (fun u t H1 locs1 ht hvm hr' hB hz hk hS1 => ?_)
  obtain ⟨hP1, hD1⟩ := hB
  rw [ht] at hP1
  obtain ⟨h1, h2⟩ := mid_join (a := []) hP hD hk hF hP1 hD1
  exact kk H1 locs1 h1 h2 hS1
/-- a call of a writer of the class: its cells come last in the walk's world -/
theorem callWrR {yo : MethodName} {cc : ByteArray} {nL : Nat} {ro : Option FieldType} {y : MethodName} {b : ByteArray} {n np k idx : Nat} {rt : Option FieldType} {g : WG} {w1 wc wc' : va_W} {A : Nat → Prop} {a : Nat} {As : List Value} {r : Int32} {st : List Value}
    (hC : Cx p s m args meth c yo cc nL ro) (hM : Wr l y b n rt k g wc wc' (.ref a :: As) r) (ci : CIv y b n rt np) (hl : Cond.methodLink yo.cls idx y ∈ wB) (hR : k + 1 ≤ R.frames ∧ 40 * (k + 1) ≤ R.locals)
    (hP : va_P g.1 vwCl (w1 ++ wc) H) (hD : va_D A (w1 ++ wc)) (hK : va_K g.1 vwCl (tysW g) s) (hE : Ex A s s.heap) (hS : va_S A s.heap H locs) (hA : ∀ q : Nat, s.heap.size ≤ q → A q) {q0 cix : Nat} {q : vw_C} {fs : List Value} (he : wc[q0]? = some (a, .inr (cix, fs))) (hc : vwCl[cix]? = some q) (hq : q.1 = y.cls) (hn : As.length = np) (hsz : ls.size = nL) (hst : st = As.reverse ++ .ref a :: rest) (hW : (rest.map fun v => v.category).sum ≤ 8) (hdg : decode cc pc = .ok (.invokevirtual idx, 3)) (hf : cells ≤ R.cells ∧ slots ≤ R.slots)
    (kk : ∀ (H1 : Heap) (locs1 : List Loc), va_P g.1 vwCl (w1 ++ wc') H1 → va_D A (w1 ++ wc') → va_S A s.heap H1 locs1 → W p l e R s m args below meth c H1 locs1 cells slots Q (F0 m (pc + 3) ls (.int r :: rest))) : W p l e R s m args below meth c H locs cells slots Q (F0 m pc ls st) := by
  have e1 : w1 ++ wc = w1 ++ (wc ++ []) := by rw [List.append_nil]
  have e2 : w1 ++ wc' = w1 ++ (wc' ++ []) := by rw [List.append_nil]
  exact callWrM hC hM ci hl hR (e1 ▸ hP) (e1 ▸ hD) hK hE hS hA he hc hq hn hsz hst hW hdg hf (fun H1 locs1 h1 h2 h3 => kk H1 locs1 (e2 ▸ h1) (e2 ▸ h2) h3)
end FR
/-! ranges of the law's own indices -/
theorem upd_same {f : Nat → Int32} {i : Nat} {v : Int32} : upd f i v i = v := by
  unfold upd
  rw [if_pos rfl]
theorem ix_10 {b w : Int32} (hb : vp_in b 6) (hw : vp_in w 10) : vp_in ((10 * b) + w) 60 := by
  obtain ⟨h1, h2⟩ := in_iff.mp hb
  obtain ⟨h3, h4⟩ := in_iff.mp hw
  have e : ((10 : Int32) * b).toInt = 10 * b.toInt := ti_mul (x := 10) (by show _ ≤ 10 * b.toInt; omega) (by show 10 * b.toInt < _; omega)
  refine in_iff.mpr ?_
  rw [ti_add (by omega) (by omega), e]
  omega
theorem ix_100 {b : Int32} (hb : vp_in b 6) : vp_in (10 * b) 60 := by
  obtain ⟨h1, h2⟩ := in_iff.mp hb
  have e : ((10 : Int32) * b).toInt = 10 * b.toInt := ti_mul (x := 10) (by show _ ≤ 10 * b.toInt; omega) (by show 10 * b.toInt < _; omega)
  refine in_iff.mpr ?_
  rw [e]
  omega
theorem ix_7 {b w : Int32} (hb : vp_in b 4) (hw : vp_in w 7) : vp_in ((7 * b) + w) 28 := by
  obtain ⟨h1, h2⟩ := in_iff.mp hb
  obtain ⟨h3, h4⟩ := in_iff.mp hw
  have e : ((7 : Int32) * b).toInt = 7 * b.toInt := ti_mul (x := 7) (by show _ ≤ 7 * b.toInt; omega) (by show 7 * b.toInt < _; omega)
  refine in_iff.mpr ?_
  rw [ti_add (by omega) (by omega), e]
  omega
theorem ix_70 {b : Int32} (hb : vp_in b 4) : vp_in (7 * b) 28 := by
  obtain ⟨h1, h2⟩ := in_iff.mp hb
  have e : ((7 : Int32) * b).toInt = 7 * b.toInt := ti_mul (x := 7) (by show _ ≤ 7 * b.toInt; omega) (by show 7 * b.toInt < _; omega)
  refine in_iff.mpr ?_
  rw [e]
  omega
theorem ix_71 {b w : Int32} (hb : vp_in b 4) (hw : vp_in w 6) : vp_in (((7 * b) + 1) + w) 28 := by
  obtain ⟨h1, h2⟩ := in_iff.mp hb
  obtain ⟨h3, h4⟩ := in_iff.mp hw
  have e : ((7 : Int32) * b).toInt = 7 * b.toInt := ti_mul (x := 7) (by show _ ≤ 7 * b.toInt; omega) (by show 7 * b.toInt < _; omega)
  have e2 : (((7 : Int32) * b) + 1).toInt = 7 * b.toInt + 1 := by rw [ti_add (y := 1) (by rw [e]; show _ ≤ _ + 1; omega) (by rw [e]; show _ + 1 < _; omega), e]; rfl
  refine in_iff.mpr ?_
  rw [ti_add (by omega) (by omega), e2]
  omega
theorem tdiv_rng {a b : Int} (ha : 0 ≤ a) (hb : 0 < b) : 0 ≤ a.tdiv b ∧ a.tdiv b ≤ a ∧ a.tdiv b * b ≤ a ∧ 0 ≤ a.tdiv b * b ∧ a - a.tdiv b * b = a % b := by
  rw [Int.tdiv_eq_ediv_of_nonneg ha]
  have h1 := Int.ediv_nonneg ha (Int.le_of_lt hb)
  have h2 := Int.ediv_mul_le a (Int.ne_of_gt hb)
  have h3 := Int.emod_def a b
  have h4 : a / b ≤ a := Int.ediv_le_self b ha
  refine ⟨h1, h4, h2, Int.mul_nonneg h1 (Int.le_of_lt hb), ?_⟩
  rw [h3, Int.mul_comm b]
theorem ti_div {a b : Int32} (ha : 0 ≤ a.toInt) (hb : 0 < b.toInt) : (a / b).toInt = a.toInt.tdiv b.toInt := by
  obtain ⟨h1, h2, -, -, -⟩ := tdiv_rng ha hb
  rw [Int32.toInt_div]
  exact ti_bmod (by omega) (by have := (ti_rng a).2; omega)
/-- the remainder of a number that is not negative -/
theorem ti_rem {a b : Int32} (ha : 0 ≤ a.toInt) (hb : 0 < b.toInt) : (a - ((a / b) * b)).toInt = a.toInt % b.toInt := by
  obtain ⟨h1, h2, h3, h4, h5⟩ := tdiv_rng ha hb
  have hr := (ti_rng a).2
  have e1 := ti_div ha hb
  have e2 : ((a / b) * b).toInt = a.toInt.tdiv b.toInt * b.toInt := by rw [ti_mul (by rw [e1]; omega) (by rw [e1]; omega), e1]
  rw [ti_sub (by rw [e2]; omega) (by rw [e2]; omega), e2, h5]
theorem land_nn (x : Int32) : 0 ≤ (x &&& 2147483647).toInt := by
  have h : (x &&& 2147483647).toBitVec.msb = false := by
    show (x.toBitVec &&& (2147483647 : Int32).toBitVec).msb = false
    rw [BitVec.msb_and]
    have : ((2147483647 : Int32).toBitVec).msb = false := by decide
    rw [this, Bool.and_false]
  show 0 ≤ (x &&& 2147483647).toBitVec.toInt
  rw [BitVec.toInt_eq_toNat_of_msb h]
  omega
