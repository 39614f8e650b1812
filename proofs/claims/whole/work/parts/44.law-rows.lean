/-! rows for the law's walk -/
abbrev AL (s : State) : Nat → Prop := fun q => s.heap.size ≤ q
/-- the law's name, as a walk's context wants one -/
abbrev yoL (nm : String) : MethodName := ⟨RL, nm, ""⟩
def bv (x : Int32) : Int32 := if x = 0 then 0 else 1
theorem bv01 (x : Int32) : bv x = 0 ∨ bv x = 1 := by
  unfold bv
  split
  · exact Or.inl rfl
  · exact Or.inr rfl
def chv (x : Int32) : Int32 := (x.toUInt32 % 65536).toInt32
theorem chv_ok (x : Int32) : charOK (chv x) := pk_vc x
/-- what is known all along the law's walk -/
def LC (p : Program) (s : State) (m : MethodId) (args : Array Value) (meth : Method) (c : Code) (nm : String) (ro : Option FieldType) (g : WG) (b L : Nat) (xs : Nat → Int32) : Prop := Cx p s m args meth c (yoL nm) cL_law 4 ro ∧ va_K g.1 vwCl (tysW g) s ∧ Ex (AL s) s s.heap ∧ va_X b L xs s s.heap ∧ b < s.heap.size ∧ L ≤ 2560
section LW
variable {p : Program} {l : Launch} {e : Env} {R : Room} {s : State} {m : MethodId} {args : Array Value} {below : List Frame} {meth : Method} {c : Code} {H : Heap} {locs : List Loc} {cells slots : Nat} {Q : State → Prop}
variable {pc : Nat} {ls : Array Slot} {rest : List Value} {nm : String} {ro : Option FieldType} {g : WG} {b L i : Nat} {xs : Nat → Int32}
/-- an argument out of the script -/
theorem la {v1 v2 : Value} {j : Nat} {n : Int} (hC : Cx p s m args meth c (yoL nm) cL_law 4 ro) (hX : va_X b L xs s s.heap) (hbl : b < s.heap.size) (hS : va_S (AL s) s.heap H locs) (hl : lv_has ls 4 [(0, .ref b), (1, v1), (2, v2), (3, .int (nI i))]) (hL : L ≤ 2560) (hj : i + j < L) (hn : Int32.ofInt n = nI j) (d0 : decode cL_law pc = .ok (.aload_n 0, 1)) (d1 : decode cL_law (pc + 1) = .ok (.iload_n 3, 1)) (d2 : decode cL_law (pc + 1 + 1) = .ok (.iconst n, 1)) (d3 : decode cL_law (pc + 1 + 1 + 1) = .ok (.iadd, 1)) (d4 : decode cL_law (pc + 1 + 1 + 1 + 1) = .ok (.iaload, 1)) (kk : W p l e R s m args below meth c H locs cells slots Q (F0 m (pc + 1 + 1 + 1 + 1 + 1) ls (.int (xs (i + j)) :: rest))) : W p l e R s m args below meth c H locs cells slots Q (F0 m pc ls rest) := by
  obtain ⟨hx, hb, -⟩ := hC
  refine lv_aload_n hx hb d0 rfl (lv_at hl 0 rfl) ?_
  refine lv_iload_n hx hb d1 rfl (lv_at hl 3 rfl) ?_
  refine lv_iconst hx hb d2 hn ?_
  refine lv_iadd hx hb d3 ?_
  rw [nI_add]
  refine va_sld hx hb hX hbl (Nat.not_le.mpr hbl) hS (vp_in_nI hj (by omega)) d4 ?_
  rw [nI_clamp (by omega)]
  exact kk
/-- a number taken as a truth value -/
theorem lbool {x : Int32} (hC : Cx p s m args meth c (yoL nm) cL_law 4 ro) (d0 : decode cL_law pc = .ok (.ifCond .eq 7, 3)) (d1 : decode cL_law (pc + 3) = .ok (.iconst 1, 1)) (d2 : decode cL_law (pc + 3 + 1) = .ok (.goto 4, 3)) (d3 : decode cL_law (pc + 7) = .ok (.iconst 0, 1)) (kk : W p l e R s m args below meth c H locs cells slots Q (F0 m (pc + 8) ls (.int (bv x) :: rest))) : W p l e R s m args below meth c H locs cells slots Q (F0 m pc ls (.int x :: rest)) := by
  obtain ⟨hx, hb, -⟩ := hC
  refine lv_if_eq (tgt := pc + 7) hx hb d0 (by omega) (fun c1 => ?_) (fun c1 => ?_)
  · refine lv_iconst (v := 0) hx hb d3 (by decide) ?_
    have e : bv x = 0 := if_pos c1
    rw [e] at kk
    exact kk
  · refine lv_iconst (v := 1) hx hb d1 (by decide) ?_
    refine lv_goto (tgt := pc + 8) hx hb d2 (by omega) ?_
    have e : bv x = 1 := if_neg c1
    rw [e] at kk
    exact kk
theorem l3w {y : MethodName} {b' : ByteArray} {n np k idx : Nat} {ad : AW} {ω : WS} {wc' w2 : va_W} {As : List Value} {r : Int32} {st : List Value}
    (hC : Cx p s m args meth c (yoL nm) cL_law 4 ro) (hM : Wr l y b' n (some .int) k g (cW g ad ω) wc' (.ref ad.1 :: As) r) (ci : CIv y b' n (some .int) np) (hq : RX3 = y.cls) (hl : Cond.methodLink RL idx y ∈ wB) (hR : k + 1 ≤ R.frames ∧ 40 * (k + 1) ≤ R.locals)
    (hP : va_P g.1 vwCl (cW g ad ω ++ w2) H) (hD : va_D (AL s) (cW g ad ω ++ w2)) (hK : va_K g.1 vwCl (tysW g) s) (hE : Ex (AL s) s s.heap) (hS : va_S (AL s) s.heap H locs) (hn : As.length = np) (hsz : ls.size = 4) (hst : st = As.reverse ++ .ref ad.1 :: rest) (hW : (rest.map fun v => v.category).sum ≤ 8) (hdg : decode cL_law pc = .ok (.invokevirtual idx, 3)) (hf : cells ≤ R.cells ∧ slots ≤ R.slots)
    (kk : ∀ (H1 : Heap) (locs1 : List Loc), va_P g.1 vwCl (wc' ++ w2) H1 → va_D (AL s) (wc' ++ w2) → va_S (AL s) s.heap H1 locs1 → W p l e R s m args below meth c H1 locs1 cells slots Q (F0 m (pc + 3) ls (.int r :: rest))) : W p l e R s m args below meth c H locs cells slots Q (F0 m pc ls st) :=
  callWrM (w1 := []) (wc := cW g ad ω) (w2 := w2) (wc' := wc') (q0 := 0) (cix := 3) (q := (RX3, TX3, 7)) hC hM ci hl hR hP hD hK hE hS (fun _ h => h) rfl rfl hq hn hsz hst hW hdg hf kk
theorem l4w {y : MethodName} {b' : ByteArray} {n np k idx : Nat} {ad : AM} {τ : MS} {wc' w1 : va_W} {As : List Value} {r : Int32} {st : List Value}
    (hC : Cx p s m args meth c (yoL nm) cL_law 4 ro) (hM : Wr l y b' n (some .int) k g (cM g ad τ) wc' (.ref ad.1 :: As) r) (ci : CIv y b' n (some .int) np) (hq : RX4 = y.cls) (hl : Cond.methodLink RL idx y ∈ wB) (hR : k + 1 ≤ R.frames ∧ 40 * (k + 1) ≤ R.locals)
    (hP : va_P g.1 vwCl (w1 ++ cM g ad τ) H) (hD : va_D (AL s) (w1 ++ cM g ad τ)) (hK : va_K g.1 vwCl (tysW g) s) (hE : Ex (AL s) s s.heap) (hS : va_S (AL s) s.heap H locs) (hn : As.length = np) (hsz : ls.size = 4) (hst : st = As.reverse ++ .ref ad.1 :: rest) (hW : (rest.map fun v => v.category).sum ≤ 8) (hdg : decode cL_law pc = .ok (.invokevirtual idx, 3)) (hf : cells ≤ R.cells ∧ slots ≤ R.slots)
    (kk : ∀ (H1 : Heap) (locs1 : List Loc), va_P g.1 vwCl (w1 ++ wc') H1 → va_D (AL s) (w1 ++ wc') → va_S (AL s) s.heap H1 locs1 → W p l e R s m args below meth c H1 locs1 cells slots Q (F0 m (pc + 3) ls (.int r :: rest))) : W p l e R s m args below meth c H locs cells slots Q (F0 m pc ls st) := by
  have e0 : ∀ z : va_W, w1 ++ (z ++ []) = w1 ++ z := fun z => by rw [List.append_nil]
  exact callWrM (w1 := w1) (wc := cM g ad τ) (w2 := []) (wc' := wc') (q0 := 0) (cix := 4) (q := (RX4, TX4, 13)) hC hM ci hl hR ((e0 _).symm ▸ hP) ((e0 _).symm ▸ hD) hK hE hS (fun _ h => h) rfl rfl hq hn hsz hst hW hdg hf (fun H1 locs1 h1 h2 h3 => kk H1 locs1 (e0 wc' ▸ h1) (e0 wc' ▸ h2) h3)
theorem l3r {y : MethodName} {b' : ByteArray} {n np k idx : Nat} {ad : AW} {ω : WS} {w2 : va_W} {As : List Value} {r : Int32} {st : List Value}
    (hC : Cx p s m args meth c (yoL nm) cL_law 4 ro) (hM : Rd l y b' n (some .int) k (Wl g (cW g ad ω) (fun _ => False)) (.ref ad.1 :: As) r) (ci : CIv y b' n (some .int) np) (hq : RX3 = y.cls) (hl : Cond.methodLink RL idx y ∈ wB) (hR : k + 1 ≤ R.frames ∧ 40 * (k + 1) ≤ R.locals)
    (hP : va_P g.1 vwCl (cW g ad ω ++ w2) H) (hK : va_K g.1 vwCl (tysW g) s) (hE : Ex (AL s) s s.heap) (hS : va_S (AL s) s.heap H locs) (hn : As.length = np) (hsz : ls.size = 4) (hst : st = As.reverse ++ .ref ad.1 :: rest) (hW : (rest.map fun v => v.category).sum ≤ 8) (hdg : decode cL_law pc = .ok (.invokevirtual idx, 3)) (hf : cells ≤ R.cells ∧ slots ≤ R.slots)
    (kk : W p l e R s m args below meth c H locs cells slots Q (F0 m (pc + 3) ls (.int r :: rest))) : W p l e R s m args below meth c H locs cells slots Q (F0 m pc ls st) :=
  callRd (q0 := 0) (cix := 3) (q := (RX3, TX3, 7)) hC hM ci hl hR (P_left hP) hK (hE.S hS).none rfl rfl hq hn hsz hst hW hdg hf kk
theorem l4r {y : MethodName} {b' : ByteArray} {n np k idx : Nat} {ad : AM} {τ : MS} {w1 : va_W} {As : List Value} {r : Int32} {st : List Value}
    (hC : Cx p s m args meth c (yoL nm) cL_law 4 ro) (hM : Rd l y b' n (some .int) k (Wl g (cM g ad τ) (fun _ => False)) (.ref ad.1 :: As) r) (ci : CIv y b' n (some .int) np) (hq : RX4 = y.cls) (hl : Cond.methodLink RL idx y ∈ wB) (hR : k + 1 ≤ R.frames ∧ 40 * (k + 1) ≤ R.locals)
    (hP : va_P g.1 vwCl (w1 ++ cM g ad τ) H) (hK : va_K g.1 vwCl (tysW g) s) (hE : Ex (AL s) s s.heap) (hS : va_S (AL s) s.heap H locs) (hn : As.length = np) (hsz : ls.size = 4) (hst : st = As.reverse ++ .ref ad.1 :: rest) (hW : (rest.map fun v => v.category).sum ≤ 8) (hdg : decode cL_law pc = .ok (.invokevirtual idx, 3)) (hf : cells ≤ R.cells ∧ slots ≤ R.slots)
    (kk : W p l e R s m args below meth c H locs cells slots Q (F0 m (pc + 3) ls (.int r :: rest))) : W p l e R s m args below meth c H locs cells slots Q (F0 m pc ls st) :=
  callRd (q0 := 0) (cix := 4) (q := (RX4, TX4, 13)) hC hM ci hl hR (P_right hP) hK (hE.S hS).none rfl rfl hq hn hsz hst hW hdg hf kk
end LW
/-- what follows a case -/
def LK (p : Program) (l : Launch) (e : Env) (s : State) (m : MethodId) (args : Array Value) (below : List Frame) (meth : Method) (c : Code) (cells slots : Nat) (Q : State → Prop) (g : WG) (ad3 : AW) (ad4 : AM) (b i T : Nat) : Prop :=
  ∀ (ω : WS) (τ : MS) (H : Heap) (locs : List Loc) (ls : Array Slot), va_P g.1 vwCl (cW g ad3 ω ++ cM g ad4 τ) H → va_D (AL s) (cW g ad3 ω ++ cM g ad4 τ) → va_S (AL s) s.heap H locs → RelV ω τ (T + 21) → lv_has ls 4 [(0, .ref b), (1, .ref ad3.1), (2, .ref ad4.1), (3, .int (nI i))] → W p l e room_1 s m args below meth c H locs cells slots Q (F0 m 949 ls [])
