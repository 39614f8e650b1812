/-! what all methods stand on: the context of a walk, the worlds, contracts of readers and writers, calls -/
abbrev rk (k : Nat) : Room := { frames := k, cells := 0, slots := 0, locals := 40 * k }
abbrev WG : Type := va_G × ClassId × ClassId × ClassId
abbrev tysW (g : WG) : List (ClassId × FieldType) := [(g.2.1, .int), (g.2.2.1, .char), (g.2.2.2, .object "WinterYard$Yard")]
def tbL : Nat → Value := fun j => .int (if j = 0 then 0 else 1)
def tbG : Nat → Value := fun j => .int (if j = 2 then 30 else 9)
def tbB : Nat → Value := fun j => .int (if j = 0 then 30 else if j = 1 then 12 else 20)
/-- what else is known of a state: two links to a nest mate's method, three static tables -/
def Ex (A : Nat → Prop) (U : State) (H : Heap) : Prop := va_Nw (.methodLinkNest RX3 32 yX1_init RX3) U ∧ va_Nw (.methodLinkNest RX2 66 yX3_within RX3) U ∧ (∃ t, va_Z RX2 "LEAST_SETTING" "[I" (.ref t) A U H ∧ va_T .int t 3 tbL A U H) ∧ (∃ t, va_Z RX2 "GREATEST_SETTING" "[I" (.ref t) A U H ∧ va_T .int t 3 tbG A U H) ∧ (∃ t, va_Z RX2 "BEARS" "[I" (.ref t) A U H ∧ va_T .int t 3 tbB A U H)
theorem Ex.warm {A : Nat → Prop} {s U : State} {H : Heap} (hW : s.WarmedH U.vm) (h : Ex A s H) : Ex A U H := by
  obtain ⟨h1, h2, ⟨t1, a1, b1⟩, ⟨t2, a2, b2⟩, ⟨t3, a3, b3⟩⟩ := h
  exact ⟨va_Nw.warmM hW h1, va_Nw.warmM hW h2, ⟨t1, a1.moved hW.alike, b1.moved hW.alike⟩, ⟨t2, a2.moved hW.alike, b2.moved hW.alike⟩, ⟨t3, a3.moved hW.alike, b3.moved hW.alike⟩⟩
theorem Ex.call {A : Nat → Prop} {U : State} {g : JFrame} {mk : MethodId} {a : Array Value} (h : Ex A U U.heap) : Ex A (U.calling g mk a) (U.calling g mk a).heap := by
  obtain ⟨h1, h2, ⟨t1, a1, b1⟩, ⟨t2, a2, b2⟩, ⟨t3, a3, b3⟩⟩ := h
  have hv : U.vm.Alike (U.calling g mk a).vm := Vm.Alike.refl U.vm
  exact ⟨va_Nw.same rfl rfl h1, va_Nw.same rfl rfl h2, ⟨t1, va_Z.moved hv a1, va_T.moved hv b1⟩, ⟨t2, va_Z.moved hv a2, va_T.moved hv b2⟩, ⟨t3, va_Z.moved hv a3, va_T.moved hv b3⟩⟩
theorem Ex.kept {A : Nat → Prop} {s : State} {H H1 : Heap} (h : Ex A s H) (hq : ∀ a : Nat, a < H.size → ¬ A a → H1[a]? = H[a]?) : Ex A s H1 := by
  obtain ⟨h1, h2, ⟨t1, a1, b1⟩, ⟨t2, a2, b2⟩, ⟨t3, a3, b3⟩⟩ := h
  exact ⟨h1, h2, ⟨t1, a1.kept hq, b1.kept hq⟩, ⟨t2, a2.kept hq, b2.kept hq⟩, ⟨t3, a3.kept hq, b3.kept hq⟩⟩
theorem Ex.narrow {A B : Nat → Prop} {s : State} {H : Heap} (h : Ex A s H) (hAB : ∀ q, B q → A q) : Ex B s H := by
  obtain ⟨h1, h2, ⟨t1, a1, b1⟩, ⟨t2, a2, b2⟩, ⟨t3, a3, b3⟩⟩ := h
  exact ⟨h1, h2, ⟨t1, a1.narrow hAB, b1.narrow hAB⟩, ⟨t2, a2.narrow hAB, b2.narrow hAB⟩, ⟨t3, a3.narrow hAB, b3.narrow hAB⟩⟩
theorem Ex.S {A : Nat → Prop} {s : State} {H : Heap} {locs : List Loc} (h : Ex A s s.heap) (hS : va_S A s.heap H locs) : Ex A s H := h.kept (fun a h1 h2 => hS.2.1 a h1 h2)
theorem Ex.none {A : Nat → Prop} {s : State} {H : Heap} (h : Ex A s H) : Ex (fun _ => False) s H := h.narrow (fun _ h => h.elim)
/-- a world: cells, the tables, the rest -/
def Wl (g : WG) (ws : va_W) (A : Nat → Prop) (U : State) : Prop := va_P g.1 vwCl ws U.heap ∧ va_K g.1 vwCl (tysW g) U ∧ Ex A U U.heap
theorem Wl.call {g : WG} {ws : va_W} {A : Nat → Prop} {U : State} {f : JFrame} {mk : MethodId} {a : Array Value} (h : Wl g ws A U) : Wl g ws A (U.calling f mk a) :=
  ⟨h.1, va_K.moved (u := U) (U := U.calling f mk a) (Vm.Alike.refl U.vm) h.2.1, h.2.2.call⟩
/-- the context of a walk: the machine, the code, the words -/
def Cx (p : Program) (s : State) (m : MethodId) (args : Array Value) (meth : Method) (c : Code) (y : MethodName) (b : ByteArray) (n : Nat) (rt : Option FieldType) : Prop :=
  p.tables.exec = Jvm.exec ∧ c.code = b ∧ c.maxLocals = n ∧ meth.sig.returnType = rt ∧ s.vm.findClass y.cls = some m.cls ∧ (∀ w ∈ wB, w.before args s = true) ∧ meth.locks = false ∧ meth.name = y.name
/-- a method that changes nothing: it answers r -/
def Rd (l : Launch) (y : MethodName) (b : ByteArray) (n : Nat) (rt : Option FieldType) (k : Nat) (Pre : State → Prop) (av : List Value) (r : Int32) : Prop :=
  Met l y (Cond.code y b n rt :: wB) (rk k) (va_Pc av Pre) (vp_Si (fun x => x = r)) 0 0 (fun _ => False)
/-- a method that answers r and leaves the cells ws' where ws were -/
def Pw (g : WG) (ws : va_W) (sz : Nat) (U : State) : Prop := U.heap.size = sz ∧ va_D (fun _ => True) ws ∧ Wl g ws (va_A ws sz) U
theorem Pw.call {g : WG} {ws : va_W} {sz : Nat} {U : State} {f : JFrame} {mk : MethodId} {a : Array Value} (h : Pw g ws sz U) : Pw g ws sz (U.calling f mk a) := ⟨h.1, h.2.1, h.2.2.call⟩
def Bw (g : WG) (ws ws' : va_W) (sz : Nat) : Unit → State → Prop := fun _ t => va_P g.1 vwCl ws' t.heap ∧ va_D (va_A ws sz) ws'
def Wr (l : Launch) (y : MethodName) (b : ByteArray) (n : Nat) (rt : Option FieldType) (k : Nat) (g : WG) (ws ws' : va_W) (av : List Value) (r : Int32) : Prop :=
  ∀ sz : Nat, Met l y (Cond.code y b n rt :: wB) (rk k) (va_Pc av (Pw g ws sz)) (va_Qi (fun x _ => x = r) (Bw g ws ws' sz) (va_A ws sz)) 0 0 (va_A ws sz)
def Wv (l : Launch) (y : MethodName) (b : ByteArray) (n : Nat) (k : Nat) (g : WG) (ws ws' : va_W) (av : List Value) : Prop :=
  ∀ sz : Nat, Met l y (Cond.code y b n none :: wB) (rk k) (va_Pc av (Pw g ws sz)) (va_Qv (fun _ => True) (Bw g ws ws' sz) (va_A ws sz)) 0 0 (va_A ws sz)
section BASE
variable {p : Program} {l : Launch} {e : Env} {R : Room} {s : State} {m : MethodId} {args : Array Value} {below : List Frame} {meth : Method} {c : Code} {H : Heap} {locs : List Loc} {cells slots : Nat} {Q : State → Prop}
variable {pc : Nat} {ls : Array Slot} {rest : List Value}
theorem cx_of {y : MethodName} {ws' : List Cond} {rm : Room} {b : ByteArray} {n : Nat} {rt : Option FieldType} {s₁ : State} (B : BodyLoose p l y (headSpec (Cond.code y b n rt :: wB) rm) b n rt e s m args below meth c s₁) (hml : c.maxLocals = n) : Cx p s m args meth c y b n rt :=
  ⟨B.exec, B.bytes, hml, B.returns, findClass_of_methodNamed B.named, fun w hw => atoms_spec (ws := Cond.code y b n rt :: wB) B.pre w (List.mem_cons_of_mem _ hw), B.notSynchronized, (name_of_methodNamed B.named B.method).1⟩
/-- a reader's contract out of a walk of its body -/
theorem rd_of {y : MethodName} {b : ByteArray} {n : Nat} {rt : Option FieldType} {k : Nat} {Pre : State → Prop} {av : List Value} {r : Int32} (hy : plainName y.cls = true) (hn : (lg_sl av).length ≤ n)
    (body : ∀ (p : Program) (e : Env) (s : State) (m : MethodId) (args : Array Value) (below : List Frame) (meth : Method) (c : Code) (ls : Array Slot), Cx p s m args meth c y b n rt → Pre s → lv_has ls n (lv_args 0 av) → W p l e (rk k) s m args below meth c s.heap [] 0 0 (MQ below (vp_Si (fun x => x = r)) args s 0 0 (fun _ => False)) (F0 m 0 ls [])) : Rd l y b n rt k Pre av r := by
  refine Met.ofW (cc := b) (maxL := n) (ret := rt) hy rfl ?_
  intro p e s m args below meth c s₁ B hml hv
  obtain ⟨rfl, hv⟩ := hv
  have hl := lv_entry av (n := n) hn
  rw [lg_entry_eq]
  generalize (lg_sl av ++ List.replicate (n - (lg_sl av).length) Slot.unset).toArray = ls at hl ⊢
  exact body p e s m av.toArray below meth c ls (cx_of (ws' := []) B hml) hv hl
theorem wr_of {y : MethodName} {b : ByteArray} {n : Nat} {rt : Option FieldType} {k : Nat} {g : WG} {ws ws' : va_W} {av : List Value} {r : Int32} (hy : plainName y.cls = true) (hn : (lg_sl av).length ≤ n)
    (body : ∀ (p : Program) (e : Env) (s : State) (m : MethodId) (args : Array Value) (below : List Frame) (meth : Method) (c : Code) (ls : Array Slot) (A : Nat → Prop), Cx p s m args meth c y b n rt → A = va_A ws s.heap.size → va_P g.1 vwCl ws s.heap → va_D A ws → va_K g.1 vwCl (tysW g) s → Ex A s s.heap → (∀ q : Nat, s.heap.size ≤ q → A q) → va_S A s.heap s.heap [] → lv_has ls n (lv_args 0 av) → W p l e (rk k) s m args below meth c s.heap [] 0 0 (MQ below (va_Qi (fun x _ => x = r) (Bw g ws ws' s.heap.size) (va_A ws s.heap.size)) args s 0 0 (va_A ws s.heap.size)) (F0 m 0 ls [])) : Wr l y b n rt k g ws ws' av r := by
  intro sz
  refine Met.ofW (cc := b) (maxL := n) (ret := rt) hy rfl ?_
  intro p e s m args below meth c s₁ B hml hv
  obtain ⟨rfl, rfl, hD, hP, hK, hE⟩ := hv
  have hl := lv_entry av (n := n) hn
  rw [lg_entry_eq]
  generalize (lg_sl av ++ List.replicate (n - (lg_sl av).length) Slot.unset).toArray = ls at hl ⊢
  exact body p e s m av.toArray below meth c ls (va_A ws s.heap.size) (cx_of (ws' := []) B hml) rfl hP hD.self hK hE (fun q h => Or.inr h) va_S.rf hl
theorem wv_of {y : MethodName} {b : ByteArray} {n : Nat} {k : Nat} {g : WG} {ws ws' : va_W} {av : List Value} (hy : plainName y.cls = true) (hn : (lg_sl av).length ≤ n)
    (body : ∀ (p : Program) (e : Env) (s : State) (m : MethodId) (args : Array Value) (below : List Frame) (meth : Method) (c : Code) (ls : Array Slot) (A : Nat → Prop), Cx p s m args meth c y b n none → A = va_A ws s.heap.size → va_P g.1 vwCl ws s.heap → va_D A ws → va_K g.1 vwCl (tysW g) s → Ex A s s.heap → (∀ q : Nat, s.heap.size ≤ q → A q) → va_S A s.heap s.heap [] → lv_has ls n (lv_args 0 av) → W p l e (rk k) s m args below meth c s.heap [] 0 0 (MQ below (va_Qv (fun _ => True) (Bw g ws ws' s.heap.size) (va_A ws s.heap.size)) args s 0 0 (va_A ws s.heap.size)) (F0 m 0 ls [])) : Wv l y b n k g ws ws' av := by
  intro sz
  refine Met.ofW (cc := b) (maxL := n) (ret := none) hy rfl ?_
  intro p e s m args below meth c s₁ B hml hv
  obtain ⟨rfl, rfl, hD, hP, hK, hE⟩ := hv
  have hl := lv_entry av (n := n) hn
  rw [lg_entry_eq]
  generalize (lg_sl av ++ List.replicate (n - (lg_sl av).length) Slot.unset).toArray = ls at hl ⊢
  exact body p e s m av.toArray below meth c ls (va_A ws s.heap.size) (cx_of (ws' := []) B hml) rfl hP hD.self hK hE (fun q h => Or.inr h) va_S.rf hl
/-- the ends -/
theorem rd_ret {y : MethodName} {b : ByteArray} {n : Nat} {r v : Int32} {free : Addr → Prop} (hC : Cx p s m args meth c y b n (some .int)) (hdg : decode b pc = .ok (.ireturn, 1)) (hv : v = r) : W p l e R s m args below meth c s.heap [] 0 0 (MQ below (vp_Si (fun x => x = r)) args s 0 0 free) (F0 m pc ls [.int v]) := by
  have hlocks : meth.locks = false := hC.2.2.2.2.2.2.1
  exact W.iret hC.1 hC.2.1 hC.2.2.2.1 (fun t ht _ => ⟨v, rfl, hv, ht⟩) (fun q h => by cases h) hdg hlocks
theorem rd_zret {y : MethodName} {b : ByteArray} {n : Nat} {ty : FieldType} {r v : Int32} {free : Addr → Prop} (hC : Cx p s m args meth c y b n (some ty)) (hdg : decode b pc = .ok (.ireturn, 1)) (hn : narrow ty (.int v) = .int v) (hv : v = r) : W p l e R s m args below meth c s.heap [] 0 0 (MQ below (vp_Si (fun x => x = r)) args s 0 0 free) (F0 m pc ls [.int v]) := by
  have hlocks : meth.locks = false := hC.2.2.2.2.2.2.1
  exact W.zret hC.1 hC.2.1 hC.2.2.2.1 hn (fun t ht _ => ⟨v, rfl, hv, ht⟩) (fun q h => by cases h) hdg hlocks
theorem wr_ret {y : MethodName} {b : ByteArray} {n : Nat} {g : WG} {ws ws' w1 : va_W} {r v : Int32} (hC : Cx p s m args meth c y b n (some .int)) (hP : va_P g.1 vwCl w1 H) (hD : va_D (va_A ws s.heap.size) w1) (hS : va_S (va_A ws s.heap.size) s.heap H locs) (hdg : decode b pc = .ok (.ireturn, 1)) (hv : v = r) (hw : w1 = ws') : W p l e R s m args below meth c H locs 0 0 (MQ below (va_Qi (fun x _ => x = r) (Bw g ws ws' s.heap.size) (va_A ws s.heap.size)) args s 0 0 (va_A ws s.heap.size)) (F0 m pc ls [.int v]) := by
  have hlocks : meth.locks = false := hC.2.2.2.2.2.2.1
  subst hw
  exact W.iret hC.1 hC.2.1 hC.2.2.2.1 (fun t ht _ => ⟨⟨v, (), rfl, hv, by rw [ht]; exact hP, hD⟩, hS.F ht⟩) hS.2.2 hdg hlocks
theorem wr_zret {y : MethodName} {b : ByteArray} {n : Nat} {ty : FieldType} {g : WG} {ws ws' w1 : va_W} {r v : Int32} (hC : Cx p s m args meth c y b n (some ty)) (hP : va_P g.1 vwCl w1 H) (hD : va_D (va_A ws s.heap.size) w1) (hS : va_S (va_A ws s.heap.size) s.heap H locs) (hdg : decode b pc = .ok (.ireturn, 1)) (hn : narrow ty (.int v) = .int v) (hv : v = r) (hw : w1 = ws') : W p l e R s m args below meth c H locs 0 0 (MQ below (va_Qi (fun x _ => x = r) (Bw g ws ws' s.heap.size) (va_A ws s.heap.size)) args s 0 0 (va_A ws s.heap.size)) (F0 m pc ls [.int v]) := by
  have hlocks : meth.locks = false := hC.2.2.2.2.2.2.1
  subst hw
  exact W.zret hC.1 hC.2.1 hC.2.2.2.1 hn (fun t ht _ => ⟨⟨v, (), rfl, hv, by rw [ht]; exact hP, hD⟩, hS.F ht⟩) hS.2.2 hdg hlocks
theorem wv_ret {y : MethodName} {b : ByteArray} {n : Nat} {g : WG} {ws ws' w1 : va_W} (hC : Cx p s m args meth c y b n none) (hP : va_P g.1 vwCl w1 H) (hD : va_D (va_A ws s.heap.size) w1) (hS : va_S (va_A ws s.heap.size) s.heap H locs) (hdg : decode b pc = .ok (.return_, 1)) (hw : w1 = ws') : W p l e R s m args below meth c H locs 0 0 (MQ below (va_Qv (fun _ => True) (Bw g ws ws' s.heap.size) (va_A ws s.heap.size)) args s 0 0 (va_A ws s.heap.size)) (F0 m pc ls []) := by
  have hlocks : meth.locks = false := hC.2.2.2.2.2.2.1
  subst hw
  exact W.vret hC.1 hC.2.1 hC.2.2.2.1 (fun t ht _ => ⟨⟨(), rfl, trivial, by rw [ht]; exact hP, hD⟩, hS.F ht⟩) hS.2.2 hdg hlocks
/-- words of a callee -/
theorem gd_V {own : String} {idx : Nat} {y : MethodName} {b : ByteArray} {n np : Nat} {rt : Option FieldType} (ci : CIv y b n rt np) (hl : Cond.methodLink own idx y ∈ wB) : GoodIn wB (wsV own idx y.cls y (Cond.code y b n rt :: wB)) := by
  intro w hw
  have key : w ∈ wB := by
    simp only [wsV, List.mem_append, List.mem_cons, List.not_mem_nil, or_false] at hw
    rcases hw with (h | h | h | h) | h | h
    · exact h ▸ hl
    · exact h ▸ ci.2.2.2.2.1
    · exact h ▸ ci.2.2.2.2.2
    · exact h ▸ ci.2.2.2.1
    · exact h ▸ ci.2.2.1
    · exact h
  exact ⟨key, wB_good key⟩
theorem gd_S {own : String} {idx : Nat} {y : MethodName} {b : ByteArray} {n np : Nat} {rt : Option FieldType} (ci : CIs y b n rt np) (hl : Cond.methodLink own idx y ∈ wB) : GoodIn wB (va_wsS own idx y (Cond.code y b n rt :: wB)) := by
  intro w hw
  have key : w ∈ wB := by
    simp only [va_wsS, List.mem_append, List.mem_cons, List.not_mem_nil, or_false] at hw
    rcases hw with (h | h | h) | h | h
    · exact h ▸ hl
    · exact h ▸ ci.2.2.2.2
    · exact h ▸ ci.2.2.2.1
    · exact h ▸ ci.2.2.1
    · exact h
  exact ⟨key, wB_good key⟩
theorem gd_B {y : MethodName} {b : ByteArray} {n : Nat} {rt : Option FieldType} (hc : Cond.code y b n rt ∈ wB) : GoodIn wB (Cond.code y b n rt :: wB) := by
  intro w hw
  have key : w ∈ wB := by
    rcases List.mem_cons.mp hw with h | h
    · exact h ▸ hc
    · exact h
  exact ⟨key, wB_good key⟩
theorem rmk {k n : Nat} (hn : n ≤ 21) (hR : k + 1 ≤ R.frames ∧ 40 * (k + 1) ≤ R.locals) : (rk k).frames + 1 ≤ R.frames ∧ 8 + (n + 11) + (rk k).locals ≤ R.locals := ⟨hR.1, by have := hR.2; show 8 + (n + 11) + 40 * k ≤ R.locals; omega⟩
/-- a call of a reader, by a receiver -/
theorem callRd {yo : MethodName} {cc : ByteArray} {nL : Nat} {ro : Option FieldType} {y : MethodName} {b : ByteArray} {n np k idx : Nat} {rt : Option FieldType} {g : WG} {wc : va_W} {a : Nat} {As : List Value} {r : Int32} {st : List Value}
    (hC : Cx p s m args meth c yo cc nL ro) (hM : Rd l y b n rt k (Wl g wc (fun _ => False)) (.ref a :: As) r) (ci : CIv y b n rt np) (hl : Cond.methodLink yo.cls idx y ∈ wB) (hR : k + 1 ≤ R.frames ∧ 40 * (k + 1) ≤ R.locals)
    (hP : va_P g.1 vwCl wc H) (hK : va_K g.1 vwCl (tysW g) s) (hE : Ex (fun _ => False) s H) {q0 cix : Nat} {q : vw_C} {fs : List Value} (he : wc[q0]? = some (a, .inr (cix, fs))) (hc : vwCl[cix]? = some q) (hq : q.1 = y.cls) (hn : As.length = np) (hsz : ls.size = nL) (hst : st = As.reverse ++ .ref a :: rest) (hW : (rest.map fun v => v.category).sum ≤ 8) (hdg : decode cc pc = .ok (.invokevirtual idx, 3)) (hf : cells ≤ R.cells ∧ slots ≤ R.slots)
    (kk : W p l e R s m args below meth c H locs cells slots Q (F0 m (pc + 3) ls (.int r :: rest))) : W p l e R s m args below meth c H locs cells slots Q (F0 m pc ls st) := by
  obtain ⟨hx, hb, hml, hr, hown, hts, hlk, hnm⟩ := hC
  have hrecv := va_recv hK hP hc he
  rw [hq] at hrecv
  refine vp_callSi (post := fun x => x = r) (W.runV (As := As) (rest := rest) (C := y.cls) ⟨hx, hb, hml, hown, hts⟩ hM (cwV np hts (gd_V ci hl) rfl rfl rfl ⟨rfl, ci.1⟩ (rmk ci.2.1 hR)) ⟨fun a U g mk q => ⟨q.1, q.2.call⟩, hrecv, fun U hU hW => ⟨rfl, by rw [hU]; exact hP, va_K.moved hW.alike hK, by rw [hU]; exact Ex.warm hW hE⟩⟩ rfl hn hsz hst (lv_room hW) hdg hf) (fun r' e' => by subst e'; exact kk)
/-- a call of a static reader -/
theorem callRs {yo : MethodName} {cc : ByteArray} {nL : Nat} {ro : Option FieldType} {y : MethodName} {b : ByteArray} {n np k idx : Nat} {rt : Option FieldType} {g : WG} {As : List Value} {r : Int32} {st : List Value}
    (hC : Cx p s m args meth c yo cc nL ro) (hM : Rd l y b n rt k (Wl g [] (fun _ => False)) As r) (ci : CIs y b n rt np) (hl : Cond.methodLink yo.cls idx y ∈ wB) (hR : k + 1 ≤ R.frames ∧ 40 * (k + 1) ≤ R.locals)
    (hK : va_K g.1 vwCl (tysW g) s) (hE : Ex (fun _ => False) s H) (hn : As.length = np) (hsz : ls.size = nL) (hst : st = As.reverse ++ rest) (hW : (rest.map fun v => v.category).sum ≤ 8) (hdg : decode cc pc = .ok (.invokestatic idx, 3)) (hf : cells ≤ R.cells ∧ slots ≤ R.slots)
    (kk : W p l e R s m args below meth c H locs cells slots Q (F0 m (pc + 3) ls (.int r :: rest))) : W p l e R s m args below meth c H locs cells slots Q (F0 m pc ls st) := by
  obtain ⟨hx, hb, hml, hr, hown, hts, hlk, hnm⟩ := hC
  refine vp_callSi (post := fun x => x = r) (W.runS (As := As) (rest := rest) ⟨hx, hb, hml, hown, hts⟩ hM (va_cwS np hts (gd_S ci hl) rfl rfl rfl ci.1 (rmk ci.2.1 hR)) ⟨fun a U g mk q => ⟨q.1, q.2.call⟩, fun U hU hW => ⟨rfl, fun k q h => by simp at h, va_K.moved hW.alike hK, by rw [hU]; exact Ex.warm hW hE⟩⟩ rfl hn hsz hst (lv_room hW) hdg hf) (fun r' e' => by subst e'; exact kk)
/-- a call of the private static method of the nest's host -/
theorem callRn {yo : MethodName} {cc : ByteArray} {nL : Nat} {ro : Option FieldType} {y : MethodName} {b : ByteArray} {n np k idx : Nat} {rt : Option FieldType} {g : WG} {As : List Value} {r : Int32} {st : List Value} {host : String}
    (hC : Cx p s m args meth c yo cc nL ro) (hM : Rd l y b n rt k (Wl g [] (fun _ => False)) As r) (ci : CIs y b n rt np) (hl : va_Nw (.methodLinkNest yo.cls idx y host) s) (hR : k + 1 ≤ R.frames ∧ 40 * (k + 1) ≤ R.locals)
    (hK : va_K g.1 vwCl (tysW g) s) (hE : Ex (fun _ => False) s H) (hn : As.length = np) (hsz : ls.size = nL) (hst : st = As.reverse ++ rest) (hW : (rest.map fun v => v.category).sum ≤ 8) (hdg : decode cc pc = .ok (.invokestatic idx, 3)) (hf : cells ≤ R.cells ∧ slots ≤ R.slots)
    (kk : W p l e R s m args below meth c H locs cells slots Q (F0 m (pc + 3) ls (.int r :: rest))) : W p l e R s m args below meth c H locs cells slots Q (F0 m pc ls st) := by
  obtain ⟨hx, hb, hml, hr, hown, hts, hlk, hnm⟩ := hC
  refine vp_callSi (post := fun x => x = r) (va_runSN (As := As) (rest := rest) ⟨hx, hb, hml, hown, hts⟩ hM ⟨va_cnB np hts (gd_B ci.2.2.1) rfl rfl rfl hl (hts _ ci.2.2.2.1) ci.1 (rmk ci.2.1 hR), hts _ ci.2.2.2.2, trivial⟩ ⟨fun a U g mk q => ⟨q.1, q.2.call⟩, fun U hU hW => ⟨rfl, fun k q h => by simp at h, va_K.moved hW.alike hK, by rw [hU]; exact Ex.warm hW hE⟩⟩ rfl hn hsz hst (lv_room hW) hdg hf).run (fun r' e' => by subst e'; exact kk)
/-- a call of a writer: its cells wc are the walk's whole world -/
theorem callWr {yo : MethodName} {cc : ByteArray} {nL : Nat} {ro : Option FieldType} {y : MethodName} {b : ByteArray} {n np k idx : Nat} {rt : Option FieldType} {g : WG} {wc wc' : va_W} {A : Nat → Prop} {a : Nat} {As : List Value} {r : Int32} {st : List Value}
    (hC : Cx p s m args meth c yo cc nL ro) (hM : Wr l y b n rt k g wc wc' (.ref a :: As) r) (ci : CIv y b n rt np) (hl : Cond.methodLink yo.cls idx y ∈ wB) (hR : k + 1 ≤ R.frames ∧ 40 * (k + 1) ≤ R.locals)
    (hP : va_P g.1 vwCl wc H) (hD : va_D A wc) (hK : va_K g.1 vwCl (tysW g) s) (hE : Ex A s s.heap) (hS : va_S A s.heap H locs) (hA : ∀ q : Nat, s.heap.size ≤ q → A q) {q0 cix : Nat} {q : vw_C} {fs : List Value} (he : wc[q0]? = some (a, .inr (cix, fs))) (hc : vwCl[cix]? = some q) (hq : q.1 = y.cls) (hn : As.length = np) (hsz : ls.size = nL) (hst : st = As.reverse ++ .ref a :: rest) (hW : (rest.map fun v => v.category).sum ≤ 8) (hdg : decode cc pc = .ok (.invokevirtual idx, 3)) (hf : cells ≤ R.cells ∧ slots ≤ R.slots)
    (kk : ∀ (H1 : Heap) (locs1 : List Loc), va_P g.1 vwCl wc' H1 → va_D (va_A wc H.size) wc' → va_D A wc' → va_S A s.heap H1 locs1 → H.size ≤ H1.size → (∀ q : Nat, q < H.size → ¬ va_A wc H.size q → H1[q]? = H[q]?) → W p l e R s m args below meth c H1 locs1 cells slots Q (F0 m (pc + 3) ls (.int r :: rest))) : W p l e R s m args below meth c H locs cells slots Q (F0 m pc ls st) := by
  obtain ⟨hx, hb, hml, hr, hown, hts, hlk, hnm⟩ := hC
  have hrecv := va_recv hK hP hc he
  rw [hq] at hrecv
  have hF : ∀ q, va_A wc H.size q → A q := by
    intro q h
    rcases h with ⟨k, e, h⟩ | h
    · exact hD.2 k (q, e) h
    · exact hA q (Nat.le_trans hS.1 h)
  refine va_calli (va_runV (As := As) (rest := rest) (C := y.cls) ⟨hx, hb, hml, hown, hts⟩ (hM H.size) (cwV np hts (gd_V ci hl) rfl rfl rfl ⟨rfl, ci.1⟩ (rmk ci.2.1 hR)) ⟨fun a U g mk q => ⟨q.1, q.2.call⟩, hrecv, fun U hU hW => ⟨rfl, by rw [hU], hD.weaken (fun _ _ _ _ => trivial), by rw [hU]; exact hP, va_K.moved hW.alike hK, by rw [hU]; exact (Ex.warm hW (hE.S hS)).narrow hF⟩⟩ rfl hn hsz hst (lv_room hW) hdg hf) hS (fun q _ h => hF q h) hF (fun r' u t H1 locs1 ht hvm hr' hB hz hk hS1 => ?_)
  subst hr'
  obtain ⟨hP1, hD1⟩ := hB
  rw [ht] at hP1
  exact kk H1 locs1 hP1 hD1 (hD1.weaken (fun _ q _ h => hF q.1 h)) hS1 hz hk
theorem callWv {yo : MethodName} {cc : ByteArray} {nL : Nat} {ro : Option FieldType} {y : MethodName} {b : ByteArray} {n np k idx : Nat} {g : WG} {wc wc' : va_W} {A : Nat → Prop} {a : Nat} {As : List Value} {st : List Value}
    (hC : Cx p s m args meth c yo cc nL ro) (hM : Wv l y b n k g wc wc' (.ref a :: As)) (ci : CIv y b n none np) (hl : Cond.methodLink yo.cls idx y ∈ wB) (hR : k + 1 ≤ R.frames ∧ 40 * (k + 1) ≤ R.locals)
    (hP : va_P g.1 vwCl wc H) (hD : va_D A wc) (hK : va_K g.1 vwCl (tysW g) s) (hE : Ex A s s.heap) (hS : va_S A s.heap H locs) (hA : ∀ q : Nat, s.heap.size ≤ q → A q) {q0 cix : Nat} {q : vw_C} {fs : List Value} (he : wc[q0]? = some (a, .inr (cix, fs))) (hc : vwCl[cix]? = some q) (hq : q.1 = y.cls) (hn : As.length = np) (hsz : ls.size = nL) (hst : st = As.reverse ++ .ref a :: rest) (hW : (rest.map fun v => v.category).sum ≤ 8) (hdg : decode cc pc = .ok (.invokevirtual idx, 3)) (hf : cells ≤ R.cells ∧ slots ≤ R.slots)
    (kk : ∀ (H1 : Heap) (locs1 : List Loc), va_P g.1 vwCl wc' H1 → va_D (va_A wc H.size) wc' → va_D A wc' → va_S A s.heap H1 locs1 → H.size ≤ H1.size → (∀ q : Nat, q < H.size → ¬ va_A wc H.size q → H1[q]? = H[q]?) → W p l e R s m args below meth c H1 locs1 cells slots Q (F0 m (pc + 3) ls rest)) : W p l e R s m args below meth c H locs cells slots Q (F0 m pc ls st) := by
  obtain ⟨hx, hb, hml, hr, hown, hts, hlk, hnm⟩ := hC
  have hrecv := va_recv hK hP hc he
  rw [hq] at hrecv
  have hF : ∀ q, va_A wc H.size q → A q := by
    intro q h
    rcases h with ⟨k, e, h⟩ | h
    · exact hD.2 k (q, e) h
    · exact hA q (Nat.le_trans hS.1 h)
  refine va_callv (va_runV (As := As) (rest := rest) (C := y.cls) ⟨hx, hb, hml, hown, hts⟩ (hM H.size) (cwV np hts (gd_V ci hl) rfl rfl rfl ⟨rfl, ci.1⟩ (rmk ci.2.1 hR)) ⟨fun a U g mk q => ⟨q.1, q.2.call⟩, hrecv, fun U hU hW => ⟨rfl, by rw [hU], hD.weaken (fun _ _ _ _ => trivial), by rw [hU]; exact hP, va_K.moved hW.alike hK, by rw [hU]; exact (Ex.warm hW (hE.S hS)).narrow hF⟩⟩ rfl hn hsz hst (lv_room hW) hdg hf) hS (fun q _ h => hF q h) hF (fun u t H1 locs1 ht hvm hr' hB hz hk hS1 => ?_)
  obtain ⟨hP1, hD1⟩ := hB
  rw [ht] at hP1
  exact kk H1 locs1 hP1 hD1 (hD1.weaken (fun _ q _ h => hF q.1 h)) hS1 hz hk
end BASE
