/-! calls in a part of the world -/
theorem P_mid {D : va_G} {cl : List vw_C} {a b c : va_W} {H : Heap} (h : va_P D cl (a ++ (b ++ c)) H) : va_P D cl b H := by
  intro k q hk
  have hl := (List.getElem?_eq_some_iff.mp hk).1
  refine h (a.length + k) q ?_
  rw [List.getElem?_append_right (Nat.le_add_right _ _), Nat.add_sub_cancel_left, List.getElem?_append_left hl]
  exact hk
theorem P_left {D : va_G} {cl : List vw_C} {a b : va_W} {H : Heap} (h : va_P D cl (a ++ b) H) : va_P D cl a H := by
  intro k q hk
  have hl := (List.getElem?_eq_some_iff.mp hk).1
  exact h k q (by rw [List.getElem?_append_left hl]; exact hk)
theorem P_right {D : va_G} {cl : List vw_C} {a b : va_W} {H : Heap} (h : va_P D cl (a ++ b) H) : va_P D cl b H := by
  intro k q hk
  exact h (a.length + k) q (by rw [List.getElem?_append_right (Nat.le_add_right _ _), Nat.add_sub_cancel_left]; exact hk)
theorem D_left {A : Nat → Prop} {a b : va_W} (h : va_D A (a ++ b)) : va_D A a := by
  have e : ∀ (k : Nat) (q : Nat × va_E), a[k]? = some q → (a ++ b)[k]? = some q := fun k q hk => by rw [List.getElem?_append_left (List.getElem?_eq_some_iff.mp hk).1]; exact hk
  exact ⟨fun i j p q hi hj => h.1 i j p q (e i p hi) (e j q hj), fun k q hk => h.2 k q (e k q hk)⟩
theorem D_right {A : Nat → Prop} {a b : va_W} (h : va_D A (a ++ b)) : va_D A b := by
  have e : ∀ (k : Nat) (q : Nat × va_E), b[k]? = some q → (a ++ b)[a.length + k]? = some q := fun k q hk => by rw [List.getElem?_append_right (Nat.le_add_right _ _), Nat.add_sub_cancel_left]; exact hk
  refine ⟨fun i j p q hi hj hpq => ?_, fun k q hk => h.2 _ q (e k q hk)⟩
  have := h.1 _ _ p q (e i p hi) (e j q hj) hpq
  omega
theorem D_cross {A : Nat → Prop} {a b : va_W} (h : va_D A (a ++ b)) : ∀ (i j : Nat) (p q : Nat × va_E), a[i]? = some p → b[j]? = some q → p.1 ≠ q.1 := by
  intro i j p q hi hj hpq
  have hl := (List.getElem?_eq_some_iff.mp hi).1
  have := h.1 i (a.length + j) p q (by rw [List.getElem?_append_left hl]; exact hi) (by rw [List.getElem?_append_right (Nat.le_add_right _ _), Nat.add_sub_cancel_left]; exact hj) hpq
  omega
theorem D_mid {A : Nat → Prop} {a b c : va_W} (h : va_D A (a ++ (b ++ c))) : va_D A b := D_left (D_right h)
/-- behind a call whose world was the middle part -/
theorem mid_join {A : Nat → Prop} {D : va_G} {cl : List vw_C} {a b b' c : va_W} {H H1 : Heap} (hP : va_P D cl (a ++ (b ++ c)) H) (hD : va_D A (a ++ (b ++ c))) (hk : ∀ q : Nat, q < H.size → ¬ va_A b H.size q → H1[q]? = H[q]?) (hF : ∀ q, va_A b H.size q → A q) (hP1 : va_P D cl b' H1) (hD1 : va_D (va_A b H.size) b') : va_P D cl (a ++ (b' ++ c)) H1 ∧ va_D A (a ++ (b' ++ c)) := by
  have hPa := P_left hP
  have hPc := P_right (P_right hP)
  have hDa := D_left hD
  have hDc := D_right (D_right hD)
  have hab : ∀ (i j : Nat) (p q : Nat × va_E), a[i]? = some p → b[j]? = some q → p.1 ≠ q.1 := fun i j p q hi hj => D_cross hD i j p q hi (by rw [List.getElem?_append_left (List.getElem?_eq_some_iff.mp hj).1]; exact hj)
  have hac : ∀ (i j : Nat) (p q : Nat × va_E), a[i]? = some p → c[j]? = some q → p.1 ≠ q.1 := fun i j p q hi hj => D_cross hD i (b.length + j) p q hi (by rw [List.getElem?_append_right (Nat.le_add_right _ _), Nat.add_sub_cancel_left]; exact hj)
  have hbc := D_cross (D_right hD)
  have outA : ∀ (k : Nat) (q : Nat × va_E), a[k]? = some q → q.1 < H.size ∧ ¬ va_A b H.size q.1 := by
    intro k q hq
    have hl := (hPa k q hq).lt
    refine ⟨hl, fun z => ?_⟩
    rcases z with ⟨j, e, z⟩ | z
    · exact hab k j q (q.1, e) hq z rfl
    · omega
  have outC : ∀ (k : Nat) (q : Nat × va_E), c[k]? = some q → q.1 < H.size ∧ ¬ va_A b H.size q.1 := by
    intro k q hq
    have hl := (hPc k q hq).lt
    refine ⟨hl, fun z => ?_⟩
    rcases z with ⟨j, e, z⟩ | z
    · exact hbc j k (q.1, e) q z hq rfl
    · omega
  refine ⟨(hPa.kept fun k q hq => hk q.1 (outA k q hq).1 (outA k q hq).2).app (hP1.app (hPc.kept fun k q hq => hk q.1 (outC k q hq).1 (outC k q hq).2)), ?_⟩
  refine hDa.app ((hD1.weaken (fun _ q _ h => hF q.1 h)).app hDc (fun i j p q hi hj hpq => ?_)) (fun i j p q hi hj hpq => ?_)
  · exact (outC j q hj).2 (hpq ▸ hD1.2 i p hi)
  · by_cases hl : j < b'.length
    · rw [List.getElem?_append_left hl] at hj
      exact (outA i p hi).2 (hpq ▸ hD1.2 j q hj)
    · rw [List.getElem?_append_right (by omega)] at hj
      exact hac i _ p q hi hj hpq
section PART
variable {p : Program} {l : Launch} {e : Env} {R : Room} {s : State} {m : MethodId} {args : Array Value} {below : List Frame} {meth : Method} {c : Code} {H : Heap} {locs : List Loc} {cells slots : Nat} {Q : State → Prop}
variable {pc : Nat} {ls : Array Slot} {rest : List Value}
/-- a call of a writer whose cells wc stand at places of the walk's world -/
theorem callWvS {yo : MethodName} {cc : ByteArray} {nL : Nat} {ro : Option FieldType} {y : MethodName} {b : ByteArray} {n np k idx : Nat} {g : WG} {ws wc wc' wr : va_W} {A : Nat → Prop} {a : Nat} {As : List Value} {st : List Value}
    (hC : Cx p s m args meth c yo cc nL ro) (hM : Wv l y b n k g wc wc' (.ref a :: As)) (ci : CIv y b n none np) (hl : Cond.methodLink yo.cls idx y ∈ wB) (hR : k + 1 ≤ R.frames ∧ 40 * (k + 1) ≤ R.locals)
    (hP : va_P g.1 vwCl ws H) (hD : va_D A ws) (hK : va_K g.1 vwCl (tysW g) s) (hE : Ex A s s.heap) (hS : va_S A s.heap H locs) (hA : ∀ q : Nat, s.heap.size ≤ q → A q) (isC isR : List Nat) (hCs : isC.map (fun i => ws[i]?) = wc.map some) (hRs : isR.map (fun i => ws[i]?) = wr.map some) (hnC : va_nd isC = true) (hnR : va_nd isR = true) (hdis : ∀ i ∈ isR, i ∉ isC) {q0 cix : Nat} {q : vw_C} {fs : List Value} (he : wc[q0]? = some (a, .inr (cix, fs))) (hc : vwCl[cix]? = some q) (hq : q.1 = y.cls) (hn : As.length = np) (hsz : ls.size = nL) (hst : st = As.reverse ++ .ref a :: rest) (hW : (rest.map fun v => v.category).sum ≤ 8) (hdg : decode cc pc = .ok (.invokevirtual idx, 3)) (hf : cells ≤ R.cells ∧ slots ≤ R.slots)
    (kk : ∀ (H1 : Heap) (locs1 : List Loc), va_P g.1 vwCl (wr ++ wc') H1 → va_D A (wr ++ wc') → va_S A s.heap H1 locs1 → W p l e R s m args below meth c H1 locs1 cells slots Q (F0 m (pc + 3) ls rest)) : W p l e R s m args below meth c H locs cells slots Q (F0 m pc ls st) := by
  have hPc : va_P g.1 vwCl wc H := by
    intro k q hk
    have h1 : (isC.map (fun i => ws[i]?))[k]? = some (some q) := by rw [hCs, List.getElem?_map, hk]; rfl
    rw [List.getElem?_map] at h1
    cases hi : isC[k]? with
    | none => rw [hi] at h1; cases h1
    | some i => rw [hi] at h1; exact hP i q (Option.some.inj h1)
  have hDc : va_D A wc := hD.sub isC hnC hCs
  have hF : ∀ q, va_A wc H.size q → A q := by
    intro q h
    rcases h with ⟨k, e, h⟩ | h
    · exact hDc.2 k (q, e) h
    · exact hA q (Nat.le_trans hS.1 h)
  refine callWv hC hM ci hl hR hPc hDc hK hE hS hA he hc hq hn hsz hst hW hdg hf (fun H1 locs1 hP1 hD1 _ hS1 hz hk => ?_)
  obtain ⟨h1, h2⟩ := va_join hP hD isC isR hCs hRs hnR hdis hk hF hP1 hD1
  exact kk H1 locs1 h1 h2 hS1
/-- a call of a writer whose cells are the middle part -/
theorem callWrM {yo : MethodName} {cc : ByteArray} {nL : Nat} {ro : Option FieldType} {y : MethodName} {b : ByteArray} {n np k idx : Nat} {rt : Option FieldType} {g : WG} {w1 wc w2 wc' : va_W} {A : Nat → Prop} {a : Nat} {As : List Value} {r : Int32} {st : List Value}
    (hC : Cx p s m args meth c yo cc nL ro) (hM : Wr l y b n rt k g wc wc' (.ref a :: As) r) (ci : CIv y b n rt np) (hl : Cond.methodLink yo.cls idx y ∈ wB) (hR : k + 1 ≤ R.frames ∧ 40 * (k + 1) ≤ R.locals)
    (hP : va_P g.1 vwCl (w1 ++ (wc ++ w2)) H) (hD : va_D A (w1 ++ (wc ++ w2))) (hK : va_K g.1 vwCl (tysW g) s) (hE : Ex A s s.heap) (hS : va_S A s.heap H locs) (hA : ∀ q : Nat, s.heap.size ≤ q → A q) {q0 cix : Nat} {q : vw_C} {fs : List Value} (he : wc[q0]? = some (a, .inr (cix, fs))) (hc : vwCl[cix]? = some q) (hq : q.1 = y.cls) (hn : As.length = np) (hsz : ls.size = nL) (hst : st = As.reverse ++ .ref a :: rest) (hW : (rest.map fun v => v.category).sum ≤ 8) (hdg : decode cc pc = .ok (.invokevirtual idx, 3)) (hf : cells ≤ R.cells ∧ slots ≤ R.slots)
    (kk : ∀ (H1 : Heap) (locs1 : List Loc), va_P g.1 vwCl (w1 ++ (wc' ++ w2)) H1 → va_D A (w1 ++ (wc' ++ w2)) → va_S A s.heap H1 locs1 → W p l e R s m args below meth c H1 locs1 cells slots Q (F0 m (pc + 3) ls (.int r :: rest))) : W p l e R s m args below meth c H locs cells slots Q (F0 m pc ls st) := by
  have hPc := P_mid hP
  have hDc := D_mid hD
  have hF : ∀ q, va_A wc H.size q → A q := by
    intro q h
    rcases h with ⟨k, e, h⟩ | h
    · exact hDc.2 k (q, e) h
    · exact hA q (Nat.le_trans hS.1 h)
  refine callWr hC hM ci hl hR hPc hDc hK hE hS hA he hc hq hn hsz hst hW hdg hf (fun H1 locs1 hP1 hD1 _ hS1 hz hk => ?_)
  obtain ⟨h1, h2⟩ := mid_join hP hD hk hF hP1 hD1
  exact kk H1 locs1 h1 h2 hS1
theorem callWvM {yo : MethodName} {cc : ByteArray} {nL : Nat} {ro : Option FieldType} {y : MethodName} {b : ByteArray} {n np k idx : Nat} {g : WG} {w1 wc w2 wc' : va_W} {A : Nat → Prop} {a : Nat} {As : List Value} {st : List Value}
    (hC : Cx p s m args meth c yo cc nL ro) (hM : Wv l y b n k g wc wc' (.ref a :: As)) (ci : CIv y b n none np) (hl : Cond.methodLink yo.cls idx y ∈ wB) (hR : k + 1 ≤ R.frames ∧ 40 * (k + 1) ≤ R.locals)
    (hP : va_P g.1 vwCl (w1 ++ (wc ++ w2)) H) (hD : va_D A (w1 ++ (wc ++ w2))) (hK : va_K g.1 vwCl (tysW g) s) (hE : Ex A s s.heap) (hS : va_S A s.heap H locs) (hA : ∀ q : Nat, s.heap.size ≤ q → A q) {q0 cix : Nat} {q : vw_C} {fs : List Value} (he : wc[q0]? = some (a, .inr (cix, fs))) (hc : vwCl[cix]? = some q) (hq : q.1 = y.cls) (hn : As.length = np) (hsz : ls.size = nL) (hst : st = As.reverse ++ .ref a :: rest) (hW : (rest.map fun v => v.category).sum ≤ 8) (hdg : decode cc pc = .ok (.invokevirtual idx, 3)) (hf : cells ≤ R.cells ∧ slots ≤ R.slots)
    (kk : ∀ (H1 : Heap) (locs1 : List Loc), va_P g.1 vwCl (w1 ++ (wc' ++ w2)) H1 → va_D A (w1 ++ (wc' ++ w2)) → va_S A s.heap H1 locs1 → W p l e R s m args below meth c H1 locs1 cells slots Q (F0 m (pc + 3) ls rest)) : W p l e R s m args below meth c H locs cells slots Q (F0 m pc ls st) := by
  have hPc := P_mid hP
  have hDc := D_mid hD
  have hF : ∀ q, va_A wc H.size q → A q := by
    intro q h
    rcases h with ⟨k, e, h⟩ | h
    · exact hDc.2 k (q, e) h
    · exact hA q (Nat.le_trans hS.1 h)
  refine callWv hC hM ci hl hR hPc hDc hK hE hS hA he hc hq hn hsz hst hW hdg hf (fun H1 locs1 hP1 hD1 _ hS1 hz hk => ?_)
  obtain ⟨h1, h2⟩ := mid_join hP hD hk hF hP1 hD1
  exact kk H1 locs1 h1 h2 hS1
/-- a method that answers one of the cells ad k, and changes nothing -/
theorem callRr {yo : MethodName} {cc : ByteArray} {nL : Nat} {ro : Option FieldType} {y : MethodName} {b : ByteArray} {n np k idx : Nat} {rt : Option FieldType} {g : WG} {wc : va_W} {a : Nat} {As : List Value} {st : List Value} {ad : Nat → Value} {j : Nat}
    (hC : Cx p s m args meth c yo cc nL ro) (hM : Met l y (Cond.code y b n rt :: wB) (rk k) (va_Pc (.ref a :: As) (Wl g wc (fun _ => False))) (va_Sr (fun x => x = j) ad) 0 0 (fun _ => False)) (ci : CIv y b n rt np) (hl : Cond.methodLink yo.cls idx y ∈ wB) (hR : k + 1 ≤ R.frames ∧ 40 * (k + 1) ≤ R.locals)
    (hP : va_P g.1 vwCl wc H) (hK : va_K g.1 vwCl (tysW g) s) (hE : Ex (fun _ => False) s H) {q0 cix : Nat} {q : vw_C} {fs : List Value} (he : wc[q0]? = some (a, .inr (cix, fs))) (hc : vwCl[cix]? = some q) (hq : q.1 = y.cls) (hn : As.length = np) (hsz : ls.size = nL) (hst : st = As.reverse ++ .ref a :: rest) (hW : (rest.map fun v => v.category).sum ≤ 8) (hdg : decode cc pc = .ok (.invokevirtual idx, 3)) (hf : cells ≤ R.cells ∧ slots ≤ R.slots)
    (kk : W p l e R s m args below meth c H locs cells slots Q (F0 m (pc + 3) ls (ad j :: rest))) : W p l e R s m args below meth c H locs cells slots Q (F0 m pc ls st) := by
  obtain ⟨hx, hb, hml, hr, hown, hts, hlk, hnm⟩ := hC
  have hrecv := va_recv hK hP hc he
  rw [hq] at hrecv
  refine va_csr (post := fun x => x = j) (ad := ad) (W.runV (As := As) (rest := rest) (C := y.cls) ⟨hx, hb, hml, hown, hts⟩ hM (cwV np hts (gd_V ci hl) rfl rfl rfl ⟨rfl, ci.1⟩ (rmk ci.2.1 hR)) ⟨fun a U g mk q => ⟨q.1, q.2.call⟩, hrecv, fun U hU hW => ⟨rfl, by rw [hU]; exact hP, va_K.moved hW.alike hK, by rw [hU]; exact Ex.warm hW hE⟩⟩ rfl hn hsz hst (lv_room hW) hdg hf) (fun r' e' => by subst e'; exact kk)
end PART
/-! the history -/
abbrev HS : Type := Int32 × Int32 × (Nat → YS)
def H_oldest (η : HS) : Int32 := η.1
def H_recorded (η : HS) : Int32 := η.2.1
def H_S (η : HS) : Nat → YS := η.2.2
def H_set_oldest (η : HS) (v : Int32) : HS := (v, η.2)
def H_set_recorded (η : HS) (v : Int32) : HS := (η.1, v, η.2.2)
abbrev AH : Type := Nat × Nat × (Nat → AY)
abbrev cHy (g : WG) (ah : AH) (η : HS) : va_W := [(ah.1, .inr (0, [.ref ah.2.1, .int (H_oldest η), .int (H_recorded η)])), (ah.2.1, .inl (g.2.2.2, 5, .inr (.inr (.inr (.inr (fun j => some (ah.2.2 j).1))))))]
abbrev cHs (g : WG) (ah : AH) (S : Nat → YS) : va_W := cY g (ah.2.2 0) (S 0) ++ (cY g (ah.2.2 1) (S 1) ++ (cY g (ah.2.2 2) (S 2) ++ (cY g (ah.2.2 3) (S 3) ++ cY g (ah.2.2 4) (S 4))))
abbrev cH (g : WG) (ah : AH) (η : HS) : va_W := cHy g ah η ++ cHs g ah (H_S η)
/-- where the state behind the latest stands -/
def H_ixI (η : HS) : Int32 := ((H_oldest η) + (H_recorded η)) - ((H_oldest η) + (H_recorded η)) / 5 * 5
def H_ix (η : HS) : Nat := (H_ixI η).toNatClampNeg
def HOK (η : HS) : Prop := vp_in (H_oldest η) 5 ∧ vp_in (H_recorded η) 5
theorem H_ix_in {η : HS} (h : HOK η) : vp_in (H_ixI η) 5 := by
  obtain ⟨o, ho, e1⟩ := vp_in_of h.1 (by decide)
  obtain ⟨r, hr, e2⟩ := vp_in_of h.2 (by decide)
  have e5 : (5 : Int32) = nI 5 := rfl
  unfold H_ixI
  rw [e1, e2, nI_add, e5, pk_rem (by omega) (by decide) (by decide)]
  exact vp_in_nI (Nat.mod_lt _ (by decide)) (by decide)
theorem H_ix_lt {η : HS} (h : HOK η) : H_ix η < 5 := Nat.not_le.mp fun q => H_ix_in h (Or.inr q)
def mX0_states (η : HS) : Int32 := H_recorded η
def mX0_prepare (η : HS) (σ : YS) : HS := (H_oldest η, H_recorded η, fun k => if k = H_ix η then σ else H_S η k)
def mX0_takeBack (η : HS) : YS := H_S η (H_ix η)

section FR
variable {p : Program} {l : Launch} {e : Env} {R : Room} {s : State} {m : MethodId} {args : Array Value} {below : List Frame} {meth : Method} {c : Code} {H : Heap} {locs : List Loc} {cells slots : Nat} {Q : State → Prop}
variable {pc : Nat} {ls : Array Slot} {rest : List Value}
theorem gt_X0_slots {y : MethodName} {cc : ByteArray} {nL : Nat} {ro : Option FieldType} {g : WG} {ws : va_W} {a : Nat} {fs : List Value} {v : Value} (hC : Cx p s m args meth c y cc nL ro) (hy : y.cls = RX0) (hK : va_K g.1 vwCl (tysW g) s) (hP : va_P g.1 vwCl ws H) (q0 : Nat) (he : ws[q0]? = some (a, .inr (0, fs))) (hv : fs[0]? = some v) (hdg : decode cc pc = .ok (.getfield 13, 3)) (kk : W p l e R s m args below meth c H locs cells slots Q (F0 m (pc + 3) ls (v :: rest))) : W p l e R s m args below meth c H locs cells slots Q (F0 m pc ls (.ref a :: rest)) := by
  obtain ⟨hx, hb, hml, hr, hown, hts, hlk, hnm⟩ := hC
  rw [hy] at hown
  exact va_get (C := RX0) (T := TX0) (N := 3) hx hb hts uw_X0 hown hK hP q0 he rfl 0 (by decide) (hts _ fl_X0_13) (fun _ h => h) hv hdg kk
theorem gt_X0_oldest {y : MethodName} {cc : ByteArray} {nL : Nat} {ro : Option FieldType} {g : WG} {ws : va_W} {a : Nat} {fs : List Value} {v : Value} (hC : Cx p s m args meth c y cc nL ro) (hy : y.cls = RX0) (hK : va_K g.1 vwCl (tysW g) s) (hP : va_P g.1 vwCl ws H) (q0 : Nat) (he : ws[q0]? = some (a, .inr (0, fs))) (hv : fs[1]? = some v) (hdg : decode cc pc = .ok (.getfield 17, 3)) (kk : W p l e R s m args below meth c H locs cells slots Q (F0 m (pc + 3) ls (v :: rest))) : W p l e R s m args below meth c H locs cells slots Q (F0 m pc ls (.ref a :: rest)) := by
  obtain ⟨hx, hb, hml, hr, hown, hts, hlk, hnm⟩ := hC
  rw [hy] at hown
  exact va_get (C := RX0) (T := TX0) (N := 3) hx hb hts uw_X0 hown hK hP q0 he rfl 1 (by decide) (hts _ fl_X0_17) (fun _ h => h) hv hdg kk
theorem pt_X0_oldest {y : MethodName} {cc : ByteArray} {nL : Nat} {ro : Option FieldType} {g : WG} {ws : va_W} {A : Nat → Prop} {H0 : Heap} {a : Nat} {fs : List Value} {v : Int32} (hC : Cx p s m args meth c y cc nL ro) (hy : y.cls = RX0) (hK : va_K g.1 vwCl (tysW g) s) (hP : va_P g.1 vwCl ws H) (hD : va_D A ws) (hS : va_S A H0 H locs) (q0 : Nat) (he : ws[q0]? = some (a, .inr (0, fs))) (hl : 1 < fs.length) (hdg : decode cc pc = .ok (.putfield 17, 3)) (kk : ∀ (H1 : Heap) (locs1 : List Loc), va_P g.1 vwCl (ws.set q0 (a, .inr (0, fs.set 1 (.int v)))) H1 → va_D A (ws.set q0 (a, .inr (0, fs.set 1 (.int v)))) → va_S A H0 H1 locs1 → W p l e R s m args below meth c H1 locs1 cells slots Q (F0 m (pc + 3) ls rest)) : W p l e R s m args below meth c H locs cells slots Q (F0 m pc ls (.int v :: .ref a :: rest)) := by
  obtain ⟨hx, hb, hml, hr, hown, hts, hlk, hnm⟩ := hC
  rw [hy] at hown
  exact va_put (C := RX0) (T := TX0) (N := 3) (ty := .int) hx hb hts uw_X0 tyX0 tyX0_ok nmX0 hown hK hP hD hS q0 he rfl 1 (by decide) (hts _ fl_X0_17) (fun _ h => h) rfl (by decide +kernel) rfl rfl hl hdg kk
theorem gt_X0_recorded {y : MethodName} {cc : ByteArray} {nL : Nat} {ro : Option FieldType} {g : WG} {ws : va_W} {a : Nat} {fs : List Value} {v : Value} (hC : Cx p s m args meth c y cc nL ro) (hy : y.cls = RX0) (hK : va_K g.1 vwCl (tysW g) s) (hP : va_P g.1 vwCl ws H) (q0 : Nat) (he : ws[q0]? = some (a, .inr (0, fs))) (hv : fs[2]? = some v) (hdg : decode cc pc = .ok (.getfield 21, 3)) (kk : W p l e R s m args below meth c H locs cells slots Q (F0 m (pc + 3) ls (v :: rest))) : W p l e R s m args below meth c H locs cells slots Q (F0 m pc ls (.ref a :: rest)) := by
  obtain ⟨hx, hb, hml, hr, hown, hts, hlk, hnm⟩ := hC
  rw [hy] at hown
  exact va_get (C := RX0) (T := TX0) (N := 3) hx hb hts uw_X0 hown hK hP q0 he rfl 2 (by decide) (hts _ fl_X0_21) (fun _ h => h) hv hdg kk
theorem pt_X0_recorded {y : MethodName} {cc : ByteArray} {nL : Nat} {ro : Option FieldType} {g : WG} {ws : va_W} {A : Nat → Prop} {H0 : Heap} {a : Nat} {fs : List Value} {v : Int32} (hC : Cx p s m args meth c y cc nL ro) (hy : y.cls = RX0) (hK : va_K g.1 vwCl (tysW g) s) (hP : va_P g.1 vwCl ws H) (hD : va_D A ws) (hS : va_S A H0 H locs) (q0 : Nat) (he : ws[q0]? = some (a, .inr (0, fs))) (hl : 2 < fs.length) (hdg : decode cc pc = .ok (.putfield 21, 3)) (kk : ∀ (H1 : Heap) (locs1 : List Loc), va_P g.1 vwCl (ws.set q0 (a, .inr (0, fs.set 2 (.int v)))) H1 → va_D A (ws.set q0 (a, .inr (0, fs.set 2 (.int v)))) → va_S A H0 H1 locs1 → W p l e R s m args below meth c H1 locs1 cells slots Q (F0 m (pc + 3) ls rest)) : W p l e R s m args below meth c H locs cells slots Q (F0 m pc ls (.int v :: .ref a :: rest)) := by
  obtain ⟨hx, hb, hml, hr, hown, hts, hlk, hnm⟩ := hC
  rw [hy] at hown
  exact va_put (C := RX0) (T := TX0) (N := 3) (ty := .int) hx hb hts uw_X0 tyX0 tyX0_ok nmX0 hown hK hP hD hS q0 he rfl 2 (by decide) (hts _ fl_X0_21) (fun _ h => h) rfl (by decide +kernel) rfl rfl hl hdg kk
end FR
set_option maxHeartbeats 4000000 in
set_option maxRecDepth 100000 in
theorem k_X0_states (l : Launch) (g : WG) (ah : AH) (η : HS) : Rd l yX0_states cX0_states 1 (some .int) 0 (Wl g (cHy g ah η) (fun _ => False)) [.ref ah.1] (mX0_states η) := by
  refine rd_of (by decide) (Nat.le_of_ble_eq_true rfl) ?_
  intro p e s m args below meth c ls hC hW hl
  obtain ⟨hP, hK, hE⟩ := hW
  obtain ⟨hx, hb, hml, hr, hown, hts, hlk, hnm⟩ := id hC
  have hl : lv_has ls 1 [(0, .ref ah.1)] := hl
  refine lv_aload_n hx hb dX0_states_0 rfl (lv_at hl 0 rfl) ?_
  refine gt_X0_recorded hC rfl hK hP 0 rfl rfl dX0_states_1 ?_
  exact rd_ret hC dX0_states_4 rfl
set_option maxHeartbeats 4000000 in
set_option maxRecDepth 100000 in
theorem k_X0_behindLatest (l : Launch) (g : WG) (ah : AH) (η : HS) (h : HOK η) : Met l yX0_behindLatest (Cond.code yX0_behindLatest cX0_behindLatest 1 (some (.object "WinterYard$Yard")) :: wB) (rk 0) (va_Pc [.ref ah.1] (Wl g (cHy g ah η) (fun _ => False))) (va_Sr (fun k => k = H_ix η) (fun k => .ref (ah.2.2 k).1)) 0 0 (fun _ => False) := by
  refine Met.ofW (cc := cX0_behindLatest) (maxL := 1) (ret := (some (.object "WinterYard$Yard"))) (by decide) rfl ?_
  intro p e s m args below meth c s₁ B hml hv
  obtain ⟨rfl, hP, hK, hE⟩ := hv
  have hC := cx_of (ws' := []) B hml
  obtain ⟨hx, hb, hml, hr, hown, hts, hlk, hnm⟩ := id hC
  have hl := lv_entry ([.ref ah.1]) (n := 1) (Nat.le_of_ble_eq_true rfl)
  rw [lg_entry_eq]
  generalize (lg_sl ([.ref ah.1]) ++ List.replicate (1 - (lg_sl ([.ref ah.1])).length) Slot.unset).toArray = ls at hl ⊢
  have hl : lv_has ls 1 [(0, .ref ah.1)] := hl
  refine lv_aload_n hx hb dX0_behindLatest_0 rfl (lv_at hl 0 rfl) ?_
  refine gt_X0_slots hC rfl hK hP 0 rfl rfl dX0_behindLatest_1 ?_
  refine lv_aload_n hx hb dX0_behindLatest_4 rfl (lv_at hl 0 rfl) ?_
  refine gt_X0_oldest hC rfl hK hP 0 rfl rfl dX0_behindLatest_5 ?_
  refine lv_aload_n hx hb dX0_behindLatest_8 rfl (lv_at hl 0 rfl) ?_
  refine gt_X0_recorded hC rfl hK hP 0 rfl rfl dX0_behindLatest_9 ?_
  refine lv_iadd hx hb dX0_behindLatest_12 ?_
  refine lv_iconst (v := 5) hx hb dX0_behindLatest_13 (by decide) ?_
  refine lv_irem hx hb dX0_behindLatest_14 (by decide) ?_
  refine va_aldq hx hb hK hP 1 2 rfl rfl (H_ix_in h) dX0_behindLatest_15 ?_
  have hlocks : meth.locks = false := hlk
  exact W.aret hx hb hr (Or.inl ⟨_, rfl⟩) (Or.inr ⟨_, rfl⟩) (fun t ht _ => ⟨H_ix η, rfl, rfl, ht⟩) (fun q h => by cases h) dX0_behindLatest_16 hlocks
set_option maxHeartbeats 4000000 in
set_option maxRecDepth 100000 in
theorem k_X0_prepare (l : Launch) (g : WG) (ah : AH) (ad : AY) (η : HS) (σ : YS) (h : HOK η) : Wv l yX0_prepare cX0_prepare 2 2 g (cY g ad σ ++ cH g ah η) (cY g ad σ ++ cH g ah (mX0_prepare η σ)) [.ref ah.1, .ref ad.1] := by
  refine wv_of (by decide) (Nat.le_of_ble_eq_true rfl) ?_
  intro p e s m args below meth c ls A hC hAe hP hD hK hE hA hS hl
  obtain ⟨hx, hb, hml, hr, hown, hts, hlk, hnm⟩ := id hC
  have hl : lv_has ls 2 [(0, .ref ah.1), (1, .ref ad.1)] := hl
  refine lv_aload_n hx hb dX0_prepare_0 rfl (lv_at hl 0 rfl) ?_
  refine callRr hC (k_X0_behindLatest l g ah η h) ci_X0_behindLatest lk_X0_25 ⟨Nat.le_of_ble_eq_true rfl, Nat.le_of_ble_eq_true rfl⟩ (P_left (P_right hP)) hK (hE.S hS).none (q0 := 0) rfl rfl rfl rfl hl.1 rfl (Nat.le_of_ble_eq_true rfl) dX0_prepare_1 ⟨Nat.zero_le _, Nat.zero_le _⟩ ?_
  refine lv_aload_n hx hb dX0_prepare_4 rfl (lv_at hl 1 rfl) ?_
  have hw : ∀ S2 : Nat → YS, S2 = (fun k => if k = H_ix η then σ else H_S η k) → (cY g ad σ ++ (cHy g ah η ++ cHs g ah S2)) = (cY g ad σ ++ cH g ah (mX0_prepare η σ)) := fun S2 e => by rw [e]; rfl
  have hlt := H_ix_lt h
  have hP : va_P g.1 vwCl (cY g ad σ ++ (cHy g ah η ++ cHs g ah (H_S η))) s.heap := hP
  have hD : va_D A (cY g ad σ ++ (cHy g ah η ++ cHs g ah (H_S η))) := hD
  generalize H_ix η = j at hlt hw ⊢
  generalize H_S η = S at hP hD hw ⊢
  rcases (show j = 0 ∨ j = 1 ∨ j = 2 ∨ j = 3 ∨ j = 4 by omega) with rfl | rfl | rfl | rfl | rfl
  · refine callWvS (wr := (cHy g ah η ++ (cY g (ah.2.2 1) (S 1) ++ cY g (ah.2.2 2) (S 2) ++ cY g (ah.2.2 3) (S 3) ++ cY g (ah.2.2 4) (S 4)))) hC (k_X2_copyFrom l g (ah.2.2 0) ad (S 0) σ) ci_X2_copyFrom lk_X0_29 ⟨Nat.le_of_ble_eq_true rfl, Nat.le_of_ble_eq_true rfl⟩ hP hD hK hE hS hA [7, 8, 9, 10, 11, 0, 1, 2, 3, 4] [5, 6, 12, 13, 14, 15, 16, 17, 18, 19, 20, 21, 22, 23, 24, 25, 26, 27, 28, 29, 30, 31] rfl rfl (by decide) (by decide) (by decide) (q0 := 0) rfl rfl rfl rfl hl.1 rfl (Nat.le_of_ble_eq_true rfl) dX0_prepare_5 ⟨Nat.zero_le _, Nat.zero_le _⟩ (fun H locs hP hD hS => ?_)
    have hP := hP.sub (ws' := (cY g ad σ ++ (cHy g ah η ++ cHs g ah (fun k => if k = 0 then σ else S k)))) [27, 28, 29, 30, 31, 0, 1, 22, 23, 24, 25, 26, 2, 3, 4, 5, 6, 7, 8, 9, 10, 11, 12, 13, 14, 15, 16, 17, 18, 19, 20, 21] rfl
    have hD := hD.sub (ws' := (cY g ad σ ++ (cHy g ah η ++ cHs g ah (fun k => if k = 0 then σ else S k)))) [27, 28, 29, 30, 31, 0, 1, 22, 23, 24, 25, 26, 2, 3, 4, 5, 6, 7, 8, 9, 10, 11, 12, 13, 14, 15, 16, 17, 18, 19, 20, 21] (by decide) rfl
    exact wv_ret hC hP (hAe ▸ hD) (hAe ▸ hS) dX0_prepare_8 (hw _ rfl)
  · refine callWvS (wr := (cHy g ah η ++ (cY g (ah.2.2 0) (S 0) ++ cY g (ah.2.2 2) (S 2) ++ cY g (ah.2.2 3) (S 3) ++ cY g (ah.2.2 4) (S 4)))) hC (k_X2_copyFrom l g (ah.2.2 1) ad (S 1) σ) ci_X2_copyFrom lk_X0_29 ⟨Nat.le_of_ble_eq_true rfl, Nat.le_of_ble_eq_true rfl⟩ hP hD hK hE hS hA [12, 13, 14, 15, 16, 0, 1, 2, 3, 4] [5, 6, 7, 8, 9, 10, 11, 17, 18, 19, 20, 21, 22, 23, 24, 25, 26, 27, 28, 29, 30, 31] rfl rfl (by decide) (by decide) (by decide) (q0 := 0) rfl rfl rfl rfl hl.1 rfl (Nat.le_of_ble_eq_true rfl) dX0_prepare_5 ⟨Nat.zero_le _, Nat.zero_le _⟩ (fun H locs hP hD hS => ?_)
    have hP := hP.sub (ws' := (cY g ad σ ++ (cHy g ah η ++ cHs g ah (fun k => if k = 1 then σ else S k)))) [27, 28, 29, 30, 31, 0, 1, 2, 3, 4, 5, 6, 22, 23, 24, 25, 26, 7, 8, 9, 10, 11, 12, 13, 14, 15, 16, 17, 18, 19, 20, 21] rfl
    have hD := hD.sub (ws' := (cY g ad σ ++ (cHy g ah η ++ cHs g ah (fun k => if k = 1 then σ else S k)))) [27, 28, 29, 30, 31, 0, 1, 2, 3, 4, 5, 6, 22, 23, 24, 25, 26, 7, 8, 9, 10, 11, 12, 13, 14, 15, 16, 17, 18, 19, 20, 21] (by decide) rfl
    exact wv_ret hC hP (hAe ▸ hD) (hAe ▸ hS) dX0_prepare_8 (hw _ rfl)
  · refine callWvS (wr := (cHy g ah η ++ (cY g (ah.2.2 0) (S 0) ++ cY g (ah.2.2 1) (S 1) ++ cY g (ah.2.2 3) (S 3) ++ cY g (ah.2.2 4) (S 4)))) hC (k_X2_copyFrom l g (ah.2.2 2) ad (S 2) σ) ci_X2_copyFrom lk_X0_29 ⟨Nat.le_of_ble_eq_true rfl, Nat.le_of_ble_eq_true rfl⟩ hP hD hK hE hS hA [17, 18, 19, 20, 21, 0, 1, 2, 3, 4] [5, 6, 7, 8, 9, 10, 11, 12, 13, 14, 15, 16, 22, 23, 24, 25, 26, 27, 28, 29, 30, 31] rfl rfl (by decide) (by decide) (by decide) (q0 := 0) rfl rfl rfl rfl hl.1 rfl (Nat.le_of_ble_eq_true rfl) dX0_prepare_5 ⟨Nat.zero_le _, Nat.zero_le _⟩ (fun H locs hP hD hS => ?_)
    have hP := hP.sub (ws' := (cY g ad σ ++ (cHy g ah η ++ cHs g ah (fun k => if k = 2 then σ else S k)))) [27, 28, 29, 30, 31, 0, 1, 2, 3, 4, 5, 6, 7, 8, 9, 10, 11, 22, 23, 24, 25, 26, 12, 13, 14, 15, 16, 17, 18, 19, 20, 21] rfl
    have hD := hD.sub (ws' := (cY g ad σ ++ (cHy g ah η ++ cHs g ah (fun k => if k = 2 then σ else S k)))) [27, 28, 29, 30, 31, 0, 1, 2, 3, 4, 5, 6, 7, 8, 9, 10, 11, 22, 23, 24, 25, 26, 12, 13, 14, 15, 16, 17, 18, 19, 20, 21] (by decide) rfl
    exact wv_ret hC hP (hAe ▸ hD) (hAe ▸ hS) dX0_prepare_8 (hw _ rfl)
  · refine callWvS (wr := (cHy g ah η ++ (cY g (ah.2.2 0) (S 0) ++ cY g (ah.2.2 1) (S 1) ++ cY g (ah.2.2 2) (S 2) ++ cY g (ah.2.2 4) (S 4)))) hC (k_X2_copyFrom l g (ah.2.2 3) ad (S 3) σ) ci_X2_copyFrom lk_X0_29 ⟨Nat.le_of_ble_eq_true rfl, Nat.le_of_ble_eq_true rfl⟩ hP hD hK hE hS hA [22, 23, 24, 25, 26, 0, 1, 2, 3, 4] [5, 6, 7, 8, 9, 10, 11, 12, 13, 14, 15, 16, 17, 18, 19, 20, 21, 27, 28, 29, 30, 31] rfl rfl (by decide) (by decide) (by decide) (q0 := 0) rfl rfl rfl rfl hl.1 rfl (Nat.le_of_ble_eq_true rfl) dX0_prepare_5 ⟨Nat.zero_le _, Nat.zero_le _⟩ (fun H locs hP hD hS => ?_)
    have hP := hP.sub (ws' := (cY g ad σ ++ (cHy g ah η ++ cHs g ah (fun k => if k = 3 then σ else S k)))) [27, 28, 29, 30, 31, 0, 1, 2, 3, 4, 5, 6, 7, 8, 9, 10, 11, 12, 13, 14, 15, 16, 22, 23, 24, 25, 26, 17, 18, 19, 20, 21] rfl
    have hD := hD.sub (ws' := (cY g ad σ ++ (cHy g ah η ++ cHs g ah (fun k => if k = 3 then σ else S k)))) [27, 28, 29, 30, 31, 0, 1, 2, 3, 4, 5, 6, 7, 8, 9, 10, 11, 12, 13, 14, 15, 16, 22, 23, 24, 25, 26, 17, 18, 19, 20, 21] (by decide) rfl
    exact wv_ret hC hP (hAe ▸ hD) (hAe ▸ hS) dX0_prepare_8 (hw _ rfl)
  · refine callWvS (wr := (cHy g ah η ++ (cY g (ah.2.2 0) (S 0) ++ cY g (ah.2.2 1) (S 1) ++ cY g (ah.2.2 2) (S 2) ++ cY g (ah.2.2 3) (S 3)))) hC (k_X2_copyFrom l g (ah.2.2 4) ad (S 4) σ) ci_X2_copyFrom lk_X0_29 ⟨Nat.le_of_ble_eq_true rfl, Nat.le_of_ble_eq_true rfl⟩ hP hD hK hE hS hA [27, 28, 29, 30, 31, 0, 1, 2, 3, 4] [5, 6, 7, 8, 9, 10, 11, 12, 13, 14, 15, 16, 17, 18, 19, 20, 21, 22, 23, 24, 25, 26] rfl rfl (by decide) (by decide) (by decide) (q0 := 0) rfl rfl rfl rfl hl.1 rfl (Nat.le_of_ble_eq_true rfl) dX0_prepare_5 ⟨Nat.zero_le _, Nat.zero_le _⟩ (fun H locs hP hD hS => ?_)
    have hP := hP.sub (ws' := (cY g ad σ ++ (cHy g ah η ++ cHs g ah (fun k => if k = 4 then σ else S k)))) [27, 28, 29, 30, 31, 0, 1, 2, 3, 4, 5, 6, 7, 8, 9, 10, 11, 12, 13, 14, 15, 16, 17, 18, 19, 20, 21, 22, 23, 24, 25, 26] rfl
    have hD := hD.sub (ws' := (cY g ad σ ++ (cHy g ah η ++ cHs g ah (fun k => if k = 4 then σ else S k)))) [27, 28, 29, 30, 31, 0, 1, 2, 3, 4, 5, 6, 7, 8, 9, 10, 11, 12, 13, 14, 15, 16, 17, 18, 19, 20, 21, 22, 23, 24, 25, 26] (by decide) rfl
    exact wv_ret hC hP (hAe ▸ hD) (hAe ▸ hS) dX0_prepare_8 (hw _ rfl)
set_option maxHeartbeats 4000000 in
set_option maxRecDepth 100000 in
theorem k_X0_takeBack (l : Launch) (g : WG) (ah : AH) (ad : AY) (η : HS) (σ : YS) (h : HOK η) : Wv l yX0_takeBack cX0_takeBack 2 2 g (cY g ad σ ++ cH g ah η) (cY g ad (mX0_takeBack η) ++ cH g ah η) [.ref ah.1, .ref ad.1] := by
  refine wv_of (by decide) (Nat.le_of_ble_eq_true rfl) ?_
  intro p e s m args below meth c ls A hC hAe hP hD hK hE hA hS hl
  obtain ⟨hx, hb, hml, hr, hown, hts, hlk, hnm⟩ := id hC
  have hl : lv_has ls 2 [(0, .ref ah.1), (1, .ref ad.1)] := hl
  refine lv_aload_n hx hb dX0_takeBack_0 rfl (lv_at hl 1 rfl) ?_
  refine lv_aload_n hx hb dX0_takeBack_1 rfl (lv_at hl 0 rfl) ?_
  refine callRr hC (k_X0_behindLatest l g ah η h) ci_X0_behindLatest lk_X0_25 ⟨Nat.le_of_ble_eq_true rfl, Nat.le_of_ble_eq_true rfl⟩ (P_left (P_right hP)) hK (hE.S hS).none (q0 := 0) rfl rfl rfl rfl hl.1 rfl (Nat.le_of_ble_eq_true rfl) dX0_takeBack_2 ⟨Nat.zero_le _, Nat.zero_le _⟩ ?_
  have hw : ∀ τ : YS, τ = H_S η (H_ix η) → (cY g ad τ ++ cH g ah η) = (cY g ad (mX0_takeBack η) ++ cH g ah η) := fun τ e => by rw [e]; rfl
  have hlt := H_ix_lt h
  have hP : va_P g.1 vwCl (cY g ad σ ++ (cHy g ah η ++ cHs g ah (H_S η))) s.heap := hP
  have hD : va_D A (cY g ad σ ++ (cHy g ah η ++ cHs g ah (H_S η))) := hD
  generalize H_ix η = j at hlt hw ⊢
  rcases (show j = 0 ∨ j = 1 ∨ j = 2 ∨ j = 3 ∨ j = 4 by omega) with rfl | rfl | rfl | rfl | rfl
  · refine callWvS (wr := (cHy g ah η ++ (cY g (ah.2.2 1) ((H_S η) 1) ++ cY g (ah.2.2 2) ((H_S η) 2) ++ cY g (ah.2.2 3) ((H_S η) 3) ++ cY g (ah.2.2 4) ((H_S η) 4)))) hC (k_X2_copyFrom l g ad (ah.2.2 0) σ ((H_S η) 0)) ci_X2_copyFrom lk_X0_29 ⟨Nat.le_of_ble_eq_true rfl, Nat.le_of_ble_eq_true rfl⟩ hP hD hK hE hS hA [0, 1, 2, 3, 4, 7, 8, 9, 10, 11] [5, 6, 12, 13, 14, 15, 16, 17, 18, 19, 20, 21, 22, 23, 24, 25, 26, 27, 28, 29, 30, 31] rfl rfl (by decide) (by decide) (by decide) (q0 := 0) rfl rfl rfl rfl hl.1 rfl (Nat.le_of_ble_eq_true rfl) dX0_takeBack_5 ⟨Nat.zero_le _, Nat.zero_le _⟩ (fun H locs hP hD hS => ?_)
    have hP := hP.sub (ws' := (cY g ad ((H_S η) 0) ++ cH g ah η)) [22, 23, 24, 25, 26, 0, 1, 27, 28, 29, 30, 31, 2, 3, 4, 5, 6, 7, 8, 9, 10, 11, 12, 13, 14, 15, 16, 17, 18, 19, 20, 21] rfl
    have hD := hD.sub (ws' := (cY g ad ((H_S η) 0) ++ cH g ah η)) [22, 23, 24, 25, 26, 0, 1, 27, 28, 29, 30, 31, 2, 3, 4, 5, 6, 7, 8, 9, 10, 11, 12, 13, 14, 15, 16, 17, 18, 19, 20, 21] (by decide) rfl
    exact wv_ret hC hP (hAe ▸ hD) (hAe ▸ hS) dX0_takeBack_8 (hw _ rfl)
  · refine callWvS (wr := (cHy g ah η ++ (cY g (ah.2.2 0) ((H_S η) 0) ++ cY g (ah.2.2 2) ((H_S η) 2) ++ cY g (ah.2.2 3) ((H_S η) 3) ++ cY g (ah.2.2 4) ((H_S η) 4)))) hC (k_X2_copyFrom l g ad (ah.2.2 1) σ ((H_S η) 1)) ci_X2_copyFrom lk_X0_29 ⟨Nat.le_of_ble_eq_true rfl, Nat.le_of_ble_eq_true rfl⟩ hP hD hK hE hS hA [0, 1, 2, 3, 4, 12, 13, 14, 15, 16] [5, 6, 7, 8, 9, 10, 11, 17, 18, 19, 20, 21, 22, 23, 24, 25, 26, 27, 28, 29, 30, 31] rfl rfl (by decide) (by decide) (by decide) (q0 := 0) rfl rfl rfl rfl hl.1 rfl (Nat.le_of_ble_eq_true rfl) dX0_takeBack_5 ⟨Nat.zero_le _, Nat.zero_le _⟩ (fun H locs hP hD hS => ?_)
    have hP := hP.sub (ws' := (cY g ad ((H_S η) 1) ++ cH g ah η)) [22, 23, 24, 25, 26, 0, 1, 2, 3, 4, 5, 6, 27, 28, 29, 30, 31, 7, 8, 9, 10, 11, 12, 13, 14, 15, 16, 17, 18, 19, 20, 21] rfl
    have hD := hD.sub (ws' := (cY g ad ((H_S η) 1) ++ cH g ah η)) [22, 23, 24, 25, 26, 0, 1, 2, 3, 4, 5, 6, 27, 28, 29, 30, 31, 7, 8, 9, 10, 11, 12, 13, 14, 15, 16, 17, 18, 19, 20, 21] (by decide) rfl
    exact wv_ret hC hP (hAe ▸ hD) (hAe ▸ hS) dX0_takeBack_8 (hw _ rfl)
  · refine callWvS (wr := (cHy g ah η ++ (cY g (ah.2.2 0) ((H_S η) 0) ++ cY g (ah.2.2 1) ((H_S η) 1) ++ cY g (ah.2.2 3) ((H_S η) 3) ++ cY g (ah.2.2 4) ((H_S η) 4)))) hC (k_X2_copyFrom l g ad (ah.2.2 2) σ ((H_S η) 2)) ci_X2_copyFrom lk_X0_29 ⟨Nat.le_of_ble_eq_true rfl, Nat.le_of_ble_eq_true rfl⟩ hP hD hK hE hS hA [0, 1, 2, 3, 4, 17, 18, 19, 20, 21] [5, 6, 7, 8, 9, 10, 11, 12, 13, 14, 15, 16, 22, 23, 24, 25, 26, 27, 28, 29, 30, 31] rfl rfl (by decide) (by decide) (by decide) (q0 := 0) rfl rfl rfl rfl hl.1 rfl (Nat.le_of_ble_eq_true rfl) dX0_takeBack_5 ⟨Nat.zero_le _, Nat.zero_le _⟩ (fun H locs hP hD hS => ?_)
    have hP := hP.sub (ws' := (cY g ad ((H_S η) 2) ++ cH g ah η)) [22, 23, 24, 25, 26, 0, 1, 2, 3, 4, 5, 6, 7, 8, 9, 10, 11, 27, 28, 29, 30, 31, 12, 13, 14, 15, 16, 17, 18, 19, 20, 21] rfl
    have hD := hD.sub (ws' := (cY g ad ((H_S η) 2) ++ cH g ah η)) [22, 23, 24, 25, 26, 0, 1, 2, 3, 4, 5, 6, 7, 8, 9, 10, 11, 27, 28, 29, 30, 31, 12, 13, 14, 15, 16, 17, 18, 19, 20, 21] (by decide) rfl
    exact wv_ret hC hP (hAe ▸ hD) (hAe ▸ hS) dX0_takeBack_8 (hw _ rfl)
  · refine callWvS (wr := (cHy g ah η ++ (cY g (ah.2.2 0) ((H_S η) 0) ++ cY g (ah.2.2 1) ((H_S η) 1) ++ cY g (ah.2.2 2) ((H_S η) 2) ++ cY g (ah.2.2 4) ((H_S η) 4)))) hC (k_X2_copyFrom l g ad (ah.2.2 3) σ ((H_S η) 3)) ci_X2_copyFrom lk_X0_29 ⟨Nat.le_of_ble_eq_true rfl, Nat.le_of_ble_eq_true rfl⟩ hP hD hK hE hS hA [0, 1, 2, 3, 4, 22, 23, 24, 25, 26] [5, 6, 7, 8, 9, 10, 11, 12, 13, 14, 15, 16, 17, 18, 19, 20, 21, 27, 28, 29, 30, 31] rfl rfl (by decide) (by decide) (by decide) (q0 := 0) rfl rfl rfl rfl hl.1 rfl (Nat.le_of_ble_eq_true rfl) dX0_takeBack_5 ⟨Nat.zero_le _, Nat.zero_le _⟩ (fun H locs hP hD hS => ?_)
    have hP := hP.sub (ws' := (cY g ad ((H_S η) 3) ++ cH g ah η)) [22, 23, 24, 25, 26, 0, 1, 2, 3, 4, 5, 6, 7, 8, 9, 10, 11, 12, 13, 14, 15, 16, 27, 28, 29, 30, 31, 17, 18, 19, 20, 21] rfl
    have hD := hD.sub (ws' := (cY g ad ((H_S η) 3) ++ cH g ah η)) [22, 23, 24, 25, 26, 0, 1, 2, 3, 4, 5, 6, 7, 8, 9, 10, 11, 12, 13, 14, 15, 16, 27, 28, 29, 30, 31, 17, 18, 19, 20, 21] (by decide) rfl
    exact wv_ret hC hP (hAe ▸ hD) (hAe ▸ hS) dX0_takeBack_8 (hw _ rfl)
  · refine callWvS (wr := (cHy g ah η ++ (cY g (ah.2.2 0) ((H_S η) 0) ++ cY g (ah.2.2 1) ((H_S η) 1) ++ cY g (ah.2.2 2) ((H_S η) 2) ++ cY g (ah.2.2 3) ((H_S η) 3)))) hC (k_X2_copyFrom l g ad (ah.2.2 4) σ ((H_S η) 4)) ci_X2_copyFrom lk_X0_29 ⟨Nat.le_of_ble_eq_true rfl, Nat.le_of_ble_eq_true rfl⟩ hP hD hK hE hS hA [0, 1, 2, 3, 4, 27, 28, 29, 30, 31] [5, 6, 7, 8, 9, 10, 11, 12, 13, 14, 15, 16, 17, 18, 19, 20, 21, 22, 23, 24, 25, 26] rfl rfl (by decide) (by decide) (by decide) (q0 := 0) rfl rfl rfl rfl hl.1 rfl (Nat.le_of_ble_eq_true rfl) dX0_takeBack_5 ⟨Nat.zero_le _, Nat.zero_le _⟩ (fun H locs hP hD hS => ?_)
    have hP := hP.sub (ws' := (cY g ad ((H_S η) 4) ++ cH g ah η)) [22, 23, 24, 25, 26, 0, 1, 2, 3, 4, 5, 6, 7, 8, 9, 10, 11, 12, 13, 14, 15, 16, 17, 18, 19, 20, 21, 27, 28, 29, 30, 31] rfl
    have hD := hD.sub (ws' := (cY g ad ((H_S η) 4) ++ cH g ah η)) [22, 23, 24, 25, 26, 0, 1, 2, 3, 4, 5, 6, 7, 8, 9, 10, 11, 12, 13, 14, 15, 16, 17, 18, 19, 20, 21, 27, 28, 29, 30, 31] (by decide) rfl
    exact wv_ret hC hP (hAe ▸ hD) (hAe ▸ hS) dX0_takeBack_8 (hw _ rfl)
def mX0_settle (η : HS) (x1 : Int32) : Int32 × HS := (if x1 < 0 then (x1, η) else (if 4 ≤ (H_recorded η) then (x1, (H_set_oldest η (((H_oldest η) + 1) - (((H_oldest η) + 1) / 5 * 5)))) else (x1, (H_set_recorded η ((H_recorded η) + 1)))))
def mX0_stepBack (η : HS) (σ : YS) : Int32 × YS × HS := (if (H_recorded η) = 0 then ((-5), σ, η) else ((H_recorded (H_set_recorded η ((H_recorded η) - 1))), (mX0_takeBack (H_set_recorded η ((H_recorded η) - 1))), (H_set_recorded η ((H_recorded η) - 1))))
set_option maxHeartbeats 4000000 in
set_option maxRecDepth 100000 in
theorem k_X0_settle (l : Launch) (g : WG) (ah : AH) (η : HS) (x1 : Int32) : Wr l yX0_settle cX0_settle 2 (some .int) 0 g (cHy g ah η) (cHy g ah (mX0_settle η x1).2) [.ref ah.1, .int x1] (mX0_settle η x1).1 := by
  refine wr_of (by decide) (Nat.le_of_ble_eq_true rfl) ?_
  intro p e s m args below meth c ls A hC hAe hP hD hK hE hA hS hl
  obtain ⟨hx, hb, hml, hr, hown, hts, hlk, hnm⟩ := id hC
  have hl : lv_has ls 2 [(0, .ref ah.1), (1, .int x1)] := hl
  refine lv_iload_n hx hb dX0_settle_0 rfl (lv_at hl 1 rfl) ?_
  refine lv_if_lt (tgt := 37) hx hb dX0_settle_1 (by decide) (fun c_1 => ?_) (fun c_1 => ?_)
  · refine lv_iload_n hx hb dX0_settle_37 rfl (lv_at hl 1 rfl) ?_
    have hm : mX0_settle η x1 = (x1, η) := by unfold mX0_settle; rw [if_pos c_1]
    exact wr_ret hC hP (hAe ▸ hD) (hAe ▸ hS) dX0_settle_38 (by rw [hm]) (by rw [hm])
  · refine lv_aload_n hx hb dX0_settle_4 rfl (lv_at hl 0 rfl) ?_
    refine gt_X0_recorded hC rfl hK hP 0 rfl rfl dX0_settle_5 ?_
    refine lv_iconst (v := 4) hx hb dX0_settle_8 (by decide) ?_
    refine lv_icmp_ge (tgt := 25) hx hb dX0_settle_9 (by decide) (fun c_2 => ?_) (fun c_2 => ?_)
    · refine lv_aload_n hx hb dX0_settle_25 rfl (lv_at hl 0 rfl) ?_
      refine lv_aload_n hx hb dX0_settle_26 rfl (lv_at hl 0 rfl) ?_
      refine gt_X0_oldest hC rfl hK hP 0 rfl rfl dX0_settle_27 ?_
      refine lv_iconst (v := 1) hx hb dX0_settle_30 (by decide) ?_
      refine lv_iadd hx hb dX0_settle_31 ?_
      refine lv_iconst (v := 5) hx hb dX0_settle_32 (by decide) ?_
      refine lv_irem hx hb dX0_settle_33 (by decide) ?_
      refine pt_X0_oldest hC rfl hK hP hD hS 0 rfl (Nat.le_of_ble_eq_true rfl) dX0_settle_34 (fun H locs hP hD hS => ?_)
      have hP : va_P g.1 vwCl (cHy g ah (H_set_oldest η (((H_oldest η) + 1) - (((H_oldest η) + 1) / 5 * 5)))) H := hP
      have hD : va_D A (cHy g ah (H_set_oldest η (((H_oldest η) + 1) - (((H_oldest η) + 1) / 5 * 5)))) := hD
      refine lv_iload_n hx hb dX0_settle_37 rfl (lv_at hl 1 rfl) ?_
      have hm : mX0_settle η x1 = (x1, (H_set_oldest η (((H_oldest η) + 1) - (((H_oldest η) + 1) / 5 * 5)))) := by unfold mX0_settle; rw [if_neg c_1, if_pos c_2]
      exact wr_ret hC hP (hAe ▸ hD) (hAe ▸ hS) dX0_settle_38 (by rw [hm]) (by rw [hm])
    · refine lv_aload_n hx hb dX0_settle_12 rfl (lv_at hl 0 rfl) ?_
      refine lv_dup hx hb dX0_settle_13 rfl ?_
      refine gt_X0_recorded hC rfl hK hP 0 rfl rfl dX0_settle_14 ?_
      refine lv_iconst (v := 1) hx hb dX0_settle_17 (by decide) ?_
      refine lv_iadd hx hb dX0_settle_18 ?_
      refine pt_X0_recorded hC rfl hK hP hD hS 0 rfl (Nat.le_of_ble_eq_true rfl) dX0_settle_19 (fun H locs hP hD hS => ?_)
      have hP : va_P g.1 vwCl (cHy g ah (H_set_recorded η ((H_recorded η) + 1))) H := hP
      have hD : va_D A (cHy g ah (H_set_recorded η ((H_recorded η) + 1))) := hD
      refine lv_goto (tgt := 37) hx hb dX0_settle_22 (by decide) ?_
      refine lv_iload_n hx hb dX0_settle_37 rfl (lv_at hl 1 rfl) ?_
      have hm : mX0_settle η x1 = (x1, (H_set_recorded η ((H_recorded η) + 1))) := by unfold mX0_settle; rw [if_neg c_1, if_neg c_2]
      exact wr_ret hC hP (hAe ▸ hD) (hAe ▸ hS) dX0_settle_38 (by rw [hm]) (by rw [hm])
theorem hok_back {η : HS} (h : HOK η) (c : ¬ (H_recorded η) = 0) : HOK (H_set_recorded η ((H_recorded η) - 1)) := by
  obtain ⟨h1, h2⟩ := h
  obtain ⟨h3, h4⟩ := in_iff.mp h2
  refine ⟨h1, in_iff.mpr ?_⟩
  show 0 ≤ ((H_recorded η) - 1).toInt ∧ ((H_recorded η) - 1).toInt < 5
  have e : (1 : Int32).toInt = 1 := rfl
  have e0 : (0 : Int32).toInt = 0 := rfl
  rw [eq_ti] at c
  rw [ti_sub (by omega) (by omega), e]
  omega
set_option maxHeartbeats 4000000 in
set_option maxRecDepth 100000 in
theorem k_X0_stepBack (l : Launch) (g : WG) (ah : AH) (ad : AY) (η : HS) (σ : YS) (h : HOK η) : Wr l yX0_stepBack cX0_stepBack 2 (some .int) 3 g (cY g ad σ ++ cH g ah η) (cY g ad (mX0_stepBack η σ).2.1 ++ cH g ah (mX0_stepBack η σ).2.2) [.ref ah.1, .ref ad.1] (mX0_stepBack η σ).1 := by
  refine wr_of (by decide) (Nat.le_of_ble_eq_true rfl) ?_
  intro p e s m args below meth c ls A hC hAe hP hD hK hE hA hS hl
  obtain ⟨hx, hb, hml, hr, hown, hts, hlk, hnm⟩ := id hC
  have hl : lv_has ls 2 [(0, .ref ah.1), (1, .ref ad.1)] := hl
  refine lv_aload_n hx hb dX0_stepBack_0 rfl (lv_at hl 0 rfl) ?_
  refine gt_X0_recorded hC rfl hK hP 5 rfl rfl dX0_stepBack_1 ?_
  refine lv_if_ne (tgt := 10) hx hb dX0_stepBack_4 (by decide) (fun c_1 => ?_) (fun c_1 => ?_)
  · refine lv_aload_n hx hb dX0_stepBack_10 rfl (lv_at hl 0 rfl) ?_
    refine lv_dup hx hb dX0_stepBack_11 rfl ?_
    refine gt_X0_recorded hC rfl hK hP 5 rfl rfl dX0_stepBack_12 ?_
    refine lv_iconst (v := 1) hx hb dX0_stepBack_15 (by decide) ?_
    refine lv_isub hx hb dX0_stepBack_16 ?_
    refine pt_X0_recorded hC rfl hK hP hD hS 5 rfl (Nat.le_of_ble_eq_true rfl) dX0_stepBack_17 (fun H locs hP hD hS => ?_)
    have hP : va_P g.1 vwCl (cY g ad σ ++ cH g ah (H_set_recorded η ((H_recorded η) - 1))) H := hP
    have hD : va_D A (cY g ad σ ++ cH g ah (H_set_recorded η ((H_recorded η) - 1))) := hD
    refine lv_aload_n hx hb dX0_stepBack_20 rfl (lv_at hl 0 rfl) ?_
    refine lv_aload_n hx hb dX0_stepBack_21 rfl (lv_at hl 1 rfl) ?_
    refine callWv hC (k_X0_takeBack l g ah ad (H_set_recorded η ((H_recorded η) - 1)) σ (hok_back h c_1)) ci_X0_takeBack lk_X0_33 ⟨Nat.le_of_ble_eq_true rfl, Nat.le_of_ble_eq_true rfl⟩ hP hD hK hE hS hA (q0 := 5) rfl rfl rfl rfl hl.1 rfl (Nat.le_of_ble_eq_true rfl) dX0_stepBack_22 ⟨Nat.zero_le _, Nat.zero_le _⟩ (fun H locs hP _ hD hS _ _ => ?_)
    refine lv_aload_n hx hb dX0_stepBack_25 rfl (lv_at hl 0 rfl) ?_
    refine gt_X0_recorded hC rfl hK hP 5 rfl rfl dX0_stepBack_26 ?_
    have hm : mX0_stepBack η σ = ((H_recorded (H_set_recorded η ((H_recorded η) - 1))), (mX0_takeBack (H_set_recorded η ((H_recorded η) - 1))), (H_set_recorded η ((H_recorded η) - 1))) := by unfold mX0_stepBack; rw [if_neg c_1]
    exact wr_ret hC hP (hAe ▸ hD) (hAe ▸ hS) dX0_stepBack_29 (by rw [hm]) (by rw [hm])
  · refine lv_bipush (v := (-5)) hx hb dX0_stepBack_7 (by decide) ?_
    have hm : mX0_stepBack η σ = ((-5), σ, η) := by unfold mX0_stepBack; rw [if_pos c_1]
    exact wr_ret hC hP (hAe ▸ hD) (hAe ▸ hS) dX0_stepBack_9 (by rw [hm]) (by rw [hm])
