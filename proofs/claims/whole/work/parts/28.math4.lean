/-! what a change of one boat does to the relation -/
theorem FY_note {σ : YS} {k w j u : Nat} (hk : k < 20) (hw : w < 11) (hu : u < 11) (v : Int32) : FY (mX2_note σ (nI k) (nI w) v) j u = if j = k ∧ u = w then v else FY σ j u := by
  show upd (Y_facts σ) ((nI k * 11) + nI w).toNatClampNeg v (j * 11 + u) = _
  rw [ixf hk hw]
  unfold upd
  by_cases c : j = k ∧ u = w
  · rw [if_pos c, if_pos (by rw [c.1, c.2])]
  · rw [if_neg c, if_neg (fun e => c (by omega))]
theorem ZB_put {τ : MS} {k w j u : Nat} (hk : k < 20) (hw : w < 12) (hu : u < 12) (v : Int32) : ZB (M_z (mX4_put τ (nI k) (nI w) v)) j u = if j = k ∧ u = w then v else ZB (M_z τ) j u := by
  show upd (M_z τ) ((15 + (12 * nI k)) + nI w).toNatClampNeg v (15 + 12 * j + u) = _
  rw [ixz hk hw]
  unfold upd
  by_cases c : j = k ∧ u = w
  · rw [if_pos c, if_pos (by rw [c.1, c.2])]
  · rw [if_neg c, if_neg (fun e => c (by omega))]
theorem Z_put {τ : MS} {k w i : Nat} (hk : k < 20) (hw : w < 12) (hi : i < 15) (v : Int32) : M_z (mX4_put τ (nI k) (nI w) v) i = M_z τ i := by
  show upd (M_z τ) ((15 + (12 * nI k)) + nI w).toNatClampNeg v i = _
  rw [ixz hk hw]
  unfold upd
  rw [if_neg (by omega)]
theorem ZB_hd {z : Nat → Int32} {n : Nat} (hn : n < 15) (v : Int32) {j u : Nat} : ZB (upd z n v) j u = ZB z j u := by
  show upd z n v (15 + 12 * j + u) = _
  unfold upd
  rw [if_neg (by omega)]
theorem RB.congr {F F' Z Z' : Nat → Int32} {D : Int} (hF : ∀ w, w < 11 → F' w = F w) (hZ : ∀ w, w < 12 → Z' w = Z w) (h : RB F Z D) : RB F' Z' D := by
  unfold RB RN RE RG RS at h ⊢
  rw [hF 0 (by decide), hF 1 (by decide), hF 2 (by decide), hF 3 (by decide), hF 4 (by decide), hF 5 (by decide), hF 6 (by decide), hF 7 (by decide), hF 8 (by decide), hF 9 (by decide), hF 10 (by decide),
    hZ 0 (by decide), hZ 1 (by decide), hZ 2 (by decide), hZ 3 (by decide), hZ 4 (by decide), hZ 5 (by decide), hZ 6 (by decide), hZ 7 (by decide), hZ 8 (by decide), hZ 9 (by decide), hZ 10 (by decide)]
  exact h
theorem RB.mono {F Z : Nat → Int32} {D D' : Int} (h : RB F Z D) (hD : D ≤ D') : RB F Z D' := by
  rcases h with a | ⟨a, b, g, d⟩
  · exact Or.inl a
  · refine Or.inr ⟨a, b, ?_, d⟩
    obtain ⟨g1, g2, g3, g4, g5, g6, g7⟩ := g
    exact ⟨g1, g2, g3, g4, g5, g6, g7.1, by omega⟩
theorem RH.congr {σ : YS} {z z' : Nat → Int32} (h : RH σ z) (hz : ∀ i, i < 15 → i ≠ 7 → z' i = z i) : RH σ z' := by
  obtain ⟨h1, h2, h3, h4, h5, h6, h7⟩ := h
  unfold RH
  rw [hz 0 (by decide) (by decide), hz 1 (by decide) (by decide), hz 5 (by decide) (by decide), hz 6 (by decide) (by decide), hz 2 (by decide) (by decide), hz 3 (by decide) (by decide), hz 4 (by decide) (by decide)]
  refine ⟨h1, h2, h3, h4, h5, fun k hk => ?_, fun k hk => ?_⟩
  · rw [hz (8 + k) (by omega) (by omega)]; exact h6 k hk
  · rw [hz (11 + k) (by omega) (by omega)]; exact h7 k hk
/-- k is in front of nobody: it may leave -/
def CL (z : Nat → Int32) (k : Nat) : Prop := ∀ j, j < 20 → j ≠ k → ZB z j 0 = 1 → 0 ≤ (ZB z j 5).toInt → ¬ bef z j k
theorem CL.hid {z : Nat → Int32} {k : Nat} (h : ¬ (ZB z k 0 = 1 ∧ 0 ≤ (ZB z k 5).toInt)) : CL z k := fun j _ _ _ h5 c => h ⟨c.1, by rw [c.2.1]; exact h5⟩
theorem RP.same {σ σ' : YS} {z z' : Nat → Int32} {t : Nat} (h : RP σ z t) (hF : ∀ j, j < 20 → FY σ' j 5 = FY σ j 5) (h0 : ∀ j, j < 20 → ZB z' j 0 = ZB z j 0) (h5 : ∀ j, j < 20 → ZB z' j 5 = ZB z j 5) (h11 : ∀ j, j < 20 → ZB z' j 11 = ZB z j 11) : RP σ' z' t := by
  intro k hk b0 b5
  rw [h0 k hk] at b0
  rw [h5 k hk] at b5
  obtain ⟨p1, p2, p3⟩ := h k hk b0 b5
  refine ⟨?_, ?_, fun j hj hne j0 j5 => ?_⟩
  · rw [hF k hk, p1]
    congr 1
    refine ct_congr fun i hi => ?_
    unfold bef
    rw [h0 i hi, h5 i hi, h11 i hi, h5 k hk, h11 k hk]
  · rw [h11 k hk]; exact p2
  · rw [h11 j hj, h11 k hk]
    rw [h0 j hj] at j0
    rw [h5 j hj, h5 k hk] at j5
    exact p3 j hj hne j0 j5
theorem RP.up {σ : YS} {z : Nat → Int32} {t t' : Nat} (h : RP σ z t) (ht : t ≤ t') : RP σ z t' := by
  intro k hk b0 b5
  obtain ⟨p1, p2, p3⟩ := h k hk b0 b5
  exact ⟨p1, ⟨p2.1, by omega⟩, p3⟩
section ONE
variable {σ σ' : YS} {z z' : Nat → Int32} {t : Nat} {k : Nat}
/-- the others, where k changes -/
theorem RP.other (h : RP σ z t) (hF : ∀ j, j < 20 → j ≠ k → FY σ' j 5 = FY σ j 5) (h0 : ∀ j, j < 20 → j ≠ k → ZB z' j 0 = ZB z j 0) (h5 : ∀ j, j < 20 → j ≠ k → ZB z' j 5 = ZB z j 5) (h11 : ∀ j, j < 20 → j ≠ k → ZB z' j 11 = ZB z j 11) (hC : CL z k) (hC' : CL z' k) {j : Nat} (hj : j < 20) (hjk : j ≠ k) (b0 : ZB z' j 0 = 1) (b5 : 0 ≤ (ZB z' j 5).toInt) :
    FY σ' j 5 = nI (ct (bef z' j) 20) ∧ (0 ≤ (ZB z' j 11).toInt ∧ (ZB z' j 11).toInt < t) ∧ ∀ i, i < 20 → i ≠ j → i ≠ k → ZB z' i 0 = 1 → ZB z' i 5 = ZB z' j 5 → ZB z' i 11 ≠ ZB z' j 11 := by
  have n1 := hC' j hj hjk b0 b5
  have c0 := b0
  have c5 := b5
  rw [h0 j hj hjk] at c0
  rw [h5 j hj hjk] at c5
  have n2 := hC j hj hjk c0 c5
  obtain ⟨p1, p2, p3⟩ := h j hj c0 c5
  refine ⟨?_, ?_, fun i hi hne hik i0 i5 => ?_⟩
  · rw [hF j hj hjk, p1]
    congr 1
    refine ct_congr fun i hi => ?_
    by_cases e : i = k
    · subst e
      exact ⟨fun c => absurd c n2, fun c => absurd c n1⟩
    · unfold bef
      rw [h0 i hi e, h5 i hi e, h11 i hi e, h5 j hj hjk, h11 j hj hjk]
  · rw [h11 j hj hjk]; exact p2
  · rw [h11 i hi hik, h11 j hj hjk]
    rw [h0 i hi hik] at i0
    rw [h5 i hi hik, h5 j hj hjk] at i5
    exact p3 i hi hne i0 i5
theorem RP.hide (h : RP σ z t) (hF : ∀ j, j < 20 → j ≠ k → FY σ' j 5 = FY σ j 5) (h0 : ∀ j, j < 20 → j ≠ k → ZB z' j 0 = ZB z j 0) (h5 : ∀ j, j < 20 → j ≠ k → ZB z' j 5 = ZB z j 5) (h11 : ∀ j, j < 20 → j ≠ k → ZB z' j 11 = ZB z j 11) (hC : CL z k) (hh : ¬ (ZB z' k 0 = 1 ∧ 0 ≤ (ZB z' k 5).toInt)) : RP σ' z' t := by
  intro j hj b0 b5
  have hjk : j ≠ k := fun e => by subst e; exact hh ⟨b0, b5⟩
  obtain ⟨p1, p2, p3⟩ := h.other hF h0 h5 h11 hC (CL.hid hh) hj hjk b0 b5
  refine ⟨p1, p2, fun i hi hne i0 i5 => p3 i hi hne (fun e => ?_) i0 i5⟩
  subst e
  exact hh ⟨i0, by rw [i5]; exact b5⟩
theorem RP.stand (h : RP σ z t) (ht : t < 2 ^ 31) (hk : k < 20) (hF : ∀ j, j < 20 → j ≠ k → FY σ' j 5 = FY σ j 5) (h0 : ∀ j, j < 20 → j ≠ k → ZB z' j 0 = ZB z j 0) (h5 : ∀ j, j < 20 → j ≠ k → ZB z' j 5 = ZB z j 5) (h11 : ∀ j, j < 20 → j ≠ k → ZB z' j 11 = ZB z j 11) (hC : CL z k) {r : Int32} (hr : 0 ≤ r.toInt) (e5 : ZB z' k 5 = r) (e11 : ZB z' k 11 = nI t) (hn : ¬ inrw z r k) (ef : FY σ' k 5 = nI (ct (inrw z r) 20)) : RP σ' z' (t + 1) := by
  have lt : ∀ j, j < 20 → j ≠ k → ZB z j 0 = 1 → 0 ≤ (ZB z j 5).toInt → (ZB z j 11).toInt < t := fun j hj _ j0 j5 => (h j hj j0 j5).2.1.2
  have hC' : CL z' k := by
    intro j hj hjk b0 b5 c
    have c0 := b0
    have c5 := b5
    rw [h0 j hj hjk] at c0
    rw [h5 j hj hjk] at c5
    have l := lt j hj hjk c0 c5
    have l2 := c.2.2
    rw [e11, h11 j hj hjk, lt_ti, nI_ti ht] at l2
    omega
  intro j hj b0 b5
  by_cases hjk : j = k
  · subst hjk
    refine ⟨?_, ?_, fun i hi hne i0 i5 c => ?_⟩
    · rw [ef]
      congr 1
      refine ct_congr fun i hi => ?_
      by_cases e : i = j
      · subst e
        exact ⟨fun c => absurd c hn, fun c => absurd c.2.2 (by rw [lt_ti]; omega)⟩
      · unfold bef inrw
        rw [e5, h0 i hi e, h5 i hi e, h11 i hi e, e11]
        refine ⟨fun c => ⟨c.1, c.2, ?_⟩, fun c => ⟨c.1, c.2.1⟩⟩
        rw [lt_ti, nI_ti ht]
        exact lt i hi e c.1 (by rw [c.2]; exact hr)
    · rw [e11, nI_ti ht]; omega
    · rw [h0 i hi hne] at i0
      have i5' := i5
      rw [h5 i hi hne, e5] at i5'
      have l := lt i hi hne i0 (by rw [i5']; exact hr)
      rw [h11 i hi hne, e11] at c
      rw [c, nI_ti ht] at l
      omega
  · obtain ⟨p1, p2, p3⟩ := h.other hF h0 h5 h11 hC hC' hj hjk b0 b5
    refine ⟨p1, ⟨p2.1, by omega⟩, fun i hi hne i0 i5 => ?_⟩
    by_cases e : i = k
    · subst e
      intro c
      have j0 := b0
      have j5 := b5
      rw [h0 j hj hjk] at j0
      rw [h5 j hj hjk] at j5
      have l := lt j hj hjk j0 j5
      rw [e11, h11 j hj hjk] at c
      rw [← c, nI_ti ht] at l
      omega
    · exact p3 i hi hne e i0 i5
end ONE
/-- nobody farther out: k may leave -/
theorem CL.of {τ : MS} {k : Nat} (hk : k < 20) (hb : ZB (M_z τ) k 0 = 1) (h : ¬ 0 < mX4_blockersOf τ (nI k)) : CL (M_z τ) k := by
  intro j hj hjk j0 j5 c
  refine h ?_
  unfold mX4_blockersOf
  rw [zo5 hk, pl4_sm hk, bi4_sm, sm_ct (p := inrw (M_z τ) (ZB (M_z τ) k 5)) (fun i _ => rfl)]
  have e := ct_add (p := inrw (M_z τ) (ZB (M_z τ) k 5)) (q := bef (M_z τ) k) (r := fun i => inrw (M_z τ) (ZB (M_z τ) k 5) i ∧ ¬ ZB (M_z τ) i 11 < ZB (M_z τ) k 11) (n := 20) (fun i _ => by
      constructor
      · intro q
        by_cases l : ZB (M_z τ) i 11 < ZB (M_z τ) k 11
        · exact Or.inl ⟨q.1, q.2, l⟩
        · exact Or.inr ⟨q, l⟩
      · rintro (q | q)
        · exact ⟨q.1, q.2.1⟩
        · exact q.1) (fun i _ q => q.2.2 q.1.2.2)
  have e2 := ct_two (p := fun i => inrw (M_z τ) (ZB (M_z τ) k 5) i ∧ ¬ ZB (M_z τ) i 11 < ZB (M_z τ) k 11) (n := 20) hk hj (fun q => hjk q.symm) ⟨⟨hb, rfl⟩, by rw [lt_ti]; omega⟩ ⟨⟨j0, c.2.1.symm⟩, by have := c.2.2; rw [lt_ti] at this ⊢; omega⟩
  have l1 := ct_le (p := inrw (M_z τ) (ZB (M_z τ) k 5)) 20
  have l2 := ct_le (p := bef (M_z τ) k) 20
  generalize ct (inrw (M_z τ) (ZB (M_z τ) k 5)) 20 = a at *
  generalize ct (bef (M_z τ) k) 20 = b at *
  have s1 : (nI a - 1).toInt = (a : Int) - 1 := by
    rw [ti_sub (by rw [nI_ti (by omega)]; show _ ≤ (a : Int) - 1; omega) (by rw [nI_ti (by omega)]; show (a : Int) - 1 < _; omega), nI_ti (by omega)]
    rfl
  rw [lt_ti, ti_sub (by rw [s1, nI_ti (by omega)]; omega) (by rw [s1, nI_ti (by omega)]; omega), s1, nI_ti (by omega)]
  show (0 : Int) < _
  omega
/-- a new relation, where one boat and the head change -/
theorem rel_mk {σ σ' : YS} {z z' : Nat → Int32} {T T' t' k : Nat} (h : RelY σ z T) (hH : RH σ' z') (hd : (z 0).toInt ≤ (z' 0).toInt) (ht : RT z' T' t') (hF : ∀ j, j < 20 → j ≠ k → ∀ w, w < 11 → FY σ' j w = FY σ j w) (hZ : ∀ j, j < 20 → j ≠ k → ∀ w, w < 12 → ZB z' j w = ZB z j w) (hB : RB (FY σ' k) (ZB z' k) (z' 0).toInt) (hP : RP σ' z' t') : RelY σ' z' T' := by
  refine ⟨hH, ⟨t', ht, hP⟩, fun j hj => ?_⟩
  by_cases e : j = k
  · subst e; exact hB
  · exact ((h.2.2 j hj).congr (hF j hj e) (hZ j hj e)).mono hd
theorem RelY.up {σ : YS} {z : Nat → Int32} {T T' : Nat} (h : RelY σ z T) (hT : T ≤ T') : RelY σ z T' := by
  obtain ⟨h1, ⟨t, ⟨h2, h3⟩, h4⟩, h5⟩ := h
  exact ⟨h1, ⟨t, ⟨h2, Nat.le_trans h3 hT⟩, h4⟩, h5⟩
theorem RelY.zcongr {σ : YS} {z z' : Nat → Int32} {T : Nat} (h : RelY σ z T) (hz : ∀ i, i < 255 → z' i = z i) : RelY σ z' T := by
  obtain ⟨h1, ⟨t, ⟨h2, h3⟩, h4⟩, h5⟩ := h
  have hb : ∀ j, j < 20 → ∀ w, w < 12 → ZB z' j w = ZB z j w := fun j hj w hw => hz _ (by omega)
  refine ⟨h1.congr (fun i hi _ => hz i (by omega)), ⟨t, ⟨by rw [hz 7 (by decide)]; exact h2, h3⟩, h4.same (fun _ _ => rfl) (fun j hj => hb j hj 0 (by decide)) (fun j hj => hb j hj 5 (by decide)) (fun j hj => hb j hj 11 (by decide))⟩, fun k hk => ?_⟩
  rw [hz 0 (by decide)]
  exact (h5 k hk).congr (fun _ _ => rfl) (hb k hk)
