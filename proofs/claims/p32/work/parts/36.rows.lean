/-! the premises of the law's methods out of the relation; what a change of one boat does -/
def RV (σ : VS) (T : Nat) : Prop := (∃ n q, RelQ (W_yard σ.1) σ.2 T n q) ∧ HOK (W_hist σ.1)
def Good (r : Int32 × VS) (T : Nat) : Prop := r.1 = 1 ∧ RV r.2 T
section PRE
variable {Y : YS} {γ : LAS} {T : Nat} {n : Nat → Nat} {q : Nat → Nat → Nat}
theorem kn_get2 (h : RelQ Y γ T n q) {x : Int32} (c : ¬ mX2_knows Y x = 0) : ∃ k, k < 6 ∧ x = nI k ∧ ¬ BB (L_b γ) k 0 = 0 := by
  obtain ⟨k, hk, rfl⟩ := vp_in_of (in_X2_knows c) (by decide)
  by_cases h6 : k < 6
  · refine ⟨k, h6, rfl, fun h0 => c ?_⟩
    rw [rd_kn h h6, if_pos h0]
  · refine absurd ?_ c
    unfold mX2_knows
    rw [if_neg (within_ne (k := 19) rfl (vp_in_nI (show k < 19 + 1 by omega) (by decide))), fa0 hk, h.2.2.1.2.1 k (by omega) hk 0 (by decide), if_pos rfl]
theorem keel_ok (h : RelQ Y γ T n q) : KeelOK Y := fun b hb => by
  obtain ⟨k, hk, rfl, h0⟩ := kn_get2 h hb
  obtain ⟨pE, pV, pM, pS⟩ := rq_p h hk h0
  obtain ⟨c, hc, e⟩ := (h.2.2.1.1 k hk).1
  rw [fa3 (by omega), show FY Y k 3 = _ from pE.2.2.2.1, e]
  exact vp_in_nI hc (by decide)
theorem work_ok (h : RelQ Y γ T n q) : WorkOK Y := fun b hb => by
  obtain ⟨k, hk, rfl, h0⟩ := kn_get2 h hb
  obtain ⟨pE, pV, pM, pS⟩ := rq_p h hk h0
  rw [fa8 (by omega), show FY Y k 8 = _ from pE.2.2.2.2.1]
  exact pV.2.2.2.1
theorem vok_of {σ : VS} (h : RelQ (W_yard σ.1) σ.2 T n q) : VOK σ := by
  refine ⟨keel_ok h, work_ok h, fun i vi => ?_, fun k vk => ?_, fun k vk h0 h5 => ?_⟩
  · obtain ⟨i, hi, rfl⟩ := vp_in_of vi (by decide)
    obtain ⟨a1, a2, a3⟩ := h.2.1 i hi
    refine ⟨?_, fun k k1 k6 => ?_⟩
    · rw [ixr0 hi, show L_r σ.2 (7 * i + 0) = _ from a2]
      exact vp_in_nI (by omega) (by decide)
    · obtain ⟨j, hj, rfl⟩ := vp_in_of (in_iff.mpr (show 0 ≤ k.toInt ∧ k.toInt < ((7 : Nat) : Int) by omega)) (by decide)
      rw [nI_ti (by omega)] at k1
      obtain ⟨m, rfl⟩ : ∃ m, j = m + 1 := ⟨j - 1, by omega⟩
      obtain ⟨q1, q2⟩ := a3 m (by omega)
      rw [ixr hi hj, show L_r σ.2 (7 * i + (m + 1)) = _ from q2]
      exact vp_in_nI q1 (by decide)
  · obtain ⟨k, hk, rfl⟩ := vp_in_of vk (by decide)
    obtain ⟨c, hc, e⟩ := (h.2.2.1.1 k hk).1
    rw [lo4 hk, e]
    exact vp_in_nI hc (by decide)
  · obtain ⟨k, hk, rfl⟩ := vp_in_of vk (by decide)
    rw [lo0 hk] at h0
    rw [lo5 hk] at h5
    obtain ⟨i, j, hi, hj, e, e1, e2, e3, hn⟩ := rd_at h hk h0 h5
    have h5' : mL_of σ.2 (nI k) 5 = nI i := (lo5 hk).trans e1
    refine ⟨by rw [h5']; exact vp_in_nI hi (by decide), nI j, vp_in_nI (by omega) (by decide), ?_⟩
    rw [h5', ixr1 hi (by omega), show L_r σ.2 (7 * i + (j + 1)) = _ from ((h.2.1 i hi).2.2 j (by omega)).2, e]
theorem fre_of (h : RelQ Y γ T n q) : FRE γ := fun k i vk vi h0 h5 => by
  obtain ⟨k, hk, rfl⟩ := vp_in_of vk (by decide)
  obtain ⟨i, hi, rfl⟩ := vp_in_of vi (by decide)
  rw [lo5 hk] at h5
  rw [ixr0 hi, show L_r γ (7 * i + 0) = _ from (h.2.1 i hi).2.1]
  have := rd_n5 h.2.1 h.2.2.1 hi hk h5
  exact vp_in_nI (by omega) (by decide)
end PRE
theorem QB.congr {F F' Z Z' : Nat → Int32} {t t' : Int32} (h : QB F Z t) (hF : ∀ w, w < 11 → F' w = F w) (hZ : ∀ w, w < 10 → Z' w = Z w) (ht : t' = t) : QB F' Z' t' := by
  unfold QB QK QN QE QV QM QS at h ⊢
  rw [hF 0 (by decide), hF 1 (by decide), hF 2 (by decide), hF 3 (by decide), hF 4 (by decide), hF 5 (by decide), hF 6 (by decide), hF 7 (by decide), hF 8 (by decide), hF 9 (by decide), hF 10 (by decide),
    hZ 0 (by decide), hZ 1 (by decide), hZ 2 (by decide), hZ 3 (by decide), hZ 4 (by decide), hZ 5 (by decide), hZ 6 (by decide), hZ 7 (by decide), hZ 8 (by decide), hZ 9 (by decide), ht]
  rcases h with ⟨h1, h2 | h2⟩
  · exact ⟨h1, Or.inl ⟨h2.1, fun w hw => (hF w hw).trans (h2.2 w hw)⟩⟩
  · exact ⟨h1, Or.inr h2⟩
/-- the rows alone -/
def QW (F B : Nat → Nat → Int32) (n : Nat → Nat) (q : Nat → Nat → Nat) : Prop := (∀ i, i < 4 → ∀ j, j < n i → q i j < 6 ∧ B (q i j) 0 = 1 ∧ B (q i j) 5 = nI i ∧ F (q i j) 5 = nI j) ∧ (∀ k, k < 6 → B k 0 = 1 → ∀ i, i < 4 → B k 5 = nI i → ∃ j, j < n i ∧ q i j = k)
/-- k is in no row -/
def OutB (B : Nat → Nat → Int32) (k : Nat) : Prop := ¬ (B k 0 = 1 ∧ ∃ i, i < 4 ∧ B k 5 = nI i)
section QWS
variable {F F' B B' : Nat → Nat → Int32} {t t' : Nat → Int32} {n : Nat → Nat} {q : Nat → Nat → Nat} {k i : Nat}
theorem QW.same (h : QW F B n q) (h0 : ∀ j, j < 6 → B' j 0 = B j 0) (h5 : ∀ j, j < 6 → B' j 5 = B j 5) (hF : ∀ j, j < 6 → F' j 5 = F j 5) : QW F' B' n q := by
  refine ⟨fun i hi j hj => ?_, fun k hk e0 i hi e5 => ?_⟩
  · obtain ⟨a, b, c, d⟩ := h.1 i hi j hj
    exact ⟨a, (h0 _ a).trans b, (h5 _ a).trans c, (hF _ a).trans d⟩
  · exact h.2 k hk ((h0 k hk).symm.trans e0) i hi ((h5 k hk).symm.trans e5)
theorem QW.out (h : QW F B n q) (h0 : ∀ j, j < 6 → j ≠ k → B' j 0 = B j 0) (h5 : ∀ j, j < 6 → j ≠ k → B' j 5 = B j 5) (hF : ∀ j, j < 6 → j ≠ k → F' j 5 = F j 5) (o : OutB B k) (o' : OutB B' k) : QW F' B' n q := by
  refine ⟨fun i hi j hj => ?_, fun a ha e0 i hi e5 => ?_⟩
  · obtain ⟨a, b, c, d⟩ := h.1 i hi j hj
    have hne : q i j ≠ k := fun e => by
      rw [e] at b c
      exact o ⟨b, i, hi, c⟩
    exact ⟨a, (h0 _ a hne).trans b, (h5 _ a hne).trans c, (hF _ a hne).trans d⟩
  · have hne : a ≠ k := fun e => by
      subst e
      exact o' ⟨e0, i, hi, e5⟩
    exact h.2 a ha ((h0 a ha hne).symm.trans e0) i hi ((h5 a ha hne).symm.trans e5)
def nUp (n : Nat → Nat) (i : Nat) : Nat → Nat := fun a => if a = i then n i + 1 else n a
def nDn (n : Nat → Nat) (i : Nat) : Nat → Nat := fun a => if a = i then n i - 1 else n a
def qUp (q : Nat → Nat → Nat) (n : Nat → Nat) (i k : Nat) : Nat → Nat → Nat := fun a b => if a = i ∧ b = n i then k else q a b
theorem QW.stand (h : QW F B n q) (hk : k < 6) (hi : i < 4) (h0 : ∀ j, j < 6 → j ≠ k → B' j 0 = B j 0) (h5 : ∀ j, j < 6 → j ≠ k → B' j 5 = B j 5) (hF : ∀ j, j < 6 → j ≠ k → F' j 5 = F j 5) (o : OutB B k) (k0 : B' k 0 = 1) (k5 : B' k 5 = nI i) (kF : F' k 5 = nI (n i)) : QW F' B' (nUp n i) (qUp q n i k) := by
  refine ⟨fun a ha j hj => ?_, fun b hb e0 a ha e5 => ?_⟩
  · by_cases e : a = i ∧ j = n i
    · have hq : qUp q n i k a j = k := if_pos e
      rw [hq]
      exact ⟨hk, k0, by rw [k5, e.1], by rw [kF, e.2]⟩
    · have hq : qUp q n i k a j = q a j := if_neg e
      have hj2 : j < n a := by
        unfold nUp at hj
        by_cases c : a = i
        · rw [if_pos c] at hj
          subst c
          have : j ≠ n a := fun z => e ⟨rfl, z⟩
          omega
        · rw [if_neg c] at hj
          exact hj
      obtain ⟨x, y, z, w⟩ := h.1 a ha j hj2
      have hne : q a j ≠ k := fun e => by
        rw [e] at y z
        exact o ⟨y, a, ha, z⟩
      rw [hq]
      exact ⟨x, (h0 _ x hne).trans y, (h5 _ x hne).trans z, (hF _ x hne).trans w⟩
  · by_cases e : b = k
    · subst e
      have : a = i := (nI_eq (by omega) (by omega)).mp (e5.symm.trans k5)
      subst this
      refine ⟨n a, ?_, if_pos ⟨rfl, rfl⟩⟩
      unfold nUp
      rw [if_pos rfl]
      omega
    · obtain ⟨j, hj, ej⟩ := h.2 b hb ((h0 b hb e).symm.trans e0) a ha ((h5 b hb e).symm.trans e5)
      refine ⟨j, ?_, ?_⟩
      · unfold nUp
        by_cases c : a = i
        · rw [if_pos c]; subst c; omega
        · rw [if_neg c]; exact hj
      · show (if a = i ∧ j = n i then k else q a j) = b
        rw [if_neg (fun c => by rw [c.1] at hj; omega), ej]
theorem QW.leave (h : QW F B n q) (hi : i < 4) (hn : ∀ a, a < 4 → n a ≤ 6) (h0 : ∀ j, j < 6 → j ≠ k → B' j 0 = B j 0) (h5 : ∀ j, j < 6 → j ≠ k → B' j 5 = B j 5) (hF : ∀ j, j < 6 → j ≠ k → F' j 5 = F j 5) {j : Nat} (hj : j < n i) (hl : n i ≤ j + 1) (hq : q i j = k) (o : OutB B' k) : QW F' B' (nDn n i) q := by
  obtain ⟨p1, p2, p3, p4⟩ := h.1 i hi j hj
  rw [hq] at p1 p2 p3 p4
  refine ⟨fun a ha b hb => ?_, fun c hc e0 a ha e5 => ?_⟩
  · have hb2 : b < n a ∧ (a = i → b < j) := by
      unfold nDn at hb
      by_cases c : a = i
      · rw [if_pos c] at hb
        subst c
        exact ⟨by omega, fun _ => by omega⟩
      · rw [if_neg c] at hb
        exact ⟨hb, fun z => absurd z c⟩
    obtain ⟨x, y, z, w⟩ := h.1 a ha b hb2.1
    have hne : q a b ≠ k := fun e => by
      rw [e] at z w
      have : a = i := (nI_eq (by omega) (by omega)).mp (z.symm.trans p3)
      subst this
      have h6 := hn a ha
      have := (nI_eq (by omega) (by omega)).mp (w.symm.trans p4)
      have := hb2.2 rfl
      omega
    exact ⟨x, (h0 _ x hne).trans y, (h5 _ x hne).trans z, (hF _ x hne).trans w⟩
  · have hne : c ≠ k := fun e => by
      subst e
      exact o ⟨e0, a, ha, e5⟩
    obtain ⟨b, hb, eb⟩ := h.2 c hc ((h0 c hc hne).symm.trans e0) a ha ((h5 c hc hne).symm.trans e5)
    refine ⟨b, ?_, eb⟩
    unfold nDn
    by_cases z : a = i
    · rw [if_pos z]
      subst z
      have : b ≠ j := fun e => by
        subst e
        exact hne (eb.symm.trans hq)
      omega
    · rw [if_neg z]
      exact hb
/-- the relation's boats, where one boat changes -/
theorem QY.mk1 (h : QY F B t n q) (oF : ∀ j, j < 20 → j ≠ k → ∀ w, w < 11 → F' j w = F j w) (oB : ∀ j, j < 6 → j ≠ k → ∀ w, w < 10 → B' j w = B j w) (ot : ∀ j, j < 6 → j ≠ k → t' j = t j) (hk : k < 6) (hb : QB (F' k) (B' k) (t' k)) {n' : Nat → Nat} {q' : Nat → Nat → Nat} (hw : QW F' B' n' q') : QY F' B' t' n' q' := by
  refine ⟨fun j hj => ?_, fun j a b w hw => ?_, hw.1, hw.2⟩
  · by_cases e : j = k
    · subst e; exact hb
    · exact (h.1 j hj).congr (oF j (by omega) e) (oB j hj e) (ot j hj e)
  · rw [oF j b (by omega) w hw]
    exact h.2.1 j a b w hw
theorem QY.w (h : QY F B t n q) : QW F B n q := ⟨h.2.2.1, h.2.2.2⟩
end QWS
section QRS
variable {r r' : Nat → Int32} {n : Nat → Nat} {q : Nat → Nat → Nat} {k i : Nat}
theorem QR.stand (h : QR r n q) (hi : i < 4) (hn : n i ≤ 5) (hk : k < 6) (hr : ∀ a, a < 4 → ∀ c, c < 7 → RR r' a c = if a = i ∧ c = n i + 1 then nI k else if a = i ∧ c = 0 then nI (n i + 1) else RR r a c) : QR r' (nUp n i) (qUp q n i k) := by
  intro a ha
  obtain ⟨h1, h2, h3⟩ := h a ha
  refine ⟨?_, ?_, fun j hj => ?_⟩
  · unfold nUp
    by_cases c : a = i
    · rw [if_pos c]; omega
    · rw [if_neg c]; exact h1
  · rw [hr a ha 0 (by decide), if_neg (fun c => by omega)]
    unfold nUp
    by_cases c : a = i
    · rw [if_pos ⟨c, rfl⟩, if_pos c]
    · rw [if_neg (fun z => c z.1), if_neg c]; exact h2
  · rw [hr a ha (j + 1) (by omega)]
    unfold qUp
    by_cases c : a = i ∧ j = n i
    · rw [if_pos c, if_pos ⟨c.1, by rw [c.2]⟩]; exact ⟨hk, rfl⟩
    · rw [if_neg c, if_neg (fun z => c ⟨z.1, by omega⟩), if_neg (fun z => by omega)]; exact h3 j hj
theorem QR.leave (h : QR r n q) (hi : i < 4) (h0 : 0 < n i) (hr : ∀ a, a < 4 → ∀ c, c < 7 → RR r' a c = if a = i ∧ c = 0 then nI (n i - 1) else RR r a c) : QR r' (nDn n i) q := by
  intro a ha
  obtain ⟨h1, h2, h3⟩ := h a ha
  refine ⟨?_, ?_, fun j hj => ?_⟩
  · unfold nDn
    by_cases c : a = i
    · rw [if_pos c]; subst c; omega
    · rw [if_neg c]; exact h1
  · rw [hr a ha 0 (by decide)]
    unfold nDn
    by_cases c : a = i
    · rw [if_pos ⟨c, rfl⟩, if_pos c]
    · rw [if_neg (fun z => c z.1), if_neg c]; exact h2
  · rw [hr a ha (j + 1) (by omega), if_neg (fun z => by omega)]; exact h3 j hj
end QRS
