/-! numbers in range -/
theorem in_iff {x : Int32} {n : Nat} : vp_in x n ↔ 0 ≤ x.toInt ∧ x.toInt < n := vp_in_iff
theorem in_mono {x : Int32} {n k : Nat} (h : vp_in x n) (hk : n ≤ k) : vp_in x k := in_iff.mpr ⟨(in_iff.mp h).1, by have := (in_iff.mp h).2; omega⟩
theorem ti_rng (x : Int32) : -2147483648 ≤ x.toInt ∧ x.toInt < 2147483648 := ⟨Int32.le_toInt x, Int32.toInt_lt x⟩
theorem ti_bmod {z : Int} (h1 : -2147483648 ≤ z) (h2 : z < 2147483648) : z.bmod (2 ^ 32) = z := by
  rw [Int.bmod_def]
  have e : ((2 ^ 32 : Nat) : Int) = 4294967296 := rfl
  rw [e]
  rcases Int.lt_or_le z 0 with h | h
  · rw [if_neg (by omega)]; omega
  · rw [if_pos (by omega)]; omega
theorem ti_add {x y : Int32} (h1 : -2147483648 ≤ x.toInt + y.toInt) (h2 : x.toInt + y.toInt < 2147483648) : (x + y).toInt = x.toInt + y.toInt := by rw [Int32.toInt_add]; exact ti_bmod h1 h2
theorem ti_sub {x y : Int32} (h1 : -2147483648 ≤ x.toInt - y.toInt) (h2 : x.toInt - y.toInt < 2147483648) : (x - y).toInt = x.toInt - y.toInt := by rw [Int32.toInt_sub]; exact ti_bmod h1 h2
theorem ti_mul {x y : Int32} (h1 : -2147483648 ≤ x.toInt * y.toInt) (h2 : x.toInt * y.toInt < 2147483648) : (x * y).toInt = x.toInt * y.toInt := by rw [Int32.toInt_mul]; exact ti_bmod h1 h2
theorem le_ti {x y : Int32} : x ≤ y ↔ x.toInt ≤ y.toInt := Int32.le_iff_toInt_le
theorem lt_ti {x y : Int32} : x < y ↔ x.toInt < y.toInt := Int32.lt_iff_toInt_lt
theorem eq_ti {x y : Int32} : x = y ↔ x.toInt = y.toInt := Int32.toInt_inj.symm
theorem nle_ti {x N : Int32} {k : Int} (hN : N.toInt = k) (c : ¬ N ≤ x) : x.toInt < k := by rw [le_ti] at c; omega
theorem nlt_ti {x N : Int32} {k : Int} (hN : N.toInt = k) (c : ¬ N < x) : x.toInt ≤ k := by rw [lt_ti] at c; omega
theorem up_add {x d : Int32} {k M : Int} (hd : d.toInt = k) (h0 : 0 ≤ x.toInt) (h1 : x.toInt ≤ M) (hk : 0 ≤ k) (hM : M + k < 2147483648) : (x + d).toInt = x.toInt + k := by rw [ti_add (by omega) (by omega), hd]
/-- x in range, under an upper test -/
theorem in_up {x N : Int32} {n : Nat} (hN : N.toInt = n) (h0 : 0 ≤ x.toInt) (c : ¬ N ≤ x) : vp_in x n := in_iff.mpr ⟨h0, nle_ti hN c⟩
theorem ix_c {k c : Int32} {n N : Nat} {z : Int} (hc : c.toInt = z) (hz : 0 ≤ z) (h : vp_in k n) (hN : z + n ≤ N) (hb : (N : Int) < 2147483648) : vp_in (c + k) N := by
  obtain ⟨h1, h2⟩ := in_iff.mp h
  refine in_iff.mpr ?_
  rw [ti_add (by omega) (by omega), hc]
  omega
theorem ix_c' {k c : Int32} {n N : Nat} {z : Int} (hc : c.toInt = z) (hz : 0 ≤ z) (h : vp_in k n) (hN : z + n ≤ N) (hb : (N : Int) < 2147483648) : vp_in (k + c) N := by
  obtain ⟨h1, h2⟩ := in_iff.mp h
  refine in_iff.mpr ?_
  rw [ti_add (by omega) (by omega), hc]
  omega
theorem ix_11 {b w : Int32} (hb : vp_in b 20) (hw : vp_in w 11) : vp_in ((b * 11) + w) 220 := by
  obtain ⟨h1, h2⟩ := in_iff.mp hb
  obtain ⟨h3, h4⟩ := in_iff.mp hw
  have e : (b * 11).toInt = b.toInt * 11 := ti_mul (y := 11) (by show _ ≤ b.toInt * 11; omega) (by show b.toInt * 11 < _; omega)
  refine in_iff.mpr ?_
  rw [ti_add (by omega) (by omega), e]
  omega
theorem ix_12 {b w : Int32} (hb : vp_in b 20) (hw : vp_in w 12) : vp_in ((15 + (12 * b)) + w) 255 := by
  obtain ⟨h1, h2⟩ := in_iff.mp hb
  obtain ⟨h3, h4⟩ := in_iff.mp hw
  have e : ((12 : Int32) * b).toInt = 12 * b.toInt := ti_mul (x := 12) (by show _ ≤ 12 * b.toInt; omega) (by show 12 * b.toInt < _; omega)
  have e2 : ((15 : Int32) + (12 * b)).toInt = 15 + 12 * b.toInt := by rw [ti_add (x := 15) (by rw [e]; show _ ≤ 15 + _; omega) (by rw [e]; show 15 + _ < _; omega), e]; rfl
  refine in_iff.mpr ?_
  rw [ti_add (by omega) (by omega), e2]
  omega
