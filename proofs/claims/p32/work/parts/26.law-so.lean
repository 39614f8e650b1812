/-- what the law's checks need of the state -/
def VOK (σ : VS) : Prop := KeelOK (W_yard σ.1) ∧ WorkOK (W_yard σ.1) ∧ ROK σ.2 ∧ (∀ k : Int32, vp_in k 6 → vp_in (mL_of σ.2 k 4) 3) ∧ ∀ k : Int32, vp_in k 6 → ¬ (mL_of σ.2 k 0) = 0 → 0 ≤ (mL_of σ.2 k 5) → PlOK σ.2 k
theorem in_best {u : Int32} (h : u = -5 ∨ vp_in u 4) (c : ¬ u < 0) : vp_in u 4 := h.resolve_left (fun e => c (by rw [e]; decide))
theorem so_in {n u : Int32} (hn : vp_in n 7) (h0 : 0 ≤ u.toInt) (c : ¬ n ≤ u) : vp_in u 6 := by
  obtain ⟨h1, h2⟩ := in_iff.mp hn
  rw [le_ti] at c
  exact in_iff.mpr ⟨h0, by omega⟩
theorem so_top {σ : LAS} {i : Int32} (h : ROK σ) (hi : vp_in i 4) (c : ¬ L_r σ (7 * i).toNatClampNeg = 0) : vp_in ((7 * i) + (L_r σ (7 * i).toNatClampNeg)) 28 := ix_7 hi (h i hi).1
def mL_isBoat_L220 (σ : VS) (x2 : Int32) : Nat → Int32 → Int32 → Int32
  | 0, _, _ => 0
  | n + 1, u9, u8 => (if 4 ≤ u9 then (if (mX3_bestRow σ.1 x2) = u8 then (if (mX3_launchReason σ.1 x2) = (mL_launchReason σ.2 x2) then (if (mX3_blockers σ.1 x2) = ((if 0 ≤ (mL_of σ.2 x2 5) then ((((L_r σ.2) (7 * (mL_of σ.2 x2 5)).toNatClampNeg) - 1) - (mL_place σ.2 x2)) else (-5)) : Int32) then (if (mX3_launchDay σ.1 x2) = (mL_launchDay σ.2 x2) then 1 else 0) else 0) else 0) else 0) else (if (mX3_liftReason σ.1 x2 u9) = (mL_liftReason σ.2 x2 u9) then (mL_isBoat_L220 σ x2 n (u9 + 1) ((if u9 = (mL_of σ.2 x2 5) then u8 else ((if (mL_room σ.2 u9) ≤ (mL_of σ.2 x2 1) then u8 else ((if u8 < 0 then u9 else ((if (mL_room σ.2 u8) ≤ (mL_room σ.2 u9) then u8 else u9) : Int32)) : Int32)) : Int32)) : Int32)) else 0))
set_option maxHeartbeats 4000000 in
set_option maxRecDepth 100000 in
theorem q_L_isBoat_220 {p : Program} {e : Env} {s : State} {m : MethodId} {args : Array Value} {below : List Frame} {meth : Method} {c : Code} (l : Launch) (g : WG) (ad : AV) (σ : VS) (x2 : Int32) (h_1 : vp_in x2 6) (h_vok : VOK σ) (h_prs : ¬ (mL_of σ.2 x2 0) = 0) (hC : Cx p s m args meth c yL_isBoat cL_isBoat 11 (some .boolean)) (hP : va_P g.1 vwCl (cV g ad σ) s.heap) (hK : va_K g.1 vwCl (tysW g) s) (hE : Ex (fun _ => False) s s.heap) {r : Int32} : ∀ (n : Nat) (u9 : Int32) (u8 : Int32) (hi0 : 0 ≤ u9.toInt) (hi1 : u9.toInt ≤ 4) (hbst : u8 = -5 ∨ vp_in u8 4) (hm : ((5 : Int) - u9.toInt).toNat < n) (hR : r = mL_isBoat_L220 σ x2 n u9 u8) (ls : Array Slot) (hl : lv_has ls 11 [(9, .int u9), (8, .int u8), (7, .int (-5)), (6, .int (mL_of σ.2 x2 5)), (0, .ref ad.1.1), (1, .int x2), (2, .ref ad.2.1), (3, .ref ad.2.2.1), (4, .ref ad.2.2.2.1), (5, .ref ad.2.2.2.2)]), W p l e (rk 6) s m args below meth c s.heap [] 0 0 (MQ below (vp_Si (fun x => x = r)) args s 0 0 (fun _ => False)) (F0 m 220 ls []) := by
  obtain ⟨hx, hb, hml, hr, hown, hts, hlk, hnm⟩ := id hC
  intro n
  induction n with
  | zero => intro u9 u8 hi0 hi1 hbst hm hR ls hl; exact absurd hm (Nat.not_lt_zero _)
  | succ n ih =>
    intro u9 u8 hi0 hi1 hbst hm hR ls hl
    refine lv_iload hx hb dL_isBoat_220 (lv_at hl 0 rfl) ?_
    refine lv_iconst (v := 4) hx hb dL_isBoat_222 (by decide) ?_
    refine lv_icmp_ge (tgt := 311) hx hb dL_isBoat_223 (by decide) (fun c_24 => ?_) (fun c_24 => ?_)
    · refine lv_aload_n hx hb dL_isBoat_311 rfl (lv_at hl 4 rfl) ?_
      refine lv_iload_n hx hb dL_isBoat_312 rfl (lv_at hl 5 rfl) ?_
      refine callRd hC (k_X3_bestRow l g ad.1 σ.1 x2) ci_X3_bestRow lk_L_98 ⟨Nat.le_of_ble_eq_true rfl, Nat.le_of_ble_eq_true rfl⟩ (P_right hP) hK hE (q0 := 0) rfl rfl rfl rfl hl.1 rfl (Nat.le_of_ble_eq_true rfl) dL_isBoat_313 ⟨Nat.zero_le _, Nat.zero_le _⟩ ?_
      refine lv_iload hx hb dL_isBoat_316 (lv_at hl 1 rfl) ?_
      refine lv_icmp_ne (tgt := 391) hx hb dL_isBoat_318 (by decide) (fun c_25 => ?_) (fun c_25 => ?_)
      · refine lv_iconst (v := 0) hx hb dL_isBoat_391 (by decide) ?_
        exact rd_zret hC dL_isBoat_392 rfl (Eq.symm (by rw [hR, mL_isBoat_L220, if_pos c_24, if_neg c_25]))
      · refine lv_aload_n hx hb dL_isBoat_321 rfl (lv_at hl 4 rfl) ?_
        refine lv_iload_n hx hb dL_isBoat_322 rfl (lv_at hl 5 rfl) ?_
        refine callRd hC (k_X3_launchReason l g ad.1 σ.1 x2) ci_X3_launchReason lk_L_101 ⟨Nat.le_of_ble_eq_true rfl, Nat.le_of_ble_eq_true rfl⟩ (P_right hP) hK hE (q0 := 0) rfl rfl rfl rfl hl.1 rfl (Nat.le_of_ble_eq_true rfl) dL_isBoat_323 ⟨Nat.zero_le _, Nat.zero_le _⟩ ?_
        refine lv_iload_n hx hb dL_isBoat_326 rfl (lv_at hl 5 rfl) ?_
        refine lv_aload_n hx hb dL_isBoat_327 rfl (lv_at hl 6 rfl) ?_
        refine lv_aload_n hx hb dL_isBoat_328 rfl (lv_at hl 7 rfl) ?_
        refine lv_aload hx hb dL_isBoat_329 (lv_at hl 9 rfl) ?_
        refine callSd hC (k_L_launchReason l g ad.2 σ.2 x2 h_1 (h_vok.2.2.2.2 x2 h_1 h_prs) h_vok.2.2.1) ci_L_launchReason lk_L_90 ⟨Nat.le_of_ble_eq_true rfl, Nat.le_of_ble_eq_true rfl⟩ (P_left hP) hK hE rfl hl.1 rfl (Nat.le_of_ble_eq_true rfl) dL_isBoat_331 ⟨Nat.zero_le _, Nat.zero_le _⟩ ?_
        refine lv_icmp_ne (tgt := 391) hx hb dL_isBoat_334 (by decide) (fun c_26 => ?_) (fun c_26 => ?_)
        · refine lv_iconst (v := 0) hx hb dL_isBoat_391 (by decide) ?_
          exact rd_zret hC dL_isBoat_392 rfl (Eq.symm (by rw [hR, mL_isBoat_L220, if_pos c_24, if_pos c_25, if_neg c_26]))
        · refine lv_aload_n hx hb dL_isBoat_337 rfl (lv_at hl 4 rfl) ?_
          refine lv_iload_n hx hb dL_isBoat_338 rfl (lv_at hl 5 rfl) ?_
          refine callRd hC (k_X3_blockers l g ad.1 σ.1 x2) ci_X3_blockers lk_L_103 ⟨Nat.le_of_ble_eq_true rfl, Nat.le_of_ble_eq_true rfl⟩ (P_right hP) hK hE (q0 := 0) rfl rfl rfl rfl hl.1 rfl (Nat.le_of_ble_eq_true rfl) dL_isBoat_339 ⟨Nat.zero_le _, Nat.zero_le _⟩ ?_
          refine lv_iload hx hb dL_isBoat_342 (lv_at hl 3 rfl) ?_
          refine dia (J := 370) (V := ((if 0 ≤ (mL_of σ.2 x2 5) then ((((L_r σ.2) (7 * (mL_of σ.2 x2 5)).toNatClampNeg) - 1) - (mL_place σ.2 x2)) else (-5)) : Int32)) (rest := [.int (mX3_blockers σ.1 x2)]) (fun kk_28 => ?_) ?_
          · refine lv_if_ge (tgt := 352) hx hb dL_isBoat_344 (by decide) (fun c_29 => ?_) (fun c_29 => ?_)
            · refine lv_aload hx hb dL_isBoat_352 (lv_at hl 9 rfl) ?_
              refine lv_bipush (v := 7) hx hb dL_isBoat_354 (by decide) ?_
              refine lv_iload hx hb dL_isBoat_356 (lv_at hl 3 rfl) ?_
              refine lv_imul hx hb dL_isBoat_358 ?_
              refine lV_r hC hK hP (ix_70 (h_vok.2.2.2.2 x2 h_1 h_prs c_29).1) dL_isBoat_359 ?_
              refine lv_iconst (v := 1) hx hb dL_isBoat_360 (by decide) ?_
              refine lv_isub hx hb dL_isBoat_361 ?_
              refine lv_iload_n hx hb dL_isBoat_362 rfl (lv_at hl 5 rfl) ?_
              refine lv_aload_n hx hb dL_isBoat_363 rfl (lv_at hl 7 rfl) ?_
              refine lv_aload hx hb dL_isBoat_364 (lv_at hl 9 rfl) ?_
              refine callSd hC (k_L_place l g ad.2 σ.2 x2 h_1 (h_vok.2.2.2.2 x2 h_1 h_prs c_29)) ci_L_place lk_L_38 ⟨Nat.le_of_ble_eq_true rfl, Nat.le_of_ble_eq_true rfl⟩ (P_left hP) hK hE rfl hl.1 rfl (Nat.le_of_ble_eq_true rfl) dL_isBoat_366 ⟨Nat.zero_le _, Nat.zero_le _⟩ ?_
              refine lv_isub hx hb dL_isBoat_369 ?_
              exact kk_28 _ (if_pos c_29)
            · refine lv_iload hx hb dL_isBoat_347 (lv_at hl 2 rfl) ?_
              refine lv_goto (tgt := 370) hx hb dL_isBoat_349 (by decide) ?_
              exact kk_28 _ (if_neg c_29)
          refine lv_icmp_ne (tgt := 391) hx hb dL_isBoat_370 (by decide) (fun c_30 => ?_) (fun c_30 => ?_)
          · refine lv_iconst (v := 0) hx hb dL_isBoat_391 (by decide) ?_
            exact rd_zret hC dL_isBoat_392 rfl (Eq.symm (by rw [hR, mL_isBoat_L220, if_pos c_24, if_pos c_25, if_pos c_26, if_neg c_30]))
          · refine lv_aload_n hx hb dL_isBoat_373 rfl (lv_at hl 4 rfl) ?_
            refine lv_iload_n hx hb dL_isBoat_374 rfl (lv_at hl 5 rfl) ?_
            refine callRd hC (k_X3_launchDay l g ad.1 σ.1 x2 h_vok.2.1) ci_X3_launchDay lk_L_106 ⟨Nat.le_of_ble_eq_true rfl, Nat.le_of_ble_eq_true rfl⟩ (P_right hP) hK hE (q0 := 0) rfl rfl rfl rfl hl.1 rfl (Nat.le_of_ble_eq_true rfl) dL_isBoat_375 ⟨Nat.zero_le _, Nat.zero_le _⟩ ?_
            refine lv_iload_n hx hb dL_isBoat_378 rfl (lv_at hl 5 rfl) ?_
            refine lv_aload_n hx hb dL_isBoat_379 rfl (lv_at hl 6 rfl) ?_
            refine lv_aload_n hx hb dL_isBoat_380 rfl (lv_at hl 7 rfl) ?_
            refine callSd hC (k_L_launchDay l g ad.2 σ.2 x2 h_1) ci_L_launchDay lk_L_109 ⟨Nat.le_of_ble_eq_true rfl, Nat.le_of_ble_eq_true rfl⟩ (P_left hP) hK hE rfl hl.1 rfl (Nat.le_of_ble_eq_true rfl) dL_isBoat_381 ⟨Nat.zero_le _, Nat.zero_le _⟩ ?_
            refine lv_icmp_ne (tgt := 391) hx hb dL_isBoat_384 (by decide) (fun c_31 => ?_) (fun c_31 => ?_)
            · refine lv_iconst (v := 0) hx hb dL_isBoat_391 (by decide) ?_
              exact rd_zret hC dL_isBoat_392 rfl (Eq.symm (by rw [hR, mL_isBoat_L220, if_pos c_24, if_pos c_25, if_pos c_26, if_pos c_30, if_neg c_31]))
            · refine lv_iconst (v := 1) hx hb dL_isBoat_387 (by decide) ?_
              refine lv_goto (tgt := 392) hx hb dL_isBoat_388 (by decide) ?_
              exact rd_zret hC dL_isBoat_392 rfl (Eq.symm (by rw [hR, mL_isBoat_L220, if_pos c_24, if_pos c_25, if_pos c_26, if_pos c_30, if_pos c_31]))
    · refine lv_iload hx hb dL_isBoat_226 (lv_at hl 0 rfl) ?_
      refine lv_aload_n hx hb dL_isBoat_228 rfl (lv_at hl 6 rfl) ?_
      refine lv_aload_n hx hb dL_isBoat_229 rfl (lv_at hl 7 rfl) ?_
      refine lv_aload hx hb dL_isBoat_230 (lv_at hl 9 rfl) ?_
      refine callSd hC (k_L_room l g ad.2 σ.2 u9 (in_up (n := 4) rfl hi0 c_24) h_vok.2.2.1) ci_L_room lk_L_30 ⟨Nat.le_of_ble_eq_true rfl, Nat.le_of_ble_eq_true rfl⟩ (P_left hP) hK hE rfl hl.1 rfl (Nat.le_of_ble_eq_true rfl) dL_isBoat_232 ⟨Nat.zero_le _, Nat.zero_le _⟩ ?_
      refine lv_istore (lv' := [(10, .int (mL_room σ.2 u9)), (9, .int u9), (8, .int u8), (7, .int (-5)), (6, .int (mL_of σ.2 x2 5)), (0, .ref ad.1.1), (1, .int x2), (2, .ref ad.2.1), (3, .ref ad.2.2.1), (4, .ref ad.2.2.2.1), (5, .ref ad.2.2.2.2)]) hx hb dL_isBoat_235 hl (by decide) rfl (fun ls hl => ?_)
      refine lv_iload hx hb dL_isBoat_237 (lv_at hl 1 rfl) ?_
      refine lv_iload hx hb dL_isBoat_239 (lv_at hl 4 rfl) ?_
      refine dia (J := 281) (V := ((if u9 = (mL_of σ.2 x2 5) then u8 else ((if (mL_room σ.2 u9) ≤ (mL_of σ.2 x2 1) then u8 else ((if u8 < 0 then u9 else ((if (mL_room σ.2 u8) ≤ (mL_room σ.2 u9) then u8 else u9) : Int32)) : Int32)) : Int32)) : Int32)) (rest := []) (fun kk_33 => ?_) ?_
      · refine lv_icmp_eq (tgt := 279) hx hb dL_isBoat_241 (by decide) (fun c_34 => ?_) (fun c_34 => ?_)
        · refine lv_iload hx hb dL_isBoat_279 (lv_at hl 2 rfl) ?_
          exact kk_33 _ (if_pos c_34)
        · refine lv_iload hx hb dL_isBoat_244 (lv_at hl 0 rfl) ?_
          refine lv_aload_n hx hb dL_isBoat_246 rfl (lv_at hl 8 rfl) ?_
          refine lv_iload_n hx hb dL_isBoat_247 rfl (lv_at hl 6 rfl) ?_
          refine lv_iconst (v := 1) hx hb dL_isBoat_248 (by decide) ?_
          refine callSd hC (k_L_of l g ad.2 σ.2 x2 1 h_1 (in_iff.mpr (by decide))) ci_L_of lk_L_9 ⟨Nat.le_of_ble_eq_true rfl, Nat.le_of_ble_eq_true rfl⟩ (P_left hP) hK hE rfl hl.1 rfl (Nat.le_of_ble_eq_true rfl) dL_isBoat_249 ⟨Nat.zero_le _, Nat.zero_le _⟩ ?_
          refine dia (J := 281) (V := ((if (mL_room σ.2 u9) ≤ (mL_of σ.2 x2 1) then u8 else ((if u8 < 0 then u9 else ((if (mL_room σ.2 u8) ≤ (mL_room σ.2 u9) then u8 else u9) : Int32)) : Int32)) : Int32)) (rest := []) (fun kk_36 => ?_) ?_
          · refine lv_icmp_le (tgt := 279) hx hb dL_isBoat_252 (by decide) (fun c_37 => ?_) (fun c_37 => ?_)
            · refine lv_iload hx hb dL_isBoat_279 (lv_at hl 2 rfl) ?_
              exact kk_36 _ (if_pos c_37)
            · refine lv_iload hx hb dL_isBoat_255 (lv_at hl 2 rfl) ?_
              refine dia (J := 281) (V := ((if u8 < 0 then u9 else ((if (mL_room σ.2 u8) ≤ (mL_room σ.2 u9) then u8 else u9) : Int32)) : Int32)) (rest := []) (fun kk_39 => ?_) ?_
              · refine lv_if_lt (tgt := 274) hx hb dL_isBoat_257 (by decide) (fun c_40 => ?_) (fun c_40 => ?_)
                · refine lv_iload hx hb dL_isBoat_274 (lv_at hl 1 rfl) ?_
                  refine lv_goto (tgt := 281) hx hb dL_isBoat_276 (by decide) ?_
                  exact kk_39 _ (if_pos c_40)
                · refine lv_iload hx hb dL_isBoat_260 (lv_at hl 0 rfl) ?_
                  refine lv_iload hx hb dL_isBoat_262 (lv_at hl 2 rfl) ?_
                  refine lv_aload_n hx hb dL_isBoat_264 rfl (lv_at hl 7 rfl) ?_
                  refine lv_aload_n hx hb dL_isBoat_265 rfl (lv_at hl 8 rfl) ?_
                  refine lv_aload hx hb dL_isBoat_266 (lv_at hl 10 rfl) ?_
                  refine callSd hC (k_L_room l g ad.2 σ.2 u8 (in_best hbst c_40) h_vok.2.2.1) ci_L_room lk_L_30 ⟨Nat.le_of_ble_eq_true rfl, Nat.le_of_ble_eq_true rfl⟩ (P_left hP) hK hE rfl hl.1 rfl (Nat.le_of_ble_eq_true rfl) dL_isBoat_268 ⟨Nat.zero_le _, Nat.zero_le _⟩ ?_
                  refine dia (J := 281) (V := ((if (mL_room σ.2 u8) ≤ (mL_room σ.2 u9) then u8 else u9) : Int32)) (rest := []) (fun kk_42 => ?_) ?_
                  · refine lv_icmp_ge (tgt := 279) hx hb dL_isBoat_271 (by decide) (fun c_43 => ?_) (fun c_43 => ?_)
                    · refine lv_iload hx hb dL_isBoat_279 (lv_at hl 2 rfl) ?_
                      exact kk_42 _ (if_pos c_43)
                    · refine lv_iload hx hb dL_isBoat_274 (lv_at hl 1 rfl) ?_
                      refine lv_goto (tgt := 281) hx hb dL_isBoat_276 (by decide) ?_
                      exact kk_42 _ (if_neg c_43)
                  exact kk_39 _ (if_neg c_40)
              exact kk_36 _ (if_neg c_37)
          exact kk_33 _ (if_neg c_34)
      refine lv_istore (lv' := [(8, .int ((if u9 = (mL_of σ.2 x2 5) then u8 else ((if (mL_room σ.2 u9) ≤ (mL_of σ.2 x2 1) then u8 else ((if u8 < 0 then u9 else ((if (mL_room σ.2 u8) ≤ (mL_room σ.2 u9) then u8 else u9) : Int32)) : Int32)) : Int32)) : Int32)), (10, .int (mL_room σ.2 u9)), (9, .int u9), (7, .int (-5)), (6, .int (mL_of σ.2 x2 5)), (0, .ref ad.1.1), (1, .int x2), (2, .ref ad.2.1), (3, .ref ad.2.2.1), (4, .ref ad.2.2.2.1), (5, .ref ad.2.2.2.2)]) hx hb dL_isBoat_281 hl (by decide) rfl (fun ls hl => ?_)
      refine lv_aload_n hx hb dL_isBoat_283 rfl (lv_at hl 5 rfl) ?_
      refine lv_iload_n hx hb dL_isBoat_284 rfl (lv_at hl 6 rfl) ?_
      refine lv_iload hx hb dL_isBoat_285 (lv_at hl 2 rfl) ?_
      refine callRd hC (k_X3_liftReason l g ad.1 σ.1 x2 u9 h_vok.1) ci_X3_liftReason lk_L_96 ⟨Nat.le_of_ble_eq_true rfl, Nat.le_of_ble_eq_true rfl⟩ (P_right hP) hK hE (q0 := 0) rfl rfl rfl rfl hl.1 rfl (Nat.le_of_ble_eq_true rfl) dL_isBoat_287 ⟨Nat.zero_le _, Nat.zero_le _⟩ ?_
      refine lv_iload_n hx hb dL_isBoat_290 rfl (lv_at hl 6 rfl) ?_
      refine lv_iload hx hb dL_isBoat_291 (lv_at hl 2 rfl) ?_
      refine lv_aload_n hx hb dL_isBoat_293 rfl (lv_at hl 7 rfl) ?_
      refine lv_aload_n hx hb dL_isBoat_294 rfl (lv_at hl 8 rfl) ?_
      refine lv_aload hx hb dL_isBoat_295 (lv_at hl 10 rfl) ?_
      refine callSd hC (k_L_liftReason l g ad.2 σ.2 x2 u9 h_1 (in_up (n := 4) rfl hi0 c_24) (h_vok.2.2.2.1 x2 h_1) h_vok.2.2.1) ci_L_liftReason lk_L_82 ⟨Nat.le_of_ble_eq_true rfl, Nat.le_of_ble_eq_true rfl⟩ (P_left hP) hK hE rfl hl.1 rfl (Nat.le_of_ble_eq_true rfl) dL_isBoat_297 ⟨Nat.zero_le _, Nat.zero_le _⟩ ?_
      refine lv_icmp_eq (tgt := 305) hx hb dL_isBoat_300 (by decide) (fun c_44 => ?_) (fun c_44 => ?_)
      · refine lv_iinc (v := (u9 + 1)) (lv' := [(9, .int (u9 + 1)), (8, .int ((if u9 = (mL_of σ.2 x2 5) then u8 else ((if (mL_room σ.2 u9) ≤ (mL_of σ.2 x2 1) then u8 else ((if u8 < 0 then u9 else ((if (mL_room σ.2 u8) ≤ (mL_room σ.2 u9) then u8 else u9) : Int32)) : Int32)) : Int32)) : Int32)), (10, .int (mL_room σ.2 u9)), (7, .int (-5)), (6, .int (mL_of σ.2 x2 5)), (0, .ref ad.1.1), (1, .int x2), (2, .ref ad.2.1), (3, .ref ad.2.2.1), (4, .ref ad.2.2.2.1), (5, .ref ad.2.2.2.2)]) hx hb dL_isBoat_305 hl (k := 2) rfl rfl (by decide) rfl (fun ls hl => ?_)
        refine lv_goto (tgt := 220) hx hb dL_isBoat_308 (by decide) ?_
        have e9 := up_add (d := 1) (k := 1) (M := 4) rfl hi0 hi1 (by decide) (by decide)
        have e8 := nle_ti (k := 4) rfl c_24
        have hb_new : ((if u9 = (mL_of σ.2 x2 5) then u8 else ((if (mL_room σ.2 u9) ≤ (mL_of σ.2 x2 1) then u8 else ((if u8 < 0 then u9 else ((if (mL_room σ.2 u8) ≤ (mL_room σ.2 u9) then u8 else u9) : Int32)) : Int32)) : Int32)) : Int32) = -5 ∨ vp_in ((if u9 = (mL_of σ.2 x2 5) then u8 else ((if (mL_room σ.2 u9) ≤ (mL_of σ.2 x2 1) then u8 else ((if u8 < 0 then u9 else ((if (mL_room σ.2 u8) ≤ (mL_room σ.2 u9) then u8 else u9) : Int32)) : Int32)) : Int32)) : Int32) 4 := by repeat (first | exact hbst | exact Or.inr (in_up (n := 4) rfl hi0 c_24) | split)
        exact ih (u9 + 1) ((if u9 = (mL_of σ.2 x2 5) then u8 else ((if (mL_room σ.2 u9) ≤ (mL_of σ.2 x2 1) then u8 else ((if u8 < 0 then u9 else ((if (mL_room σ.2 u8) ≤ (mL_room σ.2 u9) then u8 else u9) : Int32)) : Int32)) : Int32)) : Int32) (by rw [e9]; omega) (by rw [e9]; omega) (hb_new) (by rw [e9]; omega) (by rw [hR, mL_isBoat_L220, if_neg c_24, if_pos c_44]) _ (lv_sub hl [0, 1, 3, 4, 5, 6, 7, 8, 9, 10] rfl)
      · refine lv_iconst (v := 0) hx hb dL_isBoat_303 (by decide) ?_
        exact rd_zret hC dL_isBoat_304 rfl (Eq.symm (by rw [hR, mL_isBoat_L220, if_neg c_24, if_neg c_44]))
def mL_isBoat_L15 (σ : VS) (x2 : Int32) : Nat → Int32 → Int32
  | 0, _ => 0
  | n + 1, u8 => (if 4 ≤ u8 then (if (mX3_boat σ.1 x2 4) = ((if 0 ≤ (mL_of σ.2 x2 5) then (mL_of σ.2 x2 5) else (-5)) : Int32) then (if (mX3_boat σ.1 x2 5) = ((if 0 ≤ (mL_of σ.2 x2 5) then (mL_place σ.2 x2) else (-5)) : Int32) then (if (mX3_boat σ.1 x2 6) = ((if 0 ≤ (mL_of σ.2 x2 5) then (mL_of σ.2 x2 6) else (-5)) : Int32) then (if (mX3_boat σ.1 x2 7) = ((if 0 ≤ (mL_of σ.2 x2 7) then (mL_of σ.2 x2 7) else (-5)) : Int32) then (if (mX3_boat σ.1 x2 8) = (mL_of σ.2 x2 8) then (if (mX3_boat σ.1 x2 9) = ((if 0 ≤ (mL_of σ.2 x2 5) then (mL_of σ.2 x2 9) else 0) : Int32) then (if (mX3_boat σ.1 x2 10) = ((L_t σ.2) x2.toNatClampNeg) then (mL_isBoat_L220 σ x2 6 0 (-5)) else 0) else 0) else 0) else 0) else 0) else 0) else 0) else (if (mX3_boat σ.1 x2 u8) = (mL_of σ.2 x2 (u8 + 1)) then (mL_isBoat_L15 σ x2 n (u8 + 1)) else 0))
set_option maxHeartbeats 4000000 in
set_option maxRecDepth 100000 in
theorem q_L_isBoat_15 {p : Program} {e : Env} {s : State} {m : MethodId} {args : Array Value} {below : List Frame} {meth : Method} {c : Code} (l : Launch) (g : WG) (ad : AV) (σ : VS) (x2 : Int32) (h_1 : vp_in x2 6) (h_vok : VOK σ) (h_prs : ¬ (mL_of σ.2 x2 0) = 0) (hC : Cx p s m args meth c yL_isBoat cL_isBoat 11 (some .boolean)) (hP : va_P g.1 vwCl (cV g ad σ) s.heap) (hK : va_K g.1 vwCl (tysW g) s) (hE : Ex (fun _ => False) s s.heap) {r : Int32} : ∀ (n : Nat) (u8 : Int32) (hi0 : 0 ≤ u8.toInt) (hi1 : u8.toInt ≤ 4) (hm : ((5 : Int) - u8.toInt).toNat < n) (hR : r = mL_isBoat_L15 σ x2 n u8) (ls : Array Slot) (hl : lv_has ls 11 [(8, .int u8), (7, .int (-5)), (6, .int (mL_of σ.2 x2 5)), (0, .ref ad.1.1), (1, .int x2), (2, .ref ad.2.1), (3, .ref ad.2.2.1), (4, .ref ad.2.2.2.1), (5, .ref ad.2.2.2.2)]), W p l e (rk 6) s m args below meth c s.heap [] 0 0 (MQ below (vp_Si (fun x => x = r)) args s 0 0 (fun _ => False)) (F0 m 15 ls []) := by
  obtain ⟨hx, hb, hml, hr, hown, hts, hlk, hnm⟩ := id hC
  intro n
  induction n with
  | zero => intro u8 hi0 hi1 hm hR ls hl; exact absurd hm (Nat.not_lt_zero _)
  | succ n ih =>
    intro u8 hi0 hi1 hm hR ls hl
    refine lv_iload hx hb dL_isBoat_15 (lv_at hl 0 rfl) ?_
    refine lv_iconst (v := 4) hx hb dL_isBoat_17 (by decide) ?_
    refine lv_icmp_ge (tgt := 48) hx hb dL_isBoat_18 (by decide) (fun c_1 => ?_) (fun c_1 => ?_)
    · refine lv_aload_n hx hb dL_isBoat_48 rfl (lv_at hl 3 rfl) ?_
      refine lv_iload_n hx hb dL_isBoat_49 rfl (lv_at hl 4 rfl) ?_
      refine lv_iconst (v := 4) hx hb dL_isBoat_50 (by decide) ?_
      refine callRd hC (k_X3_boat l g ad.1 σ.1 x2 4) ci_X3_boat lk_L_93 ⟨Nat.le_of_ble_eq_true rfl, Nat.le_of_ble_eq_true rfl⟩ (P_right hP) hK hE (q0 := 0) rfl rfl rfl rfl hl.1 rfl (Nat.le_of_ble_eq_true rfl) dL_isBoat_51 ⟨Nat.zero_le _, Nat.zero_le _⟩ ?_
      refine lv_iload hx hb dL_isBoat_54 (lv_at hl 2 rfl) ?_
      refine dia (J := 66) (V := ((if 0 ≤ (mL_of σ.2 x2 5) then (mL_of σ.2 x2 5) else (-5)) : Int32)) (rest := [.int (mX3_boat σ.1 x2 4)]) (fun kk_3 => ?_) ?_
      · refine lv_if_ge (tgt := 64) hx hb dL_isBoat_56 (by decide) (fun c_4 => ?_) (fun c_4 => ?_)
        · refine lv_iload hx hb dL_isBoat_64 (lv_at hl 2 rfl) ?_
          exact kk_3 _ (if_pos c_4)
        · refine lv_iload hx hb dL_isBoat_59 (lv_at hl 1 rfl) ?_
          refine lv_goto (tgt := 66) hx hb dL_isBoat_61 (by decide) ?_
          exact kk_3 _ (if_neg c_4)
      refine lv_icmp_ne (tgt := 211) hx hb dL_isBoat_66 (by decide) (fun c_5 => ?_) (fun c_5 => ?_)
      · refine lv_iconst (v := 0) hx hb dL_isBoat_211 (by decide) ?_
        exact rd_zret hC dL_isBoat_212 rfl (Eq.symm (by rw [hR, mL_isBoat_L15, if_pos c_1, if_neg c_5]))
      · refine lv_aload_n hx hb dL_isBoat_69 rfl (lv_at hl 3 rfl) ?_
        refine lv_iload_n hx hb dL_isBoat_70 rfl (lv_at hl 4 rfl) ?_
        refine lv_iconst (v := 5) hx hb dL_isBoat_71 (by decide) ?_
        refine callRd hC (k_X3_boat l g ad.1 σ.1 x2 5) ci_X3_boat lk_L_93 ⟨Nat.le_of_ble_eq_true rfl, Nat.le_of_ble_eq_true rfl⟩ (P_right hP) hK hE (q0 := 0) rfl rfl rfl rfl hl.1 rfl (Nat.le_of_ble_eq_true rfl) dL_isBoat_72 ⟨Nat.zero_le _, Nat.zero_le _⟩ ?_
        refine lv_iload hx hb dL_isBoat_75 (lv_at hl 2 rfl) ?_
        refine dia (J := 92) (V := ((if 0 ≤ (mL_of σ.2 x2 5) then (mL_place σ.2 x2) else (-5)) : Int32)) (rest := [.int (mX3_boat σ.1 x2 5)]) (fun kk_7 => ?_) ?_
        · refine lv_if_ge (tgt := 85) hx hb dL_isBoat_77 (by decide) (fun c_8 => ?_) (fun c_8 => ?_)
          · refine lv_iload_n hx hb dL_isBoat_85 rfl (lv_at hl 4 rfl) ?_
            refine lv_aload_n hx hb dL_isBoat_86 rfl (lv_at hl 6 rfl) ?_
            refine lv_aload hx hb dL_isBoat_87 (lv_at hl 8 rfl) ?_
            refine callSd hC (k_L_place l g ad.2 σ.2 x2 h_1 (h_vok.2.2.2.2 x2 h_1 h_prs c_8)) ci_L_place lk_L_38 ⟨Nat.le_of_ble_eq_true rfl, Nat.le_of_ble_eq_true rfl⟩ (P_left hP) hK hE rfl hl.1 rfl (Nat.le_of_ble_eq_true rfl) dL_isBoat_89 ⟨Nat.zero_le _, Nat.zero_le _⟩ ?_
            exact kk_7 _ (if_pos c_8)
          · refine lv_iload hx hb dL_isBoat_80 (lv_at hl 1 rfl) ?_
            refine lv_goto (tgt := 92) hx hb dL_isBoat_82 (by decide) ?_
            exact kk_7 _ (if_neg c_8)
        refine lv_icmp_ne (tgt := 211) hx hb dL_isBoat_92 (by decide) (fun c_9 => ?_) (fun c_9 => ?_)
        · refine lv_iconst (v := 0) hx hb dL_isBoat_211 (by decide) ?_
          exact rd_zret hC dL_isBoat_212 rfl (Eq.symm (by rw [hR, mL_isBoat_L15, if_pos c_1, if_pos c_5, if_neg c_9]))
        · refine lv_aload_n hx hb dL_isBoat_95 rfl (lv_at hl 3 rfl) ?_
          refine lv_iload_n hx hb dL_isBoat_96 rfl (lv_at hl 4 rfl) ?_
          refine lv_bipush (v := 6) hx hb dL_isBoat_97 (by decide) ?_
          refine callRd hC (k_X3_boat l g ad.1 σ.1 x2 6) ci_X3_boat lk_L_93 ⟨Nat.le_of_ble_eq_true rfl, Nat.le_of_ble_eq_true rfl⟩ (P_right hP) hK hE (q0 := 0) rfl rfl rfl rfl hl.1 rfl (Nat.le_of_ble_eq_true rfl) dL_isBoat_99 ⟨Nat.zero_le _, Nat.zero_le _⟩ ?_
          refine lv_iload hx hb dL_isBoat_102 (lv_at hl 2 rfl) ?_
          refine dia (J := 119) (V := ((if 0 ≤ (mL_of σ.2 x2 5) then (mL_of σ.2 x2 6) else (-5)) : Int32)) (rest := [.int (mX3_boat σ.1 x2 6)]) (fun kk_11 => ?_) ?_
          · refine lv_if_ge (tgt := 112) hx hb dL_isBoat_104 (by decide) (fun c_12 => ?_) (fun c_12 => ?_)
            · refine lv_aload_n hx hb dL_isBoat_112 rfl (lv_at hl 6 rfl) ?_
              refine lv_iload_n hx hb dL_isBoat_113 rfl (lv_at hl 4 rfl) ?_
              refine lv_bipush (v := 6) hx hb dL_isBoat_114 (by decide) ?_
              refine callSd hC (k_L_of l g ad.2 σ.2 x2 6 h_1 (in_iff.mpr (by decide))) ci_L_of lk_L_9 ⟨Nat.le_of_ble_eq_true rfl, Nat.le_of_ble_eq_true rfl⟩ (P_left hP) hK hE rfl hl.1 rfl (Nat.le_of_ble_eq_true rfl) dL_isBoat_116 ⟨Nat.zero_le _, Nat.zero_le _⟩ ?_
              exact kk_11 _ (if_pos c_12)
            · refine lv_iload hx hb dL_isBoat_107 (lv_at hl 1 rfl) ?_
              refine lv_goto (tgt := 119) hx hb dL_isBoat_109 (by decide) ?_
              exact kk_11 _ (if_neg c_12)
          refine lv_icmp_ne (tgt := 211) hx hb dL_isBoat_119 (by decide) (fun c_13 => ?_) (fun c_13 => ?_)
          · refine lv_iconst (v := 0) hx hb dL_isBoat_211 (by decide) ?_
            exact rd_zret hC dL_isBoat_212 rfl (Eq.symm (by rw [hR, mL_isBoat_L15, if_pos c_1, if_pos c_5, if_pos c_9, if_neg c_13]))
          · refine lv_aload_n hx hb dL_isBoat_122 rfl (lv_at hl 3 rfl) ?_
            refine lv_iload_n hx hb dL_isBoat_123 rfl (lv_at hl 4 rfl) ?_
            refine lv_bipush (v := 7) hx hb dL_isBoat_124 (by decide) ?_
            refine callRd hC (k_X3_boat l g ad.1 σ.1 x2 7) ci_X3_boat lk_L_93 ⟨Nat.le_of_ble_eq_true rfl, Nat.le_of_ble_eq_true rfl⟩ (P_right hP) hK hE (q0 := 0) rfl rfl rfl rfl hl.1 rfl (Nat.le_of_ble_eq_true rfl) dL_isBoat_126 ⟨Nat.zero_le _, Nat.zero_le _⟩ ?_
            refine lv_aload_n hx hb dL_isBoat_129 rfl (lv_at hl 6 rfl) ?_
            refine lv_iload_n hx hb dL_isBoat_130 rfl (lv_at hl 4 rfl) ?_
            refine lv_bipush (v := 7) hx hb dL_isBoat_131 (by decide) ?_
            refine callSd hC (k_L_of l g ad.2 σ.2 x2 7 h_1 (in_iff.mpr (by decide))) ci_L_of lk_L_9 ⟨Nat.le_of_ble_eq_true rfl, Nat.le_of_ble_eq_true rfl⟩ (P_left hP) hK hE rfl hl.1 rfl (Nat.le_of_ble_eq_true rfl) dL_isBoat_133 ⟨Nat.zero_le _, Nat.zero_le _⟩ ?_
            refine dia (J := 151) (V := ((if 0 ≤ (mL_of σ.2 x2 7) then (mL_of σ.2 x2 7) else (-5)) : Int32)) (rest := [.int (mX3_boat σ.1 x2 7)]) (fun kk_15 => ?_) ?_
            · refine lv_if_ge (tgt := 144) hx hb dL_isBoat_136 (by decide) (fun c_16 => ?_) (fun c_16 => ?_)
              · refine lv_aload_n hx hb dL_isBoat_144 rfl (lv_at hl 6 rfl) ?_
                refine lv_iload_n hx hb dL_isBoat_145 rfl (lv_at hl 4 rfl) ?_
                refine lv_bipush (v := 7) hx hb dL_isBoat_146 (by decide) ?_
                refine callSd hC (k_L_of l g ad.2 σ.2 x2 7 h_1 (in_iff.mpr (by decide))) ci_L_of lk_L_9 ⟨Nat.le_of_ble_eq_true rfl, Nat.le_of_ble_eq_true rfl⟩ (P_left hP) hK hE rfl hl.1 rfl (Nat.le_of_ble_eq_true rfl) dL_isBoat_148 ⟨Nat.zero_le _, Nat.zero_le _⟩ ?_
                exact kk_15 _ (if_pos c_16)
              · refine lv_iload hx hb dL_isBoat_139 (lv_at hl 1 rfl) ?_
                refine lv_goto (tgt := 151) hx hb dL_isBoat_141 (by decide) ?_
                exact kk_15 _ (if_neg c_16)
            refine lv_icmp_ne (tgt := 211) hx hb dL_isBoat_151 (by decide) (fun c_17 => ?_) (fun c_17 => ?_)
            · refine lv_iconst (v := 0) hx hb dL_isBoat_211 (by decide) ?_
              exact rd_zret hC dL_isBoat_212 rfl (Eq.symm (by rw [hR, mL_isBoat_L15, if_pos c_1, if_pos c_5, if_pos c_9, if_pos c_13, if_neg c_17]))
            · refine lv_aload_n hx hb dL_isBoat_154 rfl (lv_at hl 3 rfl) ?_
              refine lv_iload_n hx hb dL_isBoat_155 rfl (lv_at hl 4 rfl) ?_
              refine lv_bipush (v := 8) hx hb dL_isBoat_156 (by decide) ?_
              refine callRd hC (k_X3_boat l g ad.1 σ.1 x2 8) ci_X3_boat lk_L_93 ⟨Nat.le_of_ble_eq_true rfl, Nat.le_of_ble_eq_true rfl⟩ (P_right hP) hK hE (q0 := 0) rfl rfl rfl rfl hl.1 rfl (Nat.le_of_ble_eq_true rfl) dL_isBoat_158 ⟨Nat.zero_le _, Nat.zero_le _⟩ ?_
              refine lv_aload_n hx hb dL_isBoat_161 rfl (lv_at hl 6 rfl) ?_
              refine lv_iload_n hx hb dL_isBoat_162 rfl (lv_at hl 4 rfl) ?_
              refine lv_bipush (v := 8) hx hb dL_isBoat_163 (by decide) ?_
              refine callSd hC (k_L_of l g ad.2 σ.2 x2 8 h_1 (in_iff.mpr (by decide))) ci_L_of lk_L_9 ⟨Nat.le_of_ble_eq_true rfl, Nat.le_of_ble_eq_true rfl⟩ (P_left hP) hK hE rfl hl.1 rfl (Nat.le_of_ble_eq_true rfl) dL_isBoat_165 ⟨Nat.zero_le _, Nat.zero_le _⟩ ?_
              refine lv_icmp_ne (tgt := 211) hx hb dL_isBoat_168 (by decide) (fun c_18 => ?_) (fun c_18 => ?_)
              · refine lv_iconst (v := 0) hx hb dL_isBoat_211 (by decide) ?_
                exact rd_zret hC dL_isBoat_212 rfl (Eq.symm (by rw [hR, mL_isBoat_L15, if_pos c_1, if_pos c_5, if_pos c_9, if_pos c_13, if_pos c_17, if_neg c_18]))
              · refine lv_aload_n hx hb dL_isBoat_171 rfl (lv_at hl 3 rfl) ?_
                refine lv_iload_n hx hb dL_isBoat_172 rfl (lv_at hl 4 rfl) ?_
                refine lv_bipush (v := 9) hx hb dL_isBoat_173 (by decide) ?_
                refine callRd hC (k_X3_boat l g ad.1 σ.1 x2 9) ci_X3_boat lk_L_93 ⟨Nat.le_of_ble_eq_true rfl, Nat.le_of_ble_eq_true rfl⟩ (P_right hP) hK hE (q0 := 0) rfl rfl rfl rfl hl.1 rfl (Nat.le_of_ble_eq_true rfl) dL_isBoat_175 ⟨Nat.zero_le _, Nat.zero_le _⟩ ?_
                refine lv_iload hx hb dL_isBoat_178 (lv_at hl 2 rfl) ?_
                refine dia (J := 194) (V := ((if 0 ≤ (mL_of σ.2 x2 5) then (mL_of σ.2 x2 9) else 0) : Int32)) (rest := [.int (mX3_boat σ.1 x2 9)]) (fun kk_20 => ?_) ?_
                · refine lv_if_ge (tgt := 187) hx hb dL_isBoat_180 (by decide) (fun c_21 => ?_) (fun c_21 => ?_)
                  · refine lv_aload_n hx hb dL_isBoat_187 rfl (lv_at hl 6 rfl) ?_
                    refine lv_iload_n hx hb dL_isBoat_188 rfl (lv_at hl 4 rfl) ?_
                    refine lv_bipush (v := 9) hx hb dL_isBoat_189 (by decide) ?_
                    refine callSd hC (k_L_of l g ad.2 σ.2 x2 9 h_1 (in_iff.mpr (by decide))) ci_L_of lk_L_9 ⟨Nat.le_of_ble_eq_true rfl, Nat.le_of_ble_eq_true rfl⟩ (P_left hP) hK hE rfl hl.1 rfl (Nat.le_of_ble_eq_true rfl) dL_isBoat_191 ⟨Nat.zero_le _, Nat.zero_le _⟩ ?_
                    exact kk_20 _ (if_pos c_21)
                  · refine lv_iconst (v := 0) hx hb dL_isBoat_183 (by decide) ?_
                    refine lv_goto (tgt := 194) hx hb dL_isBoat_184 (by decide) ?_
                    exact kk_20 _ (if_neg c_21)
                refine lv_icmp_ne (tgt := 211) hx hb dL_isBoat_194 (by decide) (fun c_22 => ?_) (fun c_22 => ?_)
                · refine lv_iconst (v := 0) hx hb dL_isBoat_211 (by decide) ?_
                  exact rd_zret hC dL_isBoat_212 rfl (Eq.symm (by rw [hR, mL_isBoat_L15, if_pos c_1, if_pos c_5, if_pos c_9, if_pos c_13, if_pos c_17, if_pos c_18, if_neg c_22]))
                · refine lv_aload_n hx hb dL_isBoat_197 rfl (lv_at hl 3 rfl) ?_
                  refine lv_iload_n hx hb dL_isBoat_198 rfl (lv_at hl 4 rfl) ?_
                  refine lv_bipush (v := 10) hx hb dL_isBoat_199 (by decide) ?_
                  refine callRd hC (k_X3_boat l g ad.1 σ.1 x2 10) ci_X3_boat lk_L_93 ⟨Nat.le_of_ble_eq_true rfl, Nat.le_of_ble_eq_true rfl⟩ (P_right hP) hK hE (q0 := 0) rfl rfl rfl rfl hl.1 rfl (Nat.le_of_ble_eq_true rfl) dL_isBoat_201 ⟨Nat.zero_le _, Nat.zero_le _⟩ ?_
                  refine lv_aload hx hb dL_isBoat_204 (lv_at hl 7 rfl) ?_
                  refine lv_iload_n hx hb dL_isBoat_206 rfl (lv_at hl 4 rfl) ?_
                  refine lV_t hC hK hP h_1 dL_isBoat_207 ?_
                  refine lv_icmp_eq (tgt := 213) hx hb dL_isBoat_208 (by decide) (fun c_23 => ?_) (fun c_23 => ?_)
                  · refine lv_iload hx hb dL_isBoat_213 (lv_at hl 1 rfl) ?_
                    refine lv_istore (lv' := [(8, .int (-5)), (7, .int (-5)), (6, .int (mL_of σ.2 x2 5)), (0, .ref ad.1.1), (1, .int x2), (2, .ref ad.2.1), (3, .ref ad.2.2.1), (4, .ref ad.2.2.2.1), (5, .ref ad.2.2.2.2)]) hx hb dL_isBoat_215 hl (by decide) rfl (fun ls hl => ?_)
                    refine lv_iconst (v := 0) hx hb dL_isBoat_217 (by decide) ?_
                    refine lv_istore (lv' := [(9, .int 0), (8, .int (-5)), (7, .int (-5)), (6, .int (mL_of σ.2 x2 5)), (0, .ref ad.1.1), (1, .int x2), (2, .ref ad.2.1), (3, .ref ad.2.2.1), (4, .ref ad.2.2.2.1), (5, .ref ad.2.2.2.2)]) hx hb dL_isBoat_218 hl (by decide) rfl (fun ls hl => ?_)
                    refine q_L_isBoat_220 l g ad σ x2 h_1 h_vok h_prs hC hP hK hE 6 0 (-5) (by decide) (by decide) (Or.inl rfl) (by decide) ?_ _ (lv_sub hl [0, 1, 2, 3, 4, 5, 6, 7, 8, 9] rfl)
                    exact by rw [hR, mL_isBoat_L15, if_pos c_1, if_pos c_5, if_pos c_9, if_pos c_13, if_pos c_17, if_pos c_18, if_pos c_22, if_pos c_23]
                  · refine lv_iconst (v := 0) hx hb dL_isBoat_211 (by decide) ?_
                    exact rd_zret hC dL_isBoat_212 rfl (Eq.symm (by rw [hR, mL_isBoat_L15, if_pos c_1, if_pos c_5, if_pos c_9, if_pos c_13, if_pos c_17, if_pos c_18, if_pos c_22, if_neg c_23]))
    · refine lv_aload_n hx hb dL_isBoat_21 rfl (lv_at hl 3 rfl) ?_
      refine lv_iload_n hx hb dL_isBoat_22 rfl (lv_at hl 4 rfl) ?_
      refine lv_iload hx hb dL_isBoat_23 (lv_at hl 0 rfl) ?_
      refine callRd hC (k_X3_boat l g ad.1 σ.1 x2 u8) ci_X3_boat lk_L_93 ⟨Nat.le_of_ble_eq_true rfl, Nat.le_of_ble_eq_true rfl⟩ (P_right hP) hK hE (q0 := 0) rfl rfl rfl rfl hl.1 rfl (Nat.le_of_ble_eq_true rfl) dL_isBoat_25 ⟨Nat.zero_le _, Nat.zero_le _⟩ ?_
      refine lv_aload_n hx hb dL_isBoat_28 rfl (lv_at hl 6 rfl) ?_
      refine lv_iload_n hx hb dL_isBoat_29 rfl (lv_at hl 4 rfl) ?_
      refine lv_iload hx hb dL_isBoat_30 (lv_at hl 0 rfl) ?_
      refine lv_iconst (v := 1) hx hb dL_isBoat_32 (by decide) ?_
      refine lv_iadd hx hb dL_isBoat_33 ?_
      refine callSd hC (k_L_of l g ad.2 σ.2 x2 (u8 + 1) h_1 (ix_c' (z := 1) rfl (by decide) (in_up (n := 4) rfl hi0 c_1) (by decide) (by decide))) ci_L_of lk_L_9 ⟨Nat.le_of_ble_eq_true rfl, Nat.le_of_ble_eq_true rfl⟩ (P_left hP) hK hE rfl hl.1 rfl (Nat.le_of_ble_eq_true rfl) dL_isBoat_34 ⟨Nat.zero_le _, Nat.zero_le _⟩ ?_
      refine lv_icmp_eq (tgt := 42) hx hb dL_isBoat_37 (by decide) (fun c_45 => ?_) (fun c_45 => ?_)
      · refine lv_iinc (v := (u8 + 1)) (lv' := [(8, .int (u8 + 1)), (7, .int (-5)), (6, .int (mL_of σ.2 x2 5)), (0, .ref ad.1.1), (1, .int x2), (2, .ref ad.2.1), (3, .ref ad.2.2.1), (4, .ref ad.2.2.2.1), (5, .ref ad.2.2.2.2)]) hx hb dL_isBoat_42 hl (k := 0) rfl rfl (by decide) rfl (fun ls hl => ?_)
        refine lv_goto (tgt := 15) hx hb dL_isBoat_45 (by decide) ?_
        have e9 := up_add (d := 1) (k := 1) (M := 4) rfl hi0 hi1 (by decide) (by decide)
        have e8 := nle_ti (k := 4) rfl c_1
        exact ih (u8 + 1) (by rw [e9]; omega) (by rw [e9]; omega) (by rw [e9]; omega) (by rw [hR, mL_isBoat_L15, if_neg c_1, if_pos c_45]) _ (lv_sub hl [0, 1, 2, 3, 4, 5, 6, 7, 8] rfl)
      · refine lv_iconst (v := 0) hx hb dL_isBoat_40 (by decide) ?_
        exact rd_zret hC dL_isBoat_41 rfl (Eq.symm (by rw [hR, mL_isBoat_L15, if_neg c_1, if_neg c_45]))
def mL_isBoat (σ : VS) (x2 : Int32) : Int32 := (mL_isBoat_L15 σ x2 6 0)
set_option maxHeartbeats 4000000 in
set_option maxRecDepth 100000 in
theorem k_L_isBoat (l : Launch) (g : WG) (ad : AV) (σ : VS) (x2 : Int32) (h_1 : vp_in x2 6) (h_vok : VOK σ) (h_prs : ¬ (mL_of σ.2 x2 0) = 0) : Rd l yL_isBoat cL_isBoat 11 (some .boolean) 6 (Wl g (cV g ad σ) (fun _ => False)) [.ref ad.1.1, .int x2, .ref ad.2.1, .ref ad.2.2.1, .ref ad.2.2.2.1, .ref ad.2.2.2.2] (mL_isBoat σ x2) := by
  refine rd_of (by decide) (Nat.le_of_ble_eq_true rfl) ?_
  intro p e s m args below meth c ls hC hW hl
  obtain ⟨hP, hK, hE⟩ := hW
  obtain ⟨hx, hb, hml, hr, hown, hts, hlk, hnm⟩ := id hC
  have hl : lv_has ls 11 [(0, .ref ad.1.1), (1, .int x2), (2, .ref ad.2.1), (3, .ref ad.2.2.1), (4, .ref ad.2.2.2.1), (5, .ref ad.2.2.2.2)] := hl
  refine lv_aload_n hx hb dL_isBoat_0 rfl (lv_at hl 3 rfl) ?_
  refine lv_iload_n hx hb dL_isBoat_1 rfl (lv_at hl 1 rfl) ?_
  refine lv_iconst (v := 5) hx hb dL_isBoat_2 (by decide) ?_
  refine callSd hC (k_L_of l g ad.2 σ.2 x2 5 h_1 (in_iff.mpr (by decide))) ci_L_of lk_L_9 ⟨Nat.le_of_ble_eq_true rfl, Nat.le_of_ble_eq_true rfl⟩ (P_left hP) hK hE rfl hl.1 rfl (Nat.le_of_ble_eq_true rfl) dL_isBoat_3 ⟨Nat.zero_le _, Nat.zero_le _⟩ ?_
  refine lv_istore (lv' := [(6, .int (mL_of σ.2 x2 5)), (0, .ref ad.1.1), (1, .int x2), (2, .ref ad.2.1), (3, .ref ad.2.2.1), (4, .ref ad.2.2.2.1), (5, .ref ad.2.2.2.2)]) hx hb dL_isBoat_6 hl (by decide) rfl (fun ls hl => ?_)
  refine lv_bipush (v := (-5)) hx hb dL_isBoat_8 (by decide) ?_
  refine lv_istore (lv' := [(7, .int (-5)), (6, .int (mL_of σ.2 x2 5)), (0, .ref ad.1.1), (1, .int x2), (2, .ref ad.2.1), (3, .ref ad.2.2.1), (4, .ref ad.2.2.2.1), (5, .ref ad.2.2.2.2)]) hx hb dL_isBoat_10 hl (by decide) rfl (fun ls hl => ?_)
  refine lv_iconst (v := 0) hx hb dL_isBoat_12 (by decide) ?_
  refine lv_istore (lv' := [(8, .int 0), (7, .int (-5)), (6, .int (mL_of σ.2 x2 5)), (0, .ref ad.1.1), (1, .int x2), (2, .ref ad.2.1), (3, .ref ad.2.2.1), (4, .ref ad.2.2.2.1), (5, .ref ad.2.2.2.2)]) hx hb dL_isBoat_13 hl (by decide) rfl (fun ls hl => ?_)
  refine q_L_isBoat_15 l g ad σ x2 h_1 h_vok h_prs hC hP hK hE 6 0 (by decide) (by decide) (by decide) ?_ _ (lv_sub hl [0, 1, 2, 3, 4, 5, 6, 7, 8] rfl)
  exact by unfold mL_isBoat; rfl
def mL_isSo_L290 (σ : VS) (w7 : Int32) (w6 : Int32) (w5 : Int32) : Nat → Int32 → Int32
  | 0, _ => 0
  | n + 1, u8 => (if 3 ≤ u8 then (if (mX3_count σ.1 0) = ((L_g σ.2) (0 : Int32).toNatClampNeg) then (if (mX3_count σ.1 1) = (mL_tide σ.2 ((L_g σ.2) (0 : Int32).toNatClampNeg)) then (if (mX3_count σ.1 2) = (mL_left σ.2) then (if (mX3_count σ.1 3) = w5 then (if (mX3_count σ.1 4) = w6 then (if (mX3_count σ.1 5) = w7 then (if (mX3_count σ.1 6) = ((L_g σ.2) (5 : Int32).toNatClampNeg) then (if (mX3_count σ.1 7) = ((L_g σ.2) (6 : Int32).toNatClampNeg) then (if (mX3_count σ.1 8) = (mL_masts σ.2 0) then (if (mX3_count σ.1 9) = (mL_masts σ.2 1) then (if (mX3_tide σ.1 (((L_g σ.2) (0 : Int32).toNatClampNeg) + 9)) = (mL_tide σ.2 (((L_g σ.2) (0 : Int32).toNatClampNeg) + 9)) then 1 else 0) else 0) else 0) else 0) else 0) else 0) else 0) else 0) else 0) else 0) else 0) else (if (mX3_cradle σ.1 u8 0) = ((L_g σ.2) (7 + u8).toNatClampNeg) then (if (mX3_cradle σ.1 u8 1) = (mL_taken σ.2 u8) then (if (mX3_cradle σ.1 u8 2) = (mL_bears u8) then (if (mX3_count σ.1 (10 + u8)) = ((L_g σ.2) (2 + u8).toNatClampNeg) then (mL_isSo_L290 σ w7 w6 w5 n (u8 + 1)) else 0) else 0) else 0) else 0))
set_option maxHeartbeats 4000000 in
set_option maxRecDepth 100000 in
theorem q_L_isSo_290 {p : Program} {e : Env} {s : State} {m : MethodId} {args : Array Value} {below : List Frame} {meth : Method} {c : Code} (l : Launch) (g : WG) (ad : AV) (σ : VS) (w7 : Int32) (w6 : Int32) (w5 : Int32) (h_vok : VOK σ) (hC : Cx p s m args meth c yL_isSo cL_isSo 11 (some .boolean)) (hP : va_P g.1 vwCl (cV g ad σ) s.heap) (hK : va_K g.1 vwCl (tysW g) s) (hE : Ex (fun _ => False) s s.heap) {r : Int32} : ∀ (n : Nat) (u8 : Int32) (hi0 : 0 ≤ u8.toInt) (hi1 : u8.toInt ≤ 3) (hm : ((4 : Int) - u8.toInt).toNat < n) (hR : r = mL_isSo_L290 σ w7 w6 w5 n u8) (ls : Array Slot) (hl : lv_has ls 11 [(8, .int u8), (7, .int w7), (6, .int w6), (5, .int w5), (0, .ref ad.1.1), (1, .ref ad.2.1), (2, .ref ad.2.2.1), (3, .ref ad.2.2.2.1), (4, .ref ad.2.2.2.2)]), W p l e (rk 7) s m args below meth c s.heap [] 0 0 (MQ below (vp_Si (fun x => x = r)) args s 0 0 (fun _ => False)) (F0 m 290 ls []) := by
  obtain ⟨hx, hb, hml, hr, hown, hts, hlk, hnm⟩ := id hC
  intro n
  induction n with
  | zero => intro u8 hi0 hi1 hm hR ls hl; exact absurd hm (Nat.not_lt_zero _)
  | succ n ih =>
    intro u8 hi0 hi1 hm hR ls hl
    refine lv_iload hx hb dL_isSo_290 (lv_at hl 0 rfl) ?_
    refine lv_iconst (v := 3) hx hb dL_isSo_292 (by decide) ?_
    refine lv_icmp_ge (tgt := 370) hx hb dL_isSo_293 (by decide) (fun c_3 => ?_) (fun c_3 => ?_)
    · refine lv_aload_n hx hb dL_isSo_370 rfl (lv_at hl 4 rfl) ?_
      refine lv_iconst (v := 0) hx hb dL_isSo_371 (by decide) ?_
      refine callRd hC (k_X3_count l g ad.1 σ.1 0) ci_X3_count lk_L_123 ⟨Nat.le_of_ble_eq_true rfl, Nat.le_of_ble_eq_true rfl⟩ (P_right hP) hK hE (q0 := 0) rfl rfl rfl rfl hl.1 rfl (Nat.le_of_ble_eq_true rfl) dL_isSo_372 ⟨Nat.zero_le _, Nat.zero_le _⟩ ?_
      refine lv_aload_n hx hb dL_isSo_375 rfl (lv_at hl 5 rfl) ?_
      refine lv_iconst (v := 0) hx hb dL_isSo_376 (by decide) ?_
      refine lV_g hC hK hP (in_iff.mpr (by decide)) dL_isSo_377 ?_
      refine lv_icmp_ne (tgt := 518) hx hb dL_isSo_378 (by decide) (fun c_4 => ?_) (fun c_4 => ?_)
      · refine lv_iconst (v := 0) hx hb dL_isSo_518 (by decide) ?_
        exact rd_zret hC dL_isSo_519 rfl (Eq.symm (by rw [hR, mL_isSo_L290, if_pos c_3, if_neg c_4]))
      · refine lv_aload_n hx hb dL_isSo_381 rfl (lv_at hl 4 rfl) ?_
        refine lv_iconst (v := 1) hx hb dL_isSo_382 (by decide) ?_
        refine callRd hC (k_X3_count l g ad.1 σ.1 1) ci_X3_count lk_L_123 ⟨Nat.le_of_ble_eq_true rfl, Nat.le_of_ble_eq_true rfl⟩ (P_right hP) hK hE (q0 := 0) rfl rfl rfl rfl hl.1 rfl (Nat.le_of_ble_eq_true rfl) dL_isSo_383 ⟨Nat.zero_le _, Nat.zero_le _⟩ ?_
        refine lv_aload_n hx hb dL_isSo_386 rfl (lv_at hl 5 rfl) ?_
        refine lv_iconst (v := 0) hx hb dL_isSo_387 (by decide) ?_
        refine lV_g hC hK hP (in_iff.mpr (by decide)) dL_isSo_388 ?_
        refine lv_aload_n hx hb dL_isSo_389 rfl (lv_at hl 5 rfl) ?_
        refine callSd hC (k_L_tide l g ad.2 σ.2 ((L_g σ.2) (0 : Int32).toNatClampNeg)) ci_L_tide lk_L_23 ⟨Nat.le_of_ble_eq_true rfl, Nat.le_of_ble_eq_true rfl⟩ (P_left hP) hK hE rfl hl.1 rfl (Nat.le_of_ble_eq_true rfl) dL_isSo_390 ⟨Nat.zero_le _, Nat.zero_le _⟩ ?_
        refine lv_icmp_ne (tgt := 518) hx hb dL_isSo_393 (by decide) (fun c_5 => ?_) (fun c_5 => ?_)
        · refine lv_iconst (v := 0) hx hb dL_isSo_518 (by decide) ?_
          exact rd_zret hC dL_isSo_519 rfl (Eq.symm (by rw [hR, mL_isSo_L290, if_pos c_3, if_pos c_4, if_neg c_5]))
        · refine lv_aload_n hx hb dL_isSo_396 rfl (lv_at hl 4 rfl) ?_
          refine lv_iconst (v := 2) hx hb dL_isSo_397 (by decide) ?_
          refine callRd hC (k_X3_count l g ad.1 σ.1 2) ci_X3_count lk_L_123 ⟨Nat.le_of_ble_eq_true rfl, Nat.le_of_ble_eq_true rfl⟩ (P_right hP) hK hE (q0 := 0) rfl rfl rfl rfl hl.1 rfl (Nat.le_of_ble_eq_true rfl) dL_isSo_398 ⟨Nat.zero_le _, Nat.zero_le _⟩ ?_
          refine lv_aload_n hx hb dL_isSo_401 rfl (lv_at hl 5 rfl) ?_
          refine callSd hC (k_L_left l g ad.2 σ.2) ci_L_left lk_L_34 ⟨Nat.le_of_ble_eq_true rfl, Nat.le_of_ble_eq_true rfl⟩ (P_left hP) hK hE rfl hl.1 rfl (Nat.le_of_ble_eq_true rfl) dL_isSo_402 ⟨Nat.zero_le _, Nat.zero_le _⟩ ?_
          refine lv_icmp_ne (tgt := 518) hx hb dL_isSo_405 (by decide) (fun c_6 => ?_) (fun c_6 => ?_)
          · refine lv_iconst (v := 0) hx hb dL_isSo_518 (by decide) ?_
            exact rd_zret hC dL_isSo_519 rfl (Eq.symm (by rw [hR, mL_isSo_L290, if_pos c_3, if_pos c_4, if_pos c_5, if_neg c_6]))
          · refine lv_aload_n hx hb dL_isSo_408 rfl (lv_at hl 4 rfl) ?_
            refine lv_iconst (v := 3) hx hb dL_isSo_409 (by decide) ?_
            refine callRd hC (k_X3_count l g ad.1 σ.1 3) ci_X3_count lk_L_123 ⟨Nat.le_of_ble_eq_true rfl, Nat.le_of_ble_eq_true rfl⟩ (P_right hP) hK hE (q0 := 0) rfl rfl rfl rfl hl.1 rfl (Nat.le_of_ble_eq_true rfl) dL_isSo_410 ⟨Nat.zero_le _, Nat.zero_le _⟩ ?_
            refine lv_iload hx hb dL_isSo_413 (lv_at hl 3 rfl) ?_
            refine lv_icmp_ne (tgt := 518) hx hb dL_isSo_415 (by decide) (fun c_7 => ?_) (fun c_7 => ?_)
            · refine lv_iconst (v := 0) hx hb dL_isSo_518 (by decide) ?_
              exact rd_zret hC dL_isSo_519 rfl (Eq.symm (by rw [hR, mL_isSo_L290, if_pos c_3, if_pos c_4, if_pos c_5, if_pos c_6, if_neg c_7]))
            · refine lv_aload_n hx hb dL_isSo_418 rfl (lv_at hl 4 rfl) ?_
              refine lv_iconst (v := 4) hx hb dL_isSo_419 (by decide) ?_
              refine callRd hC (k_X3_count l g ad.1 σ.1 4) ci_X3_count lk_L_123 ⟨Nat.le_of_ble_eq_true rfl, Nat.le_of_ble_eq_true rfl⟩ (P_right hP) hK hE (q0 := 0) rfl rfl rfl rfl hl.1 rfl (Nat.le_of_ble_eq_true rfl) dL_isSo_420 ⟨Nat.zero_le _, Nat.zero_le _⟩ ?_
              refine lv_iload hx hb dL_isSo_423 (lv_at hl 2 rfl) ?_
              refine lv_icmp_ne (tgt := 518) hx hb dL_isSo_425 (by decide) (fun c_8 => ?_) (fun c_8 => ?_)
              · refine lv_iconst (v := 0) hx hb dL_isSo_518 (by decide) ?_
                exact rd_zret hC dL_isSo_519 rfl (Eq.symm (by rw [hR, mL_isSo_L290, if_pos c_3, if_pos c_4, if_pos c_5, if_pos c_6, if_pos c_7, if_neg c_8]))
              · refine lv_aload_n hx hb dL_isSo_428 rfl (lv_at hl 4 rfl) ?_
                refine lv_iconst (v := 5) hx hb dL_isSo_429 (by decide) ?_
                refine callRd hC (k_X3_count l g ad.1 σ.1 5) ci_X3_count lk_L_123 ⟨Nat.le_of_ble_eq_true rfl, Nat.le_of_ble_eq_true rfl⟩ (P_right hP) hK hE (q0 := 0) rfl rfl rfl rfl hl.1 rfl (Nat.le_of_ble_eq_true rfl) dL_isSo_430 ⟨Nat.zero_le _, Nat.zero_le _⟩ ?_
                refine lv_iload hx hb dL_isSo_433 (lv_at hl 1 rfl) ?_
                refine lv_icmp_ne (tgt := 518) hx hb dL_isSo_435 (by decide) (fun c_9 => ?_) (fun c_9 => ?_)
                · refine lv_iconst (v := 0) hx hb dL_isSo_518 (by decide) ?_
                  exact rd_zret hC dL_isSo_519 rfl (Eq.symm (by rw [hR, mL_isSo_L290, if_pos c_3, if_pos c_4, if_pos c_5, if_pos c_6, if_pos c_7, if_pos c_8, if_neg c_9]))
                · refine lv_aload_n hx hb dL_isSo_438 rfl (lv_at hl 4 rfl) ?_
                  refine lv_bipush (v := 6) hx hb dL_isSo_439 (by decide) ?_
                  refine callRd hC (k_X3_count l g ad.1 σ.1 6) ci_X3_count lk_L_123 ⟨Nat.le_of_ble_eq_true rfl, Nat.le_of_ble_eq_true rfl⟩ (P_right hP) hK hE (q0 := 0) rfl rfl rfl rfl hl.1 rfl (Nat.le_of_ble_eq_true rfl) dL_isSo_441 ⟨Nat.zero_le _, Nat.zero_le _⟩ ?_
                  refine lv_aload_n hx hb dL_isSo_444 rfl (lv_at hl 5 rfl) ?_
                  refine lv_iconst (v := 5) hx hb dL_isSo_445 (by decide) ?_
                  refine lV_g hC hK hP (in_iff.mpr (by decide)) dL_isSo_446 ?_
                  refine lv_icmp_ne (tgt := 518) hx hb dL_isSo_447 (by decide) (fun c_10 => ?_) (fun c_10 => ?_)
                  · refine lv_iconst (v := 0) hx hb dL_isSo_518 (by decide) ?_
                    exact rd_zret hC dL_isSo_519 rfl (Eq.symm (by rw [hR, mL_isSo_L290, if_pos c_3, if_pos c_4, if_pos c_5, if_pos c_6, if_pos c_7, if_pos c_8, if_pos c_9, if_neg c_10]))
                  · refine lv_aload_n hx hb dL_isSo_450 rfl (lv_at hl 4 rfl) ?_
                    refine lv_bipush (v := 7) hx hb dL_isSo_451 (by decide) ?_
                    refine callRd hC (k_X3_count l g ad.1 σ.1 7) ci_X3_count lk_L_123 ⟨Nat.le_of_ble_eq_true rfl, Nat.le_of_ble_eq_true rfl⟩ (P_right hP) hK hE (q0 := 0) rfl rfl rfl rfl hl.1 rfl (Nat.le_of_ble_eq_true rfl) dL_isSo_453 ⟨Nat.zero_le _, Nat.zero_le _⟩ ?_
                    refine lv_aload_n hx hb dL_isSo_456 rfl (lv_at hl 5 rfl) ?_
                    refine lv_bipush (v := 6) hx hb dL_isSo_457 (by decide) ?_
                    refine lV_g hC hK hP (in_iff.mpr (by decide)) dL_isSo_459 ?_
                    refine lv_icmp_ne (tgt := 518) hx hb dL_isSo_460 (by decide) (fun c_11 => ?_) (fun c_11 => ?_)
                    · refine lv_iconst (v := 0) hx hb dL_isSo_518 (by decide) ?_
                      exact rd_zret hC dL_isSo_519 rfl (Eq.symm (by rw [hR, mL_isSo_L290, if_pos c_3, if_pos c_4, if_pos c_5, if_pos c_6, if_pos c_7, if_pos c_8, if_pos c_9, if_pos c_10, if_neg c_11]))
                    · refine lv_aload_n hx hb dL_isSo_463 rfl (lv_at hl 4 rfl) ?_
                      refine lv_bipush (v := 8) hx hb dL_isSo_464 (by decide) ?_
                      refine callRd hC (k_X3_count l g ad.1 σ.1 8) ci_X3_count lk_L_123 ⟨Nat.le_of_ble_eq_true rfl, Nat.le_of_ble_eq_true rfl⟩ (P_right hP) hK hE (q0 := 0) rfl rfl rfl rfl hl.1 rfl (Nat.le_of_ble_eq_true rfl) dL_isSo_466 ⟨Nat.zero_le _, Nat.zero_le _⟩ ?_
                      refine lv_iconst (v := 0) hx hb dL_isSo_469 (by decide) ?_
                      refine lv_aload_n hx hb dL_isSo_470 rfl (lv_at hl 6 rfl) ?_
                      refine callSd hC (k_L_masts l g ad.2 σ.2 0) ci_L_masts lk_L_126 ⟨Nat.le_of_ble_eq_true rfl, Nat.le_of_ble_eq_true rfl⟩ (P_left hP) hK hE rfl hl.1 rfl (Nat.le_of_ble_eq_true rfl) dL_isSo_471 ⟨Nat.zero_le _, Nat.zero_le _⟩ ?_
                      refine lv_icmp_ne (tgt := 518) hx hb dL_isSo_474 (by decide) (fun c_12 => ?_) (fun c_12 => ?_)
                      · refine lv_iconst (v := 0) hx hb dL_isSo_518 (by decide) ?_
                        exact rd_zret hC dL_isSo_519 rfl (Eq.symm (by rw [hR, mL_isSo_L290, if_pos c_3, if_pos c_4, if_pos c_5, if_pos c_6, if_pos c_7, if_pos c_8, if_pos c_9, if_pos c_10, if_pos c_11, if_neg c_12]))
                      · refine lv_aload_n hx hb dL_isSo_477 rfl (lv_at hl 4 rfl) ?_
                        refine lv_bipush (v := 9) hx hb dL_isSo_478 (by decide) ?_
                        refine callRd hC (k_X3_count l g ad.1 σ.1 9) ci_X3_count lk_L_123 ⟨Nat.le_of_ble_eq_true rfl, Nat.le_of_ble_eq_true rfl⟩ (P_right hP) hK hE (q0 := 0) rfl rfl rfl rfl hl.1 rfl (Nat.le_of_ble_eq_true rfl) dL_isSo_480 ⟨Nat.zero_le _, Nat.zero_le _⟩ ?_
                        refine lv_iconst (v := 1) hx hb dL_isSo_483 (by decide) ?_
                        refine lv_aload_n hx hb dL_isSo_484 rfl (lv_at hl 6 rfl) ?_
                        refine callSd hC (k_L_masts l g ad.2 σ.2 1) ci_L_masts lk_L_126 ⟨Nat.le_of_ble_eq_true rfl, Nat.le_of_ble_eq_true rfl⟩ (P_left hP) hK hE rfl hl.1 rfl (Nat.le_of_ble_eq_true rfl) dL_isSo_485 ⟨Nat.zero_le _, Nat.zero_le _⟩ ?_
                        refine lv_icmp_ne (tgt := 518) hx hb dL_isSo_488 (by decide) (fun c_13 => ?_) (fun c_13 => ?_)
                        · refine lv_iconst (v := 0) hx hb dL_isSo_518 (by decide) ?_
                          exact rd_zret hC dL_isSo_519 rfl (Eq.symm (by rw [hR, mL_isSo_L290, if_pos c_3, if_pos c_4, if_pos c_5, if_pos c_6, if_pos c_7, if_pos c_8, if_pos c_9, if_pos c_10, if_pos c_11, if_pos c_12, if_neg c_13]))
                        · refine lv_aload_n hx hb dL_isSo_491 rfl (lv_at hl 4 rfl) ?_
                          refine lv_aload_n hx hb dL_isSo_492 rfl (lv_at hl 5 rfl) ?_
                          refine lv_iconst (v := 0) hx hb dL_isSo_493 (by decide) ?_
                          refine lV_g hC hK hP (in_iff.mpr (by decide)) dL_isSo_494 ?_
                          refine lv_bipush (v := 9) hx hb dL_isSo_495 (by decide) ?_
                          refine lv_iadd hx hb dL_isSo_497 ?_
                          refine callRd hC (k_X3_tide l g ad.1 σ.1 (((L_g σ.2) (0 : Int32).toNatClampNeg) + 9)) ci_X3_tide lk_L_129 ⟨Nat.le_of_ble_eq_true rfl, Nat.le_of_ble_eq_true rfl⟩ (P_right hP) hK hE (q0 := 0) rfl rfl rfl rfl hl.1 rfl (Nat.le_of_ble_eq_true rfl) dL_isSo_498 ⟨Nat.zero_le _, Nat.zero_le _⟩ ?_
                          refine lv_aload_n hx hb dL_isSo_501 rfl (lv_at hl 5 rfl) ?_
                          refine lv_iconst (v := 0) hx hb dL_isSo_502 (by decide) ?_
                          refine lV_g hC hK hP (in_iff.mpr (by decide)) dL_isSo_503 ?_
                          refine lv_bipush (v := 9) hx hb dL_isSo_504 (by decide) ?_
                          refine lv_iadd hx hb dL_isSo_506 ?_
                          refine lv_aload_n hx hb dL_isSo_507 rfl (lv_at hl 5 rfl) ?_
                          refine callSd hC (k_L_tide l g ad.2 σ.2 (((L_g σ.2) (0 : Int32).toNatClampNeg) + 9)) ci_L_tide lk_L_23 ⟨Nat.le_of_ble_eq_true rfl, Nat.le_of_ble_eq_true rfl⟩ (P_left hP) hK hE rfl hl.1 rfl (Nat.le_of_ble_eq_true rfl) dL_isSo_508 ⟨Nat.zero_le _, Nat.zero_le _⟩ ?_
                          refine lv_icmp_ne (tgt := 518) hx hb dL_isSo_511 (by decide) (fun c_14 => ?_) (fun c_14 => ?_)
                          · refine lv_iconst (v := 0) hx hb dL_isSo_518 (by decide) ?_
                            exact rd_zret hC dL_isSo_519 rfl (Eq.symm (by rw [hR, mL_isSo_L290, if_pos c_3, if_pos c_4, if_pos c_5, if_pos c_6, if_pos c_7, if_pos c_8, if_pos c_9, if_pos c_10, if_pos c_11, if_pos c_12, if_pos c_13, if_neg c_14]))
                          · refine lv_iconst (v := 1) hx hb dL_isSo_514 (by decide) ?_
                            refine lv_goto (tgt := 519) hx hb dL_isSo_515 (by decide) ?_
                            exact rd_zret hC dL_isSo_519 rfl (Eq.symm (by rw [hR, mL_isSo_L290, if_pos c_3, if_pos c_4, if_pos c_5, if_pos c_6, if_pos c_7, if_pos c_8, if_pos c_9, if_pos c_10, if_pos c_11, if_pos c_12, if_pos c_13, if_pos c_14]))
    · refine lv_aload_n hx hb dL_isSo_296 rfl (lv_at hl 4 rfl) ?_
      refine lv_iload hx hb dL_isSo_297 (lv_at hl 0 rfl) ?_
      refine lv_iconst (v := 0) hx hb dL_isSo_299 (by decide) ?_
      refine callRd hC (k_X3_cradle l g ad.1 σ.1 u8 0) ci_X3_cradle lk_L_121 ⟨Nat.le_of_ble_eq_true rfl, Nat.le_of_ble_eq_true rfl⟩ (P_right hP) hK hE (q0 := 0) rfl rfl rfl rfl hl.1 rfl (Nat.le_of_ble_eq_true rfl) dL_isSo_300 ⟨Nat.zero_le _, Nat.zero_le _⟩ ?_
      refine lv_aload_n hx hb dL_isSo_303 rfl (lv_at hl 5 rfl) ?_
      refine lv_bipush (v := 7) hx hb dL_isSo_304 (by decide) ?_
      refine lv_iload hx hb dL_isSo_306 (lv_at hl 0 rfl) ?_
      refine lv_iadd hx hb dL_isSo_308 ?_
      refine lV_g hC hK hP (ix_c (z := 7) rfl (by decide) (in_up (n := 3) rfl hi0 c_3) (by decide) (by decide)) dL_isSo_309 ?_
      refine lv_icmp_ne (tgt := 362) hx hb dL_isSo_310 (by decide) (fun c_15 => ?_) (fun c_15 => ?_)
      · refine lv_iconst (v := 0) hx hb dL_isSo_362 (by decide) ?_
        exact rd_zret hC dL_isSo_363 rfl (Eq.symm (by rw [hR, mL_isSo_L290, if_neg c_3, if_neg c_15]))
      · refine lv_aload_n hx hb dL_isSo_313 rfl (lv_at hl 4 rfl) ?_
        refine lv_iload hx hb dL_isSo_314 (lv_at hl 0 rfl) ?_
        refine lv_iconst (v := 1) hx hb dL_isSo_316 (by decide) ?_
        refine callRd hC (k_X3_cradle l g ad.1 σ.1 u8 1) ci_X3_cradle lk_L_121 ⟨Nat.le_of_ble_eq_true rfl, Nat.le_of_ble_eq_true rfl⟩ (P_right hP) hK hE (q0 := 0) rfl rfl rfl rfl hl.1 rfl (Nat.le_of_ble_eq_true rfl) dL_isSo_317 ⟨Nat.zero_le _, Nat.zero_le _⟩ ?_
        refine lv_iload hx hb dL_isSo_320 (lv_at hl 0 rfl) ?_
        refine lv_aload_n hx hb dL_isSo_322 rfl (lv_at hl 6 rfl) ?_
        refine callSd hC (k_L_taken l g ad.2 σ.2 u8) ci_L_taken lk_L_15 ⟨Nat.le_of_ble_eq_true rfl, Nat.le_of_ble_eq_true rfl⟩ (P_left hP) hK hE rfl hl.1 rfl (Nat.le_of_ble_eq_true rfl) dL_isSo_323 ⟨Nat.zero_le _, Nat.zero_le _⟩ ?_
        refine lv_icmp_ne (tgt := 362) hx hb dL_isSo_326 (by decide) (fun c_16 => ?_) (fun c_16 => ?_)
        · refine lv_iconst (v := 0) hx hb dL_isSo_362 (by decide) ?_
          exact rd_zret hC dL_isSo_363 rfl (Eq.symm (by rw [hR, mL_isSo_L290, if_neg c_3, if_pos c_15, if_neg c_16]))
        · refine lv_aload_n hx hb dL_isSo_329 rfl (lv_at hl 4 rfl) ?_
          refine lv_iload hx hb dL_isSo_330 (lv_at hl 0 rfl) ?_
          refine lv_iconst (v := 2) hx hb dL_isSo_332 (by decide) ?_
          refine callRd hC (k_X3_cradle l g ad.1 σ.1 u8 2) ci_X3_cradle lk_L_121 ⟨Nat.le_of_ble_eq_true rfl, Nat.le_of_ble_eq_true rfl⟩ (P_right hP) hK hE (q0 := 0) rfl rfl rfl rfl hl.1 rfl (Nat.le_of_ble_eq_true rfl) dL_isSo_333 ⟨Nat.zero_le _, Nat.zero_le _⟩ ?_
          refine lv_iload hx hb dL_isSo_336 (lv_at hl 0 rfl) ?_
          refine callRs hC (k_L_bears l g u8) ci_L_bears lk_L_19 ⟨Nat.le_of_ble_eq_true rfl, Nat.le_of_ble_eq_true rfl⟩ hK hE rfl hl.1 rfl (Nat.le_of_ble_eq_true rfl) dL_isSo_338 ⟨Nat.zero_le _, Nat.zero_le _⟩ ?_
          refine lv_icmp_ne (tgt := 362) hx hb dL_isSo_341 (by decide) (fun c_17 => ?_) (fun c_17 => ?_)
          · refine lv_iconst (v := 0) hx hb dL_isSo_362 (by decide) ?_
            exact rd_zret hC dL_isSo_363 rfl (Eq.symm (by rw [hR, mL_isSo_L290, if_neg c_3, if_pos c_15, if_pos c_16, if_neg c_17]))
          · refine lv_aload_n hx hb dL_isSo_344 rfl (lv_at hl 4 rfl) ?_
            refine lv_bipush (v := 10) hx hb dL_isSo_345 (by decide) ?_
            refine lv_iload hx hb dL_isSo_347 (lv_at hl 0 rfl) ?_
            refine lv_iadd hx hb dL_isSo_349 ?_
            refine callRd hC (k_X3_count l g ad.1 σ.1 (10 + u8)) ci_X3_count lk_L_123 ⟨Nat.le_of_ble_eq_true rfl, Nat.le_of_ble_eq_true rfl⟩ (P_right hP) hK hE (q0 := 0) rfl rfl rfl rfl hl.1 rfl (Nat.le_of_ble_eq_true rfl) dL_isSo_350 ⟨Nat.zero_le _, Nat.zero_le _⟩ ?_
            refine lv_aload_n hx hb dL_isSo_353 rfl (lv_at hl 5 rfl) ?_
            refine lv_iconst (v := 2) hx hb dL_isSo_354 (by decide) ?_
            refine lv_iload hx hb dL_isSo_355 (lv_at hl 0 rfl) ?_
            refine lv_iadd hx hb dL_isSo_357 ?_
            refine lV_g hC hK hP (ix_c (z := 2) rfl (by decide) (in_up (n := 3) rfl hi0 c_3) (by decide) (by decide)) dL_isSo_358 ?_
            refine lv_icmp_eq (tgt := 364) hx hb dL_isSo_359 (by decide) (fun c_18 => ?_) (fun c_18 => ?_)
            · refine lv_iinc (v := (u8 + 1)) (lv' := [(8, .int (u8 + 1)), (7, .int w7), (6, .int w6), (5, .int w5), (0, .ref ad.1.1), (1, .ref ad.2.1), (2, .ref ad.2.2.1), (3, .ref ad.2.2.2.1), (4, .ref ad.2.2.2.2)]) hx hb dL_isSo_364 hl (k := 0) rfl rfl (by decide) rfl (fun ls hl => ?_)
              refine lv_goto (tgt := 290) hx hb dL_isSo_367 (by decide) ?_
              have e9 := up_add (d := 1) (k := 1) (M := 3) rfl hi0 hi1 (by decide) (by decide)
              have e8 := nle_ti (k := 3) rfl c_3
              exact ih (u8 + 1) (by rw [e9]; omega) (by rw [e9]; omega) (by rw [e9]; omega) (by rw [hR, mL_isSo_L290, if_neg c_3, if_pos c_15, if_pos c_16, if_pos c_17, if_pos c_18]) _ (lv_sub hl [0, 1, 2, 3, 4, 5, 6, 7, 8] rfl)
            · refine lv_iconst (v := 0) hx hb dL_isSo_362 (by decide) ?_
              exact rd_zret hC dL_isSo_363 rfl (Eq.symm (by rw [hR, mL_isSo_L290, if_neg c_3, if_pos c_15, if_pos c_16, if_pos c_17, if_neg c_18]))
def mL_isSo_L140 (σ : VS) (w9 : Int32) (w8 : Int32) (w7 : Int32) (w6 : Int32) (w5 : Int32) : Nat → Int32 → Int32
  | 0, _ => 0
  | n + 1, u10 => (if w9 ≤ u10 then 1 else (if (mX3_stands σ.1 w8 u10) = ((L_r σ.2) (((7 * w8) + 1) + u10).toNatClampNeg) then (mL_isSo_L140 σ w9 w8 w7 w6 w5 n (u10 + 1)) else 0))
set_option maxHeartbeats 4000000 in
set_option maxRecDepth 100000 in
theorem q_L_isSo_140 {p : Program} {e : Env} {s : State} {m : MethodId} {args : Array Value} {below : List Frame} {meth : Method} {c : Code} (l : Launch) (g : WG) (ad : AV) (σ : VS) (w9 : Int32) (w8 : Int32) (w7 : Int32) (w6 : Int32) (w5 : Int32) (h_vok : VOK σ) (h8 : vp_in w8 4) (h9 : vp_in w9 7) (hC : Cx p s m args meth c yL_isSo cL_isSo 11 (some .boolean)) (hP : va_P g.1 vwCl (cV g ad σ) s.heap) (hK : va_K g.1 vwCl (tysW g) s) (hE : Ex (fun _ => False) s s.heap) {r r1 : Int32} (h0 : r1 = 0 → r = 0) (kk : ¬ r1 = 0 → ∀ (ls : Array Slot), lv_has ls 11 [(9, .int w9), (8, .int w8), (7, .int w7), (6, .int w6), (5, .int w5), (0, .ref ad.1.1), (1, .ref ad.2.1), (2, .ref ad.2.2.1), (3, .ref ad.2.2.2.1), (4, .ref ad.2.2.2.2)] → W p l e (rk 7) s m args below meth c s.heap [] 0 0 (MQ below (vp_Si (fun x => x = r)) args s 0 0 (fun _ => False)) (F0 m 179 ls [])) : ∀ (n : Nat) (u10 : Int32) (hi0 : 0 ≤ u10.toInt) (hm : ((7 : Int) - u10.toInt).toNat < n) (hR : r1 = mL_isSo_L140 σ w9 w8 w7 w6 w5 n u10) (ls : Array Slot) (hl : lv_has ls 11 [(10, .int u10), (9, .int w9), (8, .int w8), (7, .int w7), (6, .int w6), (5, .int w5), (0, .ref ad.1.1), (1, .ref ad.2.1), (2, .ref ad.2.2.1), (3, .ref ad.2.2.2.1), (4, .ref ad.2.2.2.2)]), W p l e (rk 7) s m args below meth c s.heap [] 0 0 (MQ below (vp_Si (fun x => x = r)) args s 0 0 (fun _ => False)) (F0 m 140 ls []) := by
  obtain ⟨hx, hb, hml, hr, hown, hts, hlk, hnm⟩ := id hC
  intro n
  induction n with
  | zero => intro u10 hi0 hm hR ls hl; exact absurd hm (Nat.not_lt_zero _)
  | succ n ih =>
    intro u10 hi0 hm hR ls hl
    refine lv_iload hx hb dL_isSo_140 (lv_at hl 0 rfl) ?_
    refine lv_iload hx hb dL_isSo_142 (lv_at hl 1 rfl) ?_
    refine lv_icmp_ge (tgt := 179) hx hb dL_isSo_144 (by decide) (fun c_19 => ?_) (fun c_19 => ?_)
    · exact kk (by rw [hR, mL_isSo_L140, if_pos c_19]; decide) _ (lv_sub hl [1, 2, 3, 4, 5, 6, 7, 8, 9, 10] rfl)
    · refine lv_aload_n hx hb dL_isSo_147 rfl (lv_at hl 6 rfl) ?_
      refine lv_iload hx hb dL_isSo_148 (lv_at hl 2 rfl) ?_
      refine lv_iload hx hb dL_isSo_150 (lv_at hl 0 rfl) ?_
      refine callRd hC (k_X3_stands l g ad.1 σ.1 w8 u10) ci_X3_stands lk_L_115 ⟨Nat.le_of_ble_eq_true rfl, Nat.le_of_ble_eq_true rfl⟩ (P_right hP) hK hE (q0 := 0) rfl rfl rfl rfl hl.1 rfl (Nat.le_of_ble_eq_true rfl) dL_isSo_152 ⟨Nat.zero_le _, Nat.zero_le _⟩ ?_
      refine lv_aload hx hb dL_isSo_155 (lv_at hl 10 rfl) ?_
      refine lv_bipush (v := 7) hx hb dL_isSo_157 (by decide) ?_
      refine lv_iload hx hb dL_isSo_159 (lv_at hl 2 rfl) ?_
      refine lv_imul hx hb dL_isSo_161 ?_
      refine lv_iconst (v := 1) hx hb dL_isSo_162 (by decide) ?_
      refine lv_iadd hx hb dL_isSo_163 ?_
      refine lv_iload hx hb dL_isSo_164 (lv_at hl 0 rfl) ?_
      refine lv_iadd hx hb dL_isSo_166 ?_
      refine lV_r hC hK hP (ix_71 h8 (so_in h9 hi0 c_19)) dL_isSo_167 ?_
      refine lv_icmp_eq (tgt := 173) hx hb dL_isSo_168 (by decide) (fun c_20 => ?_) (fun c_20 => ?_)
      · refine lv_iinc (v := (u10 + 1)) (lv' := [(10, .int (u10 + 1)), (9, .int w9), (8, .int w8), (7, .int w7), (6, .int w6), (5, .int w5), (0, .ref ad.1.1), (1, .ref ad.2.1), (2, .ref ad.2.2.1), (3, .ref ad.2.2.2.1), (4, .ref ad.2.2.2.2)]) hx hb dL_isSo_173 hl (k := 0) rfl rfl (by decide) rfl (fun ls hl => ?_)
        refine lv_goto (tgt := 140) hx hb dL_isSo_176 (by decide) ?_
        have e8 := (in_iff.mp (so_in h9 hi0 c_19)).2
        have e9 := up_add (x := u10) (d := 1) (k := 1) (M := 6) rfl hi0 (by omega) (by decide) (by decide)
        exact ih (u10 + 1) (by rw [e9]; omega) (by rw [e9]; omega) (by rw [hR, mL_isSo_L140, if_neg c_19, if_pos c_20]) _ (lv_sub hl [0, 1, 2, 3, 4, 5, 6, 7, 8, 9, 10] rfl)
      · refine lv_iconst (v := 0) hx hb dL_isSo_171 (by decide) ?_
        exact rd_zret hC dL_isSo_172 rfl (Eq.symm (h0 (by rw [hR, mL_isSo_L140, if_neg c_19, if_neg c_20])))
def mL_isSo_L121 (σ : VS) (w7 : Int32) (w6 : Int32) (w5 : Int32) : Nat → Int32 → Int32
  | 0, _ => 0
  | n + 1, u8 => (if 4 ≤ u8 then (mL_isSo_L290 σ w7 w6 w5 5 0) else (if (mL_isSo_L140 σ ((L_r σ.2) (7 * u8).toNatClampNeg) u8 w7 w6 w5 8 0) = 0 then 0 else (if (mX3_row σ.1 u8 0) = ((L_g σ.2) (10 + u8).toNatClampNeg) then (if (mX3_row σ.1 u8 1) = (((L_g σ.2) (10 + u8).toNatClampNeg) - (mL_room σ.2 u8)) then (if (mX3_row σ.1 u8 2) = ((L_r σ.2) (7 * u8).toNatClampNeg) then (if (mX3_row σ.1 u8 3) = ((if ((L_r σ.2) (7 * u8).toNatClampNeg) = 0 then (-5) else ((L_r σ.2) ((7 * u8) + ((L_r σ.2) (7 * u8).toNatClampNeg)).toNatClampNeg)) : Int32) then (if (mX3_stands σ.1 u8 ((L_r σ.2) (7 * u8).toNatClampNeg)) = (-5) then (mL_isSo_L121 σ w7 w6 w5 n (u8 + 1)) else 0) else 0) else 0) else 0) else 0)))
set_option maxHeartbeats 4000000 in
set_option maxRecDepth 100000 in
theorem q_L_isSo_121 {p : Program} {e : Env} {s : State} {m : MethodId} {args : Array Value} {below : List Frame} {meth : Method} {c : Code} (l : Launch) (g : WG) (ad : AV) (σ : VS) (w7 : Int32) (w6 : Int32) (w5 : Int32) (h_vok : VOK σ) (hC : Cx p s m args meth c yL_isSo cL_isSo 11 (some .boolean)) (hP : va_P g.1 vwCl (cV g ad σ) s.heap) (hK : va_K g.1 vwCl (tysW g) s) (hE : Ex (fun _ => False) s s.heap) {r : Int32} : ∀ (n : Nat) (u8 : Int32) (hi0 : 0 ≤ u8.toInt) (hi1 : u8.toInt ≤ 4) (hm : ((5 : Int) - u8.toInt).toNat < n) (hR : r = mL_isSo_L121 σ w7 w6 w5 n u8) (ls : Array Slot) (hl : lv_has ls 11 [(8, .int u8), (7, .int w7), (6, .int w6), (5, .int w5), (0, .ref ad.1.1), (1, .ref ad.2.1), (2, .ref ad.2.2.1), (3, .ref ad.2.2.2.1), (4, .ref ad.2.2.2.2)]), W p l e (rk 7) s m args below meth c s.heap [] 0 0 (MQ below (vp_Si (fun x => x = r)) args s 0 0 (fun _ => False)) (F0 m 121 ls []) := by
  obtain ⟨hx, hb, hml, hr, hown, hts, hlk, hnm⟩ := id hC
  intro n
  induction n with
  | zero => intro u8 hi0 hi1 hm hR ls hl; exact absurd hm (Nat.not_lt_zero _)
  | succ n ih =>
    intro u8 hi0 hi1 hm hR ls hl
    refine lv_iload hx hb dL_isSo_121 (lv_at hl 0 rfl) ?_
    refine lv_iconst (v := 4) hx hb dL_isSo_123 (by decide) ?_
    refine lv_icmp_ge (tgt := 287) hx hb dL_isSo_124 (by decide) (fun c_2 => ?_) (fun c_2 => ?_)
    · refine lv_iconst (v := 0) hx hb dL_isSo_287 (by decide) ?_
      refine lv_istore (lv' := [(8, .int 0), (7, .int w7), (6, .int w6), (5, .int w5), (0, .ref ad.1.1), (1, .ref ad.2.1), (2, .ref ad.2.2.1), (3, .ref ad.2.2.2.1), (4, .ref ad.2.2.2.2)]) hx hb dL_isSo_288 hl (by decide) rfl (fun ls hl => ?_)
      refine q_L_isSo_290 l g ad σ w7 w6 w5 h_vok hC hP hK hE 5 0 (by decide) (by decide) (by decide) ?_ _ (lv_sub hl [0, 1, 2, 3, 4, 5, 6, 7, 8] rfl)
      exact by rw [hR, mL_isSo_L121, if_pos c_2]
    · refine lv_aload hx hb dL_isSo_127 (lv_at hl 8 rfl) ?_
      refine lv_bipush (v := 7) hx hb dL_isSo_129 (by decide) ?_
      refine lv_iload hx hb dL_isSo_131 (lv_at hl 0 rfl) ?_
      refine lv_imul hx hb dL_isSo_133 ?_
      refine lV_r hC hK hP (ix_70 (in_up (n := 4) rfl hi0 c_2)) dL_isSo_134 ?_
      refine lv_istore (lv' := [(9, .int ((L_r σ.2) (7 * u8).toNatClampNeg)), (8, .int u8), (7, .int w7), (6, .int w6), (5, .int w5), (0, .ref ad.1.1), (1, .ref ad.2.1), (2, .ref ad.2.2.1), (3, .ref ad.2.2.2.1), (4, .ref ad.2.2.2.2)]) hx hb dL_isSo_135 hl (by decide) rfl (fun ls hl => ?_)
      refine lv_iconst (v := 0) hx hb dL_isSo_137 (by decide) ?_
      refine lv_istore (lv' := [(10, .int 0), (9, .int ((L_r σ.2) (7 * u8).toNatClampNeg)), (8, .int u8), (7, .int w7), (6, .int w6), (5, .int w5), (0, .ref ad.1.1), (1, .ref ad.2.1), (2, .ref ad.2.2.1), (3, .ref ad.2.2.2.1), (4, .ref ad.2.2.2.2)]) hx hb dL_isSo_138 hl (by decide) rfl (fun ls hl => ?_)
      refine q_L_isSo_140 l g ad σ ((L_r σ.2) (7 * u8).toNatClampNeg) u8 w7 w6 w5 h_vok (in_up (n := 4) rfl hi0 c_2) (h_vok.2.2.1 u8 (in_up (n := 4) rfl hi0 c_2)).1 hC hP hK hE (fun c_21 => ?_) (fun c_21 ls hl => ?_) 8 0 (by decide) (by decide) rfl _ (lv_sub hl [0, 1, 2, 3, 4, 5, 6, 7, 8, 9, 10] rfl)
      · exact by rw [hR, mL_isSo_L121, if_neg c_2, if_pos c_21]
      have hl : lv_has ls 11 [(9, .int ((L_r σ.2) (7 * u8).toNatClampNeg)), (8, .int u8), (7, .int w7), (6, .int w6), (5, .int w5), (0, .ref ad.1.1), (1, .ref ad.2.1), (2, .ref ad.2.2.1), (3, .ref ad.2.2.2.1), (4, .ref ad.2.2.2.2)] := hl
      refine lv_aload_n hx hb dL_isSo_179 rfl (lv_at hl 5 rfl) ?_
      refine lv_iload hx hb dL_isSo_180 (lv_at hl 1 rfl) ?_
      refine lv_iconst (v := 0) hx hb dL_isSo_182 (by decide) ?_
      refine callRd hC (k_X3_row l g ad.1 σ.1 u8 0) ci_X3_row lk_L_118 ⟨Nat.le_of_ble_eq_true rfl, Nat.le_of_ble_eq_true rfl⟩ (P_right hP) hK hE (q0 := 0) rfl rfl rfl rfl hl.1 rfl (Nat.le_of_ble_eq_true rfl) dL_isSo_183 ⟨Nat.zero_le _, Nat.zero_le _⟩ ?_
      refine lv_aload_n hx hb dL_isSo_186 rfl (lv_at hl 6 rfl) ?_
      refine lv_bipush (v := 10) hx hb dL_isSo_187 (by decide) ?_
      refine lv_iload hx hb dL_isSo_189 (lv_at hl 1 rfl) ?_
      refine lv_iadd hx hb dL_isSo_191 ?_
      refine lV_g hC hK hP (ix_c (z := 10) rfl (by decide) (in_up (n := 4) rfl hi0 c_2) (by decide) (by decide)) dL_isSo_192 ?_
      refine lv_icmp_ne (tgt := 279) hx hb dL_isSo_193 (by decide) (fun c_22 => ?_) (fun c_22 => ?_)
      · refine lv_iconst (v := 0) hx hb dL_isSo_279 (by decide) ?_
        exact rd_zret hC dL_isSo_280 rfl (Eq.symm (by rw [hR, mL_isSo_L121, if_neg c_2, if_neg c_21, if_neg c_22]))
      · refine lv_aload_n hx hb dL_isSo_196 rfl (lv_at hl 5 rfl) ?_
        refine lv_iload hx hb dL_isSo_197 (lv_at hl 1 rfl) ?_
        refine lv_iconst (v := 1) hx hb dL_isSo_199 (by decide) ?_
        refine callRd hC (k_X3_row l g ad.1 σ.1 u8 1) ci_X3_row lk_L_118 ⟨Nat.le_of_ble_eq_true rfl, Nat.le_of_ble_eq_true rfl⟩ (P_right hP) hK hE (q0 := 0) rfl rfl rfl rfl hl.1 rfl (Nat.le_of_ble_eq_true rfl) dL_isSo_200 ⟨Nat.zero_le _, Nat.zero_le _⟩ ?_
        refine lv_aload_n hx hb dL_isSo_203 rfl (lv_at hl 6 rfl) ?_
        refine lv_bipush (v := 10) hx hb dL_isSo_204 (by decide) ?_
        refine lv_iload hx hb dL_isSo_206 (lv_at hl 1 rfl) ?_
        refine lv_iadd hx hb dL_isSo_208 ?_
        refine lV_g hC hK hP (ix_c (z := 10) rfl (by decide) (in_up (n := 4) rfl hi0 c_2) (by decide) (by decide)) dL_isSo_209 ?_
        refine lv_iload hx hb dL_isSo_210 (lv_at hl 1 rfl) ?_
        refine lv_aload_n hx hb dL_isSo_212 rfl (lv_at hl 6 rfl) ?_
        refine lv_aload_n hx hb dL_isSo_213 rfl (lv_at hl 7 rfl) ?_
        refine lv_aload hx hb dL_isSo_214 (lv_at hl 9 rfl) ?_
        refine callSd hC (k_L_room l g ad.2 σ.2 u8 (in_up (n := 4) rfl hi0 c_2) h_vok.2.2.1) ci_L_room lk_L_30 ⟨Nat.le_of_ble_eq_true rfl, Nat.le_of_ble_eq_true rfl⟩ (P_left hP) hK hE rfl hl.1 rfl (Nat.le_of_ble_eq_true rfl) dL_isSo_216 ⟨Nat.zero_le _, Nat.zero_le _⟩ ?_
        refine lv_isub hx hb dL_isSo_219 ?_
        refine lv_icmp_ne (tgt := 279) hx hb dL_isSo_220 (by decide) (fun c_23 => ?_) (fun c_23 => ?_)
        · refine lv_iconst (v := 0) hx hb dL_isSo_279 (by decide) ?_
          exact rd_zret hC dL_isSo_280 rfl (Eq.symm (by rw [hR, mL_isSo_L121, if_neg c_2, if_neg c_21, if_pos c_22, if_neg c_23]))
        · refine lv_aload_n hx hb dL_isSo_223 rfl (lv_at hl 5 rfl) ?_
          refine lv_iload hx hb dL_isSo_224 (lv_at hl 1 rfl) ?_
          refine lv_iconst (v := 2) hx hb dL_isSo_226 (by decide) ?_
          refine callRd hC (k_X3_row l g ad.1 σ.1 u8 2) ci_X3_row lk_L_118 ⟨Nat.le_of_ble_eq_true rfl, Nat.le_of_ble_eq_true rfl⟩ (P_right hP) hK hE (q0 := 0) rfl rfl rfl rfl hl.1 rfl (Nat.le_of_ble_eq_true rfl) dL_isSo_227 ⟨Nat.zero_le _, Nat.zero_le _⟩ ?_
          refine lv_iload hx hb dL_isSo_230 (lv_at hl 0 rfl) ?_
          refine lv_icmp_ne (tgt := 279) hx hb dL_isSo_232 (by decide) (fun c_24 => ?_) (fun c_24 => ?_)
          · refine lv_iconst (v := 0) hx hb dL_isSo_279 (by decide) ?_
            exact rd_zret hC dL_isSo_280 rfl (Eq.symm (by rw [hR, mL_isSo_L121, if_neg c_2, if_neg c_21, if_pos c_22, if_pos c_23, if_neg c_24]))
          · refine lv_aload_n hx hb dL_isSo_235 rfl (lv_at hl 5 rfl) ?_
            refine lv_iload hx hb dL_isSo_236 (lv_at hl 1 rfl) ?_
            refine lv_iconst (v := 3) hx hb dL_isSo_238 (by decide) ?_
            refine callRd hC (k_X3_row l g ad.1 σ.1 u8 3) ci_X3_row lk_L_118 ⟨Nat.le_of_ble_eq_true rfl, Nat.le_of_ble_eq_true rfl⟩ (P_right hP) hK hE (q0 := 0) rfl rfl rfl rfl hl.1 rfl (Nat.le_of_ble_eq_true rfl) dL_isSo_239 ⟨Nat.zero_le _, Nat.zero_le _⟩ ?_
            refine lv_iload hx hb dL_isSo_242 (lv_at hl 0 rfl) ?_
            refine dia (J := 263) (V := ((if ((L_r σ.2) (7 * u8).toNatClampNeg) = 0 then (-5) else ((L_r σ.2) ((7 * u8) + ((L_r σ.2) (7 * u8).toNatClampNeg)).toNatClampNeg)) : Int32)) (rest := [.int (mX3_row σ.1 u8 3)]) (fun kk_26 => ?_) ?_
            · refine lv_if_ne (tgt := 252) hx hb dL_isSo_244 (by decide) (fun c_27 => ?_) (fun c_27 => ?_)
              · refine lv_aload hx hb dL_isSo_252 (lv_at hl 9 rfl) ?_
                refine lv_bipush (v := 7) hx hb dL_isSo_254 (by decide) ?_
                refine lv_iload hx hb dL_isSo_256 (lv_at hl 1 rfl) ?_
                refine lv_imul hx hb dL_isSo_258 ?_
                refine lv_iload hx hb dL_isSo_259 (lv_at hl 0 rfl) ?_
                refine lv_iadd hx hb dL_isSo_261 ?_
                refine lV_r hC hK hP (ix_7 (in_up (n := 4) rfl hi0 c_2) (h_vok.2.2.1 u8 (in_up (n := 4) rfl hi0 c_2)).1) dL_isSo_262 ?_
                exact kk_26 _ (if_neg c_27)
              · refine lv_bipush (v := (-5)) hx hb dL_isSo_247 (by decide) ?_
                refine lv_goto (tgt := 263) hx hb dL_isSo_249 (by decide) ?_
                exact kk_26 _ (if_pos c_27)
            refine lv_icmp_ne (tgt := 279) hx hb dL_isSo_263 (by decide) (fun c_28 => ?_) (fun c_28 => ?_)
            · refine lv_iconst (v := 0) hx hb dL_isSo_279 (by decide) ?_
              exact rd_zret hC dL_isSo_280 rfl (Eq.symm (by rw [hR, mL_isSo_L121, if_neg c_2, if_neg c_21, if_pos c_22, if_pos c_23, if_pos c_24, if_neg c_28]))
            · refine lv_aload_n hx hb dL_isSo_266 rfl (lv_at hl 5 rfl) ?_
              refine lv_iload hx hb dL_isSo_267 (lv_at hl 1 rfl) ?_
              refine lv_iload hx hb dL_isSo_269 (lv_at hl 0 rfl) ?_
              refine callRd hC (k_X3_stands l g ad.1 σ.1 u8 ((L_r σ.2) (7 * u8).toNatClampNeg)) ci_X3_stands lk_L_115 ⟨Nat.le_of_ble_eq_true rfl, Nat.le_of_ble_eq_true rfl⟩ (P_right hP) hK hE (q0 := 0) rfl rfl rfl rfl hl.1 rfl (Nat.le_of_ble_eq_true rfl) dL_isSo_271 ⟨Nat.zero_le _, Nat.zero_le _⟩ ?_
              refine lv_bipush (v := (-5)) hx hb dL_isSo_274 (by decide) ?_
              refine lv_icmp_eq (tgt := 281) hx hb dL_isSo_276 (by decide) (fun c_29 => ?_) (fun c_29 => ?_)
              · refine lv_iinc (v := (u8 + 1)) (lv' := [(8, .int (u8 + 1)), (9, .int ((L_r σ.2) (7 * u8).toNatClampNeg)), (7, .int w7), (6, .int w6), (5, .int w5), (0, .ref ad.1.1), (1, .ref ad.2.1), (2, .ref ad.2.2.1), (3, .ref ad.2.2.2.1), (4, .ref ad.2.2.2.2)]) hx hb dL_isSo_281 hl (k := 1) rfl rfl (by decide) rfl (fun ls hl => ?_)
                refine lv_goto (tgt := 121) hx hb dL_isSo_284 (by decide) ?_
                have e9 := up_add (d := 1) (k := 1) (M := 4) rfl hi0 hi1 (by decide) (by decide)
                have e8 := nle_ti (k := 4) rfl c_2
                exact ih (u8 + 1) (by rw [e9]; omega) (by rw [e9]; omega) (by rw [e9]; omega) (by rw [hR, mL_isSo_L121, if_neg c_2, if_neg c_21, if_pos c_22, if_pos c_23, if_pos c_24, if_pos c_28, if_pos c_29]) _ (lv_sub hl [0, 2, 3, 4, 5, 6, 7, 8, 9] rfl)
              · refine lv_iconst (v := 0) hx hb dL_isSo_279 (by decide) ?_
                exact rd_zret hC dL_isSo_280 rfl (Eq.symm (by rw [hR, mL_isSo_L121, if_neg c_2, if_neg c_21, if_pos c_22, if_pos c_23, if_pos c_24, if_pos c_28, if_neg c_29]))
def mL_isSo_L12 (σ : VS) : Nat → Int32 → Int32 → Int32 → Int32 → Int32
  | 0, _, _, _, _ => 0
  | n + 1, u8, u7, u6, u5 => (if 6 ≤ u8 then (mL_isSo_L121 σ u7 u6 u5 6 0) else (if (mL_of σ.2 u8 0) = 0 then (if (mX3_boat σ.1 u8 0) = (-1) then (if (mX3_launchDay σ.1 u8) = (-1) then (mL_isSo_L12 σ n (u8 + 1) u7 u6 u5) else 0) else 0) else (if (mL_isBoat σ u8) = 0 then 0 else (mL_isSo_L12 σ n (u8 + 1) (u7 + ((if (mL_of σ.2 u8 8) ≤ 0 then 0 else 1) : Int32)) (u6 + ((if (mL_of σ.2 u8 5) < 0 then 0 else 1) : Int32)) (u5 + 1)))))
set_option maxHeartbeats 4000000 in
set_option maxRecDepth 100000 in
theorem q_L_isSo_12 {p : Program} {e : Env} {s : State} {m : MethodId} {args : Array Value} {below : List Frame} {meth : Method} {c : Code} (l : Launch) (g : WG) (ad : AV) (σ : VS) (h_vok : VOK σ) (hC : Cx p s m args meth c yL_isSo cL_isSo 11 (some .boolean)) (hP : va_P g.1 vwCl (cV g ad σ) s.heap) (hK : va_K g.1 vwCl (tysW g) s) (hE : Ex (fun _ => False) s s.heap) {r : Int32} : ∀ (n : Nat) (u8 : Int32) (u7 : Int32) (u6 : Int32) (u5 : Int32) (hi0 : 0 ≤ u8.toInt) (hi1 : u8.toInt ≤ 6) (hm : ((7 : Int) - u8.toInt).toNat < n) (hR : r = mL_isSo_L12 σ n u8 u7 u6 u5) (ls : Array Slot) (hl : lv_has ls 11 [(8, .int u8), (7, .int u7), (6, .int u6), (5, .int u5), (0, .ref ad.1.1), (1, .ref ad.2.1), (2, .ref ad.2.2.1), (3, .ref ad.2.2.2.1), (4, .ref ad.2.2.2.2)]), W p l e (rk 7) s m args below meth c s.heap [] 0 0 (MQ below (vp_Si (fun x => x = r)) args s 0 0 (fun _ => False)) (F0 m 12 ls []) := by
  obtain ⟨hx, hb, hml, hr, hown, hts, hlk, hnm⟩ := id hC
  intro n
  induction n with
  | zero => intro u8 u7 u6 u5 hi0 hi1 hm hR ls hl; exact absurd hm (Nat.not_lt_zero _)
  | succ n ih =>
    intro u8 u7 u6 u5 hi0 hi1 hm hR ls hl
    refine lv_iload hx hb dL_isSo_12 (lv_at hl 0 rfl) ?_
    refine lv_bipush (v := 6) hx hb dL_isSo_14 (by decide) ?_
    refine lv_icmp_ge (tgt := 118) hx hb dL_isSo_16 (by decide) (fun c_1 => ?_) (fun c_1 => ?_)
    · refine lv_iconst (v := 0) hx hb dL_isSo_118 (by decide) ?_
      refine lv_istore (lv' := [(8, .int 0), (7, .int u7), (6, .int u6), (5, .int u5), (0, .ref ad.1.1), (1, .ref ad.2.1), (2, .ref ad.2.2.1), (3, .ref ad.2.2.2.1), (4, .ref ad.2.2.2.2)]) hx hb dL_isSo_119 hl (by decide) rfl (fun ls hl => ?_)
      refine q_L_isSo_121 l g ad σ u7 u6 u5 h_vok hC hP hK hE 6 0 (by decide) (by decide) (by decide) ?_ _ (lv_sub hl [0, 1, 2, 3, 4, 5, 6, 7, 8] rfl)
      exact by rw [hR, mL_isSo_L12, if_pos c_1]
    · refine lv_aload_n hx hb dL_isSo_19 rfl (lv_at hl 6 rfl) ?_
      refine lv_iload hx hb dL_isSo_20 (lv_at hl 0 rfl) ?_
      refine lv_iconst (v := 0) hx hb dL_isSo_22 (by decide) ?_
      refine callSd hC (k_L_of l g ad.2 σ.2 u8 0 (in_up (n := 6) rfl hi0 c_1) (in_iff.mpr (by decide))) ci_L_of lk_L_9 ⟨Nat.le_of_ble_eq_true rfl, Nat.le_of_ble_eq_true rfl⟩ (P_left hP) hK hE rfl hl.1 rfl (Nat.le_of_ble_eq_true rfl) dL_isSo_23 ⟨Nat.zero_le _, Nat.zero_le _⟩ ?_
      refine lv_if_ne (tgt := 52) hx hb dL_isSo_26 (by decide) (fun c_30 => ?_) (fun c_30 => ?_)
      · refine lv_aload_n hx hb dL_isSo_52 rfl (lv_at hl 4 rfl) ?_
        refine lv_iload hx hb dL_isSo_53 (lv_at hl 0 rfl) ?_
        refine lv_aload_n hx hb dL_isSo_55 rfl (lv_at hl 5 rfl) ?_
        refine lv_aload_n hx hb dL_isSo_56 rfl (lv_at hl 6 rfl) ?_
        refine lv_aload_n hx hb dL_isSo_57 rfl (lv_at hl 7 rfl) ?_
        refine lv_aload hx hb dL_isSo_58 (lv_at hl 8 rfl) ?_
        refine callSd hC (k_L_isBoat l g ad σ u8 (in_up (n := 6) rfl hi0 c_1) h_vok c_30) ci_L_isBoat lk_L_111 ⟨Nat.le_of_ble_eq_true rfl, Nat.le_of_ble_eq_true rfl⟩ hP hK hE rfl hl.1 rfl (Nat.le_of_ble_eq_true rfl) dL_isSo_60 ⟨Nat.zero_le _, Nat.zero_le _⟩ ?_
        refine lv_if_ne (tgt := 68) hx hb dL_isSo_63 (by decide) (fun c_31 => ?_) (fun c_31 => ?_)
        · refine lv_iinc (v := (u5 + 1)) (lv' := [(5, .int (u5 + 1)), (8, .int u8), (7, .int u7), (6, .int u6), (0, .ref ad.1.1), (1, .ref ad.2.1), (2, .ref ad.2.2.1), (3, .ref ad.2.2.2.1), (4, .ref ad.2.2.2.2)]) hx hb dL_isSo_68 hl (k := 3) rfl rfl (by decide) rfl (fun ls hl => ?_)
          refine lv_iload hx hb dL_isSo_71 (lv_at hl 3 rfl) ?_
          refine lv_aload_n hx hb dL_isSo_73 rfl (lv_at hl 6 rfl) ?_
          refine lv_iload hx hb dL_isSo_74 (lv_at hl 1 rfl) ?_
          refine lv_iconst (v := 5) hx hb dL_isSo_76 (by decide) ?_
          refine callSd hC (k_L_of l g ad.2 σ.2 u8 5 (in_up (n := 6) rfl hi0 c_1) (in_iff.mpr (by decide))) ci_L_of lk_L_9 ⟨Nat.le_of_ble_eq_true rfl, Nat.le_of_ble_eq_true rfl⟩ (P_left hP) hK hE rfl hl.1 rfl (Nat.le_of_ble_eq_true rfl) dL_isSo_77 ⟨Nat.zero_le _, Nat.zero_le _⟩ ?_
          refine dia (J := 88) (V := ((if (mL_of σ.2 u8 5) < 0 then 0 else 1) : Int32)) (rest := [.int u6]) (fun kk_33 => ?_) ?_
          · refine lv_if_lt (tgt := 87) hx hb dL_isSo_80 (by decide) (fun c_34 => ?_) (fun c_34 => ?_)
            · refine lv_iconst (v := 0) hx hb dL_isSo_87 (by decide) ?_
              exact kk_33 _ (if_pos c_34)
            · refine lv_iconst (v := 1) hx hb dL_isSo_83 (by decide) ?_
              refine lv_goto (tgt := 88) hx hb dL_isSo_84 (by decide) ?_
              exact kk_33 _ (if_neg c_34)
          refine lv_iadd hx hb dL_isSo_88 ?_
          refine lv_istore (lv' := [(6, .int (u6 + ((if (mL_of σ.2 u8 5) < 0 then 0 else 1) : Int32))), (5, .int (u5 + 1)), (8, .int u8), (7, .int u7), (0, .ref ad.1.1), (1, .ref ad.2.1), (2, .ref ad.2.2.1), (3, .ref ad.2.2.2.1), (4, .ref ad.2.2.2.2)]) hx hb dL_isSo_89 hl (by decide) rfl (fun ls hl => ?_)
          refine lv_iload hx hb dL_isSo_91 (lv_at hl 3 rfl) ?_
          refine lv_aload_n hx hb dL_isSo_93 rfl (lv_at hl 6 rfl) ?_
          refine lv_iload hx hb dL_isSo_94 (lv_at hl 2 rfl) ?_
          refine lv_bipush (v := 8) hx hb dL_isSo_96 (by decide) ?_
          refine callSd hC (k_L_of l g ad.2 σ.2 u8 8 (in_up (n := 6) rfl hi0 c_1) (in_iff.mpr (by decide))) ci_L_of lk_L_9 ⟨Nat.le_of_ble_eq_true rfl, Nat.le_of_ble_eq_true rfl⟩ (P_left hP) hK hE rfl hl.1 rfl (Nat.le_of_ble_eq_true rfl) dL_isSo_98 ⟨Nat.zero_le _, Nat.zero_le _⟩ ?_
          refine dia (J := 109) (V := ((if (mL_of σ.2 u8 8) ≤ 0 then 0 else 1) : Int32)) (rest := [.int u7]) (fun kk_36 => ?_) ?_
          · refine lv_if_le (tgt := 108) hx hb dL_isSo_101 (by decide) (fun c_37 => ?_) (fun c_37 => ?_)
            · refine lv_iconst (v := 0) hx hb dL_isSo_108 (by decide) ?_
              exact kk_36 _ (if_pos c_37)
            · refine lv_iconst (v := 1) hx hb dL_isSo_104 (by decide) ?_
              refine lv_goto (tgt := 109) hx hb dL_isSo_105 (by decide) ?_
              exact kk_36 _ (if_neg c_37)
          refine lv_iadd hx hb dL_isSo_109 ?_
          refine lv_istore (lv' := [(7, .int (u7 + ((if (mL_of σ.2 u8 8) ≤ 0 then 0 else 1) : Int32))), (6, .int (u6 + ((if (mL_of σ.2 u8 5) < 0 then 0 else 1) : Int32))), (5, .int (u5 + 1)), (8, .int u8), (0, .ref ad.1.1), (1, .ref ad.2.1), (2, .ref ad.2.2.1), (3, .ref ad.2.2.2.1), (4, .ref ad.2.2.2.2)]) hx hb dL_isSo_110 hl (by decide) rfl (fun ls hl => ?_)
          refine lv_iinc (v := (u8 + 1)) (lv' := [(8, .int (u8 + 1)), (7, .int (u7 + ((if (mL_of σ.2 u8 8) ≤ 0 then 0 else 1) : Int32))), (6, .int (u6 + ((if (mL_of σ.2 u8 5) < 0 then 0 else 1) : Int32))), (5, .int (u5 + 1)), (0, .ref ad.1.1), (1, .ref ad.2.1), (2, .ref ad.2.2.1), (3, .ref ad.2.2.2.1), (4, .ref ad.2.2.2.2)]) hx hb dL_isSo_112 hl (k := 3) rfl rfl (by decide) rfl (fun ls hl => ?_)
          refine lv_goto (tgt := 12) hx hb dL_isSo_115 (by decide) ?_
          have e9 := up_add (d := 1) (k := 1) (M := 6) rfl hi0 hi1 (by decide) (by decide)
          have e8 := nle_ti (k := 6) rfl c_1
          exact ih (u8 + 1) (u7 + ((if (mL_of σ.2 u8 8) ≤ 0 then 0 else 1) : Int32)) (u6 + ((if (mL_of σ.2 u8 5) < 0 then 0 else 1) : Int32)) (u5 + 1) (by rw [e9]; omega) (by rw [e9]; omega) (by rw [e9]; omega) (by rw [hR, mL_isSo_L12, if_neg c_1, if_neg c_30, if_neg c_31]) _ (lv_sub hl [0, 1, 2, 3, 4, 5, 6, 7, 8] rfl)
        · refine lv_iconst (v := 0) hx hb dL_isSo_66 (by decide) ?_
          exact rd_zret hC dL_isSo_67 rfl (Eq.symm (by rw [hR, mL_isSo_L12, if_neg c_1, if_neg c_30, if_pos c_31]))
      · refine lv_aload_n hx hb dL_isSo_29 rfl (lv_at hl 4 rfl) ?_
        refine lv_iload hx hb dL_isSo_30 (lv_at hl 0 rfl) ?_
        refine lv_iconst (v := 0) hx hb dL_isSo_32 (by decide) ?_
        refine callRd hC (k_X3_boat l g ad.1 σ.1 u8 0) ci_X3_boat lk_L_93 ⟨Nat.le_of_ble_eq_true rfl, Nat.le_of_ble_eq_true rfl⟩ (P_right hP) hK hE (q0 := 0) rfl rfl rfl rfl hl.1 rfl (Nat.le_of_ble_eq_true rfl) dL_isSo_33 ⟨Nat.zero_le _, Nat.zero_le _⟩ ?_
        refine lv_iconst (v := (-1)) hx hb dL_isSo_36 (by decide) ?_
        refine lv_icmp_ne (tgt := 50) hx hb dL_isSo_37 (by decide) (fun c_38 => ?_) (fun c_38 => ?_)
        · refine lv_iconst (v := 0) hx hb dL_isSo_50 (by decide) ?_
          exact rd_zret hC dL_isSo_51 rfl (Eq.symm (by rw [hR, mL_isSo_L12, if_neg c_1, if_pos c_30, if_neg c_38]))
        · refine lv_aload_n hx hb dL_isSo_40 rfl (lv_at hl 4 rfl) ?_
          refine lv_iload hx hb dL_isSo_41 (lv_at hl 0 rfl) ?_
          refine callRd hC (k_X3_launchDay l g ad.1 σ.1 u8 h_vok.2.1) ci_X3_launchDay lk_L_106 ⟨Nat.le_of_ble_eq_true rfl, Nat.le_of_ble_eq_true rfl⟩ (P_right hP) hK hE (q0 := 0) rfl rfl rfl rfl hl.1 rfl (Nat.le_of_ble_eq_true rfl) dL_isSo_43 ⟨Nat.zero_le _, Nat.zero_le _⟩ ?_
          refine lv_iconst (v := (-1)) hx hb dL_isSo_46 (by decide) ?_
          refine lv_icmp_eq (tgt := 112) hx hb dL_isSo_47 (by decide) (fun c_39 => ?_) (fun c_39 => ?_)
          · refine lv_iinc (v := (u8 + 1)) (lv' := [(8, .int (u8 + 1)), (7, .int u7), (6, .int u6), (5, .int u5), (0, .ref ad.1.1), (1, .ref ad.2.1), (2, .ref ad.2.2.1), (3, .ref ad.2.2.2.1), (4, .ref ad.2.2.2.2)]) hx hb dL_isSo_112 hl (k := 0) rfl rfl (by decide) rfl (fun ls hl => ?_)
            refine lv_goto (tgt := 12) hx hb dL_isSo_115 (by decide) ?_
            have e9 := up_add (d := 1) (k := 1) (M := 6) rfl hi0 hi1 (by decide) (by decide)
            have e8 := nle_ti (k := 6) rfl c_1
            exact ih (u8 + 1) u7 u6 u5 (by rw [e9]; omega) (by rw [e9]; omega) (by rw [e9]; omega) (by rw [hR, mL_isSo_L12, if_neg c_1, if_pos c_30, if_pos c_38, if_pos c_39]) _ (lv_sub hl [0, 1, 2, 3, 4, 5, 6, 7, 8] rfl)
          · refine lv_iconst (v := 0) hx hb dL_isSo_50 (by decide) ?_
            exact rd_zret hC dL_isSo_51 rfl (Eq.symm (by rw [hR, mL_isSo_L12, if_neg c_1, if_pos c_30, if_pos c_38, if_neg c_39]))
def mL_isSo (σ : VS) : Int32 := (mL_isSo_L12 σ 8 0 0 0 0)
set_option maxHeartbeats 4000000 in
set_option maxRecDepth 100000 in
theorem k_L_isSo (l : Launch) (g : WG) (ad : AV) (σ : VS) (h_vok : VOK σ) : Rd l yL_isSo cL_isSo 11 (some .boolean) 7 (Wl g (cV g ad σ) (fun _ => False)) [.ref ad.1.1, .ref ad.2.1, .ref ad.2.2.1, .ref ad.2.2.2.1, .ref ad.2.2.2.2] (mL_isSo σ) := by
  refine rd_of (by decide) (Nat.le_of_ble_eq_true rfl) ?_
  intro p e s m args below meth c ls hC hW hl
  obtain ⟨hP, hK, hE⟩ := hW
  obtain ⟨hx, hb, hml, hr, hown, hts, hlk, hnm⟩ := id hC
  have hl : lv_has ls 11 [(0, .ref ad.1.1), (1, .ref ad.2.1), (2, .ref ad.2.2.1), (3, .ref ad.2.2.2.1), (4, .ref ad.2.2.2.2)] := hl
  refine lv_iconst (v := 0) hx hb dL_isSo_0 (by decide) ?_
  refine lv_istore (lv' := [(5, .int 0), (0, .ref ad.1.1), (1, .ref ad.2.1), (2, .ref ad.2.2.1), (3, .ref ad.2.2.2.1), (4, .ref ad.2.2.2.2)]) hx hb dL_isSo_1 hl (by decide) rfl (fun ls hl => ?_)
  refine lv_iconst (v := 0) hx hb dL_isSo_3 (by decide) ?_
  refine lv_istore (lv' := [(6, .int 0), (5, .int 0), (0, .ref ad.1.1), (1, .ref ad.2.1), (2, .ref ad.2.2.1), (3, .ref ad.2.2.2.1), (4, .ref ad.2.2.2.2)]) hx hb dL_isSo_4 hl (by decide) rfl (fun ls hl => ?_)
  refine lv_iconst (v := 0) hx hb dL_isSo_6 (by decide) ?_
  refine lv_istore (lv' := [(7, .int 0), (6, .int 0), (5, .int 0), (0, .ref ad.1.1), (1, .ref ad.2.1), (2, .ref ad.2.2.1), (3, .ref ad.2.2.2.1), (4, .ref ad.2.2.2.2)]) hx hb dL_isSo_7 hl (by decide) rfl (fun ls hl => ?_)
  refine lv_iconst (v := 0) hx hb dL_isSo_9 (by decide) ?_
  refine lv_istore (lv' := [(8, .int 0), (7, .int 0), (6, .int 0), (5, .int 0), (0, .ref ad.1.1), (1, .ref ad.2.1), (2, .ref ad.2.2.1), (3, .ref ad.2.2.2.1), (4, .ref ad.2.2.2.2)]) hx hb dL_isSo_10 hl (by decide) rfl (fun ls hl => ?_)
  refine q_L_isSo_12 l g ad σ h_vok hC hP hK hE 8 0 0 0 0 (by decide) (by decide) (by decide) ?_ _ (lv_sub hl [0, 1, 2, 3, 4, 5, 6, 7, 8] rfl)
  exact by unfold mL_isSo; rfl
