theorem l3_drop {A B L : va_W} : A ++ (B ++ L) = (A ++ (B ++ [])) ++ L := by simp only [List.append_assoc, List.append_nil, List.nil_append]
theorem oi_n {σ : St} {r t : Nat} {a : Int32} (h : ¬ sR σ (8 * t + 2) = nI r) : a + nI 0 = a + (if sR σ (8 * t + 2) = nI r then sR σ (8 * t + 1) else nI 0) := by rw [if_neg h]
theorem oi_0 {σ : St} {r t : Nat} {a : Int32} (h : sR σ (8 * t + 2) = nI r) (h0 : sR σ (8 * t + 1) = 0) : a + nI 0 = a + (if sR σ (8 * t + 2) = nI r then sR σ (8 * t + 1) else nI 0) := by
  rw [if_pos h, h0]
  rfl
theorem oi_1 {σ : St} {r t : Nat} {a : Int32} (h : sR σ (8 * t + 2) = nI r) (hb : b01 (sR σ (8 * t + 1))) (h0 : ¬ sR σ (8 * t + 1) = 0) : a + nI 1 = a + (if sR σ (8 * t + 2) = nI r then sR σ (8 * t + 1) else nI 0) := by rw [if_pos h, hb.resolve_left h0]
set_option maxRecDepth 100000 in
set_option maxHeartbeats 2000000 in
theorem kX5_isSame (l : Launch) (htr : l.stackTraces = false) (D : va_G) (ct : Nat → ClassId) (sa : Nat → Nat) (sd ad : Nat → Nat) (mcn : Int32) (φ : LD) (σ : St) (h : Nat) (hi : InvL h σ) (hh : h < 2 ^ 20) : jM l yX5_isSame (Cond.code yX5_isSame cX5_isSame 11 (Option.some Jvm.ClassFile.FieldType.boolean) :: GW) (rM 8 1000 8000 135) D ct sa [.ref (sd 0), .ref (ad 0)] (SWs ct sd σ ++ WX ct sa ad mcn φ σ) (fun r _ => r = some (.int (nI 1))) 1000 8000 := by
  refine jMX.plain (jBody (own := RX5) (by decide) rfl rfl (Nat.le_of_ble_eq_true rfl) ?_)
  have h8 := hi.1.1.1
  intro X C E T0
  refine j_lv (lv1 := [(0, .ref _), (1, .ref _)]) rfl ?_
  refine j_ws (ws1 := SWs ct sd σ ++ (WX ct sa ad mcn φ σ ++ [])) (by rw [List.append_nil]) ?_
  refine j_iconst (v := nI 0) C dX5_isSame_0 (by decide) ?_
  refine j_istore_n (lv' := [(2, .int _), (0, .ref _), (1, .ref _)]) C dX5_isSame_1 rfl (by decide) rfl ?_
  refine j_iconst (v := nI 0) C dX5_isSame_2 (by decide) ?_
  refine j_istore_n (lv' := [(3, .int _), (2, .int _), (0, .ref _), (1, .ref _)]) C dX5_isSame_3 rfl (by decide) rfl ?_
  refine j_iconst (v := nI 0) C dX5_isSame_4 (by decide) ?_
  refine j_istore (lv' := [(4, .int _), (3, .int _), (2, .int _), (0, .ref _), (1, .ref _)]) C dX5_isSame_5 (by decide) rfl ?_
  refine j_iconst (v := nI 0) C dX5_isSame_7 (by decide) ?_
  refine j_istore (lv' := [(5, .int _), (4, .int _), (3, .int _), (2, .int _), (0, .ref _), (1, .ref _)]) C dX5_isSame_8 (by decide) rfl ?_
  have L10 : ∀ (d i : Nat) (x2 : Int32) (x3 : Int32) (x4 : Int32) (x5 : Int32), i + d = sN σ → x2 = sumF (fun i => sR σ (8 * i + 1)) i → x3 = sumF (fun i => sR σ (8 * i + 3)) i → x4 = sumF (sW σ) (24 * i) → x5 = nI i → J X (SWs ct sd σ ++ (WX ct sa ad mcn φ σ ++ [])) (100 * i) (600 * i) 10 [(0, .ref (sd 0)), (1, .ref (ad 0)), (2, .int x2), (3, .int x3), (4, .int x4), (5, .int x5)] [] := by
    intro d
    induction d with
    | zero =>
      intro i x2 x3 x4 x5 hd e_x2 e_x3 e_x4 e_x5 
      subst e_x2
      subst e_x3
      subst e_x4
      subst e_x5
      have hi9 : i = sN σ := by omega
      rw [hi9]
      refine j_iload C dX5_isSame_10 5 rfl ?_
      refine j_aload_n (i := 0) C dX5_isSame_12 rfl 0 rfl ?_
      refine j_get (Cn := RX5) (T := TX5) (N := 4) (ci := 6) C iX5 rfl (0) rfl 2 (by decide) gw657 rfl rfl dX5_isSame_13 ?_
      refine j_alen (v := nI (sN σ)) C (1) 4 rfl rfl rfl dX5_isSame_16 ?_
      refine j_icmp_ge C 265 dX5_isSame_17 (by decide) (fun c17 => ?_) (fun c17 => by first | exact absurd c17 (nI_ge (b := sN σ) (by omega) (by omega)) | exact (c17 (nI_le (Nat.le_refl (sN σ)) (by omega))).elim)
      refine j_widen (k1 := 800) (n1 := 4800) (by omega) (by omega) ?_
      refine j_iconst (v := nI 0) C dX5_isSame_265 (by decide) ?_
      refine j_istore (lv' := [(5, .int _), (0, .ref _), (1, .ref _), (2, .int _), (3, .int _), (4, .int _)]) C dX5_isSame_266 (by decide) rfl ?_
      have L268 : ∀ (d r : Nat) (x5 : Int32), r + d = 3 → x5 = nI r → J X (SWs ct sd σ ++ (WX ct sa ad mcn φ σ ++ [])) (800 + 20 * r) (4800 + 120 * r) 268 [(0, .ref (sd 0)), (1, .ref (ad 0)), (2, .int (sumF (fun i => sR σ (8 * i + 1)) (sN σ))), (3, .int (sumF (fun i => sR σ (8 * i + 3)) (sN σ))), (4, .int (sumF (sW σ) (24 * sN σ))), (5, .int x5)] [] := by
        intro d
        induction d with
        | zero =>
          intro r x5 hd e_x5 
          subst e_x5
          have hr9 : r = 3 := by omega
          subst hr9
          refine j_iload C dX5_isSame_268 5 rfl ?_
          refine j_iconst (v := nI 3) C dX5_isSame_270 (by decide) ?_
          refine j_icmp_ge C 452 dX5_isSame_271 (by decide) (fun c271 => ?_) (fun c271 => by first | exact absurd c271 (by decide) | exact absurd c271 (nI_ge (by omega) (by omega)) | exact absurd (nI_le (by omega) (by omega)) c271 | exact absurd c271 (nI_nlt (by omega) (by omega)) | exact absurd (nI_lt (by omega) (by omega)) c271 | exact absurd c271 (nI_nle0 (by omega) (by omega)))
          refine j_bipush (v := nI 7) C dX5_isSame_452 (by decide) ?_
          refine j_newaI C (N := 7) rfl (by decide) (Nat.le_of_ble_eq_true rfl) (Nat.le_of_ble_eq_true rfl) dX5_isSame_454 (fun qc => ?_)
          refine j_ws (ws1 := SWs ct sd σ ++ (WX ct sa ad mcn φ σ ++ [arI ct qc 7 (fun _ => nI 0)])) l3_add ?_
          refine j_dup C dX5_isSame_456 rfl ?_
          refine j_iconst (v := nI 0) C dX5_isSame_457 (by decide) ?_
          refine j_aload_n (i := 0) C dX5_isSame_458 rfl 0 rfl ?_
          refine j_get (Cn := RX5) (T := TX5) (N := 4) (ci := 6) C iX5 rfl (0) rfl 0 (by decide) gw654 rfl rfl dX5_isSame_459 ?_
          refine j_iast (ws2 := SWs ct sd σ ++ (WX ct sa ad mcn φ σ ++ [arI ct qc 7 (upd (fun _ => nI 0) 0 (sH σ))])) C ((SWs ct sd σ).length + ((WX ct sa ad mcn φ σ).length + 0)) (l3_at rfl) (0) rfl (by decide) (by decide) l3_set dX5_isSame_462 ?_
          refine j_dup C dX5_isSame_463 rfl ?_
          refine j_iconst (v := nI 1) C dX5_isSame_464 (by decide) ?_
          refine j_aload_n (i := 0) C dX5_isSame_465 rfl 0 rfl ?_
          refine j_get (Cn := RX5) (T := TX5) (N := 4) (ci := 6) C iX5 rfl (0) rfl 2 (by decide) gw657 rfl rfl dX5_isSame_466 ?_
          refine j_alen (v := nI (sN σ)) C (1) 4 rfl rfl rfl dX5_isSame_469 ?_
          refine j_iast (ws2 := SWs ct sd σ ++ (WX ct sa ad mcn φ σ ++ [arI ct qc 7 (upd (upd (fun _ => nI 0) 0 (sH σ)) 1 (nI (sN σ)))])) C ((SWs ct sd σ).length + ((WX ct sa ad mcn φ σ).length + 0)) (l3_at rfl) (1) rfl (by decide) (by decide) l3_set dX5_isSame_470 ?_
          refine j_dup C dX5_isSame_471 rfl ?_
          refine j_iconst (v := nI 2) C dX5_isSame_472 (by decide) ?_
          refine j_iload_n (i := 2) C dX5_isSame_473 rfl 2 rfl ?_
          refine j_iast (ws2 := SWs ct sd σ ++ (WX ct sa ad mcn φ σ ++ [arI ct qc 7 (upd (upd (upd (fun _ => nI 0) 0 (sH σ)) 1 (nI (sN σ))) 2 (sumF (fun i => sR σ (8 * i + 1)) (sN σ)))])) C ((SWs ct sd σ).length + ((WX ct sa ad mcn φ σ).length + 0)) (l3_at rfl) (2) rfl (by decide) (by decide) l3_set dX5_isSame_474 ?_
          refine j_dup C dX5_isSame_475 rfl ?_
          refine j_iconst (v := nI 3) C dX5_isSame_476 (by decide) ?_
          refine j_iload_n (i := 3) C dX5_isSame_477 rfl 3 rfl ?_
          refine j_iast (ws2 := SWs ct sd σ ++ (WX ct sa ad mcn φ σ ++ [arI ct qc 7 (upd (upd (upd (upd (fun _ => nI 0) 0 (sH σ)) 1 (nI (sN σ))) 2 (sumF (fun i => sR σ (8 * i + 1)) (sN σ))) 3 (sumF (fun i => sR σ (8 * i + 3)) (sN σ)))])) C ((SWs ct sd σ).length + ((WX ct sa ad mcn φ σ).length + 0)) (l3_at rfl) (3) rfl (by decide) (by decide) l3_set dX5_isSame_478 ?_
          refine j_dup C dX5_isSame_479 rfl ?_
          refine j_iconst (v := nI 4) C dX5_isSame_480 (by decide) ?_
          refine j_iload C dX5_isSame_481 4 rfl ?_
          refine j_iast (ws2 := SWs ct sd σ ++ (WX ct sa ad mcn φ σ ++ [arI ct qc 7 (upd (upd (upd (upd (upd (fun _ => nI 0) 0 (sH σ)) 1 (nI (sN σ))) 2 (sumF (fun i => sR σ (8 * i + 1)) (sN σ))) 3 (sumF (fun i => sR σ (8 * i + 3)) (sN σ))) 4 (sumF (sW σ) (24 * sN σ)))])) C ((SWs ct sd σ).length + ((WX ct sa ad mcn φ σ).length + 0)) (l3_at rfl) (4) rfl (by decide) (by decide) l3_set dX5_isSame_483 ?_
          refine j_dup C dX5_isSame_484 rfl ?_
          refine j_iconst (v := nI 5) C dX5_isSame_485 (by decide) ?_
          refine j_aload_n (i := 0) C dX5_isSame_486 rfl 0 rfl ?_
          refine j_get (Cn := RX5) (T := TX5) (N := 4) (ci := 6) C iX5 rfl (0) rfl 1 (by decide) gw656 rfl rfl dX5_isSame_487 ?_
          refine j_iast (ws2 := SWs ct sd σ ++ (WX ct sa ad mcn φ σ ++ [arI ct qc 7 (upd (upd (upd (upd (upd (upd (fun _ => nI 0) 0 (sH σ)) 1 (nI (sN σ))) 2 (sumF (fun i => sR σ (8 * i + 1)) (sN σ))) 3 (sumF (fun i => sR σ (8 * i + 3)) (sN σ))) 4 (sumF (sW σ) (24 * sN σ))) 5 (sT σ))])) C ((SWs ct sd σ).length + ((WX ct sa ad mcn φ σ).length + 0)) (l3_at rfl) (5) rfl (by decide) (by decide) l3_set dX5_isSame_490 ?_
          refine j_dup C dX5_isSame_491 rfl ?_
          refine j_bipush (v := nI 6) C dX5_isSame_492 (by decide) ?_
          refine j_aload_n (i := 0) C dX5_isSame_494 rfl 0 rfl ?_
          refine j_iconst (v := nI 0) C dX5_isSame_495 (by decide) ?_
          refine j_callV (nargs := 1) (As := [_]) (Cn := RX5) C (0) rfl rfl rfl gw465 gw466 gw467 gw28 (kX5_in l D ct sa sd (sH σ) (sT σ) (sN σ) (sK σ) (ldS σ) (WX ct sa ad mcn φ σ ++ [arI ct qc 7 (upd (upd (upd (upd (upd (upd (fun _ => nI 0) 0 (sH σ)) 1 (nI (sN σ))) 2 (sumF (fun i => sR σ (8 * i + 1)) (sN σ))) 3 (sumF (fun i => sR σ (8 * i + 3)) (sN σ))) 4 (sumF (sW σ) (24 * sN σ))) 5 (sT σ))]) (nI 0) h8) gw468 (by decide +kernel) rfl dX5_isSame_496 ⟨Nat.le_of_ble_eq_true rfl, Nat.le_of_ble_eq_true rfl⟩ ⟨Nat.le_of_ble_eq_true rfl, Nat.le_of_ble_eq_true rfl⟩ (Nat.le_of_ble_eq_true rfl) (dki ?_)
          refine j_st (st1 := .int (inF σ (nI 0)) :: _) rfl ?_
          refine j_aload_n (i := 0) C dX5_isSame_499 rfl 0 rfl ?_
          refine j_iconst (v := nI 1) C dX5_isSame_500 (by decide) ?_
          refine j_callV (nargs := 1) (As := [_]) (Cn := RX5) C (0) rfl rfl rfl gw465 gw466 gw467 gw28 (kX5_in l D ct sa sd (sH σ) (sT σ) (sN σ) (sK σ) (ldS σ) (WX ct sa ad mcn φ σ ++ [arI ct qc 7 (upd (upd (upd (upd (upd (upd (fun _ => nI 0) 0 (sH σ)) 1 (nI (sN σ))) 2 (sumF (fun i => sR σ (8 * i + 1)) (sN σ))) 3 (sumF (fun i => sR σ (8 * i + 3)) (sN σ))) 4 (sumF (sW σ) (24 * sN σ))) 5 (sT σ))]) (nI 1) h8) gw468 (by decide +kernel) rfl dX5_isSame_501 ⟨Nat.le_of_ble_eq_true rfl, Nat.le_of_ble_eq_true rfl⟩ ⟨Nat.le_of_ble_eq_true rfl, Nat.le_of_ble_eq_true rfl⟩ (Nat.le_of_ble_eq_true rfl) (dki ?_)
          refine j_st (st1 := .int (inF σ (nI 1)) :: _) rfl ?_
          refine j_iadd C dX5_isSame_504 ?_
          refine j_aload_n (i := 0) C dX5_isSame_505 rfl 0 rfl ?_
          refine j_iconst (v := nI 2) C dX5_isSame_506 (by decide) ?_
          refine j_callV (nargs := 1) (As := [_]) (Cn := RX5) C (0) rfl rfl rfl gw465 gw466 gw467 gw28 (kX5_in l D ct sa sd (sH σ) (sT σ) (sN σ) (sK σ) (ldS σ) (WX ct sa ad mcn φ σ ++ [arI ct qc 7 (upd (upd (upd (upd (upd (upd (fun _ => nI 0) 0 (sH σ)) 1 (nI (sN σ))) 2 (sumF (fun i => sR σ (8 * i + 1)) (sN σ))) 3 (sumF (fun i => sR σ (8 * i + 3)) (sN σ))) 4 (sumF (sW σ) (24 * sN σ))) 5 (sT σ))]) (nI 2) h8) gw468 (by decide +kernel) rfl dX5_isSame_507 ⟨Nat.le_of_ble_eq_true rfl, Nat.le_of_ble_eq_true rfl⟩ ⟨Nat.le_of_ble_eq_true rfl, Nat.le_of_ble_eq_true rfl⟩ (Nat.le_of_ble_eq_true rfl) (dki ?_)
          refine j_st (st1 := .int (inF σ (nI 2)) :: _) rfl ?_
          refine j_iadd C dX5_isSame_510 ?_
          refine j_iast (ws2 := SWs ct sd σ ++ (WX ct sa ad mcn φ σ ++ [arI ct qc 7 (upd (upd (upd (upd (upd (upd (upd (fun _ => nI 0) 0 (sH σ)) 1 (nI (sN σ))) 2 (sumF (fun i => sR σ (8 * i + 1)) (sN σ))) 3 (sumF (fun i => sR σ (8 * i + 3)) (sN σ))) 4 (sumF (sW σ) (24 * sN σ))) 5 (sT σ)) 6 (inF σ (nI 0) + inF σ (nI 1) + inF σ (nI 2)))])) C ((SWs ct sd σ).length + ((WX ct sa ad mcn φ σ).length + 0)) (l3_at rfl) (6) rfl (by decide) (by decide) l3_set dX5_isSame_511 ?_
          refine j_cong (g := cut 7 (cnd σ)) (q0 := (SWs ct sd σ).length + ((WX ct sa ad mcn φ σ).length + 0)) (l3_at rfl) (c7_e rfl rfl rfl rfl (wr_n hi.1).symm rfl rfl) ?_
          refine j_ws (ws1 := SWs ct sd σ ++ (WX ct sa ad mcn φ σ ++ [arI ct qc 7 (cut 7 (cnd σ))])) l3_set ?_
          refine j_astore (lv' := [(5, .ref _), (0, .ref _), (1, .ref _), (2, .int _), (3, .int _), (4, .int _)]) C dX5_isSame_512 (by decide) rfl ?_
          refine j_iconst (v := nI 0) C dX5_isSame_514 (by decide) ?_
          refine j_istore (lv' := [(6, .int _), (5, .ref _), (0, .ref _), (1, .ref _), (2, .int _), (3, .int _), (4, .int _)]) C dX5_isSame_515 (by decide) rfl ?_
          have L517 : ∀ (d t : Nat) (x6 : Int32), t + d = 7 → x6 = nI t → J X (SWs ct sd σ ++ (WX ct sa ad mcn φ σ ++ [arI ct qc 7 (cut 7 (cnd σ))])) (861 + t) (5167 + 6 * t) 517 [(0, .ref (sd 0)), (1, .ref (ad 0)), (4, .int (sumF (sW σ) (24 * sN σ))), (5, .ref qc), (6, .int x6)] [] := by
            intro d
            induction d with
            | zero =>
              intro t x6 hd e_x6 
              subst e_x6
              have ht9 : t = 7 := by omega
              subst ht9
              refine j_iload C dX5_isSame_517 4 rfl ?_
              refine j_bipush (v := nI 7) C dX5_isSame_519 (by decide) ?_
              refine j_icmp_ge C 546 dX5_isSame_521 (by decide) (fun c521 => ?_) (fun c521 => by first | exact absurd c521 (by decide) | exact absurd c521 (nI_ge (by omega) (by omega)) | exact absurd (nI_le (by omega) (by omega)) c521 | exact absurd c521 (nI_nlt (by omega) (by omega)) | exact absurd (nI_lt (by omega) (by omega)) c521 | exact absurd c521 (nI_nle0 (by omega) (by omega)))
              refine j_aload_n (i := 1) C dX5_isSame_546 rfl 1 rfl ?_
              refine j_sw (A := SWs ct sd σ) (B := WX ct sa ad mcn φ σ ++ [arI ct qc 7 (cut 7 (cnd σ))]) ?_
              refine j_ws (ws1 := WX ct sa ad mcn φ σ ++ ([arI ct qc 7 (cut 7 (cnd σ))] ++ SWs ct sd σ)) (List.append_assoc ..) ?_
              refine j_callV (nargs := 0) (As := []) (Cn := RX3) C (0) rfl rfl rfl gw471 gw472 gw473 gw21 (kX3_mean l D ct sa ad mcn φ σ ([arI ct qc 7 (cut 7 (cnd σ))] ++ SWs ct sd σ) hi.1) gw474 (by decide +kernel) rfl dX5_isSame_547 ⟨Nat.le_of_ble_eq_true rfl, Nat.le_of_ble_eq_true rfl⟩ ⟨Nat.le_of_ble_eq_true rfl, Nat.le_of_ble_eq_true rfl⟩ (Nat.le_of_ble_eq_true rfl) (dkd ?_)
              refine j_ws (ws1 := (WX ct sa ad mcn φ σ ++ [arI ct qc 7 (cut 7 (cnd σ))]) ++ SWs ct sd σ) (List.append_assoc ..).symm ?_
              refine j_sw (A := WX ct sa ad mcn φ σ ++ [arI ct qc 7 (cut 7 (cnd σ))]) (B := SWs ct sd σ) ?_
              refine j_aload_n (i := 0) C dX5_isSame_550 rfl 0 rfl ?_
              refine j_get (Cn := RX5) (T := TX5) (N := 4) (ci := 6) C iX5 rfl (0) rfl 2 (by decide) gw657 rfl rfl dX5_isSame_551 ?_
              refine j_alen (v := nI (sN σ)) C (1) 4 rfl rfl rfl dX5_isSame_554 ?_
              refine j_if_ne C 562 dX5_isSame_555 (by decide) (fun c555 => ?_) (fun c555 => ?_)
              · have hnn : ¬ sN σ = 0 := fun z => c555 (by rw [z]; rfl)
                refine j_iload C dX5_isSame_562 2 rfl ?_
                refine j_i2d C dX5_isSame_564 ?_
                refine j_bipush (v := nI 24) C dX5_isSame_565 (by decide) ?_
                refine j_aload_n (i := 0) C dX5_isSame_567 rfl 0 rfl ?_
                refine j_get (Cn := RX5) (T := TX5) (N := 4) (ci := 6) C iX5 rfl (0) rfl 2 (by decide) gw657 rfl rfl dX5_isSame_568 ?_
                refine j_alen (v := nI (sN σ)) C (1) 4 rfl rfl rfl dX5_isSame_571 ?_
                refine j_imul C dX5_isSame_572 ?_
                refine j_st (st1 := .int (nI (24 * sN σ)) :: _) (by rw [pk_mul]) ?_
                refine j_i2d C dX5_isSame_573 ?_
                refine j_ddiv C dX5_isSame_574 (n64_div (nI_ne0 (n := 24 * sN σ) (by omega) (by omega))) ?_
                refine j_st (st1 := .double (mnF σ) :: _) (congrArg (fun z => Value.double z :: _) (by rw [wr_n hi.1]; exact (if_neg hnn).symm)) ?_
                refine j_dcmp C dX5_isSame_575 ?_
                refine j_if_ne C 583 dX5_isSame_576 (by decide) (fun c576 => by exact absurd (mn_nn h8) c576) (fun c576 => ?_)
                refine j_iconst (v := nI 1) C dX5_isSame_579 (by decide) ?_
                refine j_goto C 584 dX5_isSame_580 (by decide) ?_
                exact j_ireturn C E (by first | exact nr_b | rfl) dX5_isSame_584 (Nat.le_of_ble_eq_true rfl) (Nat.le_of_ble_eq_true rfl) (rfl)
              · have hn0 : sN σ = 0 := Nat.eq_zero_of_not_pos (fun z => nI_ne0 z (by omega) c555)
                refine j_dconst0 C dX5_isSame_558 ?_
                refine j_st (st1 := .double (mnF σ) :: _) (congrArg (fun z => Value.double z :: _) (if_pos hn0).symm) ?_
                refine j_goto C 575 dX5_isSame_559 (by decide) ?_
                refine j_dcmp C dX5_isSame_575 ?_
                refine j_if_ne C 583 dX5_isSame_576 (by decide) (fun c576 => by exact absurd (mn_nn h8) c576) (fun c576 => ?_)
                refine j_iconst (v := nI 1) C dX5_isSame_579 (by decide) ?_
                refine j_goto C 584 dX5_isSame_580 (by decide) ?_
                exact j_ireturn C E (by first | exact nr_b | rfl) dX5_isSame_584 (Nat.le_of_ble_eq_true rfl) (Nat.le_of_ble_eq_true rfl) (rfl)
            | succ d ih =>
              intro t x6 hd e_x6 
              subst e_x6
              refine j_iload C dX5_isSame_517 4 rfl ?_
              refine j_bipush (v := nI 7) C dX5_isSame_519 (by decide) ?_
              refine j_icmp_ge C 546 dX5_isSame_521 (by decide) (fun c521 => by first | exact absurd c521 (by decide) | exact absurd c521 (nI_ge (by omega) (by omega)) | exact absurd (nI_le (by omega) (by omega)) c521 | exact absurd c521 (nI_nlt (by omega) (by omega)) | exact absurd (nI_lt (by omega) (by omega)) c521 | exact absurd c521 (nI_nle0 (by omega) (by omega))) (fun c521 => ?_)
              refine j_aload_n (i := 1) C dX5_isSame_524 rfl 1 rfl ?_
              refine j_iload C dX5_isSame_525 4 rfl ?_
              have ef := count_k (σ := σ) t (show t < 7 by omega) rfl
              refine j_sw (A := SWs ct sd σ) (B := WX ct sa ad mcn φ σ ++ [arI ct qc 7 (cut 7 (cnd σ))]) ?_
              refine j_ws (ws1 := WX ct sa ad mcn φ σ ++ ([arI ct qc 7 (cut 7 (cnd σ))] ++ SWs ct sd σ)) (List.append_assoc ..) ?_
              refine j_callVX (nargs := 1) (As := [_]) (Cn := RX3) C (0) rfl rfl rfl gw470 gw352 gw353 gw21 (kX3_count l htr D ct sa ad mcn φ σ ([arI ct qc 7 (cut 7 (cnd σ))] ++ SWs ct sd σ) (nI t) hi.1) gw354 (by decide +kernel) rfl dX5_isSame_527 ⟨Nat.le_of_ble_eq_true rfl, Nat.le_of_ble_eq_true rfl⟩ ⟨by show 861 + t + 1 ≤ 1000; omega, by show 5167 + 6 * t + 6 ≤ 8000; omega⟩ (Nat.le_of_ble_eq_true rfl) (fun En hx => (kx_no hx (congrArg (fun f => f.1) ef) (by decide)).elim) (fun r w hk => ?_)
              obtain ⟨-, rfl, rfl⟩ := hk
              refine j_st (st1 := .int (cnd σ t) :: _) (by rw [ef]; rfl) ?_
              refine j_ws (ws1 := (WX ct sa ad mcn φ σ ++ [arI ct qc 7 (cut 7 (cnd σ))]) ++ SWs ct sd σ) (List.append_assoc ..).symm ?_
              refine j_sw (A := WX ct sa ad mcn φ σ ++ [arI ct qc 7 (cut 7 (cnd σ))]) (B := SWs ct sd σ) ?_
              refine j_aload C dX5_isSame_530 3 rfl ?_
              refine j_iload C dX5_isSame_532 4 rfl ?_
              refine j_iald C ((SWs ct sd σ).length + ((WX ct sa ad mcn φ σ).length + 0)) (l3_at rfl) (t) rfl (by omega) (by decide) dX5_isSame_534 ?_
              refine j_st (st1 := .int (cnd σ t) :: _) (congrArg (fun z => Value.int z :: _) (cut_in (by omega))) ?_
              refine j_icmp_eq C 540 dX5_isSame_535 (by decide) (fun c535 => ?_) (fun c535 => by exact absurd rfl c535)
              refine j_iinc (z := 4) (lv' := [(6, .int _), (0, .ref _), (1, .ref _), (4, .int _), (5, .ref _)]) C dX5_isSame_540 rfl rfl (by decide) rfl ?_
              refine j_goto C 517 dX5_isSame_543 (by decide) ?_
              exact j_lvs [1, 2, 3, 4, 0] rfl (ih (t + 1) _ (by omega) (nI_1 t))
          exact j_lvs [2, 3, 6, 1, 0] rfl (L517 (7) (0) _ (by omega) (rfl))
        | succ d ih =>
          intro r x5 hd e_x5 
          subst e_x5
          have hr3 : r < 3 := by omega
          obtain ⟨f, f24, hf⟩ := okI_of (hi.2.2 r hr3).1 (by decide)
          obtain ⟨t9, t25, ht⟩ := okI_of (hi.2.2 r hr3).2.1 (by decide)
          refine j_iload C dX5_isSame_268 5 rfl ?_
          refine j_iconst (v := nI 3) C dX5_isSame_270 (by decide) ?_
          refine j_icmp_ge C 452 dX5_isSame_271 (by decide) (fun c271 => by first | exact absurd c271 (by decide) | exact absurd c271 (nI_ge (by omega) (by omega)) | exact absurd (nI_le (by omega) (by omega)) c271 | exact absurd c271 (nI_nlt (by omega) (by omega)) | exact absurd (nI_lt (by omega) (by omega)) c271 | exact absurd c271 (nI_nle0 (by omega) (by omega))) (fun c271 => ?_)
          refine j_iconst (v := nI 0) C dX5_isSame_274 (by decide) ?_
          refine j_istore (lv' := [(6, .int _), (0, .ref _), (1, .ref _), (2, .int _), (3, .int _), (4, .int _), (5, .int _)]) C dX5_isSame_275 (by decide) rfl ?_
          refine j_aload_n (i := 0) C dX5_isSame_277 rfl 1 rfl ?_
          refine j_get (Cn := RX5) (T := TX5) (N := 4) (ci := 6) C iX5 rfl (0) rfl 2 (by decide) gw657 rfl rfl dX5_isSame_278 ?_
          refine j_astore (lv' := [(7, .ref _), (6, .int _), (0, .ref _), (1, .ref _), (2, .int _), (3, .int _), (4, .int _), (5, .int _)]) C dX5_isSame_281 (by decide) rfl ?_
          refine j_aload C dX5_isSame_283 0 rfl ?_
          refine j_alen (v := nI (sN σ)) C (1) 4 rfl rfl rfl dX5_isSame_285 ?_
          refine j_istore (lv' := [(8, .int _), (7, .ref _), (6, .int _), (0, .ref _), (1, .ref _), (2, .int _), (3, .int _), (4, .int _), (5, .int _)]) C dX5_isSame_286 (by decide) rfl ?_
          refine j_iconst (v := nI 0) C dX5_isSame_288 (by decide) ?_
          refine j_istore (lv' := [(9, .int _), (8, .int _), (7, .ref _), (6, .int _), (0, .ref _), (1, .ref _), (2, .int _), (3, .int _), (4, .int _), (5, .int _)]) C dX5_isSame_289 (by decide) rfl ?_
          have L291 : ∀ (d t : Nat) (x6 : Int32) (x9 : Int32), t + d = sN σ → x6 = sumF (fun i => if sR σ (8 * i + 2) = nI r then sR σ (8 * i + 1) else nI 0) t → x9 = nI t → J X (SWs ct sd σ ++ (WX ct sa ad mcn φ σ ++ [])) (800 + 20 * r) (4800 + 120 * r) 291 [(0, .ref (sd 0)), (1, .ref (ad 0)), (2, .int (sumF (fun i => sR σ (8 * i + 1)) (sN σ))), (3, .int (sumF (fun i => sR σ (8 * i + 3)) (sN σ))), (4, .int (sumF (sW σ) (24 * sN σ))), (5, .int (nI r)), (6, .int x6), (7, .ref (sd 1)), (8, .int (nI (sN σ))), (9, .int x9)] [] := by
            intro d
            induction d with
            | zero =>
              intro t x6 x9 hd e_x6 e_x9 
              subst e_x6
              subst e_x9
              have ht9 : t = sN σ := by omega
              rw [ht9]
              refine j_iload C dX5_isSame_291 9 rfl ?_
              refine j_iload C dX5_isSame_293 8 rfl ?_
              refine j_icmp_ge C 339 dX5_isSame_295 (by decide) (fun c295 => ?_) (fun c295 => by first | exact absurd c295 (nI_ge (b := sN σ) (by omega) (by omega)) | exact (c295 (nI_le (Nat.le_refl (sN σ)) (by omega))).elim)
              refine j_bipush (v := nI 6) C dX5_isSame_339 (by decide) ?_
              refine j_newaI C (N := 6) rfl (by decide) (by show 800 + 20 * r + 1 ≤ 1000; omega) (by show 4800 + 120 * r + 6 ≤ 8000; omega) dX5_isSame_341 (fun q9 => ?_)
              refine j_ws (ws1 := SWs ct sd σ ++ (WX ct sa ad mcn φ σ ++ [arI ct q9 6 (fun _ => nI 0)])) l3_add ?_
              refine j_dup C dX5_isSame_343 rfl ?_
              refine j_iconst (v := nI 0) C dX5_isSame_344 (by decide) ?_
              refine j_aload_n (i := 0) C dX5_isSame_345 rfl 0 rfl ?_
              refine j_get (Cn := RX5) (T := TX5) (N := 4) (ci := 6) C iX5 rfl (0) rfl 3 (by decide) gw659 rfl rfl dX5_isSame_346 ?_
              refine j_iload C dX5_isSame_349 5 rfl ?_
              refine j_aald C (2) 3 rfl rfl rfl (r) rfl (by omega) (by decide) (if_pos (by omega)) dX5_isSame_351 ?_
              refine j_iconst (v := nI 0) C dX5_isSame_352 (by decide) ?_
              refine j_iald C (3 + r) (sw_k (by omega)) (0) rfl (by decide) (by decide) dX5_isSame_353 ?_
              refine j_st (st1 := .int (sK σ (3 * r + 0)) :: _) (congrArg (fun z => Value.int z :: _) (cut_in (by decide))) ?_
              refine j_iast (ws2 := SWs ct sd σ ++ (WX ct sa ad mcn φ σ ++ [arI ct q9 6 (upd (fun _ => nI 0) 0 (sK σ (3 * r + 0)))])) C ((SWs ct sd σ).length + ((WX ct sa ad mcn φ σ).length + 0)) (l3_at rfl) (0) rfl (by decide) (by decide) l3_set dX5_isSame_354 ?_
              refine j_dup C dX5_isSame_355 rfl ?_
              refine j_iconst (v := nI 1) C dX5_isSame_356 (by decide) ?_
              refine j_aload_n (i := 0) C dX5_isSame_357 rfl 0 rfl ?_
              refine j_iload C dX5_isSame_358 5 rfl ?_
              refine j_callV (nargs := 1) (As := [_]) (Cn := RX5) C (0) rfl rfl rfl gw465 gw466 gw467 gw28 (kX5_in l D ct sa sd (sH σ) (sT σ) (sN σ) (sK σ) (ldS σ) (WX ct sa ad mcn φ σ ++ [arI ct q9 6 (upd (fun _ => nI 0) 0 (sK σ (3 * r + 0)))]) (nI r) h8) gw468 (by decide +kernel) rfl dX5_isSame_360 ⟨Nat.le_of_ble_eq_true rfl, Nat.le_of_ble_eq_true rfl⟩ ⟨by show 800 + 20 * r + 1 + 0 ≤ 1000; omega, by show 4800 + 120 * r + 6 + 0 ≤ 8000; omega⟩ (Nat.le_of_ble_eq_true rfl) (dki ?_)
              refine j_st (st1 := .int (inF σ (nI r)) :: _) rfl ?_
              refine j_iast (ws2 := SWs ct sd σ ++ (WX ct sa ad mcn φ σ ++ [arI ct q9 6 (upd (upd (fun _ => nI 0) 0 (sK σ (3 * r + 0))) 1 (inF σ (nI r)))])) C ((SWs ct sd σ).length + ((WX ct sa ad mcn φ σ).length + 0)) (l3_at rfl) (1) rfl (by decide) (by decide) l3_set dX5_isSame_363 ?_
              refine j_dup C dX5_isSame_364 rfl ?_
              refine j_iconst (v := nI 2) C dX5_isSame_365 (by decide) ?_
              refine j_aload_n (i := 0) C dX5_isSame_366 rfl 0 rfl ?_
              refine j_iload C dX5_isSame_367 5 rfl ?_
              refine j_callV (nargs := 1) (As := [_]) (Cn := RX5) C (0) rfl rfl rfl gw445 gw446 gw447 gw28 (kX5_isOpen l D ct sa sd (sH σ) (sT σ) (sN σ) (sK σ) (ldS σ) (WX ct sa ad mcn φ σ ++ [arI ct q9 6 (upd (upd (fun _ => nI 0) 0 (sK σ (3 * r + 0))) 1 (inF σ (nI r)))]) _ r f t9 h rfl hr3 hf ht hi.2.1 f24 t25 hh) gw448 (by decide +kernel) rfl dX5_isSame_369 ⟨Nat.le_of_ble_eq_true rfl, Nat.le_of_ble_eq_true rfl⟩ ⟨by show 800 + 20 * r + 1 + 0 ≤ 1000; omega, by show 4800 + 120 * r + 6 + 0 ≤ 8000; omega⟩ (Nat.le_of_ble_eq_true rfl) (dki ?_)
              refine jn_p 380 (b2i (opR σ (sH σ) r)) (fun kk => ?_) ?_
              · refine j_if_eq C 379 dX5_isSame_372 (by decide) (fun c372 => ?_) (fun c372 => ?_)
                · refine j_iconst (v := nI 0) C dX5_isSame_379 (by decide) ?_
                  exact j_st (st1 := .int (b2i (opR σ (sH σ) r)) :: _) (congrArg (fun z => Value.int z :: _) (by first | exact (b2i_y (b2i_t c372)).symm | exact (b2i_n (b2i_f c372)).symm)) kk
                · refine j_iconst (v := nI 1) C dX5_isSame_375 (by decide) ?_
                  refine j_goto C 380 dX5_isSame_376 (by decide) ?_
                  exact j_st (st1 := .int (b2i (opR σ (sH σ) r)) :: _) (congrArg (fun z => Value.int z :: _) (by first | exact (b2i_y (b2i_t c372)).symm | exact (b2i_n (b2i_f c372)).symm)) kk
              · refine j_iast (ws2 := SWs ct sd σ ++ (WX ct sa ad mcn φ σ ++ [arI ct q9 6 (upd (upd (upd (fun _ => nI 0) 0 (sK σ (3 * r + 0))) 1 (inF σ (nI r))) 2 (b2i (opR σ (sH σ) r)))])) C ((SWs ct sd σ).length + ((WX ct sa ad mcn φ σ).length + 0)) (l3_at rfl) (2) rfl (by decide) (by decide) l3_set dX5_isSame_380 ?_
                refine j_dup C dX5_isSame_381 rfl ?_
                refine j_iconst (v := nI 3) C dX5_isSame_382 (by decide) ?_
                refine j_iload C dX5_isSame_383 6 rfl ?_
                refine j_iast (ws2 := SWs ct sd σ ++ (WX ct sa ad mcn φ σ ++ [arI ct q9 6 (upd (upd (upd (upd (fun _ => nI 0) 0 (sK σ (3 * r + 0))) 1 (inF σ (nI r))) 2 (b2i (opR σ (sH σ) r))) 3 (sumF (fun i => if sR σ (8 * i + 2) = nI r then sR σ (8 * i + 1) else nI 0) (sN σ)))])) C ((SWs ct sd σ).length + ((WX ct sa ad mcn φ σ).length + 0)) (l3_at rfl) (3) rfl (by decide) (by decide) l3_set dX5_isSame_385 ?_
                refine j_dup C dX5_isSame_386 rfl ?_
                refine j_iconst (v := nI 4) C dX5_isSame_387 (by decide) ?_
                refine j_aload_n (i := 0) C dX5_isSame_388 rfl 0 rfl ?_
                refine j_get (Cn := RX5) (T := TX5) (N := 4) (ci := 6) C iX5 rfl (0) rfl 3 (by decide) gw659 rfl rfl dX5_isSame_389 ?_
                refine j_iload C dX5_isSame_392 5 rfl ?_
                refine j_aald C (2) 3 rfl rfl rfl (r) rfl (by omega) (by decide) (if_pos (by omega)) dX5_isSame_394 ?_
                refine j_iconst (v := nI 1) C dX5_isSame_395 (by decide) ?_
                refine j_iald C (3 + r) (sw_k (by omega)) (1) rfl (by decide) (by decide) dX5_isSame_396 ?_
                refine j_st (st1 := .int (sK σ (3 * r + 1)) :: _) (congrArg (fun z => Value.int z :: _) (cut_in (by decide))) ?_
                refine j_iast (ws2 := SWs ct sd σ ++ (WX ct sa ad mcn φ σ ++ [arI ct q9 6 (upd (upd (upd (upd (upd (fun _ => nI 0) 0 (sK σ (3 * r + 0))) 1 (inF σ (nI r))) 2 (b2i (opR σ (sH σ) r))) 3 (sumF (fun i => if sR σ (8 * i + 2) = nI r then sR σ (8 * i + 1) else nI 0) (sN σ))) 4 (sK σ (3 * r + 1)))])) C ((SWs ct sd σ).length + ((WX ct sa ad mcn φ σ).length + 0)) (l3_at rfl) (4) rfl (by decide) (by decide) l3_set dX5_isSame_397 ?_
                refine j_dup C dX5_isSame_398 rfl ?_
                refine j_iconst (v := nI 5) C dX5_isSame_399 (by decide) ?_
                refine j_aload_n (i := 0) C dX5_isSame_400 rfl 0 rfl ?_
                refine j_get (Cn := RX5) (T := TX5) (N := 4) (ci := 6) C iX5 rfl (0) rfl 3 (by decide) gw659 rfl rfl dX5_isSame_401 ?_
                refine j_iload C dX5_isSame_404 5 rfl ?_
                refine j_aald C (2) 3 rfl rfl rfl (r) rfl (by omega) (by decide) (if_pos (by omega)) dX5_isSame_406 ?_
                refine j_iconst (v := nI 2) C dX5_isSame_407 (by decide) ?_
                refine j_iald C (3 + r) (sw_k (by omega)) (2) rfl (by decide) (by decide) dX5_isSame_408 ?_
                refine j_st (st1 := .int (sK σ (3 * r + 2)) :: _) (congrArg (fun z => Value.int z :: _) (cut_in (by decide))) ?_
                refine j_iast (ws2 := SWs ct sd σ ++ (WX ct sa ad mcn φ σ ++ [arI ct q9 6 (upd (upd (upd (upd (upd (upd (fun _ => nI 0) 0 (sK σ (3 * r + 0))) 1 (inF σ (nI r))) 2 (b2i (opR σ (sH σ) r))) 3 (sumF (fun i => if sR σ (8 * i + 2) = nI r then sR σ (8 * i + 1) else nI 0) (sN σ))) 4 (sK σ (3 * r + 1))) 5 (sK σ (3 * r + 2)))])) C ((SWs ct sd σ).length + ((WX ct sa ad mcn φ σ).length + 0)) (l3_at rfl) (5) rfl (by decide) (by decide) l3_set dX5_isSame_409 ?_
                refine j_cong (g := cut 6 (rtl σ r)) (q0 := (SWs ct sd σ).length + ((WX ct sa ad mcn φ σ).length + 0)) (l3_at rfl) (t6_e rfl rfl rfl rfl rfl rfl) ?_
                refine j_ws (ws1 := SWs ct sd σ ++ (WX ct sa ad mcn φ σ ++ [arI ct q9 6 (cut 6 (rtl σ r))])) l3_set ?_
                refine j_astore (lv' := [(7, .ref _), (0, .ref _), (1, .ref _), (2, .int _), (3, .int _), (4, .int _), (5, .int _), (6, .int _), (8, .int _), (9, .int _)]) C dX5_isSame_410 (by decide) rfl ?_
                refine j_iconst (v := nI 0) C dX5_isSame_412 (by decide) ?_
                refine j_istore (lv' := [(8, .int _), (7, .ref _), (0, .ref _), (1, .ref _), (2, .int _), (3, .int _), (4, .int _), (5, .int _), (6, .int _), (9, .int _)]) C dX5_isSame_413 (by decide) rfl ?_
                have L415 : ∀ (d q : Nat) (x8 : Int32), q + d = 6 → x8 = nI q → J X (SWs ct sd σ ++ (WX ct sa ad mcn φ σ ++ [arI ct q9 6 (cut 6 (rtl σ r))])) (800 + (20 * r + (1 + 3 * q))) (4800 + (120 * r + (6 + 18 * q))) 415 [(0, .ref (sd 0)), (1, .ref (ad 0)), (2, .int (sumF (fun i => sR σ (8 * i + 1)) (sN σ))), (3, .int (sumF (fun i => sR σ (8 * i + 3)) (sN σ))), (4, .int (sumF (sW σ) (24 * sN σ))), (5, .int (nI r)), (7, .ref q9), (8, .int x8)] [] := by
                  intro d
                  induction d with
                  | zero =>
                    intro q x8 hd e_x8 
                    subst e_x8
                    have hq9 : q = 6 := by omega
                    subst hq9
                    refine j_iload C dX5_isSame_415 7 rfl ?_
                    refine j_bipush (v := nI 6) C dX5_isSame_417 (by decide) ?_
                    refine j_icmp_ge C 446 dX5_isSame_419 (by decide) (fun c419 => ?_) (fun c419 => by first | exact absurd c419 (by decide) | exact absurd c419 (nI_ge (by omega) (by omega)) | exact absurd (nI_le (by omega) (by omega)) c419 | exact absurd c419 (nI_nlt (by omega) (by omega)) | exact absurd (nI_lt (by omega) (by omega)) c419 | exact absurd c419 (nI_nle0 (by omega) (by omega)))
                    refine j_drop (a := SWs ct sd σ ++ (WX ct sa ad mcn φ σ ++ [])) (b := [arI ct q9 6 (cut 6 (rtl σ r))]) l3_drop ?_
                    refine j_widen (k1 := 800 + 20 * (r + 1)) (n1 := 4800 + 120 * (r + 1)) (by omega) (by omega) ?_
                    refine j_iinc (z := 5) (lv' := [(5, .int _), (0, .ref _), (1, .ref _), (2, .int _), (3, .int _), (4, .int _), (7, .ref _), (8, .int _)]) C dX5_isSame_446 rfl rfl (by decide) rfl ?_
                    refine j_goto C 268 dX5_isSame_449 (by decide) ?_
                    exact j_lvs [1, 2, 3, 4, 5, 0] rfl (ih (r + 1) _ (by omega) (nI_1 r))
                  | succ d ih =>
                    intro q x8 hd e_x8 
                    subst e_x8
                    refine j_iload C dX5_isSame_415 7 rfl ?_
                    refine j_bipush (v := nI 6) C dX5_isSame_417 (by decide) ?_
                    refine j_icmp_ge C 446 dX5_isSame_419 (by decide) (fun c419 => by first | exact absurd c419 (by decide) | exact absurd c419 (nI_ge (by omega) (by omega)) | exact absurd (nI_le (by omega) (by omega)) c419 | exact absurd c419 (nI_nlt (by omega) (by omega)) | exact absurd (nI_lt (by omega) (by omega)) c419 | exact absurd c419 (nI_nle0 (by omega) (by omega))) (fun c419 => ?_)
                    refine j_aload_n (i := 1) C dX5_isSame_422 rfl 1 rfl ?_
                    refine j_iload C dX5_isSame_423 5 rfl ?_
                    refine j_iload C dX5_isSame_425 7 rfl ?_
                    have ef := rack_v (σ := σ) hr3 (show q < 6 by omega)
                    refine j_sw (A := SWs ct sd σ) (B := WX ct sa ad mcn φ σ ++ [arI ct q9 6 (cut 6 (rtl σ r))]) ?_
                    refine j_ws (ws1 := WX ct sa ad mcn φ σ ++ ([arI ct q9 6 (cut 6 (rtl σ r))] ++ SWs ct sd σ)) (List.append_assoc ..) ?_
                    refine j_callVX (nargs := 2) (As := [_, _]) (Cn := RX3) C (0) rfl rfl rfl gw469 gw327 gw328 gw21 (kX3_rack l htr D ct sa ad mcn φ σ ([arI ct q9 6 (cut 6 (rtl σ r))] ++ SWs ct sd σ) (nI r) (nI q) hi.1) gw329 (by decide +kernel) rfl dX5_isSame_427 ⟨Nat.le_of_ble_eq_true rfl, Nat.le_of_ble_eq_true rfl⟩ ⟨by show 800 + (20 * r + (1 + 3 * q)) + 3 ≤ 1000; omega, by show 4800 + (120 * r + (6 + 18 * q)) + 18 ≤ 8000; omega⟩ (Nat.le_of_ble_eq_true rfl) (fun En hx => (kx_no hx (congrArg (fun f => f.1) ef) (by decide)).elim) (fun r w hk => ?_)
                    obtain ⟨-, rfl, rfl⟩ := hk
                    refine j_st (st1 := .int (rtl σ r q) :: _) (by rw [ef]; rfl) ?_
                    refine j_ws (ws1 := (WX ct sa ad mcn φ σ ++ [arI ct q9 6 (cut 6 (rtl σ r))]) ++ SWs ct sd σ) (List.append_assoc ..).symm ?_
                    refine j_sw (A := WX ct sa ad mcn φ σ ++ [arI ct q9 6 (cut 6 (rtl σ r))]) (B := SWs ct sd σ) ?_
                    refine j_aload C dX5_isSame_430 6 rfl ?_
                    refine j_iload C dX5_isSame_432 7 rfl ?_
                    refine j_iald C ((SWs ct sd σ).length + ((WX ct sa ad mcn φ σ).length + 0)) (l3_at rfl) (q) rfl (by omega) (by decide) dX5_isSame_434 ?_
                    refine j_st (st1 := .int (rtl σ r q) :: _) (congrArg (fun z => Value.int z :: _) (cut_in (by omega))) ?_
                    refine j_icmp_eq C 440 dX5_isSame_435 (by decide) (fun c435 => ?_) (fun c435 => by exact absurd rfl c435)
                    refine j_iinc (z := 7) (lv' := [(8, .int _), (0, .ref _), (1, .ref _), (2, .int _), (3, .int _), (4, .int _), (5, .int _), (7, .ref _)]) C dX5_isSame_440 rfl rfl (by decide) rfl ?_
                    refine j_goto C 415 dX5_isSame_443 (by decide) ?_
                    exact j_lvs [1, 2, 3, 4, 5, 6, 7, 0] rfl (ih (q + 1) _ (by omega) (nI_1 q))
                exact j_lvs [2, 3, 4, 5, 6, 7, 1, 0] rfl (L415 (6) (0) _ (by omega) (rfl))
            | succ d ih =>
              intro t x6 x9 hd e_x6 e_x9 
              subst e_x6
              subst e_x9
              have hj : t < sN σ := by omega
              refine j_iload C dX5_isSame_291 9 rfl ?_
              refine j_iload C dX5_isSame_293 8 rfl ?_
              refine j_icmp_ge C 339 dX5_isSame_295 (by decide) (fun c295 => by first | exact absurd c295 (nI_ge (b := sN σ) (by omega) (by omega)) | exact (c295 (nI_le (Nat.le_refl (sN σ)) (by omega))).elim) (fun c295 => ?_)
              refine j_aload C dX5_isSame_298 7 rfl ?_
              refine j_iload C dX5_isSame_300 9 rfl ?_
              refine j_aald C (1) 4 rfl rfl rfl (t) rfl hj (by omega) (if_pos hj) dX5_isSame_302 ?_
              refine j_astore (lv' := [(10, .ref _), (0, .ref _), (1, .ref _), (2, .int _), (3, .int _), (4, .int _), (5, .int _), (6, .int _), (7, .ref _), (8, .int _), (9, .int _)]) C dX5_isSame_303 (by decide) rfl ?_
              refine j_iload C dX5_isSame_305 7 rfl ?_
              refine j_aload C dX5_isSame_307 0 rfl ?_
              refine j_get (Cn := RX4) (T := TX4) (N := 6) (ci := 5) C iX4 rfl (6 + 8 * t) (sw_o hj) 5 (by decide) gw508 rfl rfl dX5_isSame_309 ?_
              refine j_iload C dX5_isSame_312 6 rfl ?_
              refine j_icmp_ne C 329 dX5_isSame_314 (by decide) (fun c314 => ?_) (fun c314 => ?_)
              · refine j_iconst (v := nI 0) C dX5_isSame_329 (by decide) ?_
                refine j_iadd C dX5_isSame_330 ?_
                refine j_istore (lv' := [(6, .int _), (10, .ref _), (0, .ref _), (1, .ref _), (2, .int _), (3, .int _), (4, .int _), (5, .int _), (7, .ref _), (8, .int _), (9, .int _)]) C dX5_isSame_331 (by decide) rfl ?_
                refine j_iinc (z := 10) (lv' := [(9, .int _), (6, .int _), (10, .ref _), (0, .ref _), (1, .ref _), (2, .int _), (3, .int _), (4, .int _), (5, .int _), (7, .ref _), (8, .int _)]) C dX5_isSame_333 rfl rfl (by decide) rfl ?_
                refine j_goto C 291 dX5_isSame_336 (by decide) ?_
                exact j_lvs [3, 4, 5, 6, 7, 8, 1, 9, 10, 0] rfl (ih (t + 1) _ _ (by omega) (by first | exact oi_n c314 | exact oi_0 c314 c322 | exact oi_1 c314 (hi.1.2.1 t (by omega)).1 c322) (nI_1 t))
              · refine j_aload C dX5_isSame_317 0 rfl ?_
                refine j_get (Cn := RX4) (T := TX4) (N := 6) (ci := 5) C iX4 rfl (6 + 8 * t) (sw_o hj) 3 (by decide) gw503 rfl rfl dX5_isSame_319 ?_
                refine j_if_eq C 329 dX5_isSame_322 (by decide) (fun c322 => ?_) (fun c322 => ?_)
                · refine j_iconst (v := nI 0) C dX5_isSame_329 (by decide) ?_
                  refine j_iadd C dX5_isSame_330 ?_
                  refine j_istore (lv' := [(6, .int _), (10, .ref _), (0, .ref _), (1, .ref _), (2, .int _), (3, .int _), (4, .int _), (5, .int _), (7, .ref _), (8, .int _), (9, .int _)]) C dX5_isSame_331 (by decide) rfl ?_
                  refine j_iinc (z := 10) (lv' := [(9, .int _), (6, .int _), (10, .ref _), (0, .ref _), (1, .ref _), (2, .int _), (3, .int _), (4, .int _), (5, .int _), (7, .ref _), (8, .int _)]) C dX5_isSame_333 rfl rfl (by decide) rfl ?_
                  refine j_goto C 291 dX5_isSame_336 (by decide) ?_
                  exact j_lvs [3, 4, 5, 6, 7, 8, 1, 9, 10, 0] rfl (ih (t + 1) _ _ (by omega) (by first | exact oi_n c314 | exact oi_0 c314 c322 | exact oi_1 c314 (hi.1.2.1 t (by omega)).1 c322) (nI_1 t))
                · refine j_iconst (v := nI 1) C dX5_isSame_325 (by decide) ?_
                  refine j_goto C 330 dX5_isSame_326 (by decide) ?_
                  refine j_iadd C dX5_isSame_330 ?_
                  refine j_istore (lv' := [(6, .int _), (10, .ref _), (0, .ref _), (1, .ref _), (2, .int _), (3, .int _), (4, .int _), (5, .int _), (7, .ref _), (8, .int _), (9, .int _)]) C dX5_isSame_331 (by decide) rfl ?_
                  refine j_iinc (z := 10) (lv' := [(9, .int _), (6, .int _), (10, .ref _), (0, .ref _), (1, .ref _), (2, .int _), (3, .int _), (4, .int _), (5, .int _), (7, .ref _), (8, .int _)]) C dX5_isSame_333 rfl rfl (by decide) rfl ?_
                  refine j_goto C 291 dX5_isSame_336 (by decide) ?_
                  exact j_lvs [3, 4, 5, 6, 7, 8, 1, 9, 10, 0] rfl (ih (t + 1) _ _ (by omega) (by first | exact oi_n c314 | exact oi_0 c314 c322 | exact oi_1 c314 (hi.1.2.1 t (by omega)).1 c322) (nI_1 t))
          exact j_lvs [4, 5, 6, 7, 8, 9, 3, 2, 1, 0] rfl (L291 (sN σ) (0) _ _ (by omega) (rfl) (rfl))
      exact j_lvs [1, 2, 3, 4, 5, 0] rfl (L268 (3) (0) _ (by omega) (rfl))
    | succ d ih =>
      intro i x2 x3 x4 x5 hd e_x2 e_x3 e_x4 e_x5 
      subst e_x2
      subst e_x3
      subst e_x4
      subst e_x5
      have hj : i < sN σ := by omega
      have h88 : i < 8 := by omega
      refine j_iload C dX5_isSame_10 5 rfl ?_
      refine j_aload_n (i := 0) C dX5_isSame_12 rfl 0 rfl ?_
      refine j_get (Cn := RX5) (T := TX5) (N := 4) (ci := 6) C iX5 rfl (0) rfl 2 (by decide) gw657 rfl rfl dX5_isSame_13 ?_
      refine j_alen (v := nI (sN σ)) C (1) 4 rfl rfl rfl dX5_isSame_16 ?_
      refine j_icmp_ge C 265 dX5_isSame_17 (by decide) (fun c17 => by first | exact absurd c17 (nI_ge (b := sN σ) (by omega) (by omega)) | exact (c17 (nI_le (Nat.le_refl (sN σ)) (by omega))).elim) (fun c17 => ?_)
      refine j_aload_n (i := 0) C dX5_isSame_20 rfl 0 rfl ?_
      refine j_get (Cn := RX5) (T := TX5) (N := 4) (ci := 6) C iX5 rfl (0) rfl 2 (by decide) gw657 rfl rfl dX5_isSame_21 ?_
      refine j_iload C dX5_isSame_24 5 rfl ?_
      refine j_aald C (1) 4 rfl rfl rfl (i) rfl hj (by omega) (if_pos hj) dX5_isSame_26 ?_
      refine j_astore (lv' := [(6, .ref _), (0, .ref _), (1, .ref _), (2, .int _), (3, .int _), (4, .int _), (5, .int _)]) C dX5_isSame_27 (by decide) rfl ?_
      refine j_iconst (v := nI 4) C dX5_isSame_29 (by decide) ?_
      refine j_newaI C (N := 4) rfl (by decide) (by show 100 * i + 1 ≤ 1000; omega) (by show 600 * i + 4 ≤ 8000; omega) dX5_isSame_30 (fun q7 => ?_)
      refine j_ws (ws1 := SWs ct sd σ ++ (WX ct sa ad mcn φ σ ++ [arI ct q7 4 (fun _ => nI 0)])) l3_add ?_
      refine j_astore (lv' := [(7, .ref _), (6, .ref _), (0, .ref _), (1, .ref _), (2, .int _), (3, .int _), (4, .int _), (5, .int _)]) C dX5_isSame_32 (by decide) rfl ?_
      refine j_iconst (v := nI 0) C dX5_isSame_34 (by decide) ?_
      refine j_istore (lv' := [(8, .int _), (7, .ref _), (6, .ref _), (0, .ref _), (1, .ref _), (2, .int _), (3, .int _), (4, .int _), (5, .int _)]) C dX5_isSame_35 (by decide) rfl ?_
      have L37 : ∀ (d r : Nat) (x4 : Int32) (x8 : Int32) (w : va_W), r + d = 4 → x4 = sumF (sW σ) (24 * i + 6 * r) → x8 = nI r → w = SWs ct sd σ ++ (WX ct sa ad mcn φ σ ++ [arI ct q7 4 (pfx (bsW (sW σ) i) r)]) → J X (w) (100 * i + (1 + 18 * r)) (600 * i + (4 + 108 * r)) 37 [(0, .ref (sd 0)), (1, .ref (ad 0)), (2, .int (sumF (fun i => sR σ (8 * i + 1)) i)), (3, .int (sumF (fun i => sR σ (8 * i + 3)) i)), (4, .int x4), (5, .int (nI i)), (6, .ref (sd (10 + 8 * i))), (7, .ref q7), (8, .int x8)] [] := by
        intro d
        induction d with
        | zero =>
          intro r x4 x8 w hd e_x4 e_x8 e_w 
          subst e_x4
          subst e_x8
          subst e_w
          have hr9 : r = 4 := by omega
          subst hr9
          refine j_iload C dX5_isSame_37 8 rfl ?_
          refine j_iconst (v := nI 4) C dX5_isSame_39 (by decide) ?_
          refine j_icmp_ge C 123 dX5_isSame_40 (by decide) (fun c40 => ?_) (fun c40 => by first | exact absurd c40 (by decide) | exact absurd c40 (nI_ge (by omega) (by omega)) | exact absurd (nI_le (by omega) (by omega)) c40 | exact absurd c40 (nI_nlt (by omega) (by omega)) | exact absurd (nI_lt (by omega) (by omega)) c40 | exact absurd c40 (nI_nle0 (by omega) (by omega)))
          refine j_bipush (v := nI 6) C dX5_isSame_123 (by decide) ?_
          refine j_newaI C (N := 6) rfl (by decide) (by show 100 * i + (1 + 18 * 4) + 1 ≤ 1000; omega) (by show 600 * i + (4 + 108 * 4) + 6 ≤ 8000; omega) dX5_isSame_125 (fun q8 => ?_)
          refine j_ws (ws1 := SWs ct sd σ ++ (WX ct sa ad mcn φ σ ++ [arI ct q7 4 (pfx (bsW (sW σ) i) 4), arI ct q8 6 (fun _ => nI 0)])) l3_add ?_
          refine j_dup C dX5_isSame_127 rfl ?_
          refine j_iconst (v := nI 0) C dX5_isSame_128 (by decide) ?_
          refine j_aload C dX5_isSame_129 6 rfl ?_
          refine j_get (Cn := RX4) (T := TX4) (N := 6) (ci := 5) C iX4 rfl (6 + 8 * i) (sw_o hj) 1 (by decide) gw498 rfl rfl dX5_isSame_131 ?_
          refine j_callSN (nargs := 1) (As := [_]) C nw461 gw462 gw20 (kL_word l D ct sa _ (6 + 8 * i + 1) _ _ (sw_r hj) (ld_let hi.1.1 h88).1) gw463 (by decide +kernel) rfl dX5_isSame_134 ⟨Nat.le_of_ble_eq_true rfl, Nat.le_of_ble_eq_true rfl⟩ ⟨by show 100 * i + 74 + 0 ≤ 1000; omega, by show 600 * i + 442 + 0 ≤ 8000; omega⟩ (Nat.le_of_ble_eq_true rfl) (dki ?_)
          refine j_st (st1 := .int (stR (sR σ) i) :: _) (congrArg (fun z => Value.int z :: _) (st_l σ i)) ?_
          refine j_iast (ws2 := SWs ct sd σ ++ (WX ct sa ad mcn φ σ ++ [arI ct q7 4 (pfx (bsW (sW σ) i) 4), arI ct q8 6 (upd (fun _ => nI 0) 0 (stR (sR σ) i))])) C ((SWs ct sd σ).length + ((WX ct sa ad mcn φ σ).length + 1)) (l3_at rfl) (0) rfl (by decide) (by decide) l3_set dX5_isSame_137 ?_
          refine j_dup C dX5_isSame_138 rfl ?_
          refine j_iconst (v := nI 1) C dX5_isSame_139 (by decide) ?_
          refine j_aload C dX5_isSame_140 6 rfl ?_
          refine j_get (Cn := RX4) (T := TX4) (N := 6) (ci := 5) C iX4 rfl (6 + 8 * i) (sw_o hj) 3 (by decide) gw503 rfl rfl dX5_isSame_142 ?_
          refine jn_p 153 (sR σ (8 * i + 1)) (fun kk => ?_) ?_
          · refine j_if_eq C 152 dX5_isSame_145 (by decide) (fun c145 => ?_) (fun c145 => ?_)
            · refine j_iconst (v := nI 0) C dX5_isSame_152 (by decide) ?_
              exact j_st (st1 := .int (sR σ (8 * i + 1)) :: _) (congrArg (fun z => Value.int z :: _) (by first | exact st1_b (hi.1.2.1 i h88).1 c145 | exact st0_b c145)) kk
            · refine j_iconst (v := nI 1) C dX5_isSame_148 (by decide) ?_
              refine j_goto C 153 dX5_isSame_149 (by decide) ?_
              exact j_st (st1 := .int (sR σ (8 * i + 1)) :: _) (congrArg (fun z => Value.int z :: _) (by first | exact st1_b (hi.1.2.1 i h88).1 c145 | exact st0_b c145)) kk
          · refine j_iast (ws2 := SWs ct sd σ ++ (WX ct sa ad mcn φ σ ++ [arI ct q7 4 (pfx (bsW (sW σ) i) 4), arI ct q8 6 (upd (upd (fun _ => nI 0) 0 (stR (sR σ) i)) 1 (sR σ (8 * i + 1)))])) C ((SWs ct sd σ).length + ((WX ct sa ad mcn φ σ).length + 1)) (l3_at rfl) (1) rfl (by decide) (by decide) l3_set dX5_isSame_153 ?_
            refine j_dup C dX5_isSame_154 rfl ?_
            refine j_iconst (v := nI 2) C dX5_isSame_155 (by decide) ?_
            refine j_aload C dX5_isSame_156 6 rfl ?_
            refine j_get (Cn := RX4) (T := TX4) (N := 6) (ci := 5) C iX4 rfl (6 + 8 * i) (sw_o hj) 5 (by decide) gw508 rfl rfl dX5_isSame_158 ?_
            refine j_iast (ws2 := SWs ct sd σ ++ (WX ct sa ad mcn φ σ ++ [arI ct q7 4 (pfx (bsW (sW σ) i) 4), arI ct q8 6 (upd (upd (upd (fun _ => nI 0) 0 (stR (sR σ) i)) 1 (sR σ (8 * i + 1))) 2 (sR σ (8 * i + 2)))])) C ((SWs ct sd σ).length + ((WX ct sa ad mcn φ σ).length + 1)) (l3_at rfl) (2) rfl (by decide) (by decide) l3_set dX5_isSame_161 ?_
            refine j_dup C dX5_isSame_162 rfl ?_
            refine j_iconst (v := nI 3) C dX5_isSame_163 (by decide) ?_
            refine j_aload C dX5_isSame_164 6 rfl ?_
            refine j_get (Cn := RX4) (T := TX4) (N := 6) (ci := 5) C iX4 rfl (6 + 8 * i) (sw_o hj) 4 (by decide) gw506 rfl rfl dX5_isSame_166 ?_
            refine jn_p 177 (sR σ (8 * i + 3)) (fun kk => ?_) ?_
            · refine j_if_eq C 176 dX5_isSame_169 (by decide) (fun c169 => ?_) (fun c169 => ?_)
              · refine j_iconst (v := nI 0) C dX5_isSame_176 (by decide) ?_
                exact j_st (st1 := .int (sR σ (8 * i + 3)) :: _) (congrArg (fun z => Value.int z :: _) (by first | exact st1_b (hi.1.2.1 i h88).2 c169 | exact st0_b c169)) kk
              · refine j_iconst (v := nI 1) C dX5_isSame_172 (by decide) ?_
                refine j_goto C 177 dX5_isSame_173 (by decide) ?_
                exact j_st (st1 := .int (sR σ (8 * i + 3)) :: _) (congrArg (fun z => Value.int z :: _) (by first | exact st1_b (hi.1.2.1 i h88).2 c169 | exact st0_b c169)) kk
            · refine j_iast (ws2 := SWs ct sd σ ++ (WX ct sa ad mcn φ σ ++ [arI ct q7 4 (pfx (bsW (sW σ) i) 4), arI ct q8 6 (upd (upd (upd (upd (fun _ => nI 0) 0 (stR (sR σ) i)) 1 (sR σ (8 * i + 1))) 2 (sR σ (8 * i + 2))) 3 (sR σ (8 * i + 3)))])) C ((SWs ct sd σ).length + ((WX ct sa ad mcn φ σ).length + 1)) (l3_at rfl) (3) rfl (by decide) (by decide) l3_set dX5_isSame_177 ?_
              refine j_dup C dX5_isSame_178 rfl ?_
              refine j_iconst (v := nI 4) C dX5_isSame_179 (by decide) ?_
              refine j_aload C dX5_isSame_180 7 rfl ?_
              refine j_callSN (nargs := 1) (As := [_]) C nw461 gw462 gw20 (kL_word l D ct sa _ ((SWs ct sd σ).length + ((WX ct sa ad mcn φ σ).length + 0)) _ _ (l3_at rfl) bs_ok) gw463 (by decide +kernel) rfl dX5_isSame_182 ⟨Nat.le_of_ble_eq_true rfl, Nat.le_of_ble_eq_true rfl⟩ ⟨by show 100 * i + 74 + 0 ≤ 1000; omega, by show 600 * i + 442 + 0 ≤ 8000; omega⟩ (Nat.le_of_ble_eq_true rfl) (dki ?_)
              refine j_st (st1 := .int (shF (sW σ) i) :: _) (congrArg (fun z => Value.int z :: _) (bs_sh)) ?_
              refine j_iast (ws2 := SWs ct sd σ ++ (WX ct sa ad mcn φ σ ++ [arI ct q7 4 (pfx (bsW (sW σ) i) 4), arI ct q8 6 (upd (upd (upd (upd (upd (fun _ => nI 0) 0 (stR (sR σ) i)) 1 (sR σ (8 * i + 1))) 2 (sR σ (8 * i + 2))) 3 (sR σ (8 * i + 3))) 4 (shF (sW σ) i))])) C ((SWs ct sd σ).length + ((WX ct sa ad mcn φ σ).length + 1)) (l3_at rfl) (4) rfl (by decide) (by decide) l3_set dX5_isSame_185 ?_
              refine j_dup C dX5_isSame_186 rfl ?_
              refine j_iconst (v := nI 5) C dX5_isSame_187 (by decide) ?_
              refine j_aload C dX5_isSame_188 6 rfl ?_
              refine j_get (Cn := RX4) (T := TX4) (N := 6) (ci := 5) C iX4 rfl (6 + 8 * i) (sw_o hj) 4 (by decide) gw506 rfl rfl dX5_isSame_190 ?_
              refine jn_p 208 (tld σ i 5) (fun kk => ?_) ?_
              · refine j_if_eq C 200 dX5_isSame_193 (by decide) (fun c193 => ?_) (fun c193 => ?_)
                · refine j_aload C dX5_isSame_200 6 rfl ?_
                  refine j_get (Cn := RX4) (T := TX4) (N := 6) (ci := 5) C iX4 rfl (6 + 8 * i) (sw_o hj) 0 (by decide) gw495 rfl rfl dX5_isSame_202 ?_
                  refine j_callSN (nargs := 1) (As := [_]) C nw461 gw462 gw20 (kL_word l D ct sa _ (6 + 8 * i + 7) _ _ (sw_w hj) (ok_ltc (ld_let hi.1.1 h88).2)) gw463 (by decide +kernel) rfl dX5_isSame_205 ⟨Nat.le_of_ble_eq_true rfl, Nat.le_of_ble_eq_true rfl⟩ ⟨by show 100 * i + 74 + 0 ≤ 1000; omega, by show 600 * i + 442 + 0 ≤ 8000; omega⟩ (Nat.le_of_ble_eq_true rfl) (dki ?_)
                  exact j_st (st1 := .int (tld σ i 5) :: _) (congrArg (fun z => Value.int z :: _) (by first | exact (if_pos ((hi.1.2.1 i h88).2.resolve_left c193)).symm | exact (st_ltc (ld_let hi.1.1 h88).2).trans (if_neg (b_no c193)).symm)) kk
                · refine j_iconst (v := (-1)) C dX5_isSame_196 (by decide) ?_
                  refine j_goto C 208 dX5_isSame_197 (by decide) ?_
                  exact j_st (st1 := .int (tld σ i 5) :: _) (congrArg (fun z => Value.int z :: _) (by first | exact (if_pos ((hi.1.2.1 i h88).2.resolve_left c193)).symm | exact (st_ltc (ld_let hi.1.1 h88).2).trans (if_neg (b_no c193)).symm)) kk
              · refine j_iast (ws2 := SWs ct sd σ ++ (WX ct sa ad mcn φ σ ++ [arI ct q7 4 (pfx (bsW (sW σ) i) 4), arI ct q8 6 (upd (upd (upd (upd (upd (upd (fun _ => nI 0) 0 (stR (sR σ) i)) 1 (sR σ (8 * i + 1))) 2 (sR σ (8 * i + 2))) 3 (sR σ (8 * i + 3))) 4 (shF (sW σ) i)) 5 (tld σ i 5))])) C ((SWs ct sd σ).length + ((WX ct sa ad mcn φ σ).length + 1)) (l3_at rfl) (5) rfl (by decide) (by decide) l3_set dX5_isSame_208 ?_
                refine j_cong (g := cut 6 (tld σ i)) (q0 := (SWs ct sd σ).length + ((WX ct sa ad mcn φ σ).length + 1)) (l3_at rfl) (t6_e rfl rfl rfl rfl rfl rfl) ?_
                refine j_ws (ws1 := SWs ct sd σ ++ (WX ct sa ad mcn φ σ ++ [arI ct q7 4 (pfx (bsW (sW σ) i) 4), arI ct q8 6 (cut 6 (tld σ i))])) l3_set ?_
                refine j_astore (lv' := [(8, .ref _), (0, .ref _), (1, .ref _), (2, .int _), (3, .int _), (4, .int _), (5, .int _), (6, .ref _), (7, .ref _)]) C dX5_isSame_209 (by decide) rfl ?_
                refine j_iconst (v := nI 0) C dX5_isSame_211 (by decide) ?_
                refine j_istore (lv' := [(9, .int _), (8, .ref _), (0, .ref _), (1, .ref _), (2, .int _), (3, .int _), (4, .int _), (5, .int _), (6, .ref _), (7, .ref _)]) C dX5_isSame_212 (by decide) rfl ?_
                have L214 : ∀ (d t : Nat) (x9 : Int32), t + d = 6 → x9 = nI t → J X (SWs ct sd σ ++ (WX ct sa ad mcn φ σ ++ [arI ct q7 4 (pfx (bsW (sW σ) i) 4), arI ct q8 6 (cut 6 (tld σ i))])) (100 * i + (74 + 3 * t)) (600 * i + (442 + 18 * t)) 214 [(0, .ref (sd 0)), (1, .ref (ad 0)), (2, .int (sumF (fun i => sR σ (8 * i + 1)) i)), (3, .int (sumF (fun i => sR σ (8 * i + 3)) i)), (4, .int (sumF (sW σ) (24 * i + 6 * 4))), (5, .int (nI i)), (8, .ref q8), (9, .int x9)] [] := by
                  intro d
                  induction d with
                  | zero =>
                    intro t x9 hd e_x9 
                    subst e_x9
                    have ht9 : t = 6 := by omega
                    subst ht9
                    refine j_iload C dX5_isSame_214 7 rfl ?_
                    refine j_bipush (v := nI 6) C dX5_isSame_216 (by decide) ?_
                    refine j_icmp_ge C 245 dX5_isSame_218 (by decide) (fun c218 => ?_) (fun c218 => by first | exact absurd c218 (by decide) | exact absurd c218 (nI_ge (by omega) (by omega)) | exact absurd (nI_le (by omega) (by omega)) c218 | exact absurd c218 (nI_nlt (by omega) (by omega)) | exact absurd (nI_lt (by omega) (by omega)) c218 | exact absurd c218 (nI_nle0 (by omega) (by omega)))
                    refine j_iload_n (i := 2) C dX5_isSame_245 rfl 2 rfl ?_
                    refine j_aload C dX5_isSame_246 6 rfl ?_
                    refine j_iconst (v := nI 1) C dX5_isSame_248 (by decide) ?_
                    refine j_iald C ((SWs ct sd σ).length + ((WX ct sa ad mcn φ σ).length + 1)) (l3_at rfl) (1) rfl (by decide) (by decide) dX5_isSame_249 ?_
                    refine j_st (st1 := .int (sR σ (8 * i + 1)) :: _) (congrArg (fun z => Value.int z :: _) (cut_in (by decide))) ?_
                    refine j_iadd C dX5_isSame_250 ?_
                    refine j_istore_n (lv' := [(2, .int _), (0, .ref _), (1, .ref _), (3, .int _), (4, .int _), (5, .int _), (8, .ref _), (9, .int _)]) C dX5_isSame_251 rfl (by decide) rfl ?_
                    refine j_iload_n (i := 3) C dX5_isSame_252 rfl 3 rfl ?_
                    refine j_aload C dX5_isSame_253 6 rfl ?_
                    refine j_iconst (v := nI 3) C dX5_isSame_255 (by decide) ?_
                    refine j_iald C ((SWs ct sd σ).length + ((WX ct sa ad mcn φ σ).length + 1)) (l3_at rfl) (3) rfl (by decide) (by decide) dX5_isSame_256 ?_
                    refine j_st (st1 := .int (sR σ (8 * i + 3)) :: _) (congrArg (fun z => Value.int z :: _) (cut_in (by decide))) ?_
                    refine j_iadd C dX5_isSame_257 ?_
                    refine j_istore_n (lv' := [(3, .int _), (2, .int _), (0, .ref _), (1, .ref _), (4, .int _), (5, .int _), (8, .ref _), (9, .int _)]) C dX5_isSame_258 rfl (by decide) rfl ?_
                    refine j_drop (a := SWs ct sd σ ++ (WX ct sa ad mcn φ σ ++ [])) (b := [arI ct q7 4 (pfx (bsW (sW σ) i) 4), arI ct q8 6 (cut 6 (tld σ i))]) l3_drop ?_
                    refine j_widen (k1 := 100 * (i + 1)) (n1 := 600 * (i + 1)) (by omega) (by omega) ?_
                    refine j_iinc (z := 5) (lv' := [(5, .int _), (3, .int _), (2, .int _), (0, .ref _), (1, .ref _), (4, .int _), (8, .ref _), (9, .int _)]) C dX5_isSame_259 rfl rfl (by decide) rfl ?_
                    refine j_goto C 10 dX5_isSame_262 (by decide) ?_
                    exact j_lvs [3, 4, 2, 1, 5, 0] rfl (ih (i + 1) _ _ _ _ (by omega) (rfl) (rfl) (rfl) (nI_1 i))
                  | succ d ih =>
                    intro t x9 hd e_x9 
                    subst e_x9
                    refine j_iload C dX5_isSame_214 7 rfl ?_
                    refine j_bipush (v := nI 6) C dX5_isSame_216 (by decide) ?_
                    refine j_icmp_ge C 245 dX5_isSame_218 (by decide) (fun c218 => by first | exact absurd c218 (by decide) | exact absurd c218 (nI_ge (by omega) (by omega)) | exact absurd (nI_le (by omega) (by omega)) c218 | exact absurd c218 (nI_nlt (by omega) (by omega)) | exact absurd (nI_lt (by omega) (by omega)) c218 | exact absurd c218 (nI_nle0 (by omega) (by omega))) (fun c218 => ?_)
                    refine j_aload_n (i := 1) C dX5_isSame_221 rfl 1 rfl ?_
                    refine j_iload C dX5_isSame_222 5 rfl ?_
                    refine j_iload C dX5_isSame_224 7 rfl ?_
                    have ef := told_v h8 hj (show t < 6 by omega)
                    refine j_sw (A := SWs ct sd σ) (B := WX ct sa ad mcn φ σ ++ [arI ct q7 4 (pfx (bsW (sW σ) i) 4), arI ct q8 6 (cut 6 (tld σ i))]) ?_
                    refine j_ws (ws1 := WX ct sa ad mcn φ σ ++ ([arI ct q7 4 (pfx (bsW (sW σ) i) 4), arI ct q8 6 (cut 6 (tld σ i))] ++ SWs ct sd σ)) (List.append_assoc ..) ?_
                    refine j_callVX (nargs := 2) (As := [_, _]) (Cn := RX3) C (0) rfl rfl rfl gw464 gw304 gw305 gw21 (kX3_told l htr D ct sa ad mcn φ σ ([arI ct q7 4 (pfx (bsW (sW σ) i) 4), arI ct q8 6 (cut 6 (tld σ i))] ++ SWs ct sd σ) (nI i) (nI t) hi.1) gw306 (by decide +kernel) rfl dX5_isSame_226 ⟨Nat.le_of_ble_eq_true rfl, Nat.le_of_ble_eq_true rfl⟩ ⟨by show 100 * i + (74 + 3 * t) + 3 ≤ 1000; omega, by show 600 * i + (442 + 18 * t) + 18 ≤ 8000; omega⟩ (Nat.le_of_ble_eq_true rfl) (fun En hx => (kx_no hx (congrArg (fun f => f.1) ef) (by decide)).elim) (fun r w hk => ?_)
                    obtain ⟨-, rfl, rfl⟩ := hk
                    refine j_st (st1 := .int (tld σ i t) :: _) (by rw [ef]; rfl) ?_
                    refine j_ws (ws1 := (WX ct sa ad mcn φ σ ++ [arI ct q7 4 (pfx (bsW (sW σ) i) 4), arI ct q8 6 (cut 6 (tld σ i))]) ++ SWs ct sd σ) (List.append_assoc ..).symm ?_
                    refine j_sw (A := WX ct sa ad mcn φ σ ++ [arI ct q7 4 (pfx (bsW (sW σ) i) 4), arI ct q8 6 (cut 6 (tld σ i))]) (B := SWs ct sd σ) ?_
                    refine j_aload C dX5_isSame_229 6 rfl ?_
                    refine j_iload C dX5_isSame_231 7 rfl ?_
                    refine j_iald C ((SWs ct sd σ).length + ((WX ct sa ad mcn φ σ).length + 1)) (l3_at rfl) (t) rfl (by omega) (by decide) dX5_isSame_233 ?_
                    refine j_st (st1 := .int (tld σ i t) :: _) (congrArg (fun z => Value.int z :: _) (cut_in (by omega))) ?_
                    refine j_icmp_eq C 239 dX5_isSame_234 (by decide) (fun c234 => ?_) (fun c234 => by exact absurd rfl c234)
                    refine j_iinc (z := 7) (lv' := [(9, .int _), (0, .ref _), (1, .ref _), (2, .int _), (3, .int _), (4, .int _), (5, .int _), (8, .ref _)]) C dX5_isSame_239 rfl rfl (by decide) rfl ?_
                    refine j_goto C 214 dX5_isSame_242 (by decide) ?_
                    exact j_lvs [1, 2, 3, 4, 5, 6, 7, 0] rfl (ih (t + 1) _ (by omega) (nI_1 t))
                exact j_lvs [2, 3, 4, 5, 6, 7, 1, 0] rfl (L214 (6) (0) _ (by omega) (rfl))
        | succ d ih =>
          intro r x4 x8 w hd e_x4 e_x8 e_w 
          subst e_x4
          subst e_x8
          subst e_w
          refine j_iload C dX5_isSame_37 8 rfl ?_
          refine j_iconst (v := nI 4) C dX5_isSame_39 (by decide) ?_
          refine j_icmp_ge C 123 dX5_isSame_40 (by decide) (fun c40 => by first | exact absurd c40 (by decide) | exact absurd c40 (nI_ge (by omega) (by omega)) | exact absurd (nI_le (by omega) (by omega)) c40 | exact absurd c40 (nI_nlt (by omega) (by omega)) | exact absurd (nI_lt (by omega) (by omega)) c40 | exact absurd c40 (nI_nle0 (by omega) (by omega))) (fun c40 => ?_)
          refine j_aload C dX5_isSame_43 7 rfl ?_
          refine j_iload C dX5_isSame_45 8 rfl ?_
          refine j_aload C dX5_isSame_47 6 rfl ?_
          refine j_get (Cn := RX4) (T := TX4) (N := 6) (ci := 5) C iX4 rfl (6 + 8 * i) (sw_o hj) 2 (by decide) gw501 rfl rfl dX5_isSame_49 ?_
          refine j_iload C dX5_isSame_52 8 rfl ?_
          refine j_aald C (6 + 8 * i + 2) 3 (sw_a hj) rfl rfl (r) rfl (by omega) (by decide) (if_pos (by omega)) dX5_isSame_54 ?_
          refine j_callS (nargs := 1) (As := [_]) C gw457 gw458 gw28 (kX5_best l D ct sa _ (6 + (8 * i + (3 + r))) _ _ (sw_y hj (by omega))) gw459 (by decide +kernel) rfl dX5_isSame_55 ⟨Nat.le_of_ble_eq_true rfl, Nat.le_of_ble_eq_true rfl⟩ ⟨by show 100 * i + (1 + 18 * r) + 0 ≤ 1000; omega, by show 600 * i + (4 + 108 * r) + 0 ≤ 8000; omega⟩ (Nat.le_of_ble_eq_true rfl) (dki ?_)
          refine j_st (st1 := .int (bsW (sW σ) i r) :: _) (congrArg (fun z => Value.int z :: _) (bs_v (by omega))) ?_
          refine j_iast (ws2 := SWs ct sd σ ++ (WX ct sa ad mcn φ σ ++ [arI ct q7 4 (pfx (bsW (sW σ) i) (r + 1))])) C ((SWs ct sd σ).length + ((WX ct sa ad mcn φ σ).length + 0)) (l3_at rfl) (r) rfl (by omega) (by decide) (l3_set.trans (congrArg (fun f => SWs ct sd σ ++ (WX ct sa ad mcn φ σ ++ [arI ct q7 4 f])) pf_s)) dX5_isSame_58 ?_
          refine j_iconst (v := nI 0) C dX5_isSame_59 (by decide) ?_
          refine j_istore (lv' := [(9, .int _), (0, .ref _), (1, .ref _), (2, .int _), (3, .int _), (4, .int _), (5, .int _), (6, .ref _), (7, .ref _), (8, .int _)]) C dX5_isSame_60 (by decide) rfl ?_
          have L62 : ∀ (d q : Nat) (x4 : Int32) (x9 : Int32), q + d = 6 → x4 = sumF (sW σ) (24 * i + (6 * r + q)) → x9 = nI q → J X (SWs ct sd σ ++ (WX ct sa ad mcn φ σ ++ [arI ct q7 4 (pfx (bsW (sW σ) i) (r + 1))])) (100 * i + (1 + (18 * r + 3 * q))) (600 * i + (4 + (108 * r + 18 * q))) 62 [(0, .ref (sd 0)), (1, .ref (ad 0)), (2, .int (sumF (fun i => sR σ (8 * i + 1)) i)), (3, .int (sumF (fun i => sR σ (8 * i + 3)) i)), (4, .int x4), (5, .int (nI i)), (6, .ref (sd (10 + 8 * i))), (7, .ref q7), (8, .int (nI r)), (9, .int x9)] [] := by
            intro d
            induction d with
            | zero =>
              intro q x4 x9 hd e_x4 e_x9 
              subst e_x4
              subst e_x9
              have hq9 : q = 6 := by omega
              subst hq9
              refine j_iload C dX5_isSame_62 9 rfl ?_
              refine j_bipush (v := nI 6) C dX5_isSame_64 (by decide) ?_
              refine j_icmp_ge C 117 dX5_isSame_66 (by decide) (fun c66 => ?_) (fun c66 => by first | exact absurd c66 (by decide) | exact absurd c66 (nI_ge (by omega) (by omega)) | exact absurd (nI_le (by omega) (by omega)) c66 | exact absurd c66 (nI_nlt (by omega) (by omega)) | exact absurd (nI_lt (by omega) (by omega)) c66 | exact absurd c66 (nI_nle0 (by omega) (by omega)))
              refine j_iinc (z := 8) (lv' := [(8, .int _), (0, .ref _), (1, .ref _), (2, .int _), (3, .int _), (4, .int _), (5, .int _), (6, .ref _), (7, .ref _), (9, .int _)]) C dX5_isSame_117 rfl rfl (by decide) rfl ?_
              refine j_goto C 37 dX5_isSame_120 (by decide) ?_
              exact j_lvs [1, 2, 3, 4, 5, 6, 7, 8, 0] rfl (ih (r + 1) _ _ _ (by omega) (rfl) (nI_1 r) (rfl))
            | succ d ih =>
              intro q x4 x9 hd e_x4 e_x9 
              subst e_x4
              subst e_x9
              refine j_iload C dX5_isSame_62 9 rfl ?_
              refine j_bipush (v := nI 6) C dX5_isSame_64 (by decide) ?_
              refine j_icmp_ge C 117 dX5_isSame_66 (by decide) (fun c66 => by first | exact absurd c66 (by decide) | exact absurd c66 (nI_ge (by omega) (by omega)) | exact absurd (nI_le (by omega) (by omega)) c66 | exact absurd c66 (nI_nlt (by omega) (by omega)) | exact absurd (nI_lt (by omega) (by omega)) c66 | exact absurd c66 (nI_nle0 (by omega) (by omega))) (fun c66 => ?_)
              refine j_aload_n (i := 1) C dX5_isSame_69 rfl 1 rfl ?_
              refine j_iload C dX5_isSame_70 5 rfl ?_
              refine j_iload C dX5_isSame_72 8 rfl ?_
              refine j_iload C dX5_isSame_74 9 rfl ?_
              have ef := wear_v h8 hj (show r < 4 by omega) (show q < 6 by omega)
              refine j_sw (A := SWs ct sd σ) (B := WX ct sa ad mcn φ σ ++ [arI ct q7 4 (pfx (bsW (sW σ) i) (r + 1))]) ?_
              refine j_ws (ws1 := WX ct sa ad mcn φ σ ++ ([arI ct q7 4 (pfx (bsW (sW σ) i) (r + 1))] ++ SWs ct sd σ)) (List.append_assoc ..) ?_
              refine j_callVX (nargs := 3) (As := [_, _, _]) (Cn := RX3) C (0) rfl rfl rfl gw460 gw322 gw323 gw21 (kX3_wear l htr D ct sa ad mcn φ σ ([arI ct q7 4 (pfx (bsW (sW σ) i) (r + 1))] ++ SWs ct sd σ) (nI i) (nI r) (nI q) hi.1) gw324 (by decide +kernel) rfl dX5_isSame_76 ⟨Nat.le_of_ble_eq_true rfl, Nat.le_of_ble_eq_true rfl⟩ ⟨by show 100 * i + (1 + (18 * r + 3 * q)) + 3 ≤ 1000; omega, by show 600 * i + (4 + (108 * r + 18 * q)) + 18 ≤ 8000; omega⟩ (Nat.le_of_ble_eq_true rfl) (fun En hx => (kx_no hx (congrArg (fun f => f.1) ef) (by decide)).elim) (fun r w hk => ?_)
              obtain ⟨-, rfl, rfl⟩ := hk
              refine j_st (st1 := .int (sW σ (24 * i + (6 * r + q))) :: _) (by rw [ef]; rfl) ?_
              refine j_ws (ws1 := (WX ct sa ad mcn φ σ ++ [arI ct q7 4 (pfx (bsW (sW σ) i) (r + 1))]) ++ SWs ct sd σ) (List.append_assoc ..).symm ?_
              refine j_sw (A := WX ct sa ad mcn φ σ ++ [arI ct q7 4 (pfx (bsW (sW σ) i) (r + 1))]) (B := SWs ct sd σ) ?_
              refine j_aload C dX5_isSame_79 6 rfl ?_
              refine j_get (Cn := RX4) (T := TX4) (N := 6) (ci := 5) C iX4 rfl (6 + 8 * i) (sw_o hj) 2 (by decide) gw501 rfl rfl dX5_isSame_81 ?_
              refine j_iload C dX5_isSame_84 8 rfl ?_
              refine j_aald C (6 + 8 * i + 2) 3 (sw_a hj) rfl rfl (r) rfl (by omega) (by decide) (if_pos (by omega)) dX5_isSame_86 ?_
              refine j_iload C dX5_isSame_87 9 rfl ?_
              refine j_iald C (6 + (8 * i + (3 + r))) (sw_y hj (by omega)) (q) rfl (by omega) (by decide) dX5_isSame_89 ?_
              refine j_st (st1 := .int (sW σ (24 * i + (6 * r + q))) :: _) (congrArg (fun z => Value.int z :: _) (wr_v (by omega) (by omega))) ?_
              refine j_icmp_eq C 95 dX5_isSame_90 (by decide) (fun c90 => ?_) (fun c90 => by exact absurd rfl c90)
              refine j_iload C dX5_isSame_95 4 rfl ?_
              refine j_aload C dX5_isSame_97 6 rfl ?_
              refine j_get (Cn := RX4) (T := TX4) (N := 6) (ci := 5) C iX4 rfl (6 + 8 * i) (sw_o hj) 2 (by decide) gw501 rfl rfl dX5_isSame_99 ?_
              refine j_iload C dX5_isSame_102 8 rfl ?_
              refine j_aald C (6 + 8 * i + 2) 3 (sw_a hj) rfl rfl (r) rfl (by omega) (by decide) (if_pos (by omega)) dX5_isSame_104 ?_
              refine j_iload C dX5_isSame_105 9 rfl ?_
              refine j_iald C (6 + (8 * i + (3 + r))) (sw_y hj (by omega)) (q) rfl (by omega) (by decide) dX5_isSame_107 ?_
              refine j_st (st1 := .int (sW σ (24 * i + (6 * r + q))) :: _) (congrArg (fun z => Value.int z :: _) (wr_v (by omega) (by omega))) ?_
              refine j_iadd C dX5_isSame_108 ?_
              refine j_istore (lv' := [(4, .int _), (0, .ref _), (1, .ref _), (2, .int _), (3, .int _), (5, .int _), (6, .ref _), (7, .ref _), (8, .int _), (9, .int _)]) C dX5_isSame_109 (by decide) rfl ?_
              refine j_iinc (z := 9) (lv' := [(9, .int _), (4, .int _), (0, .ref _), (1, .ref _), (2, .int _), (3, .int _), (5, .int _), (6, .ref _), (7, .ref _), (8, .int _)]) C dX5_isSame_111 rfl rfl (by decide) rfl ?_
              refine j_goto C 62 dX5_isSame_114 (by decide) ?_
              exact j_lvs [2, 3, 4, 5, 1, 6, 7, 8, 9, 0] rfl (ih (q + 1) _ _ (by omega) (rfl) (nI_1 q))
          exact j_lvs [1, 2, 3, 4, 5, 6, 7, 8, 9, 0] rfl (L62 (6) (0) _ _ (by omega) (rfl) (rfl))
      exact j_lvs [3, 4, 5, 6, 7, 8, 2, 1, 0] rfl (L37 (4) (0) _ _ _ (by omega) (rfl) (rfl) (congrArg (fun f => SWs ct sd σ ++ (WX ct sa ad mcn φ σ ++ [arI ct q7 4 f])) pf_0))
  exact j_lvs [4, 5, 3, 2, 1, 0] rfl (L10 (sN σ) (0) _ _ _ _ (by omega) (rfl) (rfl) (rfl) (rfl))
