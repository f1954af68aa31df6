set_option maxRecDepth 100000 in
set_option maxHeartbeats 4000000 in
theorem kX3_turn (l : Launch) (htr : l.stackTraces = false) (D : va_G) (ct : Nat → ClassId) (sa : Nat → Nat) (ad : Nat → Nat) (mcn : Int32) (φ : LD) (σ : St) (wr : va_W) (x y z : Int32) (hi : Inv1 σ) : jMX l yX3_turn (Cond.code yX3_turn cX3_turn 6 (Option.some Jvm.ClassFile.FieldType.int) :: GW) (rM 7 3 18 111) D ct sa [.ref (ad 0), .int x, .int y, .int z] (WX ct sa ad mcn φ σ ++ wr) (kC ct sa ad mcn φ wr (f_turn σ x y z)) (kxF (f_turn σ x y z) [IOO, IAE]) 3 18 := by
  refine jBody (own := RX3) (by decide) rfl rfl (Nat.le_of_ble_eq_true rfl) ?_
  intro X C E T0
  refine j_lv (lv1 := [(0, .ref _), (1, .int _), (2, .int _), (3, .int _)]) rfl ?_
  refine j_aload_n (i := 0) C dX3_turn_0 rfl 0 rfl ?_
  refine j_iload_n (i := 1) C dX3_turn_1 rfl 1 rfl ?_
  refine j_callVX (nargs := 1) (As := [_]) (Cn := RX3) C (0) rfl rfl rfl gw161 gw163 gw0 gw21 (kX3_lockAt l htr D ct sa ad mcn φ σ wr x hi.1.1) gw164 (by decide +kernel) rfl dX3_turn_2 ⟨Nat.le_of_ble_eq_true rfl, Nat.le_of_ble_eq_true rfl⟩ ⟨Nat.le_of_ble_eq_true rfl, Nat.le_of_ble_eq_true rfl⟩ (Nat.le_of_ble_eq_true rfl) (fun En hx => jt_out C E T0 rfl (Nat.le_of_ble_eq_true rfl) (Nat.le_of_ble_eq_true rfl) (kx0 0 rfl (by rw [f_turn]; exact if_neg (fun z => hx.1 z.1)) hx.2)) (fun r w hk => ?_)
  obtain ⟨hl, rfl, rfl⟩ := hk
  obtain ⟨hn0, hj, e_x⟩ := okI_pos (by have := hi.1.1; omega) hl
  refine j_st (st1 := .ref (ad (20 + 3 * ix x)) :: _) rfl ?_
  refine j_astore (lv' := [(4, .ref _), (0, .ref _), (1, .int _), (2, .int _), (3, .int _)]) C dX3_turn_5 (by decide) rfl ?_
  refine j_iload_n (i := 2) C dX3_turn_7 rfl 3 rfl ?_
  refine j_callSX (nargs := 1) (As := [_]) C gw251 gw252 gw21 (kX3_requireRing l htr D ct sa _ y) gw253 (by decide +kernel) rfl dX3_turn_8 ⟨Nat.le_of_ble_eq_true rfl, Nat.le_of_ble_eq_true rfl⟩ ⟨Nat.le_of_ble_eq_true rfl, Nat.le_of_ble_eq_true rfl⟩ (Nat.le_of_ble_eq_true rfl) (fun En hx => jt_out C E T0 rfl (Nat.le_of_ble_eq_true rfl) (Nat.le_of_ble_eq_true rfl) (kx0 0 rfl (by rw [f_turn]; exact if_neg (fun z => hx.1 z.2)) hx.2)) (fun r w hk => ?_)
  obtain ⟨hy, rfl, rfl⟩ := hk
  obtain ⟨hy4, e_y⟩ := okI_ix hy (by decide)
  refine j_st (st1 := []) rfl ?_
  refine j_iload_n (i := 3) C dX3_turn_11 rfl 4 rfl ?_
  refine j_callS (nargs := 1) (As := [_]) C gw258 gw259 gw21 (kX3_isLetter l D ct sa _ z) gw260 (by decide +kernel) rfl dX3_turn_12 ⟨Nat.le_of_ble_eq_true rfl, Nat.le_of_ble_eq_true rfl⟩ ⟨Nat.le_of_ble_eq_true rfl, Nat.le_of_ble_eq_true rfl⟩ (Nat.le_of_ble_eq_true rfl) (dki ?_)
  refine j_if_ne C 28 dX3_turn_15 (by decide) (fun c15 => ?_) (fun c15 => ?_)
  · refine j_aload C dX3_turn_28 0 rfl ?_
    refine j_iload_n (i := 2) C dX3_turn_30 rfl 3 rfl ?_
    refine j_callV (nargs := 1) (As := [_]) (Cn := RX0) C (16 + 3 * ix x) (wx_l (by exact hj)).1 rfl rfl gw277 gw278 gw279 gw27 (kX0_letterAt l D ct sa _ (16 + 3 * ix x) _ _ _ _ _ _ _ _ _ _ (ix y) (wx_l hj) e_y hy4) gw280 (by decide +kernel) rfl dX3_turn_31 ⟨Nat.le_of_ble_eq_true rfl, Nat.le_of_ble_eq_true rfl⟩ ⟨Nat.le_of_ble_eq_true rfl, Nat.le_of_ble_eq_true rfl⟩ (Nat.le_of_ble_eq_true rfl) (dki ?_)
    refine j_iload_n (i := 3) C dX3_turn_34 rfl 4 rfl ?_
    refine j_callS (nargs := 2) (As := [_, _]) C gw282 gw283 gw21 (kX3_turnsBetween l D ct sa _ _ _) gw284 (by decide +kernel) rfl dX3_turn_35 ⟨Nat.le_of_ble_eq_true rfl, Nat.le_of_ble_eq_true rfl⟩ ⟨Nat.le_of_ble_eq_true rfl, Nat.le_of_ble_eq_true rfl⟩ (Nat.le_of_ble_eq_true rfl) (dki ?_)
    refine j_st (st1 := .int (farF (sR σ (8 * ix x + (4 + ix y))) z) :: _) (congrArg (fun t => Value.int (farF t z) :: []) (cut_in hy4)) ?_
    refine j_istore (lv' := [(5, .int _), (4, .ref _), (0, .ref _), (1, .int _), (2, .int _), (3, .int _)]) C dX3_turn_38 (by decide) rfl ?_
    refine j_aload C dX3_turn_40 1 rfl ?_
    refine j_iload_n (i := 2) C dX3_turn_42 rfl 4 rfl ?_
    refine j_iload_n (i := 3) C dX3_turn_43 rfl 5 rfl ?_
    refine j_callV (nargs := 2) (As := [_, _]) (Cn := RX0) C (16 + 3 * ix x) (wx_l (by exact hj)).1 rfl rfl gw291 gw292 gw293 gw27 (kX0_turnTo l D ct sa _ (16 + 3 * ix x) _ _ _ _ _ _ _ _ _ _ _ (ix y) (wx_l hj) e_y hy4) gw294 (by decide +kernel) rfl dX3_turn_44 ⟨Nat.le_of_ble_eq_true rfl, Nat.le_of_ble_eq_true rfl⟩ ⟨Nat.le_of_ble_eq_true rfl, Nat.le_of_ble_eq_true rfl⟩ (Nat.le_of_ble_eq_true rfl) (dkv ?_)
    refine j_ws (ws1 := WX ct sa ad mcn φ (uR σ (upd (sR σ) (8 * ix x + (4 + ix y)) z)) ++ wr) (wx_tn hj hy4) ?_
    refine j_aload_n (i := 0) C dX3_turn_47 rfl 2 rfl ?_
    refine j_dup C dX3_turn_48 rfl ?_
    refine j_get (Cn := RX3) (T := TX3) (N := 6) (ci := 4) C iX3 rfl (0) rfl 5 (by decide) gw143 rfl rfl dX3_turn_49 ?_
    refine j_iload C dX3_turn_52 0 rfl ?_
    refine j_iadd C dX3_turn_54 ?_
    refine j_put (Cn := RX3) (T := TX3) (N := 6) (ci := 4) (ws2 := WX ct sa ad mcn φ (uT (uR σ (upd (sR σ) (8 * ix x + (4 + ix y)) z)) (sT σ + farF (sR σ (8 * ix x + (4 + ix y))) z)) ++ wr) C iX3 tyX3 tyX3_ok nmX3 rfl (0) rfl 5 (by decide) gw143 rfl rfl rfl rfl rfl (Nat.le_of_ble_eq_true rfl) rfl dX3_turn_55 ?_
    refine j_iload C dX3_turn_58 0 rfl ?_
    exact j_ireturn C E rfl dX3_turn_60 (Nat.le_of_ble_eq_true rfl) (Nat.le_of_ble_eq_true rfl) (kc (by rw [f_turn, if_pos ⟨hl, hy⟩]; exact if_pos (b2i_t c15)))
  · exact j_throwS C E T0 htr (cls := IAE) (text := "no such letter") (names := EXN) rfl (by decide +kernel) exn_fit gw261 gw33 (by decide) at_IAE ok_IAE dX3_turn_18 dX3_turn_21 dX3_turn_22 dX3_turn_24 dX3_turn_27 (by decide) (Nat.le_of_ble_eq_true rfl) (Nat.le_of_ble_eq_true rfl) (Nat.le_of_ble_eq_true rfl) rfl (kx0 1 rfl (by rw [f_turn, if_pos ⟨hl, hy⟩]; exact if_neg (b2i_f c15)) rfl) (Nat.le_of_ble_eq_true rfl) (Nat.le_of_ble_eq_true rfl)
set_option maxRecDepth 100000 in
set_option maxHeartbeats 4000000 in
theorem kX3_open (l : Launch) (htr : l.stackTraces = false) (D : va_G) (ct : Nat → ClassId) (sa : Nat → Nat) (ad : Nat → Nat) (mcn : Int32) (φ : LD) (σ : St) (wr : va_W) (x : Int32) (hi : Inv1 σ) : jMX l yX3_open (Cond.code yX3_open cX3_open 3 (Option.some Jvm.ClassFile.FieldType.boolean) :: GW) (rM 7 3 18 111) D ct sa [.ref (ad 0), .int x] (WX ct sa ad mcn φ σ ++ wr) (kC ct sa ad mcn φ wr (f_open σ x)) (kxF (f_open σ x) [IOO]) 3 18 := by
  refine jBody (own := RX3) (by decide) rfl rfl (Nat.le_of_ble_eq_true rfl) ?_
  intro X C E T0
  refine j_lv (lv1 := [(0, .ref _), (1, .int _)]) rfl ?_
  refine j_aload_n (i := 0) C dX3_open_0 rfl 0 rfl ?_
  refine j_iload_n (i := 1) C dX3_open_1 rfl 1 rfl ?_
  refine j_callVX (nargs := 1) (As := [_]) (Cn := RX3) C (0) rfl rfl rfl gw161 gw163 gw0 gw21 (kX3_lockAt l htr D ct sa ad mcn φ σ wr x hi.1.1) gw164 (by decide +kernel) rfl dX3_open_2 ⟨Nat.le_of_ble_eq_true rfl, Nat.le_of_ble_eq_true rfl⟩ ⟨Nat.le_of_ble_eq_true rfl, Nat.le_of_ble_eq_true rfl⟩ (Nat.le_of_ble_eq_true rfl) (fun En hx => jt_out C E T0 rfl (Nat.le_of_ble_eq_true rfl) (Nat.le_of_ble_eq_true rfl) (kx0 0 rfl (by rw [f_open]; exact if_neg hx.1) hx.2)) (fun r w hk => ?_)
  obtain ⟨hl, rfl, rfl⟩ := hk
  obtain ⟨hn0, hj, e_x⟩ := okI_pos (by have := hi.1.1; omega) hl
  refine j_st (st1 := .ref (ad (20 + 3 * ix x)) :: _) rfl ?_
  refine j_astore_n (lv' := [(2, .ref _), (0, .ref _), (1, .int _)]) C dX3_open_5 rfl (by decide) rfl ?_
  refine j_aload_n (i := 2) C dX3_open_6 rfl 0 rfl ?_
  refine j_callV (nargs := 0) (As := []) (Cn := RX0) C (16 + 3 * ix x) (wx_l (by exact hj)).1 rfl rfl gw299 gw300 gw301 gw27 (kX0_standing l D ct sa _ (16 + 3 * ix x) _ _ _ _ _ _ _ _ _ (wx_l (by exact hj))) gw302 (by decide +kernel) rfl dX3_open_7 ⟨Nat.le_of_ble_eq_true rfl, Nat.le_of_ble_eq_true rfl⟩ ⟨Nat.le_of_ble_eq_true rfl, Nat.le_of_ble_eq_true rfl⟩ (Nat.le_of_ble_eq_true rfl) (dki ?_)
  refine j_st (st1 := .int (stR (sR σ) (ix x)) :: _) (congrArg (fun t => Value.int t :: []) (st_l σ (ix x))) ?_
  refine j_aload_n (i := 2) C dX3_open_10 rfl 0 rfl ?_
  refine j_getN (Cn := RX0) (T := TX0) (N := 6) (ci := 1) C iX0 rfl (16 + 3 * ix x) (wx_l (by exact hj)).1 2 (by decide) nw118 rfl rfl dX3_open_11 ?_
  refine j_icmp_ne C 22 dX3_open_14 (by decide) (fun c14 => ?_) (fun c14 => ?_)
  · refine j_aload_n (i := 2) C dX3_open_22 rfl 0 rfl ?_
    refine j_getN (Cn := RX0) (T := TX0) (N := 6) (ci := 1) C iX0 rfl (16 + 3 * ix x) (wx_l (by exact hj)).1 4 (by decide) nw122 rfl rfl dX3_open_23 ?_
    exact j_ireturn C E (nar_b (by first | exact Or.inr pk_us | exact (hi.2.1 _ (by have := hi.1.1; omega)).1)) dX3_open_26 (Nat.le_of_ble_eq_true rfl) (Nat.le_of_ble_eq_true rfl) (by first | exact kc (op_y hl c14) | exact kc (op_n hl c14 (hi.2.1 _ (by have := hi.1.1; omega)).1))
  · refine j_aload_n (i := 2) C dX3_open_17 rfl 0 rfl ?_
    refine j_iconst (v := nI 1) C dX3_open_18 (by decide) ?_
    refine j_putN (Cn := RX0) (T := TX0) (N := 6) (ci := 1) (ws2 := WX ct sa ad mcn φ (uR σ (upd (sR σ) (8 * ix x + 1) (nI 1))) ++ wr) C iX0 tyX0 tyX0_ok nmX0 rfl (16 + 3 * ix x) (wx_l (by exact hj)).1 4 (by decide) nw122 rfl rfl rfl rfl rfl (Nat.le_of_ble_eq_true rfl) (wx_h1 hj) dX3_open_19 ?_
    refine j_aload_n (i := 2) C dX3_open_22 rfl 0 rfl ?_
    refine j_getN (Cn := RX0) (T := TX0) (N := 6) (ci := 1) C iX0 rfl (16 + 3 * ix x) (wx_l (by exact hj)).1 4 (by decide) nw122 rfl rfl dX3_open_23 ?_
    exact j_ireturn C E (nar_b (by first | exact Or.inr pk_us | exact (hi.2.1 _ (by have := hi.1.1; omega)).1)) dX3_open_26 (Nat.le_of_ble_eq_true rfl) (Nat.le_of_ble_eq_true rfl) (by first | exact kc (op_y hl c14) | exact kc (op_n hl c14 (hi.2.1 _ (by have := hi.1.1; omega)).1))
set_option maxRecDepth 100000 in
set_option maxHeartbeats 4000000 in
theorem kX3_shut (l : Launch) (htr : l.stackTraces = false) (D : va_G) (ct : Nat → ClassId) (sa : Nat → Nat) (ad : Nat → Nat) (mcn : Int32) (φ : LD) (σ : St) (wr : va_W) (x : Int32) (hi : Inv1 σ) : jMX l yX3_shut (Cond.code yX3_shut cX3_shut 3 (Option.some Jvm.ClassFile.FieldType.int) :: GW) (rM 7 3 18 111) D ct sa [.ref (ad 0), .int x] (WX ct sa ad mcn φ σ ++ wr) (kC ct sa ad mcn φ wr (f_shut σ x)) (kxF (f_shut σ x) [IOO, ISE]) 3 18 := by
  refine jBody (own := RX3) (by decide) rfl rfl (Nat.le_of_ble_eq_true rfl) ?_
  intro X C E T0
  refine j_lv (lv1 := [(0, .ref _), (1, .int _)]) rfl ?_
  refine j_aload_n (i := 0) C dX3_shut_0 rfl 0 rfl ?_
  refine j_iload_n (i := 1) C dX3_shut_1 rfl 1 rfl ?_
  refine j_callVX (nargs := 1) (As := [_]) (Cn := RX3) C (0) rfl rfl rfl gw161 gw163 gw0 gw21 (kX3_lockAt l htr D ct sa ad mcn φ σ wr x hi.1.1) gw164 (by decide +kernel) rfl dX3_shut_2 ⟨Nat.le_of_ble_eq_true rfl, Nat.le_of_ble_eq_true rfl⟩ ⟨Nat.le_of_ble_eq_true rfl, Nat.le_of_ble_eq_true rfl⟩ (Nat.le_of_ble_eq_true rfl) (fun En hx => jt_out C E T0 rfl (Nat.le_of_ble_eq_true rfl) (Nat.le_of_ble_eq_true rfl) (kx0 0 rfl (by rw [f_shut]; exact if_neg hx.1) hx.2)) (fun r w hk => ?_)
  obtain ⟨hl, rfl, rfl⟩ := hk
  obtain ⟨hn0, hj, e_x⟩ := okI_pos (by have := hi.1.1; omega) hl
  refine j_st (st1 := .ref (ad (20 + 3 * ix x)) :: _) rfl ?_
  refine j_astore_n (lv' := [(2, .ref _), (0, .ref _), (1, .int _)]) C dX3_shut_5 rfl (by decide) rfl ?_
  refine j_aload_n (i := 2) C dX3_shut_6 rfl 0 rfl ?_
  refine j_callSX (nargs := 1) (As := [_]) C gw609 gw610 gw21 (kX3_requireOpen l htr D ct sa _ (16 + 3 * ix x) _ _ _ _ _ _ _ _ _ (wx_l hj)) gw611 (by decide +kernel) rfl dX3_shut_7 ⟨Nat.le_of_ble_eq_true rfl, Nat.le_of_ble_eq_true rfl⟩ ⟨Nat.le_of_ble_eq_true rfl, Nat.le_of_ble_eq_true rfl⟩ (Nat.le_of_ble_eq_true rfl) (fun En hx => jt_out C E T0 rfl (Nat.le_of_ble_eq_true rfl) (Nat.le_of_ble_eq_true rfl) (kx0 1 rfl (by rw [f_shut, if_pos hl]; exact if_pos (Decidable.not_not.mp hx.1)) hx.2)) (fun r w hk => ?_)
  obtain ⟨ho, rfl, rfl⟩ := hk
  refine j_st (st1 := []) rfl ?_
  refine j_aload_n (i := 2) C dX3_shut_10 rfl 0 rfl ?_
  refine j_callV (nargs := 0) (As := []) (Cn := RX0) C (16 + 3 * ix x) (wx_l (by exact hj)).1 rfl rfl gw436 gw437 gw438 gw27 (kX0_close l D ct sa _ (16 + 3 * ix x) _ _ _ _ _ _ _ _ _ (wx_l (by exact hj))) gw439 (by decide +kernel) rfl dX3_shut_11 ⟨Nat.le_of_ble_eq_true rfl, Nat.le_of_ble_eq_true rfl⟩ ⟨Nat.le_of_ble_eq_true rfl, Nat.le_of_ble_eq_true rfl⟩ (Nat.le_of_ble_eq_true rfl) (dkv ?_)
  refine j_ws (ws1 := WX ct sa ad mcn φ (uR σ (clF (sR σ) (ix x) 4)) ++ wr) (wx_cl hj) ?_
  refine j_aload_n (i := 2) C dX3_shut_14 rfl 0 rfl ?_
  refine j_callV (nargs := 0) (As := []) (Cn := RX0) C (16 + 3 * ix x) (wx_l (by exact hj)).1 rfl rfl gw299 gw300 gw301 gw27 (kX0_standing l D ct sa _ (16 + 3 * ix x) _ _ _ _ _ _ _ _ _ (wx_l (by exact hj))) gw302 (by decide +kernel) rfl dX3_shut_15 ⟨Nat.le_of_ble_eq_true rfl, Nat.le_of_ble_eq_true rfl⟩ ⟨Nat.le_of_ble_eq_true rfl, Nat.le_of_ble_eq_true rfl⟩ (Nat.le_of_ble_eq_true rfl) (dki ?_)
  refine j_st (st1 := .int (stR (clF (sR σ) (ix x) 4) (ix x)) :: _) (congrArg (fun t => Value.int t :: []) (st_l (uR σ (clF (sR σ) (ix x) 4)) (ix x))) ?_
  exact j_ireturn C E rfl dX3_shut_18 (Nat.le_of_ble_eq_true rfl) (Nat.le_of_ble_eq_true rfl) (kc (by rw [f_shut, if_pos hl]; exact if_neg ho))
set_option maxRecDepth 100000 in
set_option maxHeartbeats 4000000 in
theorem kX3_rename (l : Launch) (htr : l.stackTraces = false) (D : va_G) (ct : Nat → ClassId) (sa : Nat → Nat) (ad : Nat → Nat) (mcn : Int32) (φ : LD) (σ : St) (wr : va_W) (x w : Int32) (hi : Inv1 σ) : jMX l yX3_rename (Cond.code yX3_rename cX3_rename 5 (Option.some Jvm.ClassFile.FieldType.int) :: GW) (rM 7 3 18 111) D ct sa [.ref (ad 0), .int x, .int w] (WX ct sa ad mcn φ σ ++ wr) (kC ct sa ad mcn φ wr (f_rename σ x w)) (kxF (f_rename σ x w) [IOO, IAE, ISE]) 3 18 := by
  refine jBody (own := RX3) (by decide) rfl rfl (Nat.le_of_ble_eq_true rfl) ?_
  intro X C E T0
  refine j_lv (lv1 := [(0, .ref _), (1, .int _), (2, .int _)]) rfl ?_
  refine j_aload_n (i := 0) C dX3_rename_0 rfl 0 rfl ?_
  refine j_iload_n (i := 1) C dX3_rename_1 rfl 1 rfl ?_
  refine j_callVX (nargs := 1) (As := [_]) (Cn := RX3) C (0) rfl rfl rfl gw161 gw163 gw0 gw21 (kX3_lockAt l htr D ct sa ad mcn φ σ wr x hi.1.1) gw164 (by decide +kernel) rfl dX3_rename_2 ⟨Nat.le_of_ble_eq_true rfl, Nat.le_of_ble_eq_true rfl⟩ ⟨Nat.le_of_ble_eq_true rfl, Nat.le_of_ble_eq_true rfl⟩ (Nat.le_of_ble_eq_true rfl) (fun En hx => jt_out C E T0 rfl (Nat.le_of_ble_eq_true rfl) (Nat.le_of_ble_eq_true rfl) (kx0 0 rfl (by rw [f_rename]; exact if_neg hx.1) hx.2)) (fun r w hk => ?_)
  obtain ⟨hl, rfl, rfl⟩ := hk
  obtain ⟨hn0, hj, e_x⟩ := okI_pos (by have := hi.1.1; omega) hl
  refine j_st (st1 := .ref (ad (20 + 3 * ix x)) :: _) rfl ?_
  refine j_astore_n (lv' := [(3, .ref _), (0, .ref _), (1, .int _), (2, .int _)]) C dX3_rename_5 rfl (by decide) rfl ?_
  refine j_iload_n (i := 2) C dX3_rename_6 rfl 3 rfl ?_
  refine j_callSX (nargs := 1) (As := [_]) C gw380 gw381 gw21 (kX3_requireWord l htr D ct sa _ w) gw382 (by decide +kernel) rfl dX3_rename_7 ⟨Nat.le_of_ble_eq_true rfl, Nat.le_of_ble_eq_true rfl⟩ ⟨Nat.le_of_ble_eq_true rfl, Nat.le_of_ble_eq_true rfl⟩ (Nat.le_of_ble_eq_true rfl) (fun En hx => jt_out C E T0 rfl (Nat.le_of_ble_eq_true rfl) (Nat.le_of_ble_eq_true rfl) (kx0 1 rfl (by rw [f_rename, if_pos hl]; exact if_neg hx.1) hx.2)) (fun r w hk => ?_)
  obtain ⟨hw, rfl, rfl⟩ := hk
  refine j_st (st1 := []) rfl ?_
  refine j_aload_n (i := 3) C dX3_rename_10 rfl 0 rfl ?_
  refine j_callSX (nargs := 1) (As := [_]) C gw609 gw610 gw21 (kX3_requireOpen l htr D ct sa _ (16 + 3 * ix x) _ _ _ _ _ _ _ _ _ (wx_l hj)) gw611 (by decide +kernel) rfl dX3_rename_11 ⟨Nat.le_of_ble_eq_true rfl, Nat.le_of_ble_eq_true rfl⟩ ⟨Nat.le_of_ble_eq_true rfl, Nat.le_of_ble_eq_true rfl⟩ (Nat.le_of_ble_eq_true rfl) (fun En hx => jt_out C E T0 rfl (Nat.le_of_ble_eq_true rfl) (Nat.le_of_ble_eq_true rfl) (kx0 2 rfl (by rw [f_rename, if_pos hl, if_pos hw]; exact if_pos (Decidable.not_not.mp hx.1)) hx.2)) (fun r w hk => ?_)
  obtain ⟨ho, rfl, rfl⟩ := hk
  refine j_st (st1 := []) rfl ?_
  refine j_aload_n (i := 3) C dX3_rename_14 rfl 0 rfl ?_
  refine j_getN (Cn := RX0) (T := TX0) (N := 6) (ci := 1) C iX0 rfl (16 + 3 * ix x) (wx_l (by exact hj)).1 2 (by decide) nw118 rfl rfl dX3_rename_15 ?_
  refine j_istore (lv' := [(4, .int _), (3, .ref _), (0, .ref _), (1, .int _), (2, .int _)]) C dX3_rename_18 (by decide) rfl ?_
  refine j_aload_n (i := 3) C dX3_rename_20 rfl 1 rfl ?_
  refine j_iload_n (i := 2) C dX3_rename_21 rfl 4 rfl ?_
  refine j_putN (Cn := RX0) (T := TX0) (N := 6) (ci := 1) (ws2 := WX ct sa ad mcn φ (uR σ (upd (sR σ) (8 * ix x + 0) w)) ++ wr) C iX0 tyX0 tyX0_ok nmX0 rfl (16 + 3 * ix x) (wx_l (by exact hj)).1 2 (by decide) nw118 rfl rfl rfl rfl rfl (Nat.le_of_ble_eq_true rfl) (wx_h0 hj) dX3_rename_22 ?_
  refine j_aload_n (i := 3) C dX3_rename_25 rfl 1 rfl ?_
  refine j_iconst (v := nI 0) C dX3_rename_26 (by decide) ?_
  refine j_putN (Cn := RX0) (T := TX0) (N := 6) (ci := 1) (ws2 := WX ct sa ad mcn φ (uR σ (upd (upd (sR σ) (8 * ix x + 0) w) (8 * ix x + 3) (nI 0))) ++ wr) C iX0 tyX0 tyX0_ok nmX0 rfl (16 + 3 * ix x) (wx_l (by exact hj)).1 5 (by decide) nw124 rfl rfl rfl rfl rfl (Nat.le_of_ble_eq_true rfl) (wx_h3 (σ := uR σ (upd (sR σ) (8 * ix x + 0) w)) hj) dX3_rename_27 ?_
  refine j_iload C dX3_rename_30 0 rfl ?_
  exact j_ireturn C E rfl dX3_rename_32 (Nat.le_of_ble_eq_true rfl) (Nat.le_of_ble_eq_true rfl) (kc (by rw [f_rename, if_pos hl, if_pos hw]; exact if_neg ho))
set_option maxRecDepth 100000 in
set_option maxHeartbeats 4000000 in
theorem kX3_lose (l : Launch) (htr : l.stackTraces = false) (D : va_G) (ct : Nat → ClassId) (sa : Nat → Nat) (ad : Nat → Nat) (mcn : Int32) (φ : LD) (σ : St) (wr : va_W) (x b : Int32) (hi : Inv1 σ) (hb : b01 b) : jMX l yX3_lose (Cond.code yX3_lose cX3_lose 5 (Option.some Jvm.ClassFile.FieldType.boolean) :: GW) (rM 7 3 18 111) D ct sa [.ref (ad 0), .int x, .int b] (WX ct sa ad mcn φ σ ++ wr) (kC ct sa ad mcn φ wr (f_lose σ x b)) (kxF (f_lose σ x b) [IOO]) 3 18 := by
  refine jBody (own := RX3) (by decide) rfl rfl (Nat.le_of_ble_eq_true rfl) ?_
  intro X C E T0
  refine j_lv (lv1 := [(0, .ref _), (1, .int _), (2, .int _)]) rfl ?_
  refine j_aload_n (i := 0) C dX3_lose_0 rfl 0 rfl ?_
  refine j_iload_n (i := 1) C dX3_lose_1 rfl 1 rfl ?_
  refine j_callVX (nargs := 1) (As := [_]) (Cn := RX3) C (0) rfl rfl rfl gw161 gw163 gw0 gw21 (kX3_lockAt l htr D ct sa ad mcn φ σ wr x hi.1.1) gw164 (by decide +kernel) rfl dX3_lose_2 ⟨Nat.le_of_ble_eq_true rfl, Nat.le_of_ble_eq_true rfl⟩ ⟨Nat.le_of_ble_eq_true rfl, Nat.le_of_ble_eq_true rfl⟩ (Nat.le_of_ble_eq_true rfl) (fun En hx => jt_out C E T0 rfl (Nat.le_of_ble_eq_true rfl) (Nat.le_of_ble_eq_true rfl) (kx0 0 rfl (by rw [f_lose]; exact if_neg hx.1) hx.2)) (fun r w hk => ?_)
  obtain ⟨hl, rfl, rfl⟩ := hk
  obtain ⟨hn0, hj, e_x⟩ := okI_pos (by have := hi.1.1; omega) hl
  refine j_st (st1 := .ref (ad (20 + 3 * ix x)) :: _) rfl ?_
  refine j_astore_n (lv' := [(3, .ref _), (0, .ref _), (1, .int _), (2, .int _)]) C dX3_lose_5 rfl (by decide) rfl ?_
  refine j_aload_n (i := 3) C dX3_lose_6 rfl 0 rfl ?_
  refine j_getN (Cn := RX0) (T := TX0) (N := 6) (ci := 1) C iX0 rfl (16 + 3 * ix x) (wx_l (by exact hj)).1 5 (by decide) nw124 rfl rfl dX3_lose_7 ?_
  refine j_istore (lv' := [(4, .int _), (3, .ref _), (0, .ref _), (1, .int _), (2, .int _)]) C dX3_lose_10 (by decide) rfl ?_
  refine j_aload_n (i := 3) C dX3_lose_12 rfl 1 rfl ?_
  refine j_iload_n (i := 2) C dX3_lose_13 rfl 4 rfl ?_
  refine j_putN (Cn := RX0) (T := TX0) (N := 6) (ci := 1) (ws2 := WX ct sa ad mcn φ (uR σ (upd (sR σ) (8 * ix x + 3) b)) ++ wr) C iX0 tyX0 tyX0_ok nmX0 rfl (16 + 3 * ix x) (wx_l (by exact hj)).1 5 (by decide) nw124 rfl rfl rfl (nar_b hb) (fit_b hb) (Nat.le_of_ble_eq_true rfl) (wx_h3 hj) dX3_lose_14 ?_
  refine j_iload C dX3_lose_17 0 rfl ?_
  exact j_ireturn C E (nar_b (hi.2.1 _ (by have := hi.1.1; omega)).2) dX3_lose_19 (Nat.le_of_ble_eq_true rfl) (Nat.le_of_ble_eq_true rfl) (kc (by rw [f_lose, if_pos hl, b_11 (hi.2.1 _ (by have := hi.1.1; omega)).2, b_01 hb]))
set_option maxRecDepth 100000 in
set_option maxHeartbeats 4000000 in
theorem kX3_setPlaces (l : Launch) (htr : l.stackTraces = false) (D : va_G) (ct : Nat → ClassId) (sa : Nat → Nat) (ad : Nat → Nat) (mcn : Int32) (φ : LD) (σ : St) (wr : va_W) (x y : Int32) (hi : Inv1 σ) : jMX l yX3_setPlaces (Cond.code yX3_setPlaces cX3_setPlaces 5 (Option.some Jvm.ClassFile.FieldType.int) :: GW) (rM 7 3 18 111) D ct sa [.ref (ad 0), .int x, .int y] (WX ct sa ad mcn φ σ ++ wr) (kC ct sa ad mcn φ wr (f_setPlaces σ x y)) (kxF (f_setPlaces σ x y) [IOO, IAE, ISE]) 3 18 := by
  refine jBody (own := RX3) (by decide) rfl rfl (Nat.le_of_ble_eq_true rfl) ?_
  intro X C E T0
  refine j_lv (lv1 := [(0, .ref _), (1, .int _), (2, .int _)]) rfl ?_
  refine j_aload_n (i := 0) C dX3_setPlaces_0 rfl 0 rfl ?_
  refine j_iload_n (i := 1) C dX3_setPlaces_1 rfl 1 rfl ?_
  refine j_callVX (nargs := 1) (As := [_]) (Cn := RX3) C (0) rfl rfl rfl gw330 gw332 gw3 gw21 (kX3_rackAt l htr D ct sa ad _ _ _ _ x wx_xb) gw333 (by decide +kernel) rfl dX3_setPlaces_2 ⟨Nat.le_of_ble_eq_true rfl, Nat.le_of_ble_eq_true rfl⟩ ⟨Nat.le_of_ble_eq_true rfl, Nat.le_of_ble_eq_true rfl⟩ (Nat.le_of_ble_eq_true rfl) (fun En hx => jt_out C E T0 rfl (Nat.le_of_ble_eq_true rfl) (Nat.le_of_ble_eq_true rfl) (kx0 0 rfl (by rw [f_setPlaces]; exact if_neg hx.1) hx.2)) (fun r w hk => ?_)
  obtain ⟨hl, rfl, rfl⟩ := hk
  obtain ⟨hr, e_x⟩ := okI_ix hl (by decide)
  refine j_st (st1 := .ref (ad (4 + ix x)) :: _) rfl ?_
  refine j_astore_n (lv' := [(3, .ref _), (0, .ref _), (1, .int _), (2, .int _)]) C dX3_setPlaces_5 rfl (by decide) rfl ?_
  refine j_iload_n (i := 2) C dX3_setPlaces_6 rfl 3 rfl ?_
  refine j_iconst (v := nI 1) C dX3_setPlaces_7 (by decide) ?_
  refine j_icmp_lt C 17 dX3_setPlaces_8 (by decide) (fun c8 => ?_) (fun c8 => ?_)
  · exact j_throwS C E T0 htr (cls := IAE) (text := "places are 1 to 6") (names := EXN) rfl (by decide +kernel) exn_fit gw261 gw33 (by decide) at_IAE ok_IAE dX3_setPlaces_17 dX3_setPlaces_20 dX3_setPlaces_21 dX3_setPlaces_23 dX3_setPlaces_26 (by decide) (Nat.le_of_ble_eq_true rfl) (Nat.le_of_ble_eq_true rfl) (Nat.le_of_ble_eq_true rfl) rfl (kx0 1 rfl (by rw [f_setPlaces, if_pos hl]; first | exact if_neg (not_and_of_not_left _ (inlt_n c8)) | exact if_neg (not_and_of_not_right _ c14)) rfl) (Nat.le_of_ble_eq_true rfl) (Nat.le_of_ble_eq_true rfl)
  · refine j_iload_n (i := 2) C dX3_setPlaces_11 rfl 3 rfl ?_
    refine j_bipush (v := nI 6) C dX3_setPlaces_12 (by decide) ?_
    refine j_icmp_le C 27 dX3_setPlaces_14 (by decide) (fun c14 => ?_) (fun c14 => ?_)
    · have hy : nI 1 ≤ y ∧ y ≤ nI 6 := ⟨ile_of c8, c14⟩
      refine j_aload_n (i := 0) C dX3_setPlaces_27 rfl 1 rfl ?_
      refine j_iload_n (i := 1) C dX3_setPlaces_28 rfl 2 rfl ?_
      refine j_callV (nargs := 1) (As := [_]) (Cn := RX3) C (0) rfl rfl rfl gw339 gw341 gw5 gw21 (kX3_locksIn l D ct sa ad mcn φ σ wr x hi.1.1) gw342 (by decide +kernel) rfl dX3_setPlaces_29 ⟨Nat.le_of_ble_eq_true rfl, Nat.le_of_ble_eq_true rfl⟩ ⟨Nat.le_of_ble_eq_true rfl, Nat.le_of_ble_eq_true rfl⟩ (Nat.le_of_ble_eq_true rfl) (dki ?_)
      refine j_iload_n (i := 2) C dX3_setPlaces_32 rfl 3 rfl ?_
      refine j_icmp_le C 46 dX3_setPlaces_33 (by decide) (fun c33 => ?_) (fun c33 => ?_)
      · refine j_aload_n (i := 3) C dX3_setPlaces_46 rfl 0 rfl ?_
        refine j_getN (Cn := RX1) (T := TX1) (N := 3) (ci := 2) C iX1 rfl (3 + ix x) (wx_rk hr) 0 (by decide) nw84 rfl rfl dX3_setPlaces_47 ?_
        refine j_istore (lv' := [(4, .int _), (3, .ref _), (0, .ref _), (1, .int _), (2, .int _)]) C dX3_setPlaces_50 (by decide) rfl ?_
        refine j_aload_n (i := 3) C dX3_setPlaces_52 rfl 1 rfl ?_
        refine j_iload_n (i := 2) C dX3_setPlaces_53 rfl 4 rfl ?_
        refine j_putN (Cn := RX1) (T := TX1) (N := 3) (ci := 2) (ws2 := WX ct sa ad mcn φ (uK σ (upd (sK σ) (3 * ix x + 0) y)) ++ wr) C iX1 tyX1 tyX1_ok nmX1 rfl (3 + ix x) (wx_rk hr) 0 (by decide) nw84 rfl rfl rfl rfl rfl (Nat.le_of_ble_eq_true rfl) (wx_r0 hr) dX3_setPlaces_54 ?_
        refine j_iload C dX3_setPlaces_57 0 rfl ?_
        exact j_ireturn C E rfl dX3_setPlaces_59 (Nat.le_of_ble_eq_true rfl) (Nat.le_of_ble_eq_true rfl) (kc (by rw [f_setPlaces, if_pos hl, if_pos hy]; exact if_pos c33))
      · exact j_throwS C E T0 htr (cls := ISE) (text := "more locks are in the rack") (names := EXN) rfl (by decide +kernel) exn_fit gw530 gw34 (by decide) at_ISE ok_ISE dX3_setPlaces_36 dX3_setPlaces_39 dX3_setPlaces_40 dX3_setPlaces_42 dX3_setPlaces_45 (by decide) (Nat.le_of_ble_eq_true rfl) (Nat.le_of_ble_eq_true rfl) (Nat.le_of_ble_eq_true rfl) rfl (kx0 2 rfl (by rw [f_setPlaces, if_pos hl, if_pos hy]; exact if_neg c33) rfl) (Nat.le_of_ble_eq_true rfl) (Nat.le_of_ble_eq_true rfl)
    · exact j_throwS C E T0 htr (cls := IAE) (text := "places are 1 to 6") (names := EXN) rfl (by decide +kernel) exn_fit gw261 gw33 (by decide) at_IAE ok_IAE dX3_setPlaces_17 dX3_setPlaces_20 dX3_setPlaces_21 dX3_setPlaces_23 dX3_setPlaces_26 (by decide) (Nat.le_of_ble_eq_true rfl) (Nat.le_of_ble_eq_true rfl) (Nat.le_of_ble_eq_true rfl) rfl (kx0 1 rfl (by rw [f_setPlaces, if_pos hl]; first | exact if_neg (not_and_of_not_left _ (inlt_n c8)) | exact if_neg (not_and_of_not_right _ c14)) rfl) (Nat.le_of_ble_eq_true rfl) (Nat.le_of_ble_eq_true rfl)
set_option maxRecDepth 100000 in
set_option maxHeartbeats 4000000 in
theorem kX3_setHours (l : Launch) (htr : l.stackTraces = false) (D : va_G) (ct : Nat → ClassId) (sa : Nat → Nat) (ad : Nat → Nat) (mcn : Int32) (φ : LD) (σ : St) (wr : va_W) (x y z : Int32) (hi : Inv1 σ) : jMX l yX3_setHours (Cond.code yX3_setHours cX3_setHours 6 (Option.some Jvm.ClassFile.FieldType.int) :: GW) (rM 7 3 18 111) D ct sa [.ref (ad 0), .int x, .int y, .int z] (WX ct sa ad mcn φ σ ++ wr) (kC ct sa ad mcn φ wr (f_setHours σ x y z)) (kxF (f_setHours σ x y z) [IOO, IAE]) 3 18 := by
  refine jBody (own := RX3) (by decide) rfl rfl (Nat.le_of_ble_eq_true rfl) ?_
  intro X C E T0
  refine j_lv (lv1 := [(0, .ref _), (1, .int _), (2, .int _), (3, .int _)]) rfl ?_
  refine j_aload_n (i := 0) C dX3_setHours_0 rfl 0 rfl ?_
  refine j_iload_n (i := 1) C dX3_setHours_1 rfl 1 rfl ?_
  refine j_callVX (nargs := 1) (As := [_]) (Cn := RX3) C (0) rfl rfl rfl gw330 gw332 gw3 gw21 (kX3_rackAt l htr D ct sa ad _ _ _ _ x wx_xb) gw333 (by decide +kernel) rfl dX3_setHours_2 ⟨Nat.le_of_ble_eq_true rfl, Nat.le_of_ble_eq_true rfl⟩ ⟨Nat.le_of_ble_eq_true rfl, Nat.le_of_ble_eq_true rfl⟩ (Nat.le_of_ble_eq_true rfl) (fun En hx => jt_out C E T0 rfl (Nat.le_of_ble_eq_true rfl) (Nat.le_of_ble_eq_true rfl) (kx0 0 rfl (by rw [f_setHours]; exact if_neg hx.1) hx.2)) (fun r w hk => ?_)
  obtain ⟨hl, rfl, rfl⟩ := hk
  obtain ⟨hr, e_x⟩ := okI_ix hl (by decide)
  refine j_st (st1 := .ref (ad (4 + ix x)) :: _) rfl ?_
  refine j_astore (lv' := [(4, .ref _), (0, .ref _), (1, .int _), (2, .int _), (3, .int _)]) C dX3_setHours_5 (by decide) rfl ?_
  refine j_iload_n (i := 2) C dX3_setHours_7 rfl 3 rfl ?_
  refine j_if_lt C 27 dX3_setHours_8 (by decide) (fun c8 => ?_) (fun c8 => ?_)
  · exact j_throwS C E T0 htr (cls := IAE) (text := "hours are 0 to 23 and 0 to 24") (names := EXN) rfl (by decide +kernel) exn_fit gw261 gw33 (by decide) at_IAE ok_IAE dX3_setHours_27 dX3_setHours_30 dX3_setHours_31 dX3_setHours_33 dX3_setHours_36 (by decide) (Nat.le_of_ble_eq_true rfl) (Nat.le_of_ble_eq_true rfl) (Nat.le_of_ble_eq_true rfl) rfl (kx0 1 rfl (by rw [f_setHours, if_pos hl]; first | exact if_neg (not_and_of_not_left _ (ok_nlt c8)) | exact if_neg (not_and_of_not_left _ (ok_nle c14)) | exact if_neg (not_and_of_not_right _ (ok_nlt c18)) | exact if_neg (not_and_of_not_right _ (ok_n25 c24))) rfl) (Nat.le_of_ble_eq_true rfl) (Nat.le_of_ble_eq_true rfl)
  · refine j_iload_n (i := 2) C dX3_setHours_11 rfl 3 rfl ?_
    refine j_bipush (v := nI 24) C dX3_setHours_12 (by decide) ?_
    refine j_icmp_ge C 27 dX3_setHours_14 (by decide) (fun c14 => ?_) (fun c14 => ?_)
    · exact j_throwS C E T0 htr (cls := IAE) (text := "hours are 0 to 23 and 0 to 24") (names := EXN) rfl (by decide +kernel) exn_fit gw261 gw33 (by decide) at_IAE ok_IAE dX3_setHours_27 dX3_setHours_30 dX3_setHours_31 dX3_setHours_33 dX3_setHours_36 (by decide) (Nat.le_of_ble_eq_true rfl) (Nat.le_of_ble_eq_true rfl) (Nat.le_of_ble_eq_true rfl) rfl (kx0 1 rfl (by rw [f_setHours, if_pos hl]; first | exact if_neg (not_and_of_not_left _ (ok_nlt c8)) | exact if_neg (not_and_of_not_left _ (ok_nle c14)) | exact if_neg (not_and_of_not_right _ (ok_nlt c18)) | exact if_neg (not_and_of_not_right _ (ok_n25 c24))) rfl) (Nat.le_of_ble_eq_true rfl) (Nat.le_of_ble_eq_true rfl)
    · refine j_iload_n (i := 3) C dX3_setHours_17 rfl 4 rfl ?_
      refine j_if_lt C 27 dX3_setHours_18 (by decide) (fun c18 => ?_) (fun c18 => ?_)
      · exact j_throwS C E T0 htr (cls := IAE) (text := "hours are 0 to 23 and 0 to 24") (names := EXN) rfl (by decide +kernel) exn_fit gw261 gw33 (by decide) at_IAE ok_IAE dX3_setHours_27 dX3_setHours_30 dX3_setHours_31 dX3_setHours_33 dX3_setHours_36 (by decide) (Nat.le_of_ble_eq_true rfl) (Nat.le_of_ble_eq_true rfl) (Nat.le_of_ble_eq_true rfl) rfl (kx0 1 rfl (by rw [f_setHours, if_pos hl]; first | exact if_neg (not_and_of_not_left _ (ok_nlt c8)) | exact if_neg (not_and_of_not_left _ (ok_nle c14)) | exact if_neg (not_and_of_not_right _ (ok_nlt c18)) | exact if_neg (not_and_of_not_right _ (ok_n25 c24))) rfl) (Nat.le_of_ble_eq_true rfl) (Nat.le_of_ble_eq_true rfl)
      · refine j_iload_n (i := 3) C dX3_setHours_21 rfl 4 rfl ?_
        refine j_bipush (v := nI 24) C dX3_setHours_22 (by decide) ?_
        refine j_icmp_le C 37 dX3_setHours_24 (by decide) (fun c24 => ?_) (fun c24 => ?_)
        · have hyz : okI 24 y ∧ okI 25 z := ⟨⟨ile_of c8, ilt_of c14⟩, (in_ok (M := 24) (by decide)).mp ⟨ile_of c18, c24⟩⟩
          refine j_bipush (v := nI 25) C dX3_setHours_37 (by decide) ?_
          refine j_aload C dX3_setHours_39 0 rfl ?_
          refine j_getN (Cn := RX1) (T := TX1) (N := 3) (ci := 2) C iX1 rfl (3 + ix x) (wx_rk hr) 1 (by decide) nw86 rfl rfl dX3_setHours_41 ?_
          refine j_imul C dX3_setHours_44 ?_
          refine j_aload C dX3_setHours_45 0 rfl ?_
          refine j_getN (Cn := RX1) (T := TX1) (N := 3) (ci := 2) C iX1 rfl (3 + ix x) (wx_rk hr) 2 (by decide) nw88 rfl rfl dX3_setHours_47 ?_
          refine j_iadd C dX3_setHours_50 ?_
          refine j_istore (lv' := [(5, .int _), (4, .ref _), (0, .ref _), (1, .int _), (2, .int _), (3, .int _)]) C dX3_setHours_51 (by decide) rfl ?_
          refine j_aload C dX3_setHours_53 1 rfl ?_
          refine j_iload_n (i := 2) C dX3_setHours_55 rfl 4 rfl ?_
          refine j_putN (Cn := RX1) (T := TX1) (N := 3) (ci := 2) (ws2 := WX ct sa ad mcn φ (uK σ (upd (sK σ) (3 * ix x + 1) y)) ++ wr) C iX1 tyX1 tyX1_ok nmX1 rfl (3 + ix x) (wx_rk hr) 1 (by decide) nw86 rfl rfl rfl rfl rfl (Nat.le_of_ble_eq_true rfl) (wx_r1 hr) dX3_setHours_56 ?_
          refine j_aload C dX3_setHours_59 1 rfl ?_
          refine j_iload_n (i := 3) C dX3_setHours_61 rfl 5 rfl ?_
          refine j_putN (Cn := RX1) (T := TX1) (N := 3) (ci := 2) (ws2 := WX ct sa ad mcn φ (uK σ (upd (upd (sK σ) (3 * ix x + 1) y) (3 * ix x + 2) z)) ++ wr) C iX1 tyX1 tyX1_ok nmX1 rfl (3 + ix x) (wx_rk hr) 2 (by decide) nw88 rfl rfl rfl rfl rfl (Nat.le_of_ble_eq_true rfl) (wx_r2 (σ := uK σ (upd (sK σ) (3 * ix x + 1) y)) hr) dX3_setHours_62 ?_
          refine j_iload C dX3_setHours_65 0 rfl ?_
          exact j_ireturn C E rfl dX3_setHours_67 (Nat.le_of_ble_eq_true rfl) (Nat.le_of_ble_eq_true rfl) (kc (by rw [f_setHours, if_pos hl]; exact if_pos hyz))
        · exact j_throwS C E T0 htr (cls := IAE) (text := "hours are 0 to 23 and 0 to 24") (names := EXN) rfl (by decide +kernel) exn_fit gw261 gw33 (by decide) at_IAE ok_IAE dX3_setHours_27 dX3_setHours_30 dX3_setHours_31 dX3_setHours_33 dX3_setHours_36 (by decide) (Nat.le_of_ble_eq_true rfl) (Nat.le_of_ble_eq_true rfl) (Nat.le_of_ble_eq_true rfl) rfl (kx0 1 rfl (by rw [f_setHours, if_pos hl]; first | exact if_neg (not_and_of_not_left _ (ok_nlt c8)) | exact if_neg (not_and_of_not_left _ (ok_nle c14)) | exact if_neg (not_and_of_not_right _ (ok_nlt c18)) | exact if_neg (not_and_of_not_right _ (ok_n25 c24))) rfl) (Nat.le_of_ble_eq_true rfl) (Nat.le_of_ble_eq_true rfl)
set_option maxRecDepth 100000 in
set_option maxHeartbeats 4000000 in
theorem kX3_put (l : Launch) (htr : l.stackTraces = false) (D : va_G) (ct : Nat → ClassId) (sa : Nat → Nat) (ad : Nat → Nat) (mcn : Int32) (φ : LD) (σ : St) (wr : va_W) (x y : Int32) (hi : Inv1 σ) : jMX l yX3_put (Cond.code yX3_put cX3_put 5 (Option.some Jvm.ClassFile.FieldType.int) :: GW) (rM 7 3 18 111) D ct sa [.ref (ad 0), .int x, .int y] (WX ct sa ad mcn φ σ ++ wr) (kC ct sa ad mcn φ wr (f_put σ x y)) (kxF (f_put σ x y) [IOO, ISE]) 3 18 := by
  refine jBody (own := RX3) (by decide) rfl rfl (Nat.le_of_ble_eq_true rfl) ?_
  intro X C E T0
  refine j_lv (lv1 := [(0, .ref _), (1, .int _), (2, .int _)]) rfl ?_
  refine j_aload_n (i := 0) C dX3_put_0 rfl 0 rfl ?_
  refine j_iload_n (i := 1) C dX3_put_1 rfl 1 rfl ?_
  refine j_callVX (nargs := 1) (As := [_]) (Cn := RX3) C (0) rfl rfl rfl gw161 gw163 gw0 gw21 (kX3_lockAt l htr D ct sa ad mcn φ σ wr x hi.1.1) gw164 (by decide +kernel) rfl dX3_put_2 ⟨Nat.le_of_ble_eq_true rfl, Nat.le_of_ble_eq_true rfl⟩ ⟨Nat.le_of_ble_eq_true rfl, Nat.le_of_ble_eq_true rfl⟩ (Nat.le_of_ble_eq_true rfl) (fun En hx => jt_out C E T0 rfl (Nat.le_of_ble_eq_true rfl) (Nat.le_of_ble_eq_true rfl) (kx0 0 rfl (by rw [f_put]; exact if_neg (fun z => hx.1 z.1)) hx.2)) (fun r w hk => ?_)
  obtain ⟨hl, rfl, rfl⟩ := hk
  obtain ⟨hn0, hj, e_x⟩ := okI_pos (by have := hi.1.1; omega) hl
  refine j_st (st1 := .ref (ad (20 + 3 * ix x)) :: _) rfl ?_
  refine j_astore_n (lv' := [(3, .ref _), (0, .ref _), (1, .int _), (2, .int _)]) C dX3_put_5 rfl (by decide) rfl ?_
  refine j_iload_n (i := 2) C dX3_put_6 rfl 3 rfl ?_
  refine j_iconst (v := (-1)) C dX3_put_7 (by decide) ?_
  refine j_icmp_eq C 29 dX3_put_8 (by decide) (fun c8 => ?_) (fun c8 => ?_)
  · have hy : y = -1 ∨ okI 3 y := by first | exact Or.inl c8 | exact Or.inr (b2i_t c16)
    refine j_aload_n (i := 3) C dX3_put_29 rfl 0 rfl ?_
    refine j_getN (Cn := RX0) (T := TX0) (N := 6) (ci := 1) C iX0 rfl (16 + 3 * ix x) (wx_l (by exact hj)).1 3 (by decide) nw120 rfl rfl dX3_put_30 ?_
    refine j_istore (lv' := [(4, .int _), (3, .ref _), (0, .ref _), (1, .int _), (2, .int _)]) C dX3_put_33 (by decide) rfl ?_
    refine j_iload_n (i := 2) C dX3_put_35 rfl 4 rfl ?_
    refine j_iload C dX3_put_36 0 rfl ?_
    refine j_icmp_ne C 44 dX3_put_38 (by decide) (fun c38 => ?_) (fun c38 => ?_)
    · have hne : ¬ sR σ (8 * ix x + 2) = y := fun z => c38 z.symm
      refine j_aload_n (i := 3) C dX3_put_44 rfl 1 rfl ?_
      refine j_callSX (nargs := 1) (As := [_]) C gw609 gw610 gw21 (kX3_requireOpen l htr D ct sa _ (16 + 3 * ix x) _ _ _ _ _ _ _ _ _ (wx_l hj)) gw611 (by decide +kernel) rfl dX3_put_45 ⟨Nat.le_of_ble_eq_true rfl, Nat.le_of_ble_eq_true rfl⟩ ⟨Nat.le_of_ble_eq_true rfl, Nat.le_of_ble_eq_true rfl⟩ (Nat.le_of_ble_eq_true rfl) (fun En hx => jt_out C E T0 rfl (Nat.le_of_ble_eq_true rfl) (Nat.le_of_ble_eq_true rfl) (kx0 1 rfl (by rw [f_put, if_pos ⟨hl, hy⟩, if_neg hne]; exact if_pos (Or.inl (Decidable.not_not.mp hx.1))) hx.2)) (fun r w hk => ?_)
      obtain ⟨ho, rfl, rfl⟩ := hk
      refine j_st (st1 := []) rfl ?_
      refine j_iload_n (i := 2) C dX3_put_48 rfl 4 rfl ?_
      refine j_iconst (v := (-1)) C dX3_put_49 (by decide) ?_
      refine j_icmp_eq C 71 dX3_put_50 (by decide) (fun c50 => ?_) (fun c50 => ?_)
      · refine j_aload_n (i := 3) C dX3_put_71 rfl 1 rfl ?_
        refine j_iload_n (i := 2) C dX3_put_72 rfl 4 rfl ?_
        refine j_putN (Cn := RX0) (T := TX0) (N := 6) (ci := 1) (ws2 := WX ct sa ad mcn φ (uR σ (upd (sR σ) (8 * ix x + 2) y)) ++ wr) C iX0 tyX0 tyX0_ok nmX0 rfl (16 + 3 * ix x) (wx_l (by exact hj)).1 3 (by decide) nw120 rfl rfl rfl rfl rfl (Nat.le_of_ble_eq_true rfl) (wx_h2 hj) dX3_put_73 ?_
        refine j_iload C dX3_put_76 0 rfl ?_
        exact j_ireturn C E rfl dX3_put_78 (Nat.le_of_ble_eq_true rfl) (Nat.le_of_ble_eq_true rfl) (kc (by rw [f_put, if_pos ⟨hl, hy⟩, if_neg hne]; refine if_neg ?_; rintro (h | ⟨h1, h2⟩); (exact ho h); first | exact h1 c50 | exact tk_ye (b2i_t c58) h2))
      · refine j_aload_n (i := 0) C dX3_put_53 rfl 2 rfl ?_
        refine j_iload_n (i := 2) C dX3_put_54 rfl 4 rfl ?_
        refine j_callV (nargs := 1) (As := [_]) (Cn := RX3) C (0) rfl rfl rfl gw638 gw640 gw19 gw21 (kX3_takesAnother l D ct sa ad mcn φ σ wr y hi.1.1) gw641 (by decide +kernel) rfl dX3_put_55 ⟨Nat.le_of_ble_eq_true rfl, Nat.le_of_ble_eq_true rfl⟩ ⟨Nat.le_of_ble_eq_true rfl, Nat.le_of_ble_eq_true rfl⟩ (Nat.le_of_ble_eq_true rfl) (dki ?_)
        refine j_if_ne C 71 dX3_put_58 (by decide) (fun c58 => ?_) (fun c58 => ?_)
        · refine j_aload_n (i := 3) C dX3_put_71 rfl 1 rfl ?_
          refine j_iload_n (i := 2) C dX3_put_72 rfl 4 rfl ?_
          refine j_putN (Cn := RX0) (T := TX0) (N := 6) (ci := 1) (ws2 := WX ct sa ad mcn φ (uR σ (upd (sR σ) (8 * ix x + 2) y)) ++ wr) C iX0 tyX0 tyX0_ok nmX0 rfl (16 + 3 * ix x) (wx_l (by exact hj)).1 3 (by decide) nw120 rfl rfl rfl rfl rfl (Nat.le_of_ble_eq_true rfl) (wx_h2 hj) dX3_put_73 ?_
          refine j_iload C dX3_put_76 0 rfl ?_
          exact j_ireturn C E rfl dX3_put_78 (Nat.le_of_ble_eq_true rfl) (Nat.le_of_ble_eq_true rfl) (kc (by rw [f_put, if_pos ⟨hl, hy⟩, if_neg hne]; refine if_neg ?_; rintro (h | ⟨h1, h2⟩); (exact ho h); first | exact h1 c50 | exact tk_ye (b2i_t c58) h2))
        · exact j_throwS C E T0 htr (cls := ISE) (text := "the rack is not open, or full") (names := EXN) rfl (by decide +kernel) exn_fit gw530 gw34 (by decide) at_ISE ok_ISE dX3_put_61 dX3_put_64 dX3_put_65 dX3_put_67 dX3_put_70 (by decide) (Nat.le_of_ble_eq_true rfl) (Nat.le_of_ble_eq_true rfl) (Nat.le_of_ble_eq_true rfl) rfl (kx0 1 rfl (by rw [f_put, if_pos ⟨hl, hy⟩, if_neg hne]; exact if_pos (Or.inr ⟨c50, tk_no (hy.resolve_left c50) (b2i_f c58)⟩)) rfl) (Nat.le_of_ble_eq_true rfl) (Nat.le_of_ble_eq_true rfl)
    · refine j_iload C dX3_put_41 0 rfl ?_
      exact j_ireturn C E rfl dX3_put_43 (Nat.le_of_ble_eq_true rfl) (Nat.le_of_ble_eq_true rfl) (kc (by rw [f_put, if_pos ⟨hl, hy⟩]; exact if_pos c38.symm))
  · refine j_aload_n (i := 0) C dX3_put_11 rfl 1 rfl ?_
    refine j_iload_n (i := 2) C dX3_put_12 rfl 3 rfl ?_
    refine j_callV (nargs := 1) (As := [_]) (Cn := RX3) C (0) rfl rfl rfl gw334 gw336 gw4 gw21 (kX3_isRack l D ct sa ad _ _ _ _ y wx_xb) gw337 (by decide +kernel) rfl dX3_put_13 ⟨Nat.le_of_ble_eq_true rfl, Nat.le_of_ble_eq_true rfl⟩ ⟨Nat.le_of_ble_eq_true rfl, Nat.le_of_ble_eq_true rfl⟩ (Nat.le_of_ble_eq_true rfl) (dki ?_)
    refine j_if_ne C 29 dX3_put_16 (by decide) (fun c16 => ?_) (fun c16 => ?_)
    · have hy : y = -1 ∨ okI 3 y := by first | exact Or.inl c8 | exact Or.inr (b2i_t c16)
      refine j_aload_n (i := 3) C dX3_put_29 rfl 0 rfl ?_
      refine j_getN (Cn := RX0) (T := TX0) (N := 6) (ci := 1) C iX0 rfl (16 + 3 * ix x) (wx_l (by exact hj)).1 3 (by decide) nw120 rfl rfl dX3_put_30 ?_
      refine j_istore (lv' := [(4, .int _), (3, .ref _), (0, .ref _), (1, .int _), (2, .int _)]) C dX3_put_33 (by decide) rfl ?_
      refine j_iload_n (i := 2) C dX3_put_35 rfl 4 rfl ?_
      refine j_iload C dX3_put_36 0 rfl ?_
      refine j_icmp_ne C 44 dX3_put_38 (by decide) (fun c38 => ?_) (fun c38 => ?_)
      · have hne : ¬ sR σ (8 * ix x + 2) = y := fun z => c38 z.symm
        refine j_aload_n (i := 3) C dX3_put_44 rfl 1 rfl ?_
        refine j_callSX (nargs := 1) (As := [_]) C gw609 gw610 gw21 (kX3_requireOpen l htr D ct sa _ (16 + 3 * ix x) _ _ _ _ _ _ _ _ _ (wx_l hj)) gw611 (by decide +kernel) rfl dX3_put_45 ⟨Nat.le_of_ble_eq_true rfl, Nat.le_of_ble_eq_true rfl⟩ ⟨Nat.le_of_ble_eq_true rfl, Nat.le_of_ble_eq_true rfl⟩ (Nat.le_of_ble_eq_true rfl) (fun En hx => jt_out C E T0 rfl (Nat.le_of_ble_eq_true rfl) (Nat.le_of_ble_eq_true rfl) (kx0 1 rfl (by rw [f_put, if_pos ⟨hl, hy⟩, if_neg hne]; exact if_pos (Or.inl (Decidable.not_not.mp hx.1))) hx.2)) (fun r w hk => ?_)
        obtain ⟨ho, rfl, rfl⟩ := hk
        refine j_st (st1 := []) rfl ?_
        refine j_iload_n (i := 2) C dX3_put_48 rfl 4 rfl ?_
        refine j_iconst (v := (-1)) C dX3_put_49 (by decide) ?_
        refine j_icmp_eq C 71 dX3_put_50 (by decide) (fun c50 => ?_) (fun c50 => ?_)
        · refine j_aload_n (i := 3) C dX3_put_71 rfl 1 rfl ?_
          refine j_iload_n (i := 2) C dX3_put_72 rfl 4 rfl ?_
          refine j_putN (Cn := RX0) (T := TX0) (N := 6) (ci := 1) (ws2 := WX ct sa ad mcn φ (uR σ (upd (sR σ) (8 * ix x + 2) y)) ++ wr) C iX0 tyX0 tyX0_ok nmX0 rfl (16 + 3 * ix x) (wx_l (by exact hj)).1 3 (by decide) nw120 rfl rfl rfl rfl rfl (Nat.le_of_ble_eq_true rfl) (wx_h2 hj) dX3_put_73 ?_
          refine j_iload C dX3_put_76 0 rfl ?_
          exact j_ireturn C E rfl dX3_put_78 (Nat.le_of_ble_eq_true rfl) (Nat.le_of_ble_eq_true rfl) (kc (by rw [f_put, if_pos ⟨hl, hy⟩, if_neg hne]; refine if_neg ?_; rintro (h | ⟨h1, h2⟩); (exact ho h); first | exact h1 c50 | exact tk_ye (b2i_t c58) h2))
        · refine j_aload_n (i := 0) C dX3_put_53 rfl 2 rfl ?_
          refine j_iload_n (i := 2) C dX3_put_54 rfl 4 rfl ?_
          refine j_callV (nargs := 1) (As := [_]) (Cn := RX3) C (0) rfl rfl rfl gw638 gw640 gw19 gw21 (kX3_takesAnother l D ct sa ad mcn φ σ wr y hi.1.1) gw641 (by decide +kernel) rfl dX3_put_55 ⟨Nat.le_of_ble_eq_true rfl, Nat.le_of_ble_eq_true rfl⟩ ⟨Nat.le_of_ble_eq_true rfl, Nat.le_of_ble_eq_true rfl⟩ (Nat.le_of_ble_eq_true rfl) (dki ?_)
          refine j_if_ne C 71 dX3_put_58 (by decide) (fun c58 => ?_) (fun c58 => ?_)
          · refine j_aload_n (i := 3) C dX3_put_71 rfl 1 rfl ?_
            refine j_iload_n (i := 2) C dX3_put_72 rfl 4 rfl ?_
            refine j_putN (Cn := RX0) (T := TX0) (N := 6) (ci := 1) (ws2 := WX ct sa ad mcn φ (uR σ (upd (sR σ) (8 * ix x + 2) y)) ++ wr) C iX0 tyX0 tyX0_ok nmX0 rfl (16 + 3 * ix x) (wx_l (by exact hj)).1 3 (by decide) nw120 rfl rfl rfl rfl rfl (Nat.le_of_ble_eq_true rfl) (wx_h2 hj) dX3_put_73 ?_
            refine j_iload C dX3_put_76 0 rfl ?_
            exact j_ireturn C E rfl dX3_put_78 (Nat.le_of_ble_eq_true rfl) (Nat.le_of_ble_eq_true rfl) (kc (by rw [f_put, if_pos ⟨hl, hy⟩, if_neg hne]; refine if_neg ?_; rintro (h | ⟨h1, h2⟩); (exact ho h); first | exact h1 c50 | exact tk_ye (b2i_t c58) h2))
          · exact j_throwS C E T0 htr (cls := ISE) (text := "the rack is not open, or full") (names := EXN) rfl (by decide +kernel) exn_fit gw530 gw34 (by decide) at_ISE ok_ISE dX3_put_61 dX3_put_64 dX3_put_65 dX3_put_67 dX3_put_70 (by decide) (Nat.le_of_ble_eq_true rfl) (Nat.le_of_ble_eq_true rfl) (Nat.le_of_ble_eq_true rfl) rfl (kx0 1 rfl (by rw [f_put, if_pos ⟨hl, hy⟩, if_neg hne]; exact if_pos (Or.inr ⟨c50, tk_no (hy.resolve_left c50) (b2i_f c58)⟩)) rfl) (Nat.le_of_ble_eq_true rfl) (Nat.le_of_ble_eq_true rfl)
      · refine j_iload C dX3_put_41 0 rfl ?_
        exact j_ireturn C E rfl dX3_put_43 (Nat.le_of_ble_eq_true rfl) (Nat.le_of_ble_eq_true rfl) (kc (by rw [f_put, if_pos ⟨hl, hy⟩]; exact if_pos c38.symm))
    · exact j_throwS C E T0 htr (cls := IOO) (text := "no such rack") (names := EXN) rfl (by decide +kernel) exn_fit gw169 gw39 (by decide) at_IOO ok_IOO dX3_put_19 dX3_put_22 dX3_put_23 dX3_put_25 dX3_put_28 (by decide) (Nat.le_of_ble_eq_true rfl) (Nat.le_of_ble_eq_true rfl) (Nat.le_of_ble_eq_true rfl) rfl (kx0 0 rfl (by rw [f_put]; exact if_neg (fun z => z.2.elim c8 (b2i_f c16))) rfl) (Nat.le_of_ble_eq_true rfl) (Nat.le_of_ble_eq_true rfl)
set_option maxRecDepth 100000 in
set_option maxHeartbeats 4000000 in
theorem kX3_told (l : Launch) (htr : l.stackTraces = false) (D : va_G) (ct : Nat → ClassId) (sa : Nat → Nat) (ad : Nat → Nat) (mcn : Int32) (φ : LD) (σ : St) (wr : va_W) (x y : Int32) (hi : Inv1 σ) : jMX l yX3_told (Cond.code yX3_told cX3_told 4 (Option.some Jvm.ClassFile.FieldType.int) :: GW) (rM 7 3 18 111) D ct sa [.ref (ad 0), .int x, .int y] (WX ct sa ad mcn φ σ ++ wr) (kR (f_told σ x y) (WX ct sa ad mcn φ σ ++ wr)) (kxF (f_told σ x y) [IOO]) 3 18 := by
  refine jBody (own := RX3) (by decide) rfl rfl (Nat.le_of_ble_eq_true rfl) ?_
  intro X C E T0
  refine j_lv (lv1 := [(0, .ref _), (1, .int _), (2, .int _)]) rfl ?_
  refine j_aload_n (i := 0) C dX3_told_0 rfl 0 rfl ?_
  refine j_iload_n (i := 1) C dX3_told_1 rfl 1 rfl ?_
  refine j_callVX (nargs := 1) (As := [_]) (Cn := RX3) C (0) rfl rfl rfl gw161 gw163 gw0 gw21 (kX3_lockAt l htr D ct sa ad mcn φ σ wr x hi.1.1) gw164 (by decide +kernel) rfl dX3_told_2 ⟨Nat.le_of_ble_eq_true rfl, Nat.le_of_ble_eq_true rfl⟩ ⟨Nat.le_of_ble_eq_true rfl, Nat.le_of_ble_eq_true rfl⟩ (Nat.le_of_ble_eq_true rfl) (fun En hx => jt_out C E T0 rfl (Nat.le_of_ble_eq_true rfl) (Nat.le_of_ble_eq_true rfl) (kx0 0 rfl (by rw [f_told]; exact if_neg (fun z => hx.1 z.1)) hx.2)) (fun r w hk => ?_)
  obtain ⟨hl, rfl, rfl⟩ := hk
  obtain ⟨hn0, hj, e_x⟩ := okI_pos (by have := hi.1.1; omega) hl
  refine j_st (st1 := .ref (ad (20 + 3 * ix x)) :: _) rfl ?_
  refine j_astore_n (lv' := [(3, .ref _), (0, .ref _), (1, .int _), (2, .int _)]) C dX3_told_5 rfl (by decide) rfl ?_
  refine j_iload_n (i := 2) C dX3_told_6 rfl 3 rfl ?_
  rcases sw6 y with ⟨hw, hw2⟩ | rfl | rfl | rfl | rfl | rfl | rfl
  · refine j_tsOut (tgt := 101) C dX3_told_7 (hw2) (by decide) ?_
    exact j_throwS C E T0 htr (cls := IOO) (text := "what is 0 to 5") (names := EXN) rfl (by decide +kernel) exn_fit gw169 gw39 (by decide) at_IOO ok_IOO dX3_told_101 dX3_told_104 dX3_told_105 dX3_told_107 dX3_told_110 (by decide) (Nat.le_of_ble_eq_true rfl) (Nat.le_of_ble_eq_true rfl) (Nat.le_of_ble_eq_true rfl) rfl (kx0 0 rfl (by rw [f_told]; exact if_neg (fun z => hw z.2)) rfl) (Nat.le_of_ble_eq_true rfl) (Nat.le_of_ble_eq_true rfl)
  · refine j_tsIn (tgt := 44) C dX3_told_7 (by decide) (by decide) rfl (by decide) ?_
    refine j_aload_n (i := 3) C dX3_told_44 rfl 0 rfl ?_
    refine j_callV (nargs := 0) (As := []) (Cn := RX0) C (16 + 3 * ix x) (wx_l (by exact hj)).1 rfl rfl gw299 gw300 gw301 gw27 (kX0_standing l D ct sa _ (16 + 3 * ix x) _ _ _ _ _ _ _ _ _ (wx_l (by exact hj))) gw302 (by decide +kernel) rfl dX3_told_45 ⟨Nat.le_of_ble_eq_true rfl, Nat.le_of_ble_eq_true rfl⟩ ⟨Nat.le_of_ble_eq_true rfl, Nat.le_of_ble_eq_true rfl⟩ (Nat.le_of_ble_eq_true rfl) (dki ?_)
    exact j_ireturn C E rfl dX3_told_48 (Nat.le_of_ble_eq_true rfl) (Nat.le_of_ble_eq_true rfl) (kr (told_k hl 0 (by decide) (st_l σ (ix x)).symm))
  · refine j_tsIn (tgt := 49) C dX3_told_7 (by decide) (by decide) rfl (by decide) ?_
    refine j_aload_n (i := 3) C dX3_told_49 rfl 0 rfl ?_
    refine j_getN (Cn := RX0) (T := TX0) (N := 6) (ci := 1) C iX0 rfl (16 + 3 * ix x) (wx_l (by exact hj)).1 4 (by decide) nw122 rfl rfl dX3_told_50 ?_
    refine j_if_eq C 60 dX3_told_53 (by decide) (fun c53 => ?_) (fun c53 => ?_)
    · refine j_iconst (v := nI 0) C dX3_told_60 (by decide) ?_
      exact j_ireturn C E rfl dX3_told_61 (Nat.le_of_ble_eq_true rfl) (Nat.le_of_ble_eq_true rfl) (kr (told_k hl 1 (by decide) (by first | exact c53 | exact (hi.2.1 _ (by have := hi.1.1; omega)).1.resolve_left c53)))
    · refine j_iconst (v := nI 1) C dX3_told_56 (by decide) ?_
      refine j_goto C 61 dX3_told_57 (by decide) ?_
      exact j_ireturn C E rfl dX3_told_61 (Nat.le_of_ble_eq_true rfl) (Nat.le_of_ble_eq_true rfl) (kr (told_k hl 1 (by decide) (by first | exact c53 | exact (hi.2.1 _ (by have := hi.1.1; omega)).1.resolve_left c53)))
  · refine j_tsIn (tgt := 62) C dX3_told_7 (by decide) (by decide) rfl (by decide) ?_
    refine j_aload_n (i := 3) C dX3_told_62 rfl 0 rfl ?_
    refine j_getN (Cn := RX0) (T := TX0) (N := 6) (ci := 1) C iX0 rfl (16 + 3 * ix x) (wx_l (by exact hj)).1 3 (by decide) nw120 rfl rfl dX3_told_63 ?_
    exact j_ireturn C E rfl dX3_told_66 (Nat.le_of_ble_eq_true rfl) (Nat.le_of_ble_eq_true rfl) (kr (told_k hl 2 (by decide) rfl))
  · refine j_tsIn (tgt := 67) C dX3_told_7 (by decide) (by decide) rfl (by decide) ?_
    refine j_aload_n (i := 3) C dX3_told_67 rfl 0 rfl ?_
    refine j_getN (Cn := RX0) (T := TX0) (N := 6) (ci := 1) C iX0 rfl (16 + 3 * ix x) (wx_l (by exact hj)).1 5 (by decide) nw124 rfl rfl dX3_told_68 ?_
    refine j_if_eq C 78 dX3_told_71 (by decide) (fun c71 => ?_) (fun c71 => ?_)
    · refine j_iconst (v := nI 0) C dX3_told_78 (by decide) ?_
      exact j_ireturn C E rfl dX3_told_79 (Nat.le_of_ble_eq_true rfl) (Nat.le_of_ble_eq_true rfl) (kr (told_k hl 3 (by decide) (by first | exact c71 | exact (hi.2.1 _ (by have := hi.1.1; omega)).2.resolve_left c71)))
    · refine j_iconst (v := nI 1) C dX3_told_74 (by decide) ?_
      refine j_goto C 79 dX3_told_75 (by decide) ?_
      exact j_ireturn C E rfl dX3_told_79 (Nat.le_of_ble_eq_true rfl) (Nat.le_of_ble_eq_true rfl) (kr (told_k hl 3 (by decide) (by first | exact c71 | exact (hi.2.1 _ (by have := hi.1.1; omega)).2.resolve_left c71)))
  · refine j_tsIn (tgt := 80) C dX3_told_7 (by decide) (by decide) rfl (by decide) ?_
    refine j_aload_n (i := 3) C dX3_told_80 rfl 0 rfl ?_
    refine j_callV (nargs := 0) (As := []) (Cn := RX0) C (16 + 3 * ix x) (wx_l (by exact hj)).1 rfl rfl gw307 gw308 gw309 gw27 (kX0_showing l D ct sa _ (16 + 3 * ix x) _ _ _ _ _ _ _ _ _ (wx_l (by exact hj))) gw310 (by decide +kernel) rfl dX3_told_81 ⟨Nat.le_of_ble_eq_true rfl, Nat.le_of_ble_eq_true rfl⟩ ⟨Nat.le_of_ble_eq_true rfl, Nat.le_of_ble_eq_true rfl⟩ (Nat.le_of_ble_eq_true rfl) (dki ?_)
    exact j_ireturn C E rfl dX3_told_84 (Nat.le_of_ble_eq_true rfl) (Nat.le_of_ble_eq_true rfl) (kr (told_k hl 4 (by decide) (sh_l σ (ix x)).symm))
  · refine j_tsIn (tgt := 85) C dX3_told_7 (by decide) (by decide) rfl (by decide) ?_
    refine j_aload_n (i := 3) C dX3_told_85 rfl 0 rfl ?_
    refine j_getN (Cn := RX0) (T := TX0) (N := 6) (ci := 1) C iX0 rfl (16 + 3 * ix x) (wx_l (by exact hj)).1 5 (by decide) nw124 rfl rfl dX3_told_86 ?_
    refine j_if_eq C 96 dX3_told_89 (by decide) (fun c89 => ?_) (fun c89 => ?_)
    · refine j_aload_n (i := 3) C dX3_told_96 rfl 0 rfl ?_
      refine j_getN (Cn := RX0) (T := TX0) (N := 6) (ci := 1) C iX0 rfl (16 + 3 * ix x) (wx_l (by exact hj)).1 2 (by decide) nw118 rfl rfl dX3_told_97 ?_
      exact j_ireturn C E rfl dX3_told_100 (Nat.le_of_ble_eq_true rfl) (Nat.le_of_ble_eq_true rfl) (kr (told_k hl 5 (by decide) (by show (if _ then _ else _) = _; first | exact if_neg (b_no c89) | exact if_pos ((hi.2.1 _ (by have := hi.1.1; omega)).2.resolve_left c89))))
    · refine j_iconst (v := (-1)) C dX3_told_92 (by decide) ?_
      refine j_goto C 100 dX3_told_93 (by decide) ?_
      exact j_ireturn C E rfl dX3_told_100 (Nat.le_of_ble_eq_true rfl) (Nat.le_of_ble_eq_true rfl) (kr (told_k hl 5 (by decide) (by show (if _ then _ else _) = _; first | exact if_neg (b_no c89) | exact if_pos ((hi.2.1 _ (by have := hi.1.1; omega)).2.resolve_left c89))))
set_option maxRecDepth 100000 in
set_option maxHeartbeats 4000000 in
theorem kX3_wear (l : Launch) (htr : l.stackTraces = false) (D : va_G) (ct : Nat → ClassId) (sa : Nat → Nat) (ad : Nat → Nat) (mcn : Int32) (φ : LD) (σ : St) (wr : va_W) (x y z : Int32) (hi : Inv1 σ) : jMX l yX3_wear (Cond.code yX3_wear cX3_wear 5 (Option.some Jvm.ClassFile.FieldType.int) :: GW) (rM 7 3 18 111) D ct sa [.ref (ad 0), .int x, .int y, .int z] (WX ct sa ad mcn φ σ ++ wr) (kR (f_wear σ x y z) (WX ct sa ad mcn φ σ ++ wr)) (kxF (f_wear σ x y z) [IOO]) 3 18 := by
  refine jBody (own := RX3) (by decide) rfl rfl (Nat.le_of_ble_eq_true rfl) ?_
  intro X C E T0
  refine j_lv (lv1 := [(0, .ref _), (1, .int _), (2, .int _), (3, .int _)]) rfl ?_
  refine j_aload_n (i := 0) C dX3_wear_0 rfl 0 rfl ?_
  refine j_iload_n (i := 1) C dX3_wear_1 rfl 1 rfl ?_
  refine j_callVX (nargs := 1) (As := [_]) (Cn := RX3) C (0) rfl rfl rfl gw161 gw163 gw0 gw21 (kX3_lockAt l htr D ct sa ad mcn φ σ wr x hi.1.1) gw164 (by decide +kernel) rfl dX3_wear_2 ⟨Nat.le_of_ble_eq_true rfl, Nat.le_of_ble_eq_true rfl⟩ ⟨Nat.le_of_ble_eq_true rfl, Nat.le_of_ble_eq_true rfl⟩ (Nat.le_of_ble_eq_true rfl) (fun En hx => jt_out C E T0 rfl (Nat.le_of_ble_eq_true rfl) (Nat.le_of_ble_eq_true rfl) (kx0 0 rfl (by rw [f_wear]; exact if_neg (fun z => hx.1 z.1)) hx.2)) (fun r w hk => ?_)
  obtain ⟨hl, rfl, rfl⟩ := hk
  obtain ⟨hn0, hj, e_x⟩ := okI_pos (by have := hi.1.1; omega) hl
  refine j_st (st1 := .ref (ad (20 + 3 * ix x)) :: _) rfl ?_
  refine j_astore (lv' := [(4, .ref _), (0, .ref _), (1, .int _), (2, .int _), (3, .int _)]) C dX3_wear_5 (by decide) rfl ?_
  refine j_iload_n (i := 2) C dX3_wear_7 rfl 3 rfl ?_
  refine j_callSX (nargs := 1) (As := [_]) C gw251 gw252 gw21 (kX3_requireRing l htr D ct sa _ y) gw253 (by decide +kernel) rfl dX3_wear_8 ⟨Nat.le_of_ble_eq_true rfl, Nat.le_of_ble_eq_true rfl⟩ ⟨Nat.le_of_ble_eq_true rfl, Nat.le_of_ble_eq_true rfl⟩ (Nat.le_of_ble_eq_true rfl) (fun En hx => jt_out C E T0 rfl (Nat.le_of_ble_eq_true rfl) (Nat.le_of_ble_eq_true rfl) (kx0 0 rfl (by rw [f_wear]; exact if_neg (fun z => hx.1 z.2.1)) hx.2)) (fun r w hk => ?_)
  obtain ⟨hy, rfl, rfl⟩ := hk
  obtain ⟨hy4, e_y⟩ := okI_ix hy (by decide)
  refine j_st (st1 := []) rfl ?_
  refine j_iload_n (i := 3) C dX3_wear_11 rfl 4 rfl ?_
  refine j_callS (nargs := 1) (As := [_]) C gw258 gw259 gw21 (kX3_isLetter l D ct sa _ z) gw260 (by decide +kernel) rfl dX3_wear_12 ⟨Nat.le_of_ble_eq_true rfl, Nat.le_of_ble_eq_true rfl⟩ ⟨Nat.le_of_ble_eq_true rfl, Nat.le_of_ble_eq_true rfl⟩ (Nat.le_of_ble_eq_true rfl) (dki ?_)
  refine j_if_ne C 28 dX3_wear_15 (by decide) (fun c15 => ?_) (fun c15 => ?_)
  · have hz := b2i_t c15
    obtain ⟨hz6, e_z⟩ := okI_ix hz (by decide)
    refine j_aload C dX3_wear_28 0 rfl ?_
    refine j_iload_n (i := 2) C dX3_wear_30 rfl 3 rfl ?_
    refine j_iload_n (i := 3) C dX3_wear_31 rfl 4 rfl ?_
    refine j_callV (nargs := 2) (As := [_, _]) (Cn := RX0) C (16 + 3 * ix x) (wx_l (by exact hj)).1 rfl rfl gw325 gw316 gw317 gw27 (kX0_wearAt l D ct sa _ (16 + 3 * ix x) _ _ _ _ _ _ _ _ _ _ _ (ix y) (ix z) (wx_l hj) e_y e_z hy4 hz6) gw318 (by decide +kernel) rfl dX3_wear_32 ⟨Nat.le_of_ble_eq_true rfl, Nat.le_of_ble_eq_true rfl⟩ ⟨Nat.le_of_ble_eq_true rfl, Nat.le_of_ble_eq_true rfl⟩ (Nat.le_of_ble_eq_true rfl) (dki ?_)
    exact j_ireturn C E rfl dX3_wear_35 (Nat.le_of_ble_eq_true rfl) (Nat.le_of_ble_eq_true rfl) (kr (by rw [f_wear, if_pos ⟨hl, hy, hz⟩]; exact congrArg (fun v => (nI 0, v, σ)) (lw_q σ (ix x) hy4 hz6).symm))
  · exact j_throwS C E T0 htr (cls := IOO) (text := "no such letter") (names := EXN) rfl (by decide +kernel) exn_fit gw169 gw39 (by decide) at_IOO ok_IOO dX3_wear_18 dX3_wear_21 dX3_wear_22 dX3_wear_24 dX3_wear_27 (by decide) (Nat.le_of_ble_eq_true rfl) (Nat.le_of_ble_eq_true rfl) (Nat.le_of_ble_eq_true rfl) rfl (kx0 0 rfl (by rw [f_wear]; exact if_neg (fun z => b2i_f c15 z.2.2)) rfl) (Nat.le_of_ble_eq_true rfl) (Nat.le_of_ble_eq_true rfl)
set_option maxRecDepth 100000 in
set_option maxHeartbeats 4000000 in
theorem kX3_rack (l : Launch) (htr : l.stackTraces = false) (D : va_G) (ct : Nat → ClassId) (sa : Nat → Nat) (ad : Nat → Nat) (mcn : Int32) (φ : LD) (σ : St) (wr : va_W) (x y : Int32) (hi : Inv1 σ) : jMX l yX3_rack (Cond.code yX3_rack cX3_rack 4 (Option.some Jvm.ClassFile.FieldType.int) :: GW) (rM 7 3 18 111) D ct sa [.ref (ad 0), .int x, .int y] (WX ct sa ad mcn φ σ ++ wr) (kR (f_rack σ x y) (WX ct sa ad mcn φ σ ++ wr)) (kxF (f_rack σ x y) [IOO]) 3 18 := by
  refine jBody (own := RX3) (by decide) rfl rfl (Nat.le_of_ble_eq_true rfl) ?_
  intro X C E T0
  refine j_lv (lv1 := [(0, .ref _), (1, .int _), (2, .int _)]) rfl ?_
  refine j_aload_n (i := 0) C dX3_rack_0 rfl 0 rfl ?_
  refine j_iload_n (i := 1) C dX3_rack_1 rfl 1 rfl ?_
  refine j_callVX (nargs := 1) (As := [_]) (Cn := RX3) C (0) rfl rfl rfl gw330 gw332 gw3 gw21 (kX3_rackAt l htr D ct sa ad _ _ _ _ x wx_xb) gw333 (by decide +kernel) rfl dX3_rack_2 ⟨Nat.le_of_ble_eq_true rfl, Nat.le_of_ble_eq_true rfl⟩ ⟨Nat.le_of_ble_eq_true rfl, Nat.le_of_ble_eq_true rfl⟩ (Nat.le_of_ble_eq_true rfl) (fun En hx => jt_out C E T0 rfl (Nat.le_of_ble_eq_true rfl) (Nat.le_of_ble_eq_true rfl) (kx0 0 rfl (by rw [f_rack]; exact if_neg (fun z => hx.1 z.1)) hx.2)) (fun r w hk => ?_)
  obtain ⟨hl, rfl, rfl⟩ := hk
  obtain ⟨hr, e_x⟩ := okI_ix hl (by decide)
  refine j_st (st1 := .ref (ad (4 + ix x)) :: _) rfl ?_
  refine j_astore_n (lv' := [(3, .ref _), (0, .ref _), (1, .int _), (2, .int _)]) C dX3_rack_5 rfl (by decide) rfl ?_
  refine j_iload_n (i := 2) C dX3_rack_6 rfl 3 rfl ?_
  rcases sw6 y with ⟨hw, hw2⟩ | rfl | rfl | rfl | rfl | rfl | rfl
  · refine j_tsOut (tgt := 88) C dX3_rack_7 (hw2) (by decide) ?_
    exact j_throwS C E T0 htr (cls := IOO) (text := "what is 0 to 5") (names := EXN) rfl (by decide +kernel) exn_fit gw169 gw39 (by decide) at_IOO ok_IOO dX3_rack_88 dX3_rack_91 dX3_rack_92 dX3_rack_94 dX3_rack_97 (by decide) (Nat.le_of_ble_eq_true rfl) (Nat.le_of_ble_eq_true rfl) (Nat.le_of_ble_eq_true rfl) rfl (kx0 0 rfl (by rw [f_rack]; exact if_neg (fun z => hw z.2)) rfl) (Nat.le_of_ble_eq_true rfl) (Nat.le_of_ble_eq_true rfl)
  · refine j_tsIn (tgt := 44) C dX3_rack_7 (by decide) (by decide) rfl (by decide) ?_
    refine j_aload_n (i := 3) C dX3_rack_44 rfl 0 rfl ?_
    refine j_getN (Cn := RX1) (T := TX1) (N := 3) (ci := 2) C iX1 rfl (3 + ix x) (wx_rk hr) 0 (by decide) nw84 rfl rfl dX3_rack_45 ?_
    exact j_ireturn C E rfl dX3_rack_48 (Nat.le_of_ble_eq_true rfl) (Nat.le_of_ble_eq_true rfl) (kr (rack_k hl 0 (by decide) rfl))
  · refine j_tsIn (tgt := 49) C dX3_rack_7 (by decide) (by decide) rfl (by decide) ?_
    refine j_aload_n (i := 0) C dX3_rack_49 rfl 1 rfl ?_
    refine j_iload_n (i := 1) C dX3_rack_50 rfl 2 rfl ?_
    refine j_callV (nargs := 1) (As := [_]) (Cn := RX3) C (0) rfl rfl rfl gw339 gw341 gw5 gw21 (kX3_locksIn l D ct sa ad mcn φ σ wr x hi.1.1) gw342 (by decide +kernel) rfl dX3_rack_51 ⟨Nat.le_of_ble_eq_true rfl, Nat.le_of_ble_eq_true rfl⟩ ⟨Nat.le_of_ble_eq_true rfl, Nat.le_of_ble_eq_true rfl⟩ (Nat.le_of_ble_eq_true rfl) (dki ?_)
    exact j_ireturn C E rfl dX3_rack_54 (Nat.le_of_ble_eq_true rfl) (Nat.le_of_ble_eq_true rfl) (kr (rack_k hl 1 (by decide) (congrArg (inF σ) e_x.symm)))
  · refine j_tsIn (tgt := 55) C dX3_rack_7 (by decide) (by decide) rfl (by decide) ?_
    refine j_aload_n (i := 3) C dX3_rack_55 rfl 0 rfl ?_
    refine j_aload_n (i := 0) C dX3_rack_56 rfl 1 rfl ?_
    refine j_get (Cn := RX3) (T := TX3) (N := 6) (ci := 4) C iX3 rfl (0) rfl 4 (by decide) gw142 rfl rfl dX3_rack_57 ?_
    refine j_callV (nargs := 1) (As := [_]) (Cn := RX1) C (3 + ix x) (wx_rk hr) rfl rfl gw343 gw344 gw345 gw25 (kX1_isOpenIn l D ct sa _ (3 + ix x) _ _ _ _ _ (wx_rk hr)) gw346 (by decide +kernel) rfl dX3_rack_60 ⟨Nat.le_of_ble_eq_true rfl, Nat.le_of_ble_eq_true rfl⟩ ⟨Nat.le_of_ble_eq_true rfl, Nat.le_of_ble_eq_true rfl⟩ (Nat.le_of_ble_eq_true rfl) (dki ?_)
    refine j_if_eq C 70 dX3_rack_63 (by decide) (fun c63 => ?_) (fun c63 => ?_)
    · refine j_iconst (v := nI 0) C dX3_rack_70 (by decide) ?_
      exact j_ireturn C E rfl dX3_rack_71 (Nat.le_of_ble_eq_true rfl) (Nat.le_of_ble_eq_true rfl) (kr (rack_k hl 2 (by decide) (by first | exact b2i_n (b2i_f c63) | exact b2i_y (b2i_t c63))))
    · refine j_iconst (v := nI 1) C dX3_rack_66 (by decide) ?_
      refine j_goto C 71 dX3_rack_67 (by decide) ?_
      exact j_ireturn C E rfl dX3_rack_71 (Nat.le_of_ble_eq_true rfl) (Nat.le_of_ble_eq_true rfl) (kr (rack_k hl 2 (by decide) (by first | exact b2i_n (b2i_f c63) | exact b2i_y (b2i_t c63))))
  · refine j_tsIn (tgt := 72) C dX3_rack_7 (by decide) (by decide) rfl (by decide) ?_
    refine j_aload_n (i := 0) C dX3_rack_72 rfl 1 rfl ?_
    refine j_iload_n (i := 1) C dX3_rack_73 rfl 2 rfl ?_
    refine j_callV (nargs := 1) (As := [_]) (Cn := RX3) C (0) rfl rfl rfl gw347 gw349 gw6 gw21 (kX3_openLocksIn l D ct sa ad mcn φ σ wr x hi.1.1) gw350 (by decide +kernel) rfl dX3_rack_74 ⟨Nat.le_of_ble_eq_true rfl, Nat.le_of_ble_eq_true rfl⟩ ⟨Nat.le_of_ble_eq_true rfl, Nat.le_of_ble_eq_true rfl⟩ (Nat.le_of_ble_eq_true rfl) (dki ?_)
    exact j_ireturn C E rfl dX3_rack_77 (Nat.le_of_ble_eq_true rfl) (Nat.le_of_ble_eq_true rfl) (kr (rack_k hl 3 (by decide) ((congrArg (fun r => sumF (fun i => if sR σ (8 * i + 2) = r then sR σ (8 * i + 1) else nI 0) (sN σ)) e_x.symm).trans (s_oin hi x).symm)))
  · refine j_tsIn (tgt := 78) C dX3_rack_7 (by decide) (by decide) rfl (by decide) ?_
    refine j_aload_n (i := 3) C dX3_rack_78 rfl 0 rfl ?_
    refine j_getN (Cn := RX1) (T := TX1) (N := 3) (ci := 2) C iX1 rfl (3 + ix x) (wx_rk hr) 1 (by decide) nw86 rfl rfl dX3_rack_79 ?_
    exact j_ireturn C E rfl dX3_rack_82 (Nat.le_of_ble_eq_true rfl) (Nat.le_of_ble_eq_true rfl) (kr (rack_k hl 4 (by decide) rfl))
  · refine j_tsIn (tgt := 83) C dX3_rack_7 (by decide) (by decide) rfl (by decide) ?_
    refine j_aload_n (i := 3) C dX3_rack_83 rfl 0 rfl ?_
    refine j_getN (Cn := RX1) (T := TX1) (N := 3) (ci := 2) C iX1 rfl (3 + ix x) (wx_rk hr) 2 (by decide) nw88 rfl rfl dX3_rack_84 ?_
    exact j_ireturn C E rfl dX3_rack_87 (Nat.le_of_ble_eq_true rfl) (Nat.le_of_ble_eq_true rfl) (kr (rack_k hl 5 (by decide) rfl))
set_option maxRecDepth 100000 in
set_option maxHeartbeats 4000000 in
theorem kX3_count (l : Launch) (htr : l.stackTraces = false) (D : va_G) (ct : Nat → ClassId) (sa : Nat → Nat) (ad : Nat → Nat) (mcn : Int32) (φ : LD) (σ : St) (wr : va_W) (x : Int32) (hi : Inv1 σ) : jMX l yX3_count (Cond.code yX3_count cX3_count 2 (Option.some Jvm.ClassFile.FieldType.int) :: GW) (rM 6 1 6 107) D ct sa [.ref (ad 0), .int x] (WX ct sa ad mcn φ σ ++ wr) (kR (f_count σ x) (WX ct sa ad mcn φ σ ++ wr)) (kxF (f_count σ x) [IOO]) 1 6 := by
  refine jBody (own := RX3) (by decide) rfl rfl (Nat.le_of_ble_eq_true rfl) ?_
  intro X C E T0
  refine j_lv (lv1 := [(0, .ref _), (1, .int _)]) rfl ?_
  refine j_iload_n (i := 1) C dX3_count_0 rfl 1 rfl ?_
  rcases sw7 x with ⟨hw, hw2⟩ | rfl | rfl | rfl | rfl | rfl | rfl | rfl
  · refine j_tsOut (tgt := 82) C dX3_count_1 (hw2) (by decide) ?_
    exact j_throwS C E T0 htr (cls := IOO) (text := "what is 0 to 6") (names := EXN) rfl (by decide +kernel) exn_fit gw169 gw39 (by decide) at_IOO ok_IOO dX3_count_82 dX3_count_85 dX3_count_86 dX3_count_88 dX3_count_91 (by decide) (Nat.le_of_ble_eq_true rfl) (Nat.le_of_ble_eq_true rfl) (Nat.le_of_ble_eq_true rfl) rfl (kx0 0 rfl (by rw [f_count]; exact if_neg hw) rfl) (Nat.le_of_ble_eq_true rfl) (Nat.le_of_ble_eq_true rfl)
  · refine j_tsIn (tgt := 44) C dX3_count_1 (by decide) (by decide) rfl (by decide) ?_
    refine j_aload_n (i := 0) C dX3_count_44 rfl 0 rfl ?_
    refine j_get (Cn := RX3) (T := TX3) (N := 6) (ci := 4) C iX3 rfl (0) rfl 4 (by decide) gw142 rfl rfl dX3_count_45 ?_
    exact j_ireturn C E rfl dX3_count_48 (Nat.le_of_ble_eq_true rfl) (Nat.le_of_ble_eq_true rfl) (kr (count_k 0 (by decide) rfl))
  · refine j_tsIn (tgt := 49) C dX3_count_1 (by decide) (by decide) rfl (by decide) ?_
    refine j_aload_n (i := 0) C dX3_count_49 rfl 0 rfl ?_
    refine j_get (Cn := RX3) (T := TX3) (N := 6) (ci := 4) C iX3 rfl (0) rfl 0 (by decide) gw138 rfl rfl dX3_count_50 ?_
    refine j_callV (nargs := 0) (As := []) (Cn := RJx4a65c) C (1) wx_li rfl rfl gw165 gw166 gw167 gw24 (kJx4a65c_size_8abf5 l D ct sa _ 1 (ad 1) mcn _ (sN σ) wx_li) gw168 (by decide +kernel) rfl dX3_count_53 ⟨Nat.le_of_ble_eq_true rfl, Nat.le_of_ble_eq_true rfl⟩ ⟨Nat.le_of_ble_eq_true rfl, Nat.le_of_ble_eq_true rfl⟩ (Nat.le_of_ble_eq_true rfl) (dki ?_)
    exact j_ireturn C E rfl dX3_count_56 (Nat.le_of_ble_eq_true rfl) (Nat.le_of_ble_eq_true rfl) (kr (count_k 1 (by decide) rfl))
  · refine j_tsIn (tgt := 57) C dX3_count_1 (by decide) (by decide) rfl (by decide) ?_
    refine j_aload_n (i := 0) C dX3_count_57 rfl 0 rfl ?_
    refine j_callV (nargs := 0) (As := []) (Cn := RX3) C (0) rfl rfl rfl gw355 gw357 gw7 gw21 (kX3_openLocks l D ct sa ad mcn φ σ wr hi.1.1) gw358 (by decide +kernel) rfl dX3_count_58 ⟨Nat.le_of_ble_eq_true rfl, Nat.le_of_ble_eq_true rfl⟩ ⟨Nat.le_of_ble_eq_true rfl, Nat.le_of_ble_eq_true rfl⟩ (Nat.le_of_ble_eq_true rfl) (dki ?_)
    exact j_ireturn C E rfl dX3_count_61 (Nat.le_of_ble_eq_true rfl) (Nat.le_of_ble_eq_true rfl) (kr (count_k 2 (by decide) (s_open hi).symm))
  · refine j_tsIn (tgt := 62) C dX3_count_1 (by decide) (by decide) rfl (by decide) ?_
    refine j_aload_n (i := 0) C dX3_count_62 rfl 0 rfl ?_
    refine j_callV (nargs := 0) (As := []) (Cn := RX3) C (0) rfl rfl rfl gw359 gw361 gw8 gw21 (kX3_lostWords l D ct sa ad mcn φ σ wr hi.1.1) gw362 (by decide +kernel) rfl dX3_count_63 ⟨Nat.le_of_ble_eq_true rfl, Nat.le_of_ble_eq_true rfl⟩ ⟨Nat.le_of_ble_eq_true rfl, Nat.le_of_ble_eq_true rfl⟩ (Nat.le_of_ble_eq_true rfl) (dki ?_)
    exact j_ireturn C E rfl dX3_count_66 (Nat.le_of_ble_eq_true rfl) (Nat.le_of_ble_eq_true rfl) (kr (count_k 3 (by decide) (s_lost hi).symm))
  · refine j_tsIn (tgt := 67) C dX3_count_1 (by decide) (by decide) rfl (by decide) ?_
    refine j_aload_n (i := 0) C dX3_count_67 rfl 0 rfl ?_
    refine j_callV (nargs := 0) (As := []) (Cn := RX3) C (0) rfl rfl rfl gw363 gw365 gw9 gw21 (kX3_allWear l D ct sa ad mcn φ σ wr hi.1.1) gw366 (by decide +kernel) rfl dX3_count_68 ⟨Nat.le_of_ble_eq_true rfl, Nat.le_of_ble_eq_true rfl⟩ ⟨Nat.le_of_ble_eq_true rfl, Nat.le_of_ble_eq_true rfl⟩ (Nat.le_of_ble_eq_true rfl) (dki ?_)
    exact j_ireturn C E rfl dX3_count_71 (Nat.le_of_ble_eq_true rfl) (Nat.le_of_ble_eq_true rfl) (kr (count_k 4 (by decide) (s_wear hi).symm))
  · refine j_tsIn (tgt := 72) C dX3_count_1 (by decide) (by decide) rfl (by decide) ?_
    refine j_aload_n (i := 0) C dX3_count_72 rfl 0 rfl ?_
    refine j_get (Cn := RX3) (T := TX3) (N := 6) (ci := 4) C iX3 rfl (0) rfl 5 (by decide) gw143 rfl rfl dX3_count_73 ?_
    exact j_ireturn C E rfl dX3_count_76 (Nat.le_of_ble_eq_true rfl) (Nat.le_of_ble_eq_true rfl) (kr (count_k 5 (by decide) rfl))
  · refine j_tsIn (tgt := 77) C dX3_count_1 (by decide) (by decide) rfl (by decide) ?_
    refine j_aload_n (i := 0) C dX3_count_77 rfl 0 rfl ?_
    refine j_callV (nargs := 0) (As := []) (Cn := RX3) C (0) rfl rfl rfl gw371 gw373 gw10 gw21 (kX3_locksInRacks l D ct sa ad mcn φ σ wr hi.1.1) gw374 (by decide +kernel) rfl dX3_count_78 ⟨Nat.le_of_ble_eq_true rfl, Nat.le_of_ble_eq_true rfl⟩ ⟨Nat.le_of_ble_eq_true rfl, Nat.le_of_ble_eq_true rfl⟩ (Nat.le_of_ble_eq_true rfl) (dki ?_)
    exact j_ireturn C E rfl dX3_count_81 (Nat.le_of_ble_eq_true rfl) (Nat.le_of_ble_eq_true rfl) (kr (count_k 6 (by decide) (s_in hi).symm))
