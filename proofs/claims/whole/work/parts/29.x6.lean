set_option maxRecDepth 100000 in
set_option maxHeartbeats 4000000 in
theorem kX3_apart (l : Launch) (htr : l.stackTraces = false) (D : va_G) (ct : Nat → ClassId) (sa : Nat → Nat) (ad : Nat → Nat) (mcn : Int32) (φ : LD) (σ : St) (wr : va_W) (x y : Int32) (hi : Inv1 σ) : jMX l yX3_apart (Cond.code yX3_apart cX3_apart 5 (Option.some Jvm.ClassFile.FieldType.int) :: GW) (rM 7 2 12 110) D ct sa [.ref (ad 0), .int x, .int y] (WX ct sa ad mcn φ σ ++ wr) (kR (f_apart σ x y) (WX ct sa ad mcn φ σ ++ wr)) (kxF (f_apart σ x y) [IAE]) 2 12 := by
  refine jBody (own := RX3) (by decide) rfl rfl (Nat.le_of_ble_eq_true rfl) ?_
  intro X C E T0
  refine j_lv (lv1 := [(0, .ref _), (1, .int _), (2, .int _)]) rfl ?_
  refine j_iload_n (i := 1) C dX3_apart_0 rfl 1 rfl ?_
  refine j_callSX (nargs := 1) (As := [_]) C gw409 gw410 gw42 (kX3_requireWord l htr D ct sa _ x) gw411 (by decide +kernel) rfl dX3_apart_1 ⟨Nat.le_of_ble_eq_true rfl, Nat.le_of_ble_eq_true rfl⟩ ⟨Nat.le_of_ble_eq_true rfl, Nat.le_of_ble_eq_true rfl⟩ (Nat.le_of_ble_eq_true rfl) (fun En hx => jt_out C E T0 rfl (Nat.le_of_ble_eq_true rfl) (Nat.le_of_ble_eq_true rfl) (kx0 0 rfl (by rw [f_apart]; exact if_neg (fun z => hx.1 z.1)) hx.2)) (fun r w hk => ?_)
  obtain ⟨h1, rfl, rfl⟩ := hk
  refine j_st (st1 := []) rfl ?_
  refine j_iload_n (i := 2) C dX3_apart_4 rfl 2 rfl ?_
  refine j_callSX (nargs := 1) (As := [_]) C gw409 gw410 gw42 (kX3_requireWord l htr D ct sa _ y) gw411 (by decide +kernel) rfl dX3_apart_5 ⟨Nat.le_of_ble_eq_true rfl, Nat.le_of_ble_eq_true rfl⟩ ⟨Nat.le_of_ble_eq_true rfl, Nat.le_of_ble_eq_true rfl⟩ (Nat.le_of_ble_eq_true rfl) (fun En hx => jt_out C E T0 rfl (Nat.le_of_ble_eq_true rfl) (Nat.le_of_ble_eq_true rfl) (kx0 0 rfl (by rw [f_apart]; exact if_neg (fun z => hx.1 z.2)) hx.2)) (fun r w hk => ?_)
  obtain ⟨h2, rfl, rfl⟩ := hk
  refine j_st (st1 := []) rfl ?_
  refine j_iconst (v := nI 0) C dX3_apart_8 (by decide) ?_
  refine j_istore_n (lv' := [(3, .int _), (0, .ref _), (1, .int _), (2, .int _)]) C dX3_apart_9 rfl (by decide) rfl ?_
  refine j_iconst (v := nI 0) C dX3_apart_10 (by decide) ?_
  refine j_istore (lv' := [(4, .int _), (3, .int _), (0, .ref _), (1, .int _), (2, .int _)]) C dX3_apart_11 (by decide) rfl ?_
  have L13 : ∀ (d i : Nat) (x3 : Int32) (x4 : Int32), i + d = 4 → x3 = sumF (fun r => farF (ltF x r) (ltF y r)) i → x4 = nI i → J X (WX ct sa ad mcn φ σ ++ wr) (0 + 1 + 1) (0 + 6 + 6) 13 [(1, .int x), (2, .int y), (3, .int x3), (4, .int x4)] [] := by
    intro d
    induction d with
    | zero =>
      intro i x3 x4 hd e_x3 e_x4 
      subst e_x3
      subst e_x4
      have hi9 : i = 4 := by omega
      subst hi9
      refine j_iload C dX3_apart_13 3 rfl ?_
      refine j_iconst (v := nI 4) C dX3_apart_15 (by decide) ?_
      refine j_icmp_ge C 43 dX3_apart_16 (by decide) (fun c16 => ?_) (fun c16 => by first | exact absurd c16 (by decide) | exact absurd c16 (nI_ge (by omega) (by omega)) | exact absurd (nI_le (by omega) (by omega)) c16 | exact absurd c16 (nI_nlt (by omega) (by omega)) | exact absurd (nI_lt (by omega) (by omega)) c16 | exact absurd c16 (nI_nle0 (by omega) (by omega)))
      refine j_iload_n (i := 3) C dX3_apart_43 rfl 2 rfl ?_
      exact j_ireturn C E rfl dX3_apart_44 (Nat.le_of_ble_eq_true rfl) (Nat.le_of_ble_eq_true rfl) (kr (by rw [f_apart]; exact if_pos ⟨h1, h2⟩))
    | succ d ih =>
      intro i x3 x4 hd e_x3 e_x4 
      subst e_x3
      subst e_x4
      refine j_iload C dX3_apart_13 3 rfl ?_
      refine j_iconst (v := nI 4) C dX3_apart_15 (by decide) ?_
      refine j_icmp_ge C 43 dX3_apart_16 (by decide) (fun c16 => by first | exact absurd c16 (by decide) | exact absurd c16 (nI_ge (by omega) (by omega)) | exact absurd (nI_le (by omega) (by omega)) c16 | exact absurd c16 (nI_nlt (by omega) (by omega)) | exact absurd (nI_lt (by omega) (by omega)) c16 | exact absurd c16 (nI_nle0 (by omega) (by omega))) (fun c16 => ?_)
      refine j_iload_n (i := 3) C dX3_apart_19 rfl 2 rfl ?_
      refine j_iload_n (i := 1) C dX3_apart_20 rfl 0 rfl ?_
      refine j_iload C dX3_apart_21 3 rfl ?_
      refine j_callS (nargs := 2) (As := [_, _]) C gw611 gw283 gw42 (kX3_letterOf l D ct sa _ _ _ i rfl (by omega)) gw284 (by decide +kernel) rfl dX3_apart_23 ⟨Nat.le_of_ble_eq_true rfl, Nat.le_of_ble_eq_true rfl⟩ ⟨Nat.le_of_ble_eq_true rfl, Nat.le_of_ble_eq_true rfl⟩ (Nat.le_of_ble_eq_true rfl) (dki ?_)
      refine j_iload_n (i := 2) C dX3_apart_26 rfl 1 rfl ?_
      refine j_iload C dX3_apart_27 3 rfl ?_
      refine j_callS (nargs := 2) (As := [_, _]) C gw611 gw283 gw42 (kX3_letterOf l D ct sa _ _ _ i rfl (by omega)) gw284 (by decide +kernel) rfl dX3_apart_29 ⟨Nat.le_of_ble_eq_true rfl, Nat.le_of_ble_eq_true rfl⟩ ⟨Nat.le_of_ble_eq_true rfl, Nat.le_of_ble_eq_true rfl⟩ (Nat.le_of_ble_eq_true rfl) (dki ?_)
      refine j_callS (nargs := 2) (As := [_, _]) C gw512 gw513 gw42 (kX3_turnsBetween l D ct sa _ _ _) gw514 (by decide +kernel) rfl dX3_apart_32 ⟨Nat.le_of_ble_eq_true rfl, Nat.le_of_ble_eq_true rfl⟩ ⟨Nat.le_of_ble_eq_true rfl, Nat.le_of_ble_eq_true rfl⟩ (Nat.le_of_ble_eq_true rfl) (dki ?_)
      refine j_iadd C dX3_apart_35 ?_
      refine j_istore_n (lv' := [(3, .int _), (1, .int _), (2, .int _), (4, .int _)]) C dX3_apart_36 rfl (by decide) rfl ?_
      refine j_iinc (z := 3) (lv' := [(4, .int _), (3, .int _), (1, .int _), (2, .int _)]) C dX3_apart_37 rfl rfl (by decide) rfl ?_
      refine j_goto C 13 dX3_apart_40 (by decide) ?_
      exact j_lvs [2, 3, 1, 0] rfl (ih (i + 1) _ _ (by omega) (rfl) (nI_1 i))
  exact j_lvs [3, 4, 1, 0] rfl (L13 (4) (0) _ _ (by omega) (rfl) (rfl))
set_option maxRecDepth 100000 in
set_option maxHeartbeats 4000000 in
theorem kX3_trial (l : Launch) (htr : l.stackTraces = false) (D : va_G) (ct : Nat → ClassId) (sa : Nat → Nat) (ad : Nat → Nat) (mcn : Int32) (φ : LD) (σ : St) (wr : va_W) (x y : Int32) (hi : Inv1 σ) : jMX l yX3_trial (Cond.code yX3_trial cX3_trial 4 (Option.some Jvm.ClassFile.FieldType.int) :: GW) (rM 7 2 12 122) D ct sa [.ref (ad 0), .int x, .int y] (WX ct sa ad mcn φ σ ++ wr) (kR (f_trial σ x y) (WX ct sa ad mcn φ σ ++ wr)) (kxF (f_trial σ x y) [IOO, IAE]) 2 12 := by
  refine jBody (own := RX3) (by decide) rfl rfl (Nat.le_of_ble_eq_true rfl) ?_
  intro X C E T0
  refine j_lv (lv1 := [(0, .ref _), (1, .int _), (2, .int _)]) rfl ?_
  refine j_aload_n (i := 0) C dX3_trial_0 rfl 0 rfl ?_
  refine j_iload_n (i := 1) C dX3_trial_1 rfl 1 rfl ?_
  refine j_callVX (nargs := 1) (As := [_]) (Cn := RX3) C (0) rfl rfl rfl gw189 gw191 gw0 gw42 (kX3_lockAt l htr D ct sa ad mcn φ σ wr x hi.1.1) gw192 (by decide +kernel) rfl dX3_trial_2 ⟨Nat.le_of_ble_eq_true rfl, Nat.le_of_ble_eq_true rfl⟩ ⟨Nat.le_of_ble_eq_true rfl, Nat.le_of_ble_eq_true rfl⟩ (Nat.le_of_ble_eq_true rfl) (fun En hx => jt_out C E T0 rfl (Nat.le_of_ble_eq_true rfl) (Nat.le_of_ble_eq_true rfl) (kx0 0 rfl (by rw [f_trial]; exact if_neg hx.1) hx.2)) (fun r w hk => ?_)
  obtain ⟨hl, rfl, rfl⟩ := hk
  obtain ⟨hn0, hj, e_x⟩ := okI_pos (by have := hi.1.1; omega) hl
  refine j_st (st1 := .ref (ad (20 + 3 * ix x)) :: _) rfl ?_
  refine j_astore_n (lv' := [(3, .ref _), (0, .ref _), (1, .int _), (2, .int _)]) C dX3_trial_5 rfl (by decide) rfl ?_
  refine j_iload_n (i := 2) C dX3_trial_6 rfl 3 rfl ?_
  refine j_callSX (nargs := 1) (As := [_]) C gw409 gw410 gw42 (kX3_requireWord l htr D ct sa _ y) gw411 (by decide +kernel) rfl dX3_trial_7 ⟨Nat.le_of_ble_eq_true rfl, Nat.le_of_ble_eq_true rfl⟩ ⟨Nat.le_of_ble_eq_true rfl, Nat.le_of_ble_eq_true rfl⟩ (Nat.le_of_ble_eq_true rfl) (fun En hx => jt_out C E T0 rfl (Nat.le_of_ble_eq_true rfl) (Nat.le_of_ble_eq_true rfl) (kx0 1 rfl (by rw [f_trial, if_pos hl]; exact if_neg hx.1) hx.2)) (fun r w hk => ?_)
  obtain ⟨hw, rfl, rfl⟩ := hk
  obtain ⟨hy, e_y⟩ := okI_ix hw (by decide)
  refine j_st (st1 := []) rfl ?_
  refine j_aload_n (i := 0) C dX3_trial_10 rfl 1 rfl ?_
  refine j_get (Cn := RX3) (T := TX3) (N := 6) (ci := 4) C iX3 rfl (0) rfl 2 (by decide) gw160 rfl rfl dX3_trial_11 ?_
  refine j_aload_n (i := 3) C dX3_trial_14 rfl 0 rfl ?_
  refine j_iload_n (i := 2) C dX3_trial_15 rfl 3 rfl ?_
  refine j_callV (nargs := 2) (As := [_, _]) (Cn := RX2) C (6) rfl rfl rfl gw275 gw276 gw277 gw47 (kX2_trialOf l D ct sa _ 6 _ _ _ (16 + 3 * ix x) _ _ _ _ _ _ _ _ _ _ (ix y) wx_tk (wx_l hj) e_y hy) gw278 (by decide +kernel) rfl dX3_trial_16 ⟨Nat.le_of_ble_eq_true rfl, Nat.le_of_ble_eq_true rfl⟩ ⟨Nat.le_of_ble_eq_true rfl, Nat.le_of_ble_eq_true rfl⟩ (Nat.le_of_ble_eq_true rfl) (dki ?_)
  exact j_ireturn C E rfl dX3_trial_19 (Nat.le_of_ble_eq_true rfl) (Nat.le_of_ble_eq_true rfl) (kr (by rw [f_trial, if_pos hl, if_pos hw, tx_tr σ (hi.2.2.1 _ (by have := hi.1.1; omega)) hy]))
set_option maxRecDepth 100000 in
set_option maxHeartbeats 4000000 in
theorem kX3_safe (l : Launch) (htr : l.stackTraces = false) (D : va_G) (ct : Nat → ClassId) (sa : Nat → Nat) (ad : Nat → Nat) (mcn : Int32) (φ : LD) (σ : St) (wr : va_W) (x : Int32) (hi : Inv1 σ) : jMX l yX3_safe (Cond.code yX3_safe cX3_safe 3 (Option.some Jvm.ClassFile.FieldType.int) :: GW) (rM 7 1 6 122) D ct sa [.ref (ad 0), .int x] (WX ct sa ad mcn φ σ ++ wr) (kR (f_safe σ x) (WX ct sa ad mcn φ σ ++ wr)) (kxF (f_safe σ x) [IOO]) 1 6 := by
  refine jBody (own := RX3) (by decide) rfl rfl (Nat.le_of_ble_eq_true rfl) ?_
  intro X C E T0
  refine j_lv (lv1 := [(0, .ref _), (1, .int _)]) rfl ?_
  refine j_aload_n (i := 0) C dX3_safe_0 rfl 0 rfl ?_
  refine j_iload_n (i := 1) C dX3_safe_1 rfl 1 rfl ?_
  refine j_callVX (nargs := 1) (As := [_]) (Cn := RX3) C (0) rfl rfl rfl gw189 gw191 gw0 gw42 (kX3_lockAt l htr D ct sa ad mcn φ σ wr x hi.1.1) gw192 (by decide +kernel) rfl dX3_safe_2 ⟨Nat.le_of_ble_eq_true rfl, Nat.le_of_ble_eq_true rfl⟩ ⟨Nat.le_of_ble_eq_true rfl, Nat.le_of_ble_eq_true rfl⟩ (Nat.le_of_ble_eq_true rfl) (fun En hx => jt_out C E T0 rfl (Nat.le_of_ble_eq_true rfl) (Nat.le_of_ble_eq_true rfl) (kx0 0 rfl (by rw [f_safe]; exact if_neg hx.1) hx.2)) (fun r w hk => ?_)
  obtain ⟨hl, rfl, rfl⟩ := hk
  obtain ⟨hn0, hj, e_x⟩ := okI_pos (by have := hi.1.1; omega) hl
  refine j_st (st1 := .ref (ad (20 + 3 * ix x)) :: _) rfl ?_
  refine j_astore_n (lv' := [(2, .ref _), (0, .ref _), (1, .int _)]) C dX3_safe_5 rfl (by decide) rfl ?_
  obtain ⟨hv, e_v⟩ := okI_ix (hi.1.2 (ix x) (by have := hi.1.1; omega)).1 (by decide)
  refine j_aload_n (i := 0) C dX3_safe_6 rfl 1 rfl ?_
  refine j_get (Cn := RX3) (T := TX3) (N := 6) (ci := 4) C iX3 rfl (0) rfl 2 (by decide) gw160 rfl rfl dX3_safe_7 ?_
  refine j_aload_n (i := 2) C dX3_safe_10 rfl 0 rfl ?_
  refine j_aload_n (i := 2) C dX3_safe_11 rfl 0 rfl ?_
  refine j_getN (Cn := RX0) (T := TX0) (N := 6) (ci := 1) C iX0 rfl (16 + 3 * ix x) (wx_l (by exact hj)).1 2 (by decide) nw138 rfl rfl dX3_safe_12 ?_
  refine j_callV (nargs := 2) (As := [_, _]) (Cn := RX2) C (6) rfl rfl rfl gw275 gw276 gw277 gw47 (kX2_trialOf l D ct sa _ 6 _ _ _ (16 + 3 * ix x) _ _ _ _ _ _ _ _ _ _ _ wx_tk (wx_l hj) e_v hv) gw278 (by decide +kernel) rfl dX3_safe_15 ⟨Nat.le_of_ble_eq_true rfl, Nat.le_of_ble_eq_true rfl⟩ ⟨Nat.le_of_ble_eq_true rfl, Nat.le_of_ble_eq_true rfl⟩ (Nat.le_of_ble_eq_true rfl) (dki ?_)
  exact j_ireturn C E rfl dX3_safe_18 (Nat.le_of_ble_eq_true rfl) (Nat.le_of_ble_eq_true rfl) (kr (by rw [f_safe, if_pos hl, tx_tr σ (hi.2.2.1 _ (by have := hi.1.1; omega)) hv]))
set_option maxRecDepth 100000 in
set_option maxHeartbeats 4000000 in
theorem kX3_pass (l : Launch) (htr : l.stackTraces = false) (D : va_G) (ct : Nat → ClassId) (sa : Nat → Nat) (ad : Nat → Nat) (mcn : Int32) (φ : LD) (σ : St) (wr : va_W) (x : Int32) (hi : Inv1 σ) : jMX l yX3_pass (Cond.code yX3_pass cX3_pass 5 (Option.some Jvm.ClassFile.FieldType.int) :: GW) (rM 7 1 6 110) D ct sa [.ref (ad 0), .int x] (WX ct sa ad mcn φ σ ++ wr) (kC ct sa ad mcn φ wr (f_pass σ x)) (kxF (f_pass σ x) [IAE]) 1 6 := by
  refine jBody (own := RX3) (by decide) rfl rfl (Nat.le_of_ble_eq_true rfl) ?_
  intro X C E T0
  refine j_lv (lv1 := [(0, .ref _), (1, .int _)]) rfl ?_
  refine j_iload_n (i := 1) C dX3_pass_0 rfl 1 rfl ?_
  refine j_callSX (nargs := 1) (As := [_]) C gw630 gw631 gw42 (kX3_requireHours l htr D ct sa _ x) gw632 (by decide +kernel) rfl dX3_pass_1 ⟨Nat.le_of_ble_eq_true rfl, Nat.le_of_ble_eq_true rfl⟩ ⟨Nat.le_of_ble_eq_true rfl, Nat.le_of_ble_eq_true rfl⟩ (Nat.le_of_ble_eq_true rfl) (fun En hx => jt_out C E T0 rfl (Nat.le_of_ble_eq_true rfl) (Nat.le_of_ble_eq_true rfl) (kx0 0 rfl (by rw [f_pass]; exact if_neg hx.1) hx.2)) (fun r w hk => ?_)
  obtain ⟨hh, rfl, rfl⟩ := hk
  obtain ⟨h1, h2, h3⟩ := ix_99 hh
  obtain ⟨m, hm9, rfl⟩ : ∃ m, m ≤ 99 ∧ x = nI m := ⟨ix x, h2, h3⟩
  have em : ix (nI m) = m := nI_clamp (by omega)
  refine j_st (st1 := []) rfl ?_
  refine j_iconst (v := nI 0) C dX3_pass_4 (by decide) ?_
  refine j_istore_n (lv' := [(2, .int _), (0, .ref _), (1, .int _)]) C dX3_pass_5 rfl (by decide) rfl ?_
  refine j_iconst (v := nI 0) C dX3_pass_6 (by decide) ?_
  refine j_istore_n (lv' := [(3, .int _), (2, .int _), (0, .ref _), (1, .int _)]) C dX3_pass_7 rfl (by decide) rfl ?_
  have L8 : ∀ (d i : Nat) (x2 : Int32) (x3 : Int32) (w : va_W), i + d = m → x2 = hsC σ i → x3 = nI i → w = WX ct sa ad mcn φ (hsS σ i) ++ wr → J X (w) (0 + 1) (0 + 6) 8 [(0, .ref (ad 0)), (1, .int (nI m)), (2, .int x2), (3, .int x3)] [] := by
    intro d
    induction d with
    | zero =>
      intro i x2 x3 w hd e_x2 e_x3 e_w 
      subst e_x2
      subst e_x3
      subst e_w
      have hi9 : i = m := by omega
      subst hi9
      refine j_iload_n (i := 3) C dX3_pass_8 rfl 3 rfl ?_
      refine j_iload_n (i := 1) C dX3_pass_9 rfl 1 rfl ?_
      refine j_icmp_ge C 76 dX3_pass_10 (by decide) (fun c10 => ?_) (fun c10 => by first | exact absurd c10 (by decide) | exact absurd c10 (nI_ge (by omega) (by omega)) | exact absurd (nI_le (by omega) (by omega)) c10 | exact absurd c10 (nI_nlt (by omega) (by omega)) | exact absurd (nI_lt (by omega) (by omega)) c10 | exact absurd c10 (nI_nle0 (by omega) (by omega)))
      refine j_iload_n (i := 2) C dX3_pass_76 rfl 2 rfl ?_
      exact j_ireturn C E rfl dX3_pass_77 (Nat.le_of_ble_eq_true rfl) (Nat.le_of_ble_eq_true rfl) (kc (by rw [f_pass, em]; exact if_pos hh))
    | succ d ih =>
      intro i x2 x3 w hd e_x2 e_x3 e_w 
      subst e_x2
      subst e_x3
      subst e_w
      have hiτ := inv1_hs hi i
      have hn8 := hiτ.1.1
      refine j_iload_n (i := 3) C dX3_pass_8 rfl 3 rfl ?_
      refine j_iload_n (i := 1) C dX3_pass_9 rfl 1 rfl ?_
      refine j_icmp_ge C 76 dX3_pass_10 (by decide) (fun c10 => by first | exact absurd c10 (by decide) | exact absurd c10 (nI_ge (by omega) (by omega)) | exact absurd (nI_le (by omega) (by omega)) c10 | exact absurd c10 (nI_nlt (by omega) (by omega)) | exact absurd (nI_lt (by omega) (by omega)) c10 | exact absurd c10 (nI_nle0 (by omega) (by omega))) (fun c10 => ?_)
      refine j_iconst (v := nI 0) C dX3_pass_13 (by decide) ?_
      refine j_istore (lv' := [(4, .int _), (0, .ref _), (1, .int _), (2, .int _), (3, .int _)]) C dX3_pass_14 (by decide) rfl ?_
      have L16 : ∀ (d t : Nat) (x2 : Int32) (x4 : Int32) (w : va_W), t + d = sN (hsS σ i) → x2 = hsC σ i + cCF (sK (hsS σ i)) (sH (hsS σ i)) (sR (hsS σ i)) t → x4 = nI t → w = WX ct sa ad mcn φ (hX (hsS σ i) t) ++ wr → J X (w) (0 + 1) (0 + 6) 16 [(0, .ref (ad 0)), (1, .int (nI m)), (2, .int x2), (3, .int (nI i)), (4, .int x4)] [] := by
        intro d
        induction d with
        | zero =>
          intro t x2 x4 w hd e_x2 e_x4 e_w 
          subst e_x2
          subst e_x4
          subst e_w
          have ht : t = sN (hsS σ i) := by omega
          rw [ht]
          refine j_iload C dX3_pass_16 4 rfl ?_
          refine j_aload_n (i := 0) C dX3_pass_18 rfl 0 rfl ?_
          refine j_get (Cn := RX3) (T := TX3) (N := 6) (ci := 4) C iX3 rfl (0) rfl 0 (by decide) gw158 rfl rfl dX3_pass_19 ?_
          refine j_callV (nargs := 0) (As := []) (Cn := RJx4a65c) C (1) wx_li rfl rfl gw181 gw182 gw183 gw45 (kJx4a65c_size_8abf5 l D ct sa _ 1 (ad 1) mcn _ (sN (hsS σ i)) wx_li) gw184 (by decide +kernel) rfl dX3_pass_22 ⟨Nat.le_of_ble_eq_true rfl, Nat.le_of_ble_eq_true rfl⟩ ⟨Nat.le_of_ble_eq_true rfl, Nat.le_of_ble_eq_true rfl⟩ (Nat.le_of_ble_eq_true rfl) (dki ?_)
          refine j_icmp_ge C 60 dX3_pass_25 (by decide) (fun c25 => ?_) (fun c25 => by first | exact absurd c25 (nI_ge (b := sN (hsS σ i)) (by omega) (by omega)) | exact (c25 (nI_le (Nat.le_refl (sN (hsS σ i))) (by omega))).elim)
          refine j_aload_n (i := 0) C dX3_pass_60 rfl 0 rfl ?_
          refine j_dup C dX3_pass_61 rfl ?_
          refine j_get (Cn := RX3) (T := TX3) (N := 6) (ci := 4) C iX3 rfl (0) rfl 4 (by decide) gw162 rfl rfl dX3_pass_62 ?_
          refine j_iconst (v := nI 1) C dX3_pass_65 (by decide) ?_
          refine j_iadd C dX3_pass_66 ?_
          refine j_put (Cn := RX3) (T := TX3) (N := 6) (ci := 4) (ws2 := WX ct sa ad mcn φ (hsS σ (i + 1)) ++ wr) C iX3 tyX3 tyX3_ok nmX3 rfl (0) rfl 4 (by decide) gw162 rfl rfl rfl rfl rfl (Nat.le_of_ble_eq_true rfl) rfl dX3_pass_67 ?_
          refine j_iinc (z := 3) (lv' := [(3, .int _), (0, .ref _), (1, .int _), (2, .int _), (4, .int _)]) C dX3_pass_70 rfl rfl (by decide) rfl ?_
          refine j_goto C 8 dX3_pass_73 (by decide) ?_
          exact j_lvs [1, 2, 3, 0] rfl (ih (i + 1) _ _ _ (by omega) (rfl) (nI_1 i) (rfl))
        | succ d ih =>
          intro t x2 x4 w hd e_x2 e_x4 e_w 
          subst e_x2
          subst e_x4
          subst e_w
          have hj : t < sN (hsS σ i) := by omega
          refine j_iload C dX3_pass_16 4 rfl ?_
          refine j_aload_n (i := 0) C dX3_pass_18 rfl 0 rfl ?_
          refine j_get (Cn := RX3) (T := TX3) (N := 6) (ci := 4) C iX3 rfl (0) rfl 0 (by decide) gw158 rfl rfl dX3_pass_19 ?_
          refine j_callV (nargs := 0) (As := []) (Cn := RJx4a65c) C (1) wx_li rfl rfl gw181 gw182 gw183 gw45 (kJx4a65c_size_8abf5 l D ct sa _ 1 (ad 1) mcn _ (sN (hsS σ i)) wx_li) gw184 (by decide +kernel) rfl dX3_pass_22 ⟨Nat.le_of_ble_eq_true rfl, Nat.le_of_ble_eq_true rfl⟩ ⟨Nat.le_of_ble_eq_true rfl, Nat.le_of_ble_eq_true rfl⟩ (Nat.le_of_ble_eq_true rfl) (dki ?_)
          refine j_icmp_ge C 60 dX3_pass_25 (by decide) (fun c25 => by first | exact absurd c25 (nI_ge (b := sN (hsS σ i)) (by omega) (by omega)) | exact (c25 (nI_le (Nat.le_refl (sN (hsS σ i))) (by omega))).elim) (fun c25 => ?_)
          refine j_aload_n (i := 0) C dX3_pass_28 rfl 0 rfl ?_
          refine j_aload_n (i := 0) C dX3_pass_29 rfl 0 rfl ?_
          refine j_get (Cn := RX3) (T := TX3) (N := 6) (ci := 4) C iX3 rfl (0) rfl 0 (by decide) gw158 rfl rfl dX3_pass_30 ?_
          refine j_iload C dX3_pass_33 4 rfl ?_
          refine j_callV (nargs := 1) (As := [_]) (Cn := RJx4a65c) C (1) (wx_li1 (σ := (hX (hsS σ i) t)) (show 0 < sN (hsS σ i) by omega)) rfl rfl gw261 gw262 gw263 gw45 (kJx4a65c_get_915e3 l D ct sa (WX ct sa ad mcn φ (hX (hsS σ i) t) ++ wr) 1 (16 + 3 * sN (hsS σ i)) (ad 1) (ad 2) mcn (sN (hsS σ i)) 10 _ _ t (ad (20 + 3 * t)) (wx_li1 (σ := (hX (hsS σ i) t)) (show 0 < sN (hsS σ i) by omega)) (wx_ar (σ := (hX (hsS σ i) t)) (show 0 < sN (hsS σ i) by omega)) rfl hj (by omega) (by decide) (if_pos hj)) gw264 (by decide +kernel) rfl dX3_pass_35 ⟨Nat.le_of_ble_eq_true rfl, Nat.le_of_ble_eq_true rfl⟩ ⟨Nat.le_of_ble_eq_true rfl, Nat.le_of_ble_eq_true rfl⟩ (Nat.le_of_ble_eq_true rfl) (dkr ?_)
          refine j_castE C (16 + 3 * t) (wx_l (σ := (hX (hsS σ i) t)) hj).1 rfl rfl gw129 dX3_pass_38 ?_
          refine j_aload_n (i := 0) C dX3_pass_41 rfl 0 rfl ?_
          refine j_get (Cn := RX3) (T := TX3) (N := 6) (ci := 4) C iX3 rfl (0) rfl 4 (by decide) gw162 rfl rfl dX3_pass_42 ?_
          refine j_callV (nargs := 2) (As := [_, _]) (Cn := RX3) C (0) rfl rfl rfl gw634 gw636 gw18 gw42 (kX3_letHourGoBy l D ct sa ad (WX ct sa ad mcn φ (hX (hsS σ i) t) ++ wr) (16 + 3 * t) _ _ _ _ _ _ _ _ _ _ _ (sK (hsS σ i)) _ (wx_l (σ := (hX (hsS σ i) t)) hj) wx_xb (by omega) (hx_let hiτ.1 (by omega)).1 (hx_let hiτ.1 (by omega)).2) gw637 (by decide +kernel) rfl dX3_pass_45 ⟨Nat.le_of_ble_eq_true rfl, Nat.le_of_ble_eq_true rfl⟩ ⟨Nat.le_of_ble_eq_true rfl, Nat.le_of_ble_eq_true rfl⟩ (Nat.le_of_ble_eq_true rfl) (dki ?_)
          refine j_ws (ws1 := WX ct sa ad mcn φ (hX (hsS σ i) (t + 1)) ++ wr) (wx_hr hiτ.1 hj) ?_
          refine j_if_eq C 54 dX3_pass_48 (by decide) (fun c48 => ?_) (fun c48 => ?_)
          · refine j_iinc (z := 4) (lv' := [(4, .int _), (0, .ref _), (1, .int _), (2, .int _), (3, .int _)]) C dX3_pass_54 rfl rfl (by decide) rfl ?_
            refine j_goto C 16 dX3_pass_57 (by decide) ?_
            exact j_lvs [1, 2, 3, 4, 0] rfl (ih (t + 1) _ _ _ (by omega) (by first | exact cc_y hiτ.1 (by omega) _ (b2i_t c48) | exact cc_n hiτ.1 (by omega) _ (b2i_f c48)) (nI_1 t) (rfl))
          · refine j_iinc (z := 2) (lv' := [(2, .int _), (0, .ref _), (1, .int _), (3, .int _), (4, .int _)]) C dX3_pass_51 rfl rfl (by decide) rfl ?_
            refine j_iinc (z := 4) (lv' := [(4, .int _), (2, .int _), (0, .ref _), (1, .int _), (3, .int _)]) C dX3_pass_54 rfl rfl (by decide) rfl ?_
            refine j_goto C 16 dX3_pass_57 (by decide) ?_
            exact j_lvs [2, 3, 1, 4, 0] rfl (ih (t + 1) _ _ _ (by omega) (by first | exact cc_y hiτ.1 (by omega) _ (b2i_t c48) | exact cc_n hiτ.1 (by omega) _ (b2i_f c48)) (nI_1 t) (rfl))
      exact j_lvs [1, 2, 3, 4, 0] rfl (L16 (sN (hsS σ i)) (0) _ _ _ (by omega) ((i_add0 _).symm) (rfl) (rfl))
  exact j_lvs [2, 3, 1, 0] rfl (L8 (m) (0) _ _ _ (by omega) (rfl) (rfl) (rfl))
set_option maxRecDepth 100000 in
set_option maxHeartbeats 4000000 in
theorem kX3_foresee (l : Launch) (htr : l.stackTraces = false) (D : va_G) (ct : Nat → ClassId) (sa : Nat → Nat) (ad : Nat → Nat) (mcn : Int32) (φ : LD) (σ : St) (wr : va_W) (x y : Int32) (hi : Inv1 σ) : jMX l yX3_foresee (Cond.code yX3_foresee cX3_foresee 4 (Option.some Jvm.ClassFile.FieldType.int) :: GW) (rM 7 2 12 122) D ct sa [.ref (ad 0), .int x, .int y] (WX ct sa ad mcn φ σ ++ wr) (kF ct sa ad mcn wr (f_foresee σ x y)) (kxF (f_foresee σ x y) [IAE, IOO]) 2 12 := by
  refine jBody (own := RX3) (by decide) rfl rfl (Nat.le_of_ble_eq_true rfl) ?_
  intro X C E T0
  refine j_lv (lv1 := [(0, .ref _), (1, .int _), (2, .int _)]) rfl ?_
  refine j_iload_n (i := 1) C dX3_foresee_0 rfl 1 rfl ?_
  refine j_callSX (nargs := 1) (As := [_]) C gw630 gw631 gw42 (kX3_requireHours l htr D ct sa _ x) gw632 (by decide +kernel) rfl dX3_foresee_1 ⟨Nat.le_of_ble_eq_true rfl, Nat.le_of_ble_eq_true rfl⟩ ⟨Nat.le_of_ble_eq_true rfl, Nat.le_of_ble_eq_true rfl⟩ (Nat.le_of_ble_eq_true rfl) (fun En hx => jt_out C E T0 rfl (Nat.le_of_ble_eq_true rfl) (Nat.le_of_ble_eq_true rfl) (kx0 0 rfl (by rw [f_foresee]; exact if_neg hx.1) hx.2)) (fun r w hk => ?_)
  obtain ⟨hh, rfl, rfl⟩ := hk
  obtain ⟨h1, h2, h3⟩ := ix_99 hh
  obtain ⟨m, hm9, rfl⟩ : ∃ m, m ≤ 99 ∧ x = nI m := ⟨ix x, h2, h3⟩
  have em : ix (nI m) = m := nI_clamp (by omega)
  refine j_st (st1 := []) rfl ?_
  refine j_aload_n (i := 0) C dX3_foresee_4 rfl 0 rfl ?_
  refine j_get (Cn := RX3) (T := TX3) (N := 6) (ci := 4) C iX3 rfl (0) rfl 3 (by decide) gw161 rfl rfl dX3_foresee_5 ?_
  refine j_aload_n (i := 0) C dX3_foresee_8 rfl 0 rfl ?_
  refine j_iload_n (i := 2) C dX3_foresee_9 rfl 2 rfl ?_
  refine j_callVX (nargs := 1) (As := [_]) (Cn := RX3) C (0) rfl rfl rfl gw189 gw191 gw0 gw42 (kX3_lockAt l htr D ct sa ad mcn φ σ wr y hi.1.1) gw192 (by decide +kernel) rfl dX3_foresee_10 ⟨Nat.le_of_ble_eq_true rfl, Nat.le_of_ble_eq_true rfl⟩ ⟨Nat.le_of_ble_eq_true rfl, Nat.le_of_ble_eq_true rfl⟩ (Nat.le_of_ble_eq_true rfl) (fun En hx => jt_out C E T0 rfl (Nat.le_of_ble_eq_true rfl) (Nat.le_of_ble_eq_true rfl) (kx0 1 rfl (by rw [f_foresee, if_pos hh]; exact if_neg hx.1) hx.2)) (fun r w hk => ?_)
  obtain ⟨hl, rfl, rfl⟩ := hk
  obtain ⟨hn0, hj, e_y⟩ := okI_pos (by have := hi.1.1; omega) hl
  have hj8 : ix y < 8 := (by have := hi.1.1; omega)
  refine j_st (st1 := .ref (ad (20 + 3 * ix y)) :: _) rfl ?_
  refine j_callV (nargs := 1) (As := [_]) (Cn := RX0) C (13) rfl rfl rfl gw659 gw660 gw661 gw48 (kX0_become l D ct sa _ 13 _ _ _ (16 + 3 * ix y) _ _ _ _ _ _ _ _ _ _ _ _ _ _ _ wx_fl (wx_l hj) (Or.inl (by omega)) (hi.2.1 _ hj8).1 (hi.2.1 _ hj8).2) gw662 (by decide +kernel) rfl dX3_foresee_13 ⟨Nat.le_of_ble_eq_true rfl, Nat.le_of_ble_eq_true rfl⟩ ⟨Nat.le_of_ble_eq_true rfl, Nat.le_of_ble_eq_true rfl⟩ (Nat.le_of_ble_eq_true rfl) (dkv ?_)
  refine j_ws (ws1 := WX ct sa ad mcn (hsD (sK σ) (sH σ) (ldS σ (ix y)) 0) σ ++ wr) rfl ?_
  refine j_iconst (v := nI 0) C dX3_foresee_16 (by decide) ?_
  refine j_istore_n (lv' := [(3, .int _), (0, .ref _), (1, .int _), (2, .int _)]) C dX3_foresee_17 rfl (by decide) rfl ?_
  have L18 : ∀ (d i : Nat) (x3 : Int32) (w : va_W), i + d = m → x3 = nI i → w = WX ct sa ad mcn (hsD (sK σ) (sH σ) (ldS σ (ix y)) i) σ ++ wr → J X (w) (0 + 1 + 1 + 0) (0 + 6 + 6 + 0) 18 [(0, .ref (ad 0)), (1, .int (nI m)), (2, .int y), (3, .int x3)] [] := by
    intro d
    induction d with
    | zero =>
      intro i x3 w hd e_x3 e_w 
      subst e_x3
      subst e_w
      have hi9 : i = m := by omega
      subst hi9
      obtain ⟨hv, e_v⟩ := okI_ix (fo_let hi hj i).2 (by decide)
      refine j_iload_n (i := 3) C dX3_foresee_18 rfl 3 rfl ?_
      refine j_iload_n (i := 1) C dX3_foresee_19 rfl 1 rfl ?_
      refine j_icmp_ge C 44 dX3_foresee_20 (by decide) (fun c20 => ?_) (fun c20 => by first | exact absurd c20 (by decide) | exact absurd c20 (nI_ge (by omega) (by omega)) | exact absurd (nI_le (by omega) (by omega)) c20 | exact absurd c20 (nI_nlt (by omega) (by omega)) | exact absurd (nI_lt (by omega) (by omega)) c20 | exact absurd c20 (nI_nle0 (by omega) (by omega)))
      refine j_aload_n (i := 0) C dX3_foresee_44 rfl 0 rfl ?_
      refine j_get (Cn := RX3) (T := TX3) (N := 6) (ci := 4) C iX3 rfl (0) rfl 2 (by decide) gw160 rfl rfl dX3_foresee_45 ?_
      refine j_aload_n (i := 0) C dX3_foresee_48 rfl 0 rfl ?_
      refine j_get (Cn := RX3) (T := TX3) (N := 6) (ci := 4) C iX3 rfl (0) rfl 3 (by decide) gw161 rfl rfl dX3_foresee_49 ?_
      refine j_aload_n (i := 0) C dX3_foresee_52 rfl 0 rfl ?_
      refine j_get (Cn := RX3) (T := TX3) (N := 6) (ci := 4) C iX3 rfl (0) rfl 3 (by decide) gw161 rfl rfl dX3_foresee_53 ?_
      refine j_getN (Cn := RX0) (T := TX0) (N := 6) (ci := 1) C iX0 rfl (13) wx_fl.1 2 (by decide) nw138 rfl rfl dX3_foresee_56 ?_
      refine j_callV (nargs := 2) (As := [_, _]) (Cn := RX2) C (6) rfl rfl rfl gw275 gw276 gw277 gw47 (kX2_trialOf l D ct sa _ 6 _ _ _ 13 _ _ _ _ _ _ _ _ _ _ _ wx_tk wx_fl e_v hv) gw278 (by decide +kernel) rfl dX3_foresee_59 ⟨Nat.le_of_ble_eq_true rfl, Nat.le_of_ble_eq_true rfl⟩ ⟨Nat.le_of_ble_eq_true rfl, Nat.le_of_ble_eq_true rfl⟩ (Nat.le_of_ble_eq_true rfl) (dki ?_)
      exact j_ireturn C E rfl dX3_foresee_62 (Nat.le_of_ble_eq_true rfl) (Nat.le_of_ble_eq_true rfl) (kf ((fo_v hh hm9 hl).trans (congrArg (fun v => (nI 0, v, σ)) (fo_t hi hj i).symm)))
    | succ d ih =>
      intro i x3 w hd e_x3 e_w 
      subst e_x3
      subst e_w
      refine j_iload_n (i := 3) C dX3_foresee_18 rfl 3 rfl ?_
      refine j_iload_n (i := 1) C dX3_foresee_19 rfl 1 rfl ?_
      refine j_icmp_ge C 44 dX3_foresee_20 (by decide) (fun c20 => by first | exact absurd c20 (by decide) | exact absurd c20 (nI_ge (by omega) (by omega)) | exact absurd (nI_le (by omega) (by omega)) c20 | exact absurd c20 (nI_nlt (by omega) (by omega)) | exact absurd (nI_lt (by omega) (by omega)) c20 | exact absurd c20 (nI_nle0 (by omega) (by omega))) (fun c20 => ?_)
      refine j_aload_n (i := 0) C dX3_foresee_23 rfl 0 rfl ?_
      refine j_aload_n (i := 0) C dX3_foresee_24 rfl 0 rfl ?_
      refine j_get (Cn := RX3) (T := TX3) (N := 6) (ci := 4) C iX3 rfl (0) rfl 3 (by decide) gw161 rfl rfl dX3_foresee_25 ?_
      refine j_aload_n (i := 0) C dX3_foresee_28 rfl 0 rfl ?_
      refine j_get (Cn := RX3) (T := TX3) (N := 6) (ci := 4) C iX3 rfl (0) rfl 4 (by decide) gw162 rfl rfl dX3_foresee_29 ?_
      refine j_iload_n (i := 3) C dX3_foresee_32 rfl 3 rfl ?_
      refine j_iadd C dX3_foresee_33 ?_
      refine j_callV (nargs := 2) (As := [_, _]) (Cn := RX3) C (0) rfl rfl rfl gw634 gw636 gw18 gw42 (kX3_letHourGoBy l D ct sa ad (WX ct sa ad mcn (hsD (sK σ) (sH σ) (ldS σ (ix y)) i) σ ++ wr) 13 _ _ _ _ _ _ _ _ _ _ _ (sK σ) _ wx_fl wx_xb (by decide) (fo_let hi hj i).1 (fo_let hi hj i).2) gw637 (by decide +kernel) rfl dX3_foresee_34 ⟨Nat.le_of_ble_eq_true rfl, Nat.le_of_ble_eq_true rfl⟩ ⟨Nat.le_of_ble_eq_true rfl, Nat.le_of_ble_eq_true rfl⟩ (Nat.le_of_ble_eq_true rfl) (dki ?_)
      refine j_ws (ws1 := WX ct sa ad mcn (hsD (sK σ) (sH σ) (ldS σ (ix y)) (i + 1)) σ ++ wr) wx_fh ?_
      refine j_pop C dX3_foresee_37 rfl ?_
      refine j_iinc (z := 3) (lv' := [(3, .int _), (0, .ref _), (1, .int _), (2, .int _)]) C dX3_foresee_38 rfl rfl (by decide) rfl ?_
      refine j_goto C 18 dX3_foresee_41 (by decide) ?_
      exact j_lvs [1, 2, 3, 0] rfl (ih (i + 1) _ _ (by omega) (nI_1 i) (rfl))
  exact j_lvs [1, 2, 3, 0] rfl (L18 (m) (0) _ _ (by omega) (rfl) (rfl))
set_option maxRecDepth 100000 in
set_option maxHeartbeats 4000000 in
theorem kX3_until (l : Launch) (htr : l.stackTraces = false) (D : va_G) (ct : Nat → ClassId) (sa : Nat → Nat) (ad : Nat → Nat) (mcn : Int32) (φ : LD) (σ : St) (wr : va_W) (x : Int32) (hi : Inv1 σ) : jMX l yX3_until (Cond.code yX3_until cX3_until 4 (Option.some Jvm.ClassFile.FieldType.int) :: GW) (rM 7 1 6 111) D ct sa [.ref (ad 0), .int x] (WX ct sa ad mcn φ σ ++ wr) (kR (f_until σ x) (WX ct sa ad mcn φ σ ++ wr)) (kxF (f_until σ x) [IOO]) 1 6 := by
  refine jBody (own := RX3) (by decide) rfl rfl (Nat.le_of_ble_eq_true rfl) ?_
  intro X C E T0
  refine j_lv (lv1 := [(0, .ref _), (1, .int _)]) rfl ?_
  refine j_aload_n (i := 0) C dX3_until_0 rfl 0 rfl ?_
  refine j_iload_n (i := 1) C dX3_until_1 rfl 1 rfl ?_
  refine j_callVX (nargs := 1) (As := [_]) (Cn := RX3) C (0) rfl rfl rfl gw189 gw191 gw0 gw42 (kX3_lockAt l htr D ct sa ad mcn φ σ wr x hi.1.1) gw192 (by decide +kernel) rfl dX3_until_2 ⟨Nat.le_of_ble_eq_true rfl, Nat.le_of_ble_eq_true rfl⟩ ⟨Nat.le_of_ble_eq_true rfl, Nat.le_of_ble_eq_true rfl⟩ (Nat.le_of_ble_eq_true rfl) (fun En hx => jt_out C E T0 rfl (Nat.le_of_ble_eq_true rfl) (Nat.le_of_ble_eq_true rfl) (kx0 0 rfl (by rw [f_until]; exact if_neg hx.1) hx.2)) (fun r w hk => ?_)
  obtain ⟨hl, rfl, rfl⟩ := hk
  obtain ⟨hn0, hj, e_x⟩ := okI_pos (by have := hi.1.1; omega) hl
  refine j_st (st1 := .ref (ad (20 + 3 * ix x)) :: _) rfl ?_
  refine j_astore_n (lv' := [(2, .ref _), (0, .ref _), (1, .int _)]) C dX3_until_5 rfl (by decide) rfl ?_
  refine j_aload_n (i := 2) C dX3_until_6 rfl 0 rfl ?_
  refine j_getN (Cn := RX0) (T := TX0) (N := 6) (ci := 1) C iX0 rfl (16 + 3 * ix x) (wx_l (by exact hj)).1 4 (by decide) nw142 rfl rfl dX3_until_7 ?_
  refine j_if_ne C 15 dX3_until_10 (by decide) (fun c10 => ?_) (fun c10 => ?_)
  · have hop := (hi.2.1 _ (by have := hi.1.1; omega)).1.resolve_left c10
    refine j_iconst (v := nI 1) C dX3_until_15 (by decide) ?_
    refine j_istore_n (lv' := [(3, .int _), (2, .ref _), (0, .ref _), (1, .int _)]) C dX3_until_16 rfl (by decide) rfl ?_
    have L17 : ∀ (d i : Nat) (x3 : Int32), i + d = 48 → x3 = nI (i + 1) → (sR (hsS σ i) (8 * ix x + 1) = nI 1) → (utF (ix x) 49 σ = i + utF (ix x) (49 - i) (hsS σ i)) → J X (WX ct sa ad mcn φ σ ++ wr) (0 + 1) (0 + 6) 17 [(0, .ref (ad 0)), (1, .int x), (2, .ref (ad (20 + 3 * ix x))), (3, .int x3)] [] := by
      intro d
      induction d with
      | zero =>
        intro i x3 hd e_x3 hO hT
        subst e_x3
        have hi9 : i = 48 := by omega
        subst hi9
        refine j_iload_n (i := 3) C dX3_until_17 rfl 3 rfl ?_
        refine j_bipush (v := nI 48) C dX3_until_18 (by decide) ?_
        refine j_icmp_gt C 47 dX3_until_20 (by decide) (fun c20 => ?_) (fun c20 => by first | exact absurd c20 (by decide) | exact absurd c20 (nI_ge (by omega) (by omega)) | exact absurd (nI_le (by omega) (by omega)) c20 | exact absurd c20 (nI_nlt (by omega) (by omega)) | exact absurd (nI_lt (by omega) (by omega)) c20 | exact absurd c20 (nI_nle0 (by omega) (by omega)))
        refine j_iconst (v := (-1)) C dX3_until_47 (by decide) ?_
        exact j_ireturn C E rfl dX3_until_48 (Nat.le_of_ble_eq_true rfl) (Nat.le_of_ble_eq_true rfl) (kr (un_no hl (ut_end hO hT)))
      | succ d ih =>
        intro i x3 hd e_x3 hO hT
        subst e_x3
        refine j_iload_n (i := 3) C dX3_until_17 rfl 3 rfl ?_
        refine j_bipush (v := nI 48) C dX3_until_18 (by decide) ?_
        refine j_icmp_gt C 47 dX3_until_20 (by decide) (fun c20 => by first | exact absurd c20 (by decide) | exact absurd c20 (nI_ge (by omega) (by omega)) | exact absurd (nI_le (by omega) (by omega)) c20 | exact absurd c20 (nI_nlt (by omega) (by omega)) | exact absurd (nI_lt (by omega) (by omega)) c20 | exact absurd c20 (nI_nle0 (by omega) (by omega))) (fun c20 => ?_)
        refine j_aload_n (i := 0) C dX3_until_23 rfl 0 rfl ?_
        refine j_aload_n (i := 2) C dX3_until_24 rfl 2 rfl ?_
        refine j_aload_n (i := 0) C dX3_until_25 rfl 0 rfl ?_
        refine j_get (Cn := RX3) (T := TX3) (N := 6) (ci := 4) C iX3 rfl (0) rfl 4 (by decide) gw162 rfl rfl dX3_until_26 ?_
        refine j_iload_n (i := 3) C dX3_until_29 rfl 3 rfl ?_
        refine j_iadd C dX3_until_30 ?_
        refine j_iconst (v := nI 1) C dX3_until_31 (by decide) ?_
        refine j_isub C dX3_until_32 ?_
        refine j_st (st1 := .int (sH σ + nI i) :: _) (by rw [i_sub1]) ?_
        refine j_callV (nargs := 2) (As := [_, _]) (Cn := RX3) C (0) rfl rfl rfl gw648 gw650 gw20 gw42 (kX3_isInClosedRack l D ct sa ad _ (16 + 3 * ix x) _ _ _ _ _ _ _ _ _ _ _ _ _ (wx_l hj) wx_xb) gw651 (by decide +kernel) rfl dX3_until_33 ⟨Nat.le_of_ble_eq_true rfl, Nat.le_of_ble_eq_true rfl⟩ ⟨Nat.le_of_ble_eq_true rfl, Nat.le_of_ble_eq_true rfl⟩ (Nat.le_of_ble_eq_true rfl) (dki ?_)
        refine j_if_eq C 41 dX3_until_36 (by decide) (fun c36 => ?_) (fun c36 => ?_)
        · refine j_iinc (z := 3) (lv' := [(3, .int _), (0, .ref _), (1, .int _), (2, .ref _)]) C dX3_until_41 rfl rfl (by decide) rfl ?_
          refine j_goto C 17 dX3_until_44 (by decide) ?_
          exact j_lvs [1, 2, 3, 0] rfl (ih (i + 1) _ (by omega) (nI_1 (i + 1)) ((ut_go hi hj (by omega) hO hT (b2i_f c36)).1) ((ut_go hi hj (by omega) hO hT (b2i_f c36)).2))
        · refine j_iload_n (i := 3) C dX3_until_39 rfl 3 rfl ?_
          exact j_ireturn C E rfl dX3_until_40 (Nat.le_of_ble_eq_true rfl) (Nat.le_of_ble_eq_true rfl) (kr (un_at hl (by omega) (ut_ret hi hj (by omega) hO hT (b2i_t c36))))
    exact j_lvs [2, 3, 1, 0] rfl (L17 (48) (0) _ (by omega) (rfl) (hop) ((Nat.zero_add _).symm))
  · refine j_iconst (v := nI 0) C dX3_until_13 (by decide) ?_
    exact j_ireturn C E rfl dX3_until_14 (Nat.le_of_ble_eq_true rfl) (Nat.le_of_ble_eq_true rfl) (kr (un_sh hl (b_no c10)))
set_option maxRecDepth 100000 in
set_option maxHeartbeats 4000000 in
theorem kX3_weakest (l : Launch) (htr : l.stackTraces = false) (D : va_G) (ct : Nat → ClassId) (sa : Nat → Nat) (ad : Nat → Nat) (mcn : Int32) (φ : LD) (σ : St) (wr : va_W) (hi : Inv1 σ) : jM l yX3_weakest (Cond.code yX3_weakest cX3_weakest 5 (Option.some Jvm.ClassFile.FieldType.int) :: GW) (rM 8 8 48 144) D ct sa [.ref (ad 0)] (WX ct sa ad mcn φ σ ++ wr) (dK (some (.int (wkF σ (sN σ)).1)) (WX ct sa ad mcn φ σ ++ wr)) 8 48 := by
  refine jMX.plain (jBody (own := RX3) (by decide) rfl rfl (Nat.le_of_ble_eq_true rfl) ?_)
  intro X C E T0
  refine j_lv (lv1 := [(0, .ref _)]) rfl ?_
  refine j_iconst (v := (-1)) C dX3_weakest_0 (by decide) ?_
  refine j_istore_n (lv' := [(1, .int _), (0, .ref _)]) C dX3_weakest_1 rfl (by decide) rfl ?_
  refine j_sipush (v := nI 1297) C dX3_weakest_2 (by decide) ?_
  refine j_istore_n (lv' := [(2, .int _), (1, .int _), (0, .ref _)]) C dX3_weakest_5 rfl (by decide) rfl ?_
  refine j_iconst (v := nI 0) C dX3_weakest_6 (by decide) ?_
  refine j_istore_n (lv' := [(3, .int _), (2, .int _), (1, .int _), (0, .ref _)]) C dX3_weakest_7 rfl (by decide) rfl ?_
  have L8 : ∀ (d i : Nat) (x1 : Int32) (x2 : Int32) (x3 : Int32), i + d = sN σ → x1 = (wkF σ i).1 → x2 = (wkF σ i).2 → x3 = nI i → J X (WX ct sa ad mcn φ σ ++ wr) (i) (6 * i) 8 [(0, .ref (ad 0)), (1, .int x1), (2, .int x2), (3, .int x3)] [] := by
    intro d
    induction d with
    | zero =>
      intro i x1 x2 x3 hd e_x1 e_x2 e_x3 
      subst e_x1
      subst e_x2
      subst e_x3
      have hi9 : i = sN σ := by omega
      rw [hi9]
      refine j_iload_n (i := 3) C dX3_weakest_8 rfl 3 rfl ?_
      refine j_aload_n (i := 0) C dX3_weakest_9 rfl 0 rfl ?_
      refine j_get (Cn := RX3) (T := TX3) (N := 6) (ci := 4) C iX3 rfl (0) rfl 0 (by decide) gw158 rfl rfl dX3_weakest_10 ?_
      refine j_callV (nargs := 0) (As := []) (Cn := RJx4a65c) C (1) wx_li rfl rfl gw181 gw182 gw183 gw45 (kJx4a65c_size_8abf5 l D ct sa _ 1 (ad 1) mcn _ (sN σ) wx_li) gw184 (by decide +kernel) rfl dX3_weakest_13 ⟨Nat.le_of_ble_eq_true rfl, Nat.le_of_ble_eq_true rfl⟩ ⟨by first | (show i + 0 ≤ 8; have := hi.1.1; omega) | (show sN σ + 0 ≤ 8; have := hi.1.1; omega), by first | (show 6 * i + 0 ≤ 48; have := hi.1.1; omega) | (show 6 * sN σ + 0 ≤ 48; have := hi.1.1; omega)⟩ (Nat.le_of_ble_eq_true rfl) (dki ?_)
      refine j_icmp_ge C 43 dX3_weakest_16 (by decide) (fun c16 => ?_) (fun c16 => by first | exact absurd c16 (nI_ge (b := sN σ) (by omega) (by omega)) | exact (c16 (nI_le (Nat.le_refl (sN σ)) (by have := hi.1.1; omega))).elim)
      refine j_iload_n (i := 1) C dX3_weakest_43 rfl 1 rfl ?_
      exact j_ireturn C E rfl dX3_weakest_44 (by have := hi.1.1; omega) (by have := hi.1.1; omega) (⟨rfl, rfl⟩)
    | succ d ih =>
      intro i x1 x2 x3 hd e_x1 e_x2 e_x3 
      subst e_x1
      subst e_x2
      subst e_x3
      have hj : i < sN σ := by omega
      have h8 := hi.1.1
      refine j_iload_n (i := 3) C dX3_weakest_8 rfl 3 rfl ?_
      refine j_aload_n (i := 0) C dX3_weakest_9 rfl 0 rfl ?_
      refine j_get (Cn := RX3) (T := TX3) (N := 6) (ci := 4) C iX3 rfl (0) rfl 0 (by decide) gw158 rfl rfl dX3_weakest_10 ?_
      refine j_callV (nargs := 0) (As := []) (Cn := RJx4a65c) C (1) wx_li rfl rfl gw181 gw182 gw183 gw45 (kJx4a65c_size_8abf5 l D ct sa _ 1 (ad 1) mcn _ (sN σ) wx_li) gw184 (by decide +kernel) rfl dX3_weakest_13 ⟨Nat.le_of_ble_eq_true rfl, Nat.le_of_ble_eq_true rfl⟩ ⟨by first | (show i + 0 ≤ 8; have := hi.1.1; omega) | (show sN σ + 0 ≤ 8; have := hi.1.1; omega), by first | (show 6 * i + 0 ≤ 48; have := hi.1.1; omega) | (show 6 * sN σ + 0 ≤ 48; have := hi.1.1; omega)⟩ (Nat.le_of_ble_eq_true rfl) (dki ?_)
      refine j_icmp_ge C 43 dX3_weakest_16 (by decide) (fun c16 => by first | exact absurd c16 (nI_ge (b := sN σ) (by omega) (by omega)) | exact (c16 (nI_le (Nat.le_refl (sN σ)) (by have := hi.1.1; omega))).elim) (fun c16 => ?_)
      refine j_aload_n (i := 0) C dX3_weakest_19 rfl 0 rfl ?_
      refine j_iload_n (i := 3) C dX3_weakest_20 rfl 3 rfl ?_
      refine j_callVX (nargs := 1) (As := [_]) (Cn := RX3) C (0) rfl rfl rfl gw185 gw186 gw187 gw42 (kX3_safe l htr D ct sa ad mcn φ σ wr (nI i) hi) gw188 (by decide +kernel) rfl dX3_weakest_21 ⟨Nat.le_of_ble_eq_true rfl, Nat.le_of_ble_eq_true rfl⟩ ⟨by show i + 1 ≤ 8; omega, by show 6 * i + 6 ≤ 48; omega⟩ (Nat.le_of_ble_eq_true rfl) (fun En hx => (kx_no hx (congrArg (fun f => f.1) (sf_v hj h8)) (by decide)).elim) (fun r w hk => ?_)
      obtain ⟨-, rfl, rfl⟩ := hk
      refine j_st (st1 := .int (trL (sW σ) i (ix (sR σ (8 * i + 0)))) :: _) (by rw [sf_v hj h8]; rfl) ?_
      refine j_istore (lv' := [(4, .int _), (0, .ref _), (1, .int _), (2, .int _), (3, .int _)]) C dX3_weakest_24 (by decide) rfl ?_
      refine j_iload C dX3_weakest_26 0 rfl ?_
      refine j_iload_n (i := 2) C dX3_weakest_28 rfl 3 rfl ?_
      refine j_icmp_ge C 37 dX3_weakest_29 (by decide) (fun c29 => ?_) (fun c29 => ?_)
      · refine j_iinc (z := 4) (lv' := [(3, .int _), (4, .int _), (0, .ref _), (1, .int _), (2, .int _)]) C dX3_weakest_37 rfl rfl (by decide) rfl ?_
        refine j_goto C 8 dX3_weakest_40 (by decide) ?_
        exact j_lvs [2, 3, 4, 0] rfl (ih (i + 1) _ _ _ (by omega) (by show _ = (if _ then _ else _ : Int32 × Int32).1; first | rw [if_pos (ilt_of c29)] | rw [if_neg (inlt c29)]) (by show _ = (if _ then _ else _ : Int32 × Int32).2; first | rw [if_pos (ilt_of c29)] | rw [if_neg (inlt c29)]) (nI_1 i))
      · refine j_iload C dX3_weakest_32 0 rfl ?_
        refine j_istore_n (lv' := [(2, .int _), (4, .int _), (0, .ref _), (1, .int _), (3, .int _)]) C dX3_weakest_34 rfl (by decide) rfl ?_
        refine j_iload_n (i := 3) C dX3_weakest_35 rfl 4 rfl ?_
        refine j_istore_n (lv' := [(1, .int _), (2, .int _), (4, .int _), (0, .ref _), (3, .int _)]) C dX3_weakest_36 rfl (by decide) rfl ?_
        refine j_iinc (z := 4) (lv' := [(3, .int _), (1, .int _), (2, .int _), (4, .int _), (0, .ref _)]) C dX3_weakest_37 rfl rfl (by decide) rfl ?_
        refine j_goto C 8 dX3_weakest_40 (by decide) ?_
        exact j_lvs [4, 1, 2, 0] rfl (ih (i + 1) _ _ _ (by omega) (by show _ = (if _ then _ else _ : Int32 × Int32).1; first | rw [if_pos (ilt_of c29)] | rw [if_neg (inlt c29)]) (by show _ = (if _ then _ else _ : Int32 × Int32).2; first | rw [if_pos (ilt_of c29)] | rw [if_neg (inlt c29)]) (nI_1 i))
  exact j_lvs [3, 2, 1, 0] rfl (L8 (sN σ) (0) _ _ _ (by omega) (rfl) (rfl) (rfl))
