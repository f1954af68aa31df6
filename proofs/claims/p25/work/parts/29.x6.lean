set_option maxRecDepth 100000 in
set_option maxHeartbeats 4000000 in
theorem kX3_trial (l : Launch) (htr : l.stackTraces = false) (D : va_G) (ct : Nat → ClassId) (sa : Nat → Nat) (ad : Nat → Nat) (mcn : Int32) (φ : LD) (σ : St) (wr : va_W) (x y : Int32) (hi : Inv1 σ) : jMX l yX3_trial (Cond.code yX3_trial cX3_trial 4 (Option.some Jvm.ClassFile.FieldType.int) :: GW) (rM 7 2 12 122) D ct sa [.ref (ad 0), .int x, .int y] (WX ct sa ad mcn φ σ ++ wr) (kR (f_trial σ x y) (WX ct sa ad mcn φ σ ++ wr)) (kxF (f_trial σ x y) [IOO, IAE]) 2 12 := by
  refine jBody (own := RX3) (by decide) rfl rfl (Nat.le_of_ble_eq_true rfl) ?_
  intro X C E T0
  refine j_lv (lv1 := [(0, .ref _), (1, .int _), (2, .int _)]) rfl ?_
  refine j_aload_n (i := 0) C dX3_trial_0 rfl 0 rfl ?_
  refine j_iload_n (i := 1) C dX3_trial_1 rfl 1 rfl ?_
  refine j_callVX (nargs := 1) (As := [_]) (Cn := RX3) C (0) rfl rfl rfl gw161 gw163 gw0 gw21 (kX3_lockAt l htr D ct sa ad mcn φ σ wr x hi.1.1) gw164 (by decide +kernel) rfl dX3_trial_2 ⟨Nat.le_of_ble_eq_true rfl, Nat.le_of_ble_eq_true rfl⟩ ⟨Nat.le_of_ble_eq_true rfl, Nat.le_of_ble_eq_true rfl⟩ (Nat.le_of_ble_eq_true rfl) (fun En hx => jt_out C E T0 rfl (Nat.le_of_ble_eq_true rfl) (Nat.le_of_ble_eq_true rfl) (kx0 0 rfl (by rw [f_trial]; exact if_neg hx.1) hx.2)) (fun r w hk => ?_)
  obtain ⟨hl, rfl, rfl⟩ := hk
  obtain ⟨hn0, hj, e_x⟩ := okI_pos (by have := hi.1.1; omega) hl
  refine j_st (st1 := .ref (ad (20 + 3 * ix x)) :: _) rfl ?_
  refine j_astore_n (lv' := [(3, .ref _), (0, .ref _), (1, .int _), (2, .int _)]) C dX3_trial_5 rfl (by decide) rfl ?_
  refine j_iload_n (i := 2) C dX3_trial_6 rfl 3 rfl ?_
  refine j_callSX (nargs := 1) (As := [_]) C gw380 gw381 gw21 (kX3_requireWord l htr D ct sa _ y) gw382 (by decide +kernel) rfl dX3_trial_7 ⟨Nat.le_of_ble_eq_true rfl, Nat.le_of_ble_eq_true rfl⟩ ⟨Nat.le_of_ble_eq_true rfl, Nat.le_of_ble_eq_true rfl⟩ (Nat.le_of_ble_eq_true rfl) (fun En hx => jt_out C E T0 rfl (Nat.le_of_ble_eq_true rfl) (Nat.le_of_ble_eq_true rfl) (kx0 1 rfl (by rw [f_trial, if_pos hl]; exact if_neg hx.1) hx.2)) (fun r w hk => ?_)
  obtain ⟨hw, rfl, rfl⟩ := hk
  obtain ⟨hy, e_y⟩ := okI_ix hw (by decide)
  refine j_st (st1 := []) rfl ?_
  refine j_aload_n (i := 0) C dX3_trial_10 rfl 1 rfl ?_
  refine j_get (Cn := RX3) (T := TX3) (N := 6) (ci := 4) C iX3 rfl (0) rfl 2 (by decide) gw140 rfl rfl dX3_trial_11 ?_
  refine j_aload_n (i := 3) C dX3_trial_14 rfl 0 rfl ?_
  refine j_iload_n (i := 2) C dX3_trial_15 rfl 3 rfl ?_
  refine j_callV (nargs := 2) (As := [_, _]) (Cn := RX2) C (6) rfl rfl rfl gw384 gw385 gw386 gw26 (kX2_trialOf l D ct sa _ 6 _ _ _ (16 + 3 * ix x) _ _ _ _ _ _ _ _ _ _ (ix y) wx_tk (wx_l hj) e_y hy) gw387 (by decide +kernel) rfl dX3_trial_16 ⟨Nat.le_of_ble_eq_true rfl, Nat.le_of_ble_eq_true rfl⟩ ⟨Nat.le_of_ble_eq_true rfl, Nat.le_of_ble_eq_true rfl⟩ (Nat.le_of_ble_eq_true rfl) (dki ?_)
  exact j_ireturn C E rfl dX3_trial_19 (Nat.le_of_ble_eq_true rfl) (Nat.le_of_ble_eq_true rfl) (kr (by rw [f_trial, if_pos hl, if_pos hw, tx_tr σ (hi.2.2.1 _ (by have := hi.1.1; omega)) hy]))
set_option maxRecDepth 100000 in
set_option maxHeartbeats 4000000 in
theorem kX3_safe (l : Launch) (htr : l.stackTraces = false) (D : va_G) (ct : Nat → ClassId) (sa : Nat → Nat) (ad : Nat → Nat) (mcn : Int32) (φ : LD) (σ : St) (wr : va_W) (x : Int32) (hi : Inv1 σ) : jMX l yX3_safe (Cond.code yX3_safe cX3_safe 3 (Option.some Jvm.ClassFile.FieldType.int) :: GW) (rM 7 1 6 122) D ct sa [.ref (ad 0), .int x] (WX ct sa ad mcn φ σ ++ wr) (kR (f_safe σ x) (WX ct sa ad mcn φ σ ++ wr)) (kxF (f_safe σ x) [IOO]) 1 6 := by
  refine jBody (own := RX3) (by decide) rfl rfl (Nat.le_of_ble_eq_true rfl) ?_
  intro X C E T0
  refine j_lv (lv1 := [(0, .ref _), (1, .int _)]) rfl ?_
  refine j_aload_n (i := 0) C dX3_safe_0 rfl 0 rfl ?_
  refine j_iload_n (i := 1) C dX3_safe_1 rfl 1 rfl ?_
  refine j_callVX (nargs := 1) (As := [_]) (Cn := RX3) C (0) rfl rfl rfl gw161 gw163 gw0 gw21 (kX3_lockAt l htr D ct sa ad mcn φ σ wr x hi.1.1) gw164 (by decide +kernel) rfl dX3_safe_2 ⟨Nat.le_of_ble_eq_true rfl, Nat.le_of_ble_eq_true rfl⟩ ⟨Nat.le_of_ble_eq_true rfl, Nat.le_of_ble_eq_true rfl⟩ (Nat.le_of_ble_eq_true rfl) (fun En hx => jt_out C E T0 rfl (Nat.le_of_ble_eq_true rfl) (Nat.le_of_ble_eq_true rfl) (kx0 0 rfl (by rw [f_safe]; exact if_neg hx.1) hx.2)) (fun r w hk => ?_)
  obtain ⟨hl, rfl, rfl⟩ := hk
  obtain ⟨hn0, hj, e_x⟩ := okI_pos (by have := hi.1.1; omega) hl
  refine j_st (st1 := .ref (ad (20 + 3 * ix x)) :: _) rfl ?_
  refine j_astore_n (lv' := [(2, .ref _), (0, .ref _), (1, .int _)]) C dX3_safe_5 rfl (by decide) rfl ?_
  obtain ⟨hv, e_v⟩ := okI_ix (hi.1.2 (ix x) (by have := hi.1.1; omega)).1 (by decide)
  refine j_aload_n (i := 0) C dX3_safe_6 rfl 1 rfl ?_
  refine j_get (Cn := RX3) (T := TX3) (N := 6) (ci := 4) C iX3 rfl (0) rfl 2 (by decide) gw140 rfl rfl dX3_safe_7 ?_
  refine j_aload_n (i := 2) C dX3_safe_10 rfl 0 rfl ?_
  refine j_aload_n (i := 2) C dX3_safe_11 rfl 0 rfl ?_
  refine j_getN (Cn := RX0) (T := TX0) (N := 6) (ci := 1) C iX0 rfl (16 + 3 * ix x) (wx_l (by exact hj)).1 2 (by decide) nw118 rfl rfl dX3_safe_12 ?_
  refine j_callV (nargs := 2) (As := [_, _]) (Cn := RX2) C (6) rfl rfl rfl gw384 gw385 gw386 gw26 (kX2_trialOf l D ct sa _ 6 _ _ _ (16 + 3 * ix x) _ _ _ _ _ _ _ _ _ _ _ wx_tk (wx_l hj) e_v hv) gw387 (by decide +kernel) rfl dX3_safe_15 ⟨Nat.le_of_ble_eq_true rfl, Nat.le_of_ble_eq_true rfl⟩ ⟨Nat.le_of_ble_eq_true rfl, Nat.le_of_ble_eq_true rfl⟩ (Nat.le_of_ble_eq_true rfl) (dki ?_)
  exact j_ireturn C E rfl dX3_safe_18 (Nat.le_of_ble_eq_true rfl) (Nat.le_of_ble_eq_true rfl) (kr (by rw [f_safe, if_pos hl, tx_tr σ (hi.2.2.1 _ (by have := hi.1.1; omega)) hv]))
set_option maxRecDepth 100000 in
set_option maxHeartbeats 4000000 in
theorem kX3_pass (l : Launch) (htr : l.stackTraces = false) (D : va_G) (ct : Nat → ClassId) (sa : Nat → Nat) (ad : Nat → Nat) (mcn : Int32) (φ : LD) (σ : St) (wr : va_W) (x : Int32) (hi : Inv1 σ) : jMX l yX3_pass (Cond.code yX3_pass cX3_pass 5 (Option.some Jvm.ClassFile.FieldType.int) :: GW) (rM 7 1 6 110) D ct sa [.ref (ad 0), .int x] (WX ct sa ad mcn φ σ ++ wr) (kC ct sa ad mcn φ wr (f_pass σ x)) (kxF (f_pass σ x) [IAE]) 1 6 := by
  refine jBody (own := RX3) (by decide) rfl rfl (Nat.le_of_ble_eq_true rfl) ?_
  intro X C E T0
  refine j_lv (lv1 := [(0, .ref _), (1, .int _)]) rfl ?_
  refine j_iload_n (i := 1) C dX3_pass_0 rfl 1 rfl ?_
  refine j_callSX (nargs := 1) (As := [_]) C gw414 gw415 gw21 (kX3_requireHours l htr D ct sa _ x) gw416 (by decide +kernel) rfl dX3_pass_1 ⟨Nat.le_of_ble_eq_true rfl, Nat.le_of_ble_eq_true rfl⟩ ⟨Nat.le_of_ble_eq_true rfl, Nat.le_of_ble_eq_true rfl⟩ (Nat.le_of_ble_eq_true rfl) (fun En hx => jt_out C E T0 rfl (Nat.le_of_ble_eq_true rfl) (Nat.le_of_ble_eq_true rfl) (kx0 0 rfl (by rw [f_pass]; exact if_neg hx.1) hx.2)) (fun r w hk => ?_)
  obtain ⟨hh, rfl, rfl⟩ := hk
  obtain ⟨h1, h2, h3⟩ := ix_99 hh
  obtain ⟨m, hm9, rfl⟩ : ∃ m, m ≤ 99 ∧ x = nI m := ⟨ix x, h2, h3⟩
  have em : ix (nI m) = m := nI_clamp (by omega)
  refine j_st (st1 := []) rfl ?_
  refine j_iconst (v := nI 0) C dX3_pass_4 (by decide) ?_
  refine j_istore_n (lv' := [(2, .int _), (0, .ref _), (1, .int _)]) C dX3_pass_5 rfl (by decide) rfl ?_
  refine j_iconst (v := nI 0) C dX3_pass_6 (by decide) ?_
  refine j_istore_n (lv' := [(3, .int _), (2, .int _), (0, .ref _), (1, .int _)]) C dX3_pass_7 rfl (by decide) rfl ?_
  have L8 : ∀ (d i : Nat) (x2 : Int32) (x3 : Int32) (w : va_W), i + d = m → x2 = hsC σ i → x3 = nI i → w = WX ct sa ad mcn φ (hsS σ i) ++ wr → J X (w) (0 + 1) (0 + 6) 8 [(0, .ref (ad 0)), (1, .int (nI m)), (2, .int x2), (3, .int x3)] [] := by
    intro d
    induction d with
    | zero =>
      intro i x2 x3 w hd e_x2 e_x3 e_w 
      subst e_x2
      subst e_x3
      subst e_w
      have hi9 : i = m := by omega
      subst hi9
      refine j_iload_n (i := 3) C dX3_pass_8 rfl 3 rfl ?_
      refine j_iload_n (i := 1) C dX3_pass_9 rfl 1 rfl ?_
      refine j_icmp_ge C 76 dX3_pass_10 (by decide) (fun c10 => ?_) (fun c10 => by first | exact absurd c10 (by decide) | exact absurd c10 (nI_ge (by omega) (by omega)) | exact absurd (nI_le (by omega) (by omega)) c10 | exact absurd c10 (nI_nlt (by omega) (by omega)) | exact absurd (nI_lt (by omega) (by omega)) c10 | exact absurd c10 (nI_nle0 (by omega) (by omega)))
      refine j_iload_n (i := 2) C dX3_pass_76 rfl 2 rfl ?_
      exact j_ireturn C E rfl dX3_pass_77 (Nat.le_of_ble_eq_true rfl) (Nat.le_of_ble_eq_true rfl) (kc (by rw [f_pass, em]; exact if_pos hh))
    | succ d ih =>
      intro i x2 x3 w hd e_x2 e_x3 e_w 
      subst e_x2
      subst e_x3
      subst e_w
      have hiτ := inv1_hs hi i
      have hn8 := hiτ.1.1
      refine j_iload_n (i := 3) C dX3_pass_8 rfl 3 rfl ?_
      refine j_iload_n (i := 1) C dX3_pass_9 rfl 1 rfl ?_
      refine j_icmp_ge C 76 dX3_pass_10 (by decide) (fun c10 => by first | exact absurd c10 (by decide) | exact absurd c10 (nI_ge (by omega) (by omega)) | exact absurd (nI_le (by omega) (by omega)) c10 | exact absurd c10 (nI_nlt (by omega) (by omega)) | exact absurd (nI_lt (by omega) (by omega)) c10 | exact absurd c10 (nI_nle0 (by omega) (by omega))) (fun c10 => ?_)
      refine j_iconst (v := nI 0) C dX3_pass_13 (by decide) ?_
      refine j_istore (lv' := [(4, .int _), (0, .ref _), (1, .int _), (2, .int _), (3, .int _)]) C dX3_pass_14 (by decide) rfl ?_
      have L16 : ∀ (d t : Nat) (x2 : Int32) (x4 : Int32) (w : va_W), t + d = sN (hsS σ i) → x2 = hsC σ i + cCF (sK (hsS σ i)) (sH (hsS σ i)) (sR (hsS σ i)) t → x4 = nI t → w = WX ct sa ad mcn φ (hX (hsS σ i) t) ++ wr → J X (w) (0 + 1) (0 + 6) 16 [(0, .ref (ad 0)), (1, .int (nI m)), (2, .int x2), (3, .int (nI i)), (4, .int x4)] [] := by
        intro d
        induction d with
        | zero =>
          intro t x2 x4 w hd e_x2 e_x4 e_w 
          subst e_x2
          subst e_x4
          subst e_w
          have ht : t = sN (hsS σ i) := by omega
          rw [ht]
          refine j_iload C dX3_pass_16 4 rfl ?_
          refine j_aload_n (i := 0) C dX3_pass_18 rfl 0 rfl ?_
          refine j_get (Cn := RX3) (T := TX3) (N := 6) (ci := 4) C iX3 rfl (0) rfl 0 (by decide) gw138 rfl rfl dX3_pass_19 ?_
          refine j_callV (nargs := 0) (As := []) (Cn := RJx4a65c) C (1) wx_li rfl rfl gw165 gw166 gw167 gw24 (kJx4a65c_size_8abf5 l D ct sa _ 1 (ad 1) mcn _ (sN (hsS σ i)) wx_li) gw168 (by decide +kernel) rfl dX3_pass_22 ⟨Nat.le_of_ble_eq_true rfl, Nat.le_of_ble_eq_true rfl⟩ ⟨Nat.le_of_ble_eq_true rfl, Nat.le_of_ble_eq_true rfl⟩ (Nat.le_of_ble_eq_true rfl) (dki ?_)
          refine j_icmp_ge C 60 dX3_pass_25 (by decide) (fun c25 => ?_) (fun c25 => by first | exact absurd c25 (nI_ge (b := sN (hsS σ i)) (by omega) (by omega)) | exact (c25 (nI_le (Nat.le_refl (sN (hsS σ i))) (by omega))).elim)
          refine j_aload_n (i := 0) C dX3_pass_60 rfl 0 rfl ?_
          refine j_dup C dX3_pass_61 rfl ?_
          refine j_get (Cn := RX3) (T := TX3) (N := 6) (ci := 4) C iX3 rfl (0) rfl 4 (by decide) gw142 rfl rfl dX3_pass_62 ?_
          refine j_iconst (v := nI 1) C dX3_pass_65 (by decide) ?_
          refine j_iadd C dX3_pass_66 ?_
          refine j_put (Cn := RX3) (T := TX3) (N := 6) (ci := 4) (ws2 := WX ct sa ad mcn φ (hsS σ (i + 1)) ++ wr) C iX3 tyX3 tyX3_ok nmX3 rfl (0) rfl 4 (by decide) gw142 rfl rfl rfl rfl rfl (Nat.le_of_ble_eq_true rfl) rfl dX3_pass_67 ?_
          refine j_iinc (z := 3) (lv' := [(3, .int _), (0, .ref _), (1, .int _), (2, .int _), (4, .int _)]) C dX3_pass_70 rfl rfl (by decide) rfl ?_
          refine j_goto C 8 dX3_pass_73 (by decide) ?_
          exact j_lvs [1, 2, 3, 0] rfl (ih (i + 1) _ _ _ (by omega) (rfl) (nI_1 i) (rfl))
        | succ d ih =>
          intro t x2 x4 w hd e_x2 e_x4 e_w 
          subst e_x2
          subst e_x4
          subst e_w
          have hj : t < sN (hsS σ i) := by omega
          refine j_iload C dX3_pass_16 4 rfl ?_
          refine j_aload_n (i := 0) C dX3_pass_18 rfl 0 rfl ?_
          refine j_get (Cn := RX3) (T := TX3) (N := 6) (ci := 4) C iX3 rfl (0) rfl 0 (by decide) gw138 rfl rfl dX3_pass_19 ?_
          refine j_callV (nargs := 0) (As := []) (Cn := RJx4a65c) C (1) wx_li rfl rfl gw165 gw166 gw167 gw24 (kJx4a65c_size_8abf5 l D ct sa _ 1 (ad 1) mcn _ (sN (hsS σ i)) wx_li) gw168 (by decide +kernel) rfl dX3_pass_22 ⟨Nat.le_of_ble_eq_true rfl, Nat.le_of_ble_eq_true rfl⟩ ⟨Nat.le_of_ble_eq_true rfl, Nat.le_of_ble_eq_true rfl⟩ (Nat.le_of_ble_eq_true rfl) (dki ?_)
          refine j_icmp_ge C 60 dX3_pass_25 (by decide) (fun c25 => by first | exact absurd c25 (nI_ge (b := sN (hsS σ i)) (by omega) (by omega)) | exact (c25 (nI_le (Nat.le_refl (sN (hsS σ i))) (by omega))).elim) (fun c25 => ?_)
          refine j_aload_n (i := 0) C dX3_pass_28 rfl 0 rfl ?_
          refine j_aload_n (i := 0) C dX3_pass_29 rfl 0 rfl ?_
          refine j_get (Cn := RX3) (T := TX3) (N := 6) (ci := 4) C iX3 rfl (0) rfl 0 (by decide) gw138 rfl rfl dX3_pass_30 ?_
          refine j_iload C dX3_pass_33 4 rfl ?_
          refine j_callV (nargs := 1) (As := [_]) (Cn := RJx4a65c) C (1) (wx_li1 (σ := (hX (hsS σ i) t)) (show 0 < sN (hsS σ i) by omega)) rfl rfl gw237 gw238 gw239 gw24 (kJx4a65c_get_915e3 l D ct sa (WX ct sa ad mcn φ (hX (hsS σ i) t) ++ wr) 1 (16 + 3 * sN (hsS σ i)) (ad 1) (ad 2) mcn (sN (hsS σ i)) 10 _ _ t (ad (20 + 3 * t)) (wx_li1 (σ := (hX (hsS σ i) t)) (show 0 < sN (hsS σ i) by omega)) (wx_ar (σ := (hX (hsS σ i) t)) (show 0 < sN (hsS σ i) by omega)) rfl hj (by omega) (by decide) (if_pos hj)) gw240 (by decide +kernel) rfl dX3_pass_35 ⟨Nat.le_of_ble_eq_true rfl, Nat.le_of_ble_eq_true rfl⟩ ⟨Nat.le_of_ble_eq_true rfl, Nat.le_of_ble_eq_true rfl⟩ (Nat.le_of_ble_eq_true rfl) (dkr ?_)
          refine j_castE C (16 + 3 * t) (wx_l (σ := (hX (hsS σ i) t)) hj).1 rfl rfl gw109 dX3_pass_38 ?_
          refine j_aload_n (i := 0) C dX3_pass_41 rfl 0 rfl ?_
          refine j_get (Cn := RX3) (T := TX3) (N := 6) (ci := 4) C iX3 rfl (0) rfl 4 (by decide) gw142 rfl rfl dX3_pass_42 ?_
          refine j_callV (nargs := 2) (As := [_, _]) (Cn := RX3) C (0) rfl rfl rfl gw418 gw420 gw13 gw21 (kX3_letHourGoBy l D ct sa ad (WX ct sa ad mcn φ (hX (hsS σ i) t) ++ wr) (16 + 3 * t) _ _ _ _ _ _ _ _ _ _ _ (sK (hsS σ i)) _ (wx_l (σ := (hX (hsS σ i) t)) hj) wx_xb (by omega) (hx_let hiτ.1 (by omega)).1 (hx_let hiτ.1 (by omega)).2) gw421 (by decide +kernel) rfl dX3_pass_45 ⟨Nat.le_of_ble_eq_true rfl, Nat.le_of_ble_eq_true rfl⟩ ⟨Nat.le_of_ble_eq_true rfl, Nat.le_of_ble_eq_true rfl⟩ (Nat.le_of_ble_eq_true rfl) (dki ?_)
          refine j_ws (ws1 := WX ct sa ad mcn φ (hX (hsS σ i) (t + 1)) ++ wr) (wx_hr hiτ.1 hj) ?_
          refine j_if_eq C 54 dX3_pass_48 (by decide) (fun c48 => ?_) (fun c48 => ?_)
          · refine j_iinc (z := 4) (lv' := [(4, .int _), (0, .ref _), (1, .int _), (2, .int _), (3, .int _)]) C dX3_pass_54 rfl rfl (by decide) rfl ?_
            refine j_goto C 16 dX3_pass_57 (by decide) ?_
            exact j_lvs [1, 2, 3, 4, 0] rfl (ih (t + 1) _ _ _ (by omega) (by first | exact cc_y hiτ.1 (by omega) _ (b2i_t c48) | exact cc_n hiτ.1 (by omega) _ (b2i_f c48)) (nI_1 t) (rfl))
          · refine j_iinc (z := 2) (lv' := [(2, .int _), (0, .ref _), (1, .int _), (3, .int _), (4, .int _)]) C dX3_pass_51 rfl rfl (by decide) rfl ?_
            refine j_iinc (z := 4) (lv' := [(4, .int _), (2, .int _), (0, .ref _), (1, .int _), (3, .int _)]) C dX3_pass_54 rfl rfl (by decide) rfl ?_
            refine j_goto C 16 dX3_pass_57 (by decide) ?_
            exact j_lvs [2, 3, 1, 4, 0] rfl (ih (t + 1) _ _ _ (by omega) (by first | exact cc_y hiτ.1 (by omega) _ (b2i_t c48) | exact cc_n hiτ.1 (by omega) _ (b2i_f c48)) (nI_1 t) (rfl))
      exact j_lvs [1, 2, 3, 4, 0] rfl (L16 (sN (hsS σ i)) (0) _ _ _ (by omega) ((i_add0 _).symm) (rfl) (rfl))
  exact j_lvs [2, 3, 1, 0] rfl (L8 (m) (0) _ _ _ (by omega) (rfl) (rfl) (rfl))
