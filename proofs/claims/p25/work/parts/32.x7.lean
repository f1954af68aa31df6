set_option maxRecDepth 100000 in
set_option maxHeartbeats 600000 in
theorem kX3_mean (l : Launch) (D : va_G) (ct : Nat → ClassId) (sa : Nat → Nat) (ad : Nat → Nat) (mcn : Int32) (φ : LD) (σ : St) (wr : va_W) (hi : Inv1 σ) : jM l yX3_mean (Cond.code yX3_mean cX3_mean 2 (Option.some Jvm.ClassFile.FieldType.double) :: GW) (rM 4 0 0 86) D ct sa [.ref (ad 0)] (WX ct sa ad mcn φ σ ++ wr) (dK (some (.double (mnF σ))) (WX ct sa ad mcn φ σ ++ wr)) 0 0 := by
  refine jMX.plain (jBody (own := RX3) (by decide) rfl rfl (Nat.le_of_ble_eq_true rfl) ?_)
  intro X C E T0
  refine j_lv (lv1 := [(0, .ref _)]) rfl ?_
  refine j_aload_n (i := 0) C dX3_mean_0 rfl 0 rfl ?_
  refine j_get (Cn := RX3) (T := TX3) (N := 6) (ci := 4) C iX3 rfl (0) rfl 0 (by decide) gw138 rfl rfl dX3_mean_1 ?_
  refine j_callV (nargs := 0) (As := []) (Cn := RJx4a65c) C (1) wx_li rfl rfl gw165 gw166 gw167 gw24 (kJx4a65c_size_8abf5 l D ct sa _ 1 (ad 1) mcn _ (sN σ) wx_li) gw168 (by decide +kernel) rfl dX3_mean_4 ⟨Nat.le_of_ble_eq_true rfl, Nat.le_of_ble_eq_true rfl⟩ ⟨Nat.le_of_ble_eq_true rfl, Nat.le_of_ble_eq_true rfl⟩ (Nat.le_of_ble_eq_true rfl) (dki ?_)
  refine j_iconst (v := nI 4) C dX3_mean_7 (by decide) ?_
  refine j_imul C dX3_mean_8 ?_
  refine j_bipush (v := nI 6) C dX3_mean_9 (by decide) ?_
  refine j_imul C dX3_mean_11 ?_
  refine j_st (st1 := .int (nI (24 * sN σ)) :: _) (by rw [pk_mul, pk_mul, show sN σ * 4 * 6 = 24 * sN σ by omega]) ?_
  refine j_istore_n (lv' := [(1, .int _), (0, .ref _)]) C dX3_mean_12 rfl (by decide) rfl ?_
  refine j_iload_n (i := 1) C dX3_mean_13 rfl 0 rfl ?_
  refine j_if_ne C 19 dX3_mean_14 (by decide) (fun c14 => ?_) (fun c14 => ?_)
  · have hnn : ¬ sN σ = 0 := fun z => c14 (by rw [z]; rfl)
    refine j_aload_n (i := 0) C dX3_mean_19 rfl 1 rfl ?_
    refine j_callV (nargs := 0) (As := []) (Cn := RX3) C (0) rfl rfl rfl gw363 gw365 gw9 gw21 (kX3_allWear l D ct sa ad mcn φ σ wr hi.1.1) gw366 (by decide +kernel) rfl dX3_mean_20 ⟨Nat.le_of_ble_eq_true rfl, Nat.le_of_ble_eq_true rfl⟩ ⟨Nat.le_of_ble_eq_true rfl, Nat.le_of_ble_eq_true rfl⟩ (Nat.le_of_ble_eq_true rfl) (dki ?_)
    refine j_st (st1 := .int (sumF (sW σ) 192) :: _) (by rw [s_wear hi]) ?_
    refine j_i2d C dX3_mean_23 ?_
    refine j_iload_n (i := 1) C dX3_mean_24 rfl 0 rfl ?_
    refine j_i2d C dX3_mean_25 ?_
    refine j_ddiv C dX3_mean_26 (n64_div (nI_ne0 (n := 24 * sN σ) (by omega) (by have := hi.1.1; omega))) ?_
    exact j_dreturn C E dX3_mean_27 (Nat.le_of_ble_eq_true rfl) (Nat.le_of_ble_eq_true rfl) (⟨congrArg (fun z => some (Value.double z)) (by first | exact (if_pos hn0).symm | exact (if_neg hnn).symm), rfl⟩)
  · have hn0 : sN σ = 0 := Nat.eq_zero_of_not_pos (fun z => nI_ne0 (n := 24 * sN σ) (by omega) (by have := hi.1.1; omega) c14)
    refine j_dconst0 C dX3_mean_17 ?_
    exact j_dreturn C E dX3_mean_18 (Nat.le_of_ble_eq_true rfl) (Nat.le_of_ble_eq_true rfl) (⟨congrArg (fun z => some (Value.double z)) (by first | exact (if_pos hn0).symm | exact (if_neg hnn).symm), rfl⟩)
set_option maxRecDepth 100000 in
set_option maxHeartbeats 600000 in
theorem kX3_lock (l : Launch) (htr : l.stackTraces = false) (D : va_G) (ct : Nat → ClassId) (sa : Nat → Nat) (ad : Nat → Nat) (mcn : Int32) (φ : LD) (σ : St) (wr : va_W) (x : Int32) (hi : Inv1 σ) : jMX l yX3_lock (Cond.code yX3_lock cX3_lock 2 (Option.some Jvm.ClassFile.FieldType.int) :: GW) (rM 7 5 50 110) D ct sa [.ref (ad 0), .int x] (WX ct sa ad mcn φ σ ++ wr) (kL ct sa ad φ wr (f_lock σ x)) (kxF (f_lock σ x) [IAE, ISE]) 5 50 := by
  refine jBody (own := RX3) (by decide) rfl rfl (Nat.le_of_ble_eq_true rfl) ?_
  intro X C E T0
  refine j_lv (lv1 := [(0, .ref _), (1, .int _)]) rfl ?_
  refine j_iload_n (i := 1) C dX3_lock_0 rfl 1 rfl ?_
  refine j_callSX (nargs := 1) (As := [_]) C gw380 gw381 gw21 (kX3_requireWord l htr D ct sa _ x) gw382 (by decide +kernel) rfl dX3_lock_1 ⟨Nat.le_of_ble_eq_true rfl, Nat.le_of_ble_eq_true rfl⟩ ⟨Nat.le_of_ble_eq_true rfl, Nat.le_of_ble_eq_true rfl⟩ (Nat.le_of_ble_eq_true rfl) (fun En hx => jt_out C E T0 rfl (Nat.le_of_ble_eq_true rfl) (Nat.le_of_ble_eq_true rfl) (kx0 0 rfl (by rw [f_lock]; exact if_neg hx.1) hx.2)) (fun r w hk => ?_)
  obtain ⟨hw, rfl, rfl⟩ := hk
  refine j_st (st1 := []) rfl ?_
  refine j_aload_n (i := 0) C dX3_lock_4 rfl 0 rfl ?_
  refine j_get (Cn := RX3) (T := TX3) (N := 6) (ci := 4) C iX3 rfl (0) rfl 0 (by decide) gw138 rfl rfl dX3_lock_5 ?_
  refine j_callV (nargs := 0) (As := []) (Cn := RJx4a65c) C (1) wx_li rfl rfl gw165 gw166 gw167 gw24 (kJx4a65c_size_8abf5 l D ct sa _ 1 (ad 1) mcn _ (sN σ) wx_li) gw168 (by decide +kernel) rfl dX3_lock_8 ⟨Nat.le_of_ble_eq_true rfl, Nat.le_of_ble_eq_true rfl⟩ ⟨Nat.le_of_ble_eq_true rfl, Nat.le_of_ble_eq_true rfl⟩ (Nat.le_of_ble_eq_true rfl) (dki ?_)
  refine j_bipush (v := nI 8) C dX3_lock_11 (by decide) ?_
  refine j_icmp_lt C 26 dX3_lock_13 (by decide) (fun c13 => ?_) (fun c13 => ?_)
  · have h8 : sN σ < 8 := (nI_ltI (by have := hi.1.1; omega) (by decide)).mp c13
    have hn8 : ¬ nI (sN σ) = nI 8 := nI_ne (by omega) (by omega) (by decide)
    refine j_aload_n (i := 0) C dX3_lock_26 rfl 0 rfl ?_
    refine j_get (Cn := RX3) (T := TX3) (N := 6) (ci := 4) C iX3 rfl (0) rfl 0 (by decide) gw138 rfl rfl dX3_lock_27 ?_
    refine j_new (Cn := RX0) (T := TX0) (N := 6) (ci := 1) (fs := [.null, .null, .int (nI 0), .int (nI 0), .int (nI 0), .int (nI 0)]) C iX0 tyX0 tyX0_ok gw109 gw110 gw27 rfl (fun j hj => by match j, hj with | 0, _ => rfl | 1, _ => rfl | 2, _ => rfl | 3, _ => rfl | 4, _ => rfl | 5, _ => rfl) (Nat.le_of_ble_eq_true rfl) (Nat.le_of_ble_eq_true rfl) dX3_lock_30 (fun h => ?_)
    refine j_dup C dX3_lock_33 rfl ?_
    refine j_iload_n (i := 1) C dX3_lock_34 rfl 1 rfl ?_
    refine j_callI (nargs := 1) (As := [_]) C gw111 gw112 gw27 rfl (kX0_init l D ct sa _ (WX ct sa ad mcn φ σ ++ wr).length h x gA) gw113 (by decide +kernel) rfl dX3_lock_35 ⟨Nat.le_of_ble_eq_true rfl, Nat.le_of_ble_eq_true rfl⟩ ⟨Nat.le_of_ble_eq_true rfl, Nat.le_of_ble_eq_true rfl⟩ (Nat.le_of_ble_eq_true rfl) (fun r w hk => ?_)
    obtain ⟨q1, q2, rfl, rfl⟩ := hk
    refine j_ws (ws1 := WX ct sa ad mcn φ σ ++ wr ++ nwL ct h q1 q2 x) (by rw [sA, List.append_assoc]; rfl) ?_
    refine j_st (st1 := .ref h :: .ref (ad 1) :: []) rfl ?_
    by_cases h0 : sN σ = 0
    · refine j_callV (nargs := 1) (As := [_]) (Cn := RJx4a65c) C (1) (app_at (wx_li0 h0)) rfl rfl gw546 gw547 gw548 gw24 (kJx4a65c_add_9ea2d_0 l D ct sa (WX ct sa ad mcn φ σ ++ wr ++ nwL ct h q1 q2 x) 1 (ad 1) ((WX ct sa ad mcn φ σ ++ wr).length) h mcn _ (app_at (wx_li0 h0)) th_at0 (by rw [wx_len]; omega)) gw549 (by decide +kernel) rfl dX3_lock_38 ⟨Nat.le_of_ble_eq_true rfl, Nat.le_of_ble_eq_true rfl⟩ ⟨Nat.le_of_ble_eq_true rfl, Nat.le_of_ble_eq_true rfl⟩ (Nat.le_of_ble_eq_true rfl) (fun r w hk => ?_)
      obtain ⟨q, rfl, rfl⟩ := hk
      refine j_st (st1 := .int (nI 1) :: []) rfl ?_
      refine j_pop C dX3_lock_41 rfl ?_
      refine j_aload_n (i := 0) C dX3_lock_42 rfl 0 rfl ?_
      refine j_get (Cn := RX3) (T := TX3) (N := 6) (ci := 4) C iX3 rfl (0) (app_at ((set_ne (by decide)).trans (app_at rfl))) 0 (by decide) gw138 rfl rfl dX3_lock_43 ?_
      refine j_callV (nargs := 0) (As := []) (Cn := RJx4a65c) C (1) (app_at (set_eq (app_at (wx_li0 h0)))) rfl rfl gw165 gw166 gw167 gw24 (kJx4a65c_size_8abf5 l D ct sa _ 1 (ad 1) _ _ 1 (app_at (set_eq (app_at (wx_li0 h0))))) gw168 (by decide +kernel) rfl dX3_lock_46 ⟨Nat.le_of_ble_eq_true rfl, Nat.le_of_ble_eq_true rfl⟩ ⟨Nat.le_of_ble_eq_true rfl, Nat.le_of_ble_eq_true rfl⟩ (Nat.le_of_ble_eq_true rfl) (dki ?_)
      refine j_iconst (v := nI 1) C dX3_lock_49 (by decide) ?_
      refine j_isub C dX3_lock_50 ?_
      refine j_st (st1 := .int (nI (sN σ)) :: []) (by rw [h0]; rfl) ?_
      refine j_ws (wn_0 h0) ?_
      refine j_swap (a := ((FX ct sa ad mcn φ σ).set 1 (ad 1, .inr (0, [.int (mcn + nI 1), .ref (q), .int (nI (sN σ + 1))])) ++ LX ct ad (ldS σ) (sN σ))) (b := wr) (c0 := nwL ct h q1 q2 x ++ [(arO ct (q) (va_up (fun _ => none) 0 (some h)))]) rfl ?_
      refine j_ws (ws1 := WX ct sa (adN ad (sN σ) h q1 q2 q) (mcn + nI 1) φ (nwS σ x) ++ wr) (congrArg (fun w => w ++ wr) (wn_new hi h8 (fun z => absurd z (by omega)) _ (f_new0 h0))) ?_
      exact j_ireturn C E rfl dX3_lock_51 (Nat.le_of_ble_eq_true rfl) (Nat.le_of_ble_eq_true rfl) (kl (by rw [f_lock, if_pos hw]; exact if_neg hn8) (adN_o (by omega) (fun z => absurd z (by decide))))
    · refine j_callV (nargs := 1) (As := [_]) (Cn := RJx4a65c) C (1) (app_at (wx_li1 (by omega))) rfl rfl gw546 gw547 gw548 gw24 (kJx4a65c_add_9ea2d_1 l D ct sa (WX ct sa ad mcn φ σ ++ wr ++ nwL ct h q1 q2 x) 1 (ad 1) ((WX ct sa ad mcn φ σ ++ wr).length) h (16 + 3 * sN σ) (ad 2) (sN σ) mcn _ _ (app_at (wx_li1 (by omega))) th_at0 (by rw [wx_len]; omega) (app_at (wx_ar (by omega))) (by omega) (by omega) (by omega)) gw549 (by decide +kernel) rfl dX3_lock_38 ⟨Nat.le_of_ble_eq_true rfl, Nat.le_of_ble_eq_true rfl⟩ ⟨Nat.le_of_ble_eq_true rfl, Nat.le_of_ble_eq_true rfl⟩ (Nat.le_of_ble_eq_true rfl) (dki ?_)
      refine j_pop C dX3_lock_41 rfl ?_
      refine j_aload_n (i := 0) C dX3_lock_42 rfl 0 rfl ?_
      refine j_get (Cn := RX3) (T := TX3) (N := 6) (ci := 4) C iX3 rfl (0) ((set_ne (by decide)).trans ((set_ne (by omega)).trans (app_at rfl))) 0 (by decide) gw138 rfl rfl dX3_lock_43 ?_
      refine j_callV (nargs := 0) (As := []) (Cn := RJx4a65c) C (1) (set_eq ((set_ne (by omega)).trans (app_at (wx_li1 (by omega))))) rfl rfl gw165 gw166 gw167 gw24 (kJx4a65c_size_8abf5 l D ct sa _ 1 (ad 1) _ _ (sN σ + 1) (set_eq ((set_ne (by omega)).trans (app_at (wx_li1 (by omega)))))) gw168 (by decide +kernel) rfl dX3_lock_46 ⟨Nat.le_of_ble_eq_true rfl, Nat.le_of_ble_eq_true rfl⟩ ⟨Nat.le_of_ble_eq_true rfl, Nat.le_of_ble_eq_true rfl⟩ (Nat.le_of_ble_eq_true rfl) (dki ?_)
      refine j_iconst (v := nI 1) C dX3_lock_49 (by decide) ?_
      refine j_isub C dX3_lock_50 ?_
      refine j_st (st1 := .int (nI (sN σ)) :: []) (congrArg (fun z => Value.int z :: []) (nI_pred (sN σ))) ?_
      refine j_ws (wn_1 (by omega)) ?_
      refine j_swap (a := ((FX ct sa ad mcn φ σ).set 1 (ad 1, .inr (0, [.int (mcn + nI 1), .ref (ad 2), .int (nI (sN σ + 1))])) ++ LX ct ad (ldS σ) (sN σ))) (b := [(arO ct (ad 2) (va_up (fun i => if i < sN σ then some (ad (20 + 3 * i)) else none) (sN σ) (some h)))] ++ wr) (c0 := nwL ct h q1 q2 x) rfl ?_
      refine j_ws (ws1 := WX ct sa (adN ad (sN σ) h q1 q2 (ad 2)) (mcn + nI 1) φ (nwS σ x) ++ wr) ((by simp only [List.append_assoc] : _ = (((FX ct sa ad mcn φ σ).set 1 (ad 1, .inr (0, [.int (mcn + nI 1), .ref (ad 2), .int (nI (sN σ + 1))])) ++ LX ct ad (ldS σ) (sN σ)) ++ (nwL ct h q1 q2 x ++ [(arO ct (ad 2) (va_up (fun i => if i < sN σ then some (ad (20 + 3 * i)) else none) (sN σ) (some h)))])) ++ wr).trans (congrArg (fun w => w ++ wr) (wn_new hi h8 (fun _ => rfl) _ f_new1))) ?_
      exact j_ireturn C E rfl dX3_lock_51 (Nat.le_of_ble_eq_true rfl) (Nat.le_of_ble_eq_true rfl) (kl (by rw [f_lock, if_pos hw]; exact if_neg hn8) (adN_o (by omega) (fun z => absurd z (by decide))))
  · have e8 : sN σ = 8 := by
      have h1 := hi.1.1
      rcases Nat.lt_or_ge (sN σ) 8 with z | z
      · exact absurd (nI_lt z (by decide)) c13
      · omega
    exact j_throwS C E T0 htr (cls := ISE) (text := "there are 8 locks") (names := EXN) rfl (by decide +kernel) exn_fit gw530 gw34 (by decide) at_ISE ok_ISE dX3_lock_16 dX3_lock_19 dX3_lock_20 dX3_lock_22 dX3_lock_25 (by decide) (Nat.le_of_ble_eq_true rfl) (Nat.le_of_ble_eq_true rfl) (Nat.le_of_ble_eq_true rfl) rfl (kx0 1 rfl (by rw [f_lock, if_pos hw]; exact if_pos (by rw [e8])) rfl) (Nat.le_of_ble_eq_true rfl) (Nat.le_of_ble_eq_true rfl)
