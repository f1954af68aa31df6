set_option maxRecDepth 100000 in
set_option maxHeartbeats 600000 in
theorem kX4_mean (l : Launch) (D : va_G) (ct : Nat → ClassId) (sa : Nat → Nat) (a : Nat → Nat) (thr : Int32) (σ : St) (wr : va_W) (hi : Inv0 σ) : jM l yX4_mean (Cond.code yX4_mean cX4_mean 1 (Option.some Jvm.ClassFile.FieldType.double) :: GW) (rM 3 0 0 71) D ct sa [.ref (a 0)] (WM ct a thr σ ++ wr) (dK (some (.double (mnF σ))) (WM ct a (nI 0) σ ++ wr)) 0 0 := by
  refine jMX.plain (jBody (own := RX4) (by decide) rfl rfl (Nat.le_of_ble_eq_true rfl) ?_)
  intro X C E T0
  refine j_lv (lv1 := [(0, .ref _)]) rfl ?_
  refine j_aload_n (i := 0) C dX4_mean_0 rfl 0 rfl ?_
  refine j_iconst (v := nI 0) C dX4_mean_1 (by decide) ?_
  refine j_put (Cn := RX4) (T := TX4) (N := 7) (ci := 5) (ws2 := WM ct a (nI 0) σ ++ wr) C iX4 tyX4 tyX4_ok nmX4 rfl (0) rfl 0 (by decide) gw677 rfl rfl rfl rfl rfl (Nat.le_of_ble_eq_true rfl) rfl dX4_mean_2 ?_
  refine j_aload_n (i := 0) C dX4_mean_5 rfl 0 rfl ?_
  refine j_get (Cn := RX4) (T := TX4) (N := 7) (ci := 5) C iX4 rfl (0) rfl 1 (by decide) gw678 rfl rfl dX4_mean_6 ?_
  refine j_if_ne C 16 dX4_mean_9 (by decide) (fun c9 => ?_) (fun c9 => ?_)
  · have hnn : ¬ sN σ = 0 := fun z => c9 (by rw [z]; rfl)
    refine j_aload_n (i := 0) C dX4_mean_16 rfl 0 rfl ?_
    refine j_iconst (v := nI 4) C dX4_mean_17 (by decide) ?_
    refine j_callV (nargs := 1) (As := [_]) (Cn := RX4) C (0) rfl rfl rfl gw821 gw823 gw34 gw49 (kX4_counted l D ct sa a (nI 0) σ wr _ 4 hi.1 rfl (by decide)) gw824 (by decide +kernel) rfl dX4_mean_18 ⟨Nat.le_of_ble_eq_true rfl, Nat.le_of_ble_eq_true rfl⟩ ⟨Nat.le_of_ble_eq_true rfl, Nat.le_of_ble_eq_true rfl⟩ (Nat.le_of_ble_eq_true rfl) (dki ?_)
    refine j_i2d C dX4_mean_21 ?_
    refine j_bipush (v := nI 24) C dX4_mean_22 (by decide) ?_
    refine j_aload_n (i := 0) C dX4_mean_24 rfl 0 rfl ?_
    refine j_get (Cn := RX4) (T := TX4) (N := 7) (ci := 5) C iX4 rfl (0) rfl 1 (by decide) gw678 rfl rfl dX4_mean_25 ?_
    refine j_imul C dX4_mean_28 ?_
    refine j_st (st1 := .int (nI (24 * sN σ)) :: _) (by rw [pk_mul]) ?_
    refine j_i2d C dX4_mean_29 ?_
    refine j_ddiv C dX4_mean_30 (n64_div (nI_ne0 (by omega) (by have := hi.1; omega))) ?_
    exact j_dreturn C E dX4_mean_31 (Nat.le_of_ble_eq_true rfl) (Nat.le_of_ble_eq_true rfl) (⟨congrArg (fun z => some (Value.double z)) (by first | exact (if_pos hn0).symm | exact (if_neg hnn).symm), rfl⟩)
  · have hn0 : sN σ = 0 := Nat.eq_zero_of_not_pos (fun z => nI_ne0 z (by have := hi.1; omega) c9)
    refine j_dconst0 C dX4_mean_12 ?_
    refine j_goto C 31 dX4_mean_13 (by decide) ?_
    exact j_dreturn C E dX4_mean_31 (Nat.le_of_ble_eq_true rfl) (Nat.le_of_ble_eq_true rfl) (⟨congrArg (fun z => some (Value.double z)) (by first | exact (if_pos hn0).symm | exact (if_neg hnn).symm), rfl⟩)
set_option maxRecDepth 100000 in
set_option maxHeartbeats 600000 in
theorem kX3_mean (l : Launch) (D : va_G) (ct : Nat → ClassId) (sa : Nat → Nat) (ad : Nat → Nat) (mcn : Int32) (φ : LD) (σ : St) (wr : va_W) (hi : Inv1 σ) : jM l yX3_mean (Cond.code yX3_mean cX3_mean 2 (Option.some Jvm.ClassFile.FieldType.double) :: GW) (rM 4 0 0 86) D ct sa [.ref (ad 0)] (WX ct sa ad mcn φ σ ++ wr) (dK (some (.double (mnF σ))) (WX ct sa ad mcn φ σ ++ wr)) 0 0 := by
  refine jMX.plain (jBody (own := RX3) (by decide) rfl rfl (Nat.le_of_ble_eq_true rfl) ?_)
  intro X C E T0
  refine j_lv (lv1 := [(0, .ref _)]) rfl ?_
  refine j_aload_n (i := 0) C dX3_mean_0 rfl 0 rfl ?_
  refine j_get (Cn := RX3) (T := TX3) (N := 6) (ci := 4) C iX3 rfl (0) rfl 0 (by decide) gw158 rfl rfl dX3_mean_1 ?_
  refine j_callV (nargs := 0) (As := []) (Cn := RJx4a65c) C (1) wx_li rfl rfl gw181 gw182 gw183 gw45 (kJx4a65c_size_8abf5 l D ct sa _ 1 (ad 1) mcn _ (sN σ) wx_li) gw184 (by decide +kernel) rfl dX3_mean_4 ⟨Nat.le_of_ble_eq_true rfl, Nat.le_of_ble_eq_true rfl⟩ ⟨Nat.le_of_ble_eq_true rfl, Nat.le_of_ble_eq_true rfl⟩ (Nat.le_of_ble_eq_true rfl) (dki ?_)
  refine j_iconst (v := nI 4) C dX3_mean_7 (by decide) ?_
  refine j_imul C dX3_mean_8 ?_
  refine j_bipush (v := nI 6) C dX3_mean_9 (by decide) ?_
  refine j_imul C dX3_mean_11 ?_
  refine j_st (st1 := .int (nI (24 * sN σ)) :: _) (by rw [pk_mul, pk_mul, show sN σ * 4 * 6 = 24 * sN σ by omega]) ?_
  refine j_istore_n (lv' := [(1, .int _), (0, .ref _)]) C dX3_mean_12 rfl (by decide) rfl ?_
  refine j_iload_n (i := 1) C dX3_mean_13 rfl 0 rfl ?_
  refine j_if_ne C 19 dX3_mean_14 (by decide) (fun c14 => ?_) (fun c14 => ?_)
  · have hnn : ¬ sN σ = 0 := fun z => c14 (by rw [z]; rfl)
    refine j_aload_n (i := 0) C dX3_mean_19 rfl 1 rfl ?_
    refine j_callV (nargs := 0) (As := []) (Cn := RX3) C (0) rfl rfl rfl gw311 gw313 gw4 gw42 (kX3_allWear l D ct sa ad mcn φ σ wr hi.1.1) gw314 (by decide +kernel) rfl dX3_mean_20 ⟨Nat.le_of_ble_eq_true rfl, Nat.le_of_ble_eq_true rfl⟩ ⟨Nat.le_of_ble_eq_true rfl, Nat.le_of_ble_eq_true rfl⟩ (Nat.le_of_ble_eq_true rfl) (dki ?_)
    refine j_st (st1 := .int (sumF (sW σ) 192) :: _) (by rw [s_wear hi]) ?_
    refine j_i2d C dX3_mean_23 ?_
    refine j_iload_n (i := 1) C dX3_mean_24 rfl 0 rfl ?_
    refine j_i2d C dX3_mean_25 ?_
    refine j_ddiv C dX3_mean_26 (n64_div (nI_ne0 (n := 24 * sN σ) (by omega) (by have := hi.1.1; omega))) ?_
    exact j_dreturn C E dX3_mean_27 (Nat.le_of_ble_eq_true rfl) (Nat.le_of_ble_eq_true rfl) (⟨congrArg (fun z => some (Value.double z)) (by first | exact (if_pos hn0).symm | exact (if_neg hnn).symm), rfl⟩)
  · have hn0 : sN σ = 0 := Nat.eq_zero_of_not_pos (fun z => nI_ne0 (n := 24 * sN σ) (by omega) (by have := hi.1.1; omega) c14)
    refine j_dconst0 C dX3_mean_17 ?_
    exact j_dreturn C E dX3_mean_18 (Nat.le_of_ble_eq_true rfl) (Nat.le_of_ble_eq_true rfl) (⟨congrArg (fun z => some (Value.double z)) (by first | exact (if_pos hn0).symm | exact (if_neg hnn).symm), rfl⟩)
set_option maxRecDepth 100000 in
set_option maxHeartbeats 600000 in
theorem kX3_digestOfLock (l : Launch) (htr : l.stackTraces = false) (D : va_G) (ct : Nat → ClassId) (sa : Nat → Nat) (ad : Nat → Nat) (mcn : Int32) (φ : LD) (σ : St) (wr : va_W) (d0 : Int64) (x : Int32) (j : Nat) (hi : Inv1 σ) (hx0 : x = nI j) (hj : j < sN σ) : jM l yX3_digestOfLock (Cond.code yX3_digestOfLock cX3_digestOfLock 8 (Option.some Jvm.ClassFile.FieldType.long) :: GW) (rM 8 90 540 135) D ct sa [.ref (ad 0), .long d0, .int x] (WX ct sa ad mcn φ σ ++ wr) (dK (some (.long (dLF (dLF d0 (tld σ j) 6) (fun q => sW σ (24 * j + q)) 24))) (WX ct sa ad mcn φ σ ++ wr)) 90 540 := by
  refine jMX.plain (jBody (own := RX3) (by decide) rfl rfl (Nat.le_of_ble_eq_true rfl) ?_)
  intro X C E T0
  refine j_lv (lv1 := [(0, .ref _), (1, .long _), (3, .int _)]) rfl ?_
  subst hx0
  have h8 := hi.1.1
  refine j_lload_n (i := 1) C dX3_digestOfLock_0 rfl 1 rfl ?_
  refine j_lstore (lv' := [(4, .long _), (0, .ref _), (1, .long _), (3, .int _)]) C dX3_digestOfLock_1 (by decide) rfl ?_
  refine j_iconst (v := nI 0) C dX3_digestOfLock_3 (by decide) ?_
  refine j_istore (lv' := [(6, .int _), (4, .long _), (0, .ref _), (1, .long _), (3, .int _)]) C dX3_digestOfLock_4 (by decide) rfl ?_
  have L6 : ∀ (d t : Nat) (x4 : Int64) (x6 : Int32), t + d = 6 → x4 = dLF d0 (tld σ j) t → x6 = nI t → J X (WX ct sa ad mcn φ σ ++ wr) (3 * t) (18 * t) 6 [(0, .ref (ad 0)), (3, .int (nI j)), (4, .long x4), (6, .int x6)] [] := by
    intro d
    induction d with
    | zero =>
      intro t x4 x6 hd e_x4 e_x6 
      subst e_x4
      subst e_x6
      have ht : t = 6 := by omega
      subst ht
      refine j_iload C dX3_digestOfLock_6 3 rfl ?_
      refine j_bipush (v := nI 6) C dX3_digestOfLock_8 (by decide) ?_
      refine j_icmp_ge C 36 dX3_digestOfLock_10 (by decide) (fun c10 => ?_) (fun c10 => by first | exact absurd c10 (by decide) | exact absurd c10 (nI_ge (by omega) (by omega)) | exact absurd (nI_le (by omega) (by omega)) c10 | exact absurd c10 (nI_nlt (by omega) (by omega)) | exact absurd (nI_lt (by omega) (by omega)) c10 | exact absurd c10 (nI_nle0 (by omega) (by omega)))
      refine j_iconst (v := nI 0) C dX3_digestOfLock_36 (by decide) ?_
      refine j_istore (lv' := [(6, .int _), (0, .ref _), (3, .int _), (4, .long _)]) C dX3_digestOfLock_37 (by decide) rfl ?_
      have L39 : ∀ (d r : Nat) (x4 : Int64) (x6 : Int32), r + d = 4 → x4 = dLF (dLF d0 (tld σ j) 6) (fun q => sW σ (24 * j + q)) (6 * r) → x6 = nI r → J X (WX ct sa ad mcn φ σ ++ wr) (18 + 18 * r) (108 + 108 * r) 39 [(0, .ref (ad 0)), (3, .int (nI j)), (4, .long x4), (6, .int x6)] [] := by
        intro d
        induction d with
        | zero =>
          intro r x4 x6 hd e_x4 e_x6 
          subst e_x4
          subst e_x6
          have hr : r = 4 := by omega
          subst hr
          refine j_iload C dX3_digestOfLock_39 3 rfl ?_
          refine j_iconst (v := nI 4) C dX3_digestOfLock_41 (by decide) ?_
          refine j_icmp_ge C 86 dX3_digestOfLock_42 (by decide) (fun c42 => ?_) (fun c42 => by first | exact absurd c42 (by decide) | exact absurd c42 (nI_ge (by omega) (by omega)) | exact absurd (nI_le (by omega) (by omega)) c42 | exact absurd c42 (nI_nlt (by omega) (by omega)) | exact absurd (nI_lt (by omega) (by omega)) c42 | exact absurd c42 (nI_nle0 (by omega) (by omega)))
          refine j_lload C dX3_digestOfLock_86 2 rfl ?_
          exact j_lreturn C E dX3_digestOfLock_88 (Nat.le_of_ble_eq_true rfl) (Nat.le_of_ble_eq_true rfl) (⟨rfl, rfl⟩)
        | succ d ih =>
          intro r x4 x6 hd e_x4 e_x6 
          subst e_x4
          subst e_x6
          refine j_iload C dX3_digestOfLock_39 3 rfl ?_
          refine j_iconst (v := nI 4) C dX3_digestOfLock_41 (by decide) ?_
          refine j_icmp_ge C 86 dX3_digestOfLock_42 (by decide) (fun c42 => by first | exact absurd c42 (by decide) | exact absurd c42 (nI_ge (by omega) (by omega)) | exact absurd (nI_le (by omega) (by omega)) c42 | exact absurd c42 (nI_nlt (by omega) (by omega)) | exact absurd (nI_lt (by omega) (by omega)) c42 | exact absurd c42 (nI_nle0 (by omega) (by omega))) (fun c42 => ?_)
          refine j_iconst (v := nI 0) C dX3_digestOfLock_45 (by decide) ?_
          refine j_istore (lv' := [(7, .int _), (0, .ref _), (3, .int _), (4, .long _), (6, .int _)]) C dX3_digestOfLock_46 (by decide) rfl ?_
          have L48 : ∀ (d q : Nat) (x4 : Int64) (x7 : Int32), q + d = 6 → x4 = dLF (dLF d0 (tld σ j) 6) (fun q => sW σ (24 * j + q)) (6 * r + q) → x7 = nI q → J X (WX ct sa ad mcn φ σ ++ wr) (18 + (18 * r + 3 * q)) (108 + (108 * r + 18 * q)) 48 [(0, .ref (ad 0)), (3, .int (nI j)), (4, .long x4), (6, .int (nI r)), (7, .int x7)] [] := by
            intro d
            induction d with
            | zero =>
              intro q x4 x7 hd e_x4 e_x7 
              subst e_x4
              subst e_x7
              have hq : q = 6 := by omega
              subst hq
              refine j_iload C dX3_digestOfLock_48 4 rfl ?_
              refine j_bipush (v := nI 6) C dX3_digestOfLock_50 (by decide) ?_
              refine j_icmp_ge C 80 dX3_digestOfLock_52 (by decide) (fun c52 => ?_) (fun c52 => by first | exact absurd c52 (by decide) | exact absurd c52 (nI_ge (by omega) (by omega)) | exact absurd (nI_le (by omega) (by omega)) c52 | exact absurd c52 (nI_nlt (by omega) (by omega)) | exact absurd (nI_lt (by omega) (by omega)) c52 | exact absurd c52 (nI_nle0 (by omega) (by omega)))
              refine j_iinc (z := 3) (lv' := [(6, .int _), (0, .ref _), (3, .int _), (4, .long _), (7, .int _)]) C dX3_digestOfLock_80 rfl rfl (by decide) rfl ?_
              refine j_goto C 39 dX3_digestOfLock_83 (by decide) ?_
              exact j_lvs [1, 2, 3, 0] rfl (ih (r + 1) _ _ (by omega) (rfl) (nI_1 r))
            | succ d ih =>
              intro q x4 x7 hd e_x4 e_x7 
              subst e_x4
              subst e_x7
              refine j_iload C dX3_digestOfLock_48 4 rfl ?_
              refine j_bipush (v := nI 6) C dX3_digestOfLock_50 (by decide) ?_
              refine j_icmp_ge C 80 dX3_digestOfLock_52 (by decide) (fun c52 => by first | exact absurd c52 (by decide) | exact absurd c52 (nI_ge (by omega) (by omega)) | exact absurd (nI_le (by omega) (by omega)) c52 | exact absurd c52 (nI_nlt (by omega) (by omega)) | exact absurd (nI_lt (by omega) (by omega)) c52 | exact absurd c52 (nI_nle0 (by omega) (by omega))) (fun c52 => ?_)
              refine j_lload C dX3_digestOfLock_55 2 rfl ?_
              refine j_ldc2 C gw324 dX3_digestOfLock_57 ?_
              refine j_lmul C dX3_digestOfLock_60 ?_
              refine j_aload_n (i := 0) C dX3_digestOfLock_61 rfl 0 rfl ?_
              refine j_iload_n (i := 3) C dX3_digestOfLock_62 rfl 1 rfl ?_
              refine j_iload C dX3_digestOfLock_63 3 rfl ?_
              refine j_iload C dX3_digestOfLock_65 4 rfl ?_
              refine j_callVX (nargs := 3) (As := [_, _, _]) (Cn := RX3) C (0) rfl rfl rfl gw388 gw389 gw390 gw42 (kX3_wear l htr D ct sa ad mcn φ σ wr (nI j) (nI r) (nI q) hi) gw391 (by decide +kernel) rfl dX3_digestOfLock_67 ⟨Nat.le_of_ble_eq_true rfl, Nat.le_of_ble_eq_true rfl⟩ ⟨by show 18 + (18 * r + 3 * q) + 3 ≤ 90; omega, by show 108 + (108 * r + 18 * q) + 18 ≤ 540; omega⟩ (Nat.le_of_ble_eq_true rfl) (fun En hx => (kx_no hx (congrArg (fun f => f.1) (wear_v h8 hj (by omega) (by omega))) (by decide)).elim) (fun r w hk => ?_)
              obtain ⟨-, rfl, rfl⟩ := hk
              refine j_st (st1 := .int (sW σ (24 * j + (6 * r + q))) :: _) (by rw [(wear_v h8 hj (by omega) (by omega))]; rfl) ?_
              refine j_i2l C dX3_digestOfLock_70 rfl ?_
              refine j_ladd C dX3_digestOfLock_71 ?_
              refine j_lstore (lv' := [(4, .long _), (0, .ref _), (3, .int _), (6, .int _), (7, .int _)]) C dX3_digestOfLock_72 (by decide) rfl ?_
              refine j_iinc (z := 4) (lv' := [(7, .int _), (4, .long _), (0, .ref _), (3, .int _), (6, .int _)]) C dX3_digestOfLock_74 rfl rfl (by decide) rfl ?_
              refine j_goto C 48 dX3_digestOfLock_77 (by decide) ?_
              exact j_lvs [2, 3, 1, 4, 0] rfl (ih (q + 1) _ _ (by omega) (rfl) (nI_1 q))
          exact j_lvs [1, 2, 3, 4, 0] rfl (L48 (6) (0) _ _ (by omega) (rfl) (rfl))
      exact j_lvs [1, 2, 3, 0] rfl (L39 (4) (0) _ _ (by omega) (rfl) (rfl))
    | succ d ih =>
      intro t x4 x6 hd e_x4 e_x6 
      subst e_x4
      subst e_x6
      refine j_iload C dX3_digestOfLock_6 3 rfl ?_
      refine j_bipush (v := nI 6) C dX3_digestOfLock_8 (by decide) ?_
      refine j_icmp_ge C 36 dX3_digestOfLock_10 (by decide) (fun c10 => by first | exact absurd c10 (by decide) | exact absurd c10 (nI_ge (by omega) (by omega)) | exact absurd (nI_le (by omega) (by omega)) c10 | exact absurd c10 (nI_nlt (by omega) (by omega)) | exact absurd (nI_lt (by omega) (by omega)) c10 | exact absurd c10 (nI_nle0 (by omega) (by omega))) (fun c10 => ?_)
      refine j_lload C dX3_digestOfLock_13 2 rfl ?_
      refine j_ldc2 C gw324 dX3_digestOfLock_15 ?_
      refine j_lmul C dX3_digestOfLock_18 ?_
      refine j_aload_n (i := 0) C dX3_digestOfLock_19 rfl 0 rfl ?_
      refine j_iload_n (i := 3) C dX3_digestOfLock_20 rfl 1 rfl ?_
      refine j_iload C dX3_digestOfLock_21 3 rfl ?_
      refine j_callVX (nargs := 2) (As := [_, _]) (Cn := RX3) C (0) rfl rfl rfl gw372 gw373 gw374 gw42 (kX3_told l htr D ct sa ad mcn φ σ wr (nI j) (nI t) hi) gw375 (by decide +kernel) rfl dX3_digestOfLock_23 ⟨Nat.le_of_ble_eq_true rfl, Nat.le_of_ble_eq_true rfl⟩ ⟨by show 3 * t + 3 ≤ 90; omega, by show 18 * t + 18 ≤ 540; omega⟩ (Nat.le_of_ble_eq_true rfl) (fun En hx => (kx_no hx (congrArg (fun f => f.1) (told_v h8 hj (by omega))) (by decide)).elim) (fun r w hk => ?_)
      obtain ⟨-, rfl, rfl⟩ := hk
      refine j_st (st1 := .int (tld σ j t) :: _) (by rw [(told_v h8 hj (by omega))]; rfl) ?_
      refine j_i2l C dX3_digestOfLock_26 rfl ?_
      refine j_ladd C dX3_digestOfLock_27 ?_
      refine j_lstore (lv' := [(4, .long _), (0, .ref _), (3, .int _), (6, .int _)]) C dX3_digestOfLock_28 (by decide) rfl ?_
      refine j_iinc (z := 3) (lv' := [(6, .int _), (4, .long _), (0, .ref _), (3, .int _)]) C dX3_digestOfLock_30 rfl rfl (by decide) rfl ?_
      refine j_goto C 6 dX3_digestOfLock_33 (by decide) ?_
      exact j_lvs [2, 3, 1, 0] rfl (ih (t + 1) _ _ (by omega) (rfl) (nI_1 t))
  exact j_lvs [2, 4, 1, 0] rfl (L6 (6) (0) _ _ (by omega) (rfl) (rfl))
set_option maxRecDepth 100000 in
set_option maxHeartbeats 600000 in
theorem kX3_digest (l : Launch) (htr : l.stackTraces = false) (D : va_G) (ct : Nat → ClassId) (sa : Nat → Nat) (ad : Nat → Nat) (mcn : Int32) (φ : LD) (σ : St) (wr : va_W) (hi : Inv1 σ) : jM l yX3_digest (Cond.code yX3_digest cX3_digest 5 (Option.some Jvm.ClassFile.FieldType.long) :: GW) (rM 9 781 4686 162) D ct sa [.ref (ad 0)] (WX ct sa ad mcn φ σ ++ wr) (dK (some (.long (dgF σ))) (WX ct sa ad mcn φ σ ++ wr)) 781 4686 := by
  refine jMX.plain (jBody (own := RX3) (by decide) rfl rfl (Nat.le_of_ble_eq_true rfl) ?_)
  intro X C E T0
  refine j_lv (lv1 := [(0, .ref _)]) rfl ?_
  have h8 := hi.1.1
  refine j_ldc2 C gw323 dX3_digest_0 ?_
  refine j_lstore_n (lv' := [(1, .long _), (0, .ref _)]) C dX3_digest_3 rfl (by decide) rfl ?_
  refine j_iconst (v := nI 0) C dX3_digest_4 (by decide) ?_
  refine j_istore_n (lv' := [(3, .int _), (1, .long _), (0, .ref _)]) C dX3_digest_5 rfl (by decide) rfl ?_
  have L6 : ∀ (d i : Nat) (x1 : Int64) (x3 : Int32), i + d = 7 → x1 = dLF 1471 (cnd σ) i → x3 = nI i → J X (WX ct sa ad mcn φ σ ++ wr) (i) (6 * i) 6 [(0, .ref (ad 0)), (1, .long x1), (3, .int x3)] [] := by
    intro d
    induction d with
    | zero =>
      intro i x1 x3 hd e_x1 e_x3 
      subst e_x1
      subst e_x3
      have hi9 : i = 7 := by omega
      subst hi9
      refine j_iload_n (i := 3) C dX3_digest_6 rfl 2 rfl ?_
      refine j_bipush (v := nI 7) C dX3_digest_7 (by decide) ?_
      refine j_icmp_ge C 31 dX3_digest_9 (by decide) (fun c9 => ?_) (fun c9 => by first | exact absurd c9 (by decide) | exact absurd c9 (nI_ge (by omega) (by omega)) | exact absurd (nI_le (by omega) (by omega)) c9 | exact absurd c9 (nI_nlt (by omega) (by omega)) | exact absurd (nI_lt (by omega) (by omega)) c9 | exact absurd c9 (nI_nle0 (by omega) (by omega)))
      refine j_iconst (v := nI 0) C dX3_digest_31 (by decide) ?_
      refine j_istore_n (lv' := [(3, .int _), (0, .ref _), (1, .long _)]) C dX3_digest_32 rfl (by decide) rfl ?_
      have L33 : ∀ (d i : Nat) (x1 : Int64) (x3 : Int32), i + d = 3 → x1 = dRF (dLF 1471 (cnd σ) 7) σ i → x3 = nI i → J X (WX ct sa ad mcn φ σ ++ wr) (7 + 18 * i) (42 + 108 * i) 33 [(0, .ref (ad 0)), (1, .long x1), (3, .int x3)] [] := by
        intro d
        induction d with
        | zero =>
          intro i x1 x3 hd e_x1 e_x3 
          subst e_x1
          subst e_x3
          have hi9 : i = 3 := by omega
          subst hi9
          refine j_iload_n (i := 3) C dX3_digest_33 rfl 2 rfl ?_
          refine j_iconst (v := nI 3) C dX3_digest_34 (by decide) ?_
          refine j_icmp_ge C 75 dX3_digest_35 (by decide) (fun c35 => ?_) (fun c35 => by first | exact absurd c35 (by decide) | exact absurd c35 (nI_ge (by omega) (by omega)) | exact absurd (nI_le (by omega) (by omega)) c35 | exact absurd c35 (nI_nlt (by omega) (by omega)) | exact absurd (nI_lt (by omega) (by omega)) c35 | exact absurd c35 (nI_nle0 (by omega) (by omega)))
          refine j_iconst (v := nI 0) C dX3_digest_75 (by decide) ?_
          refine j_istore_n (lv' := [(3, .int _), (0, .ref _), (1, .long _)]) C dX3_digest_76 rfl (by decide) rfl ?_
          have L77 : ∀ (d i : Nat) (x1 : Int64) (x3 : Int32), i + d = sN σ → x1 = dKF (dRF (dLF 1471 (cnd σ) 7) σ 3) σ i → x3 = nI i → J X (WX ct sa ad mcn φ σ ++ wr) (61 + 90 * i) (366 + 540 * i) 77 [(0, .ref (ad 0)), (1, .long x1), (3, .int x3)] [] := by
            intro d
            induction d with
            | zero =>
              intro i x1 x3 hd e_x1 e_x3 
              subst e_x1
              subst e_x3
              have hi9 : i = sN σ := by omega
              rw [hi9]
              refine j_iload_n (i := 3) C dX3_digest_77 rfl 2 rfl ?_
              refine j_aload_n (i := 0) C dX3_digest_78 rfl 0 rfl ?_
              refine j_get (Cn := RX3) (T := TX3) (N := 6) (ci := 4) C iX3 rfl (0) rfl 0 (by decide) gw158 rfl rfl dX3_digest_79 ?_
              refine j_callV (nargs := 0) (As := []) (Cn := RJx4a65c) C (1) wx_li rfl rfl gw181 gw182 gw183 gw45 (kJx4a65c_size_8abf5 l D ct sa _ 1 (ad 1) mcn _ (sN σ) wx_li) gw184 (by decide +kernel) rfl dX3_digest_82 ⟨Nat.le_of_ble_eq_true rfl, Nat.le_of_ble_eq_true rfl⟩ ⟨by first | (show 61 + 90 * i + 0 ≤ 781; omega) | (show 61 + 90 * sN σ + 0 ≤ 781; omega), by first | (show 366 + 540 * i + 0 ≤ 4686; omega) | (show 366 + 540 * sN σ + 0 ≤ 4686; omega)⟩ (Nat.le_of_ble_eq_true rfl) (dki ?_)
              refine j_icmp_ge C 101 dX3_digest_85 (by decide) (fun c85 => ?_) (fun c85 => by first | exact absurd c85 (nI_ge (b := sN σ) (by omega) (by omega)) | exact (c85 (nI_le (Nat.le_refl (sN σ)) (by omega))).elim)
              refine j_lload_n (i := 1) C dX3_digest_101 rfl 1 rfl ?_
              exact j_lreturn C E dX3_digest_102 (by omega) (by omega) (⟨rfl, rfl⟩)
            | succ d ih =>
              intro i x1 x3 hd e_x1 e_x3 
              subst e_x1
              subst e_x3
              have hj : i < sN σ := by omega
              refine j_iload_n (i := 3) C dX3_digest_77 rfl 2 rfl ?_
              refine j_aload_n (i := 0) C dX3_digest_78 rfl 0 rfl ?_
              refine j_get (Cn := RX3) (T := TX3) (N := 6) (ci := 4) C iX3 rfl (0) rfl 0 (by decide) gw158 rfl rfl dX3_digest_79 ?_
              refine j_callV (nargs := 0) (As := []) (Cn := RJx4a65c) C (1) wx_li rfl rfl gw181 gw182 gw183 gw45 (kJx4a65c_size_8abf5 l D ct sa _ 1 (ad 1) mcn _ (sN σ) wx_li) gw184 (by decide +kernel) rfl dX3_digest_82 ⟨Nat.le_of_ble_eq_true rfl, Nat.le_of_ble_eq_true rfl⟩ ⟨by first | (show 61 + 90 * i + 0 ≤ 781; omega) | (show 61 + 90 * sN σ + 0 ≤ 781; omega), by first | (show 366 + 540 * i + 0 ≤ 4686; omega) | (show 366 + 540 * sN σ + 0 ≤ 4686; omega)⟩ (Nat.le_of_ble_eq_true rfl) (dki ?_)
              refine j_icmp_ge C 101 dX3_digest_85 (by decide) (fun c85 => by first | exact absurd c85 (nI_ge (b := sN σ) (by omega) (by omega)) | exact (c85 (nI_le (Nat.le_refl (sN σ)) (by omega))).elim) (fun c85 => ?_)
              refine j_aload_n (i := 0) C dX3_digest_88 rfl 0 rfl ?_
              refine j_lload_n (i := 1) C dX3_digest_89 rfl 1 rfl ?_
              refine j_iload_n (i := 3) C dX3_digest_90 rfl 2 rfl ?_
              refine j_callV (nargs := 2) (As := [_, _]) (Cn := RX3) C (0) rfl rfl rfl gw368 gw370 gw12 gw42 (kX3_digestOfLock l htr D ct sa ad mcn φ σ wr _ _ i hi rfl hj) gw371 (by decide +kernel) rfl dX3_digest_91 ⟨Nat.le_of_ble_eq_true rfl, Nat.le_of_ble_eq_true rfl⟩ ⟨by show 61 + 90 * i + 90 ≤ 781; omega, by show 366 + 540 * i + 540 ≤ 4686; omega⟩ (Nat.le_of_ble_eq_true rfl) (dkl ?_)
              refine j_lstore_n (lv' := [(1, .long _), (0, .ref _), (3, .int _)]) C dX3_digest_94 rfl (by decide) rfl ?_
              refine j_iinc (z := 2) (lv' := [(3, .int _), (1, .long _), (0, .ref _)]) C dX3_digest_95 rfl rfl (by decide) rfl ?_
              refine j_goto C 77 dX3_digest_98 (by decide) ?_
              exact j_lvs [2, 1, 0] rfl (ih (i + 1) _ _ (by omega) (rfl) (nI_1 i))
          exact j_lvs [1, 2, 0] rfl (L77 (sN σ) (0) _ _ (by omega) (rfl) (rfl))
        | succ d ih =>
          intro i x1 x3 hd e_x1 e_x3 
          subst e_x1
          subst e_x3
          refine j_iload_n (i := 3) C dX3_digest_33 rfl 2 rfl ?_
          refine j_iconst (v := nI 3) C dX3_digest_34 (by decide) ?_
          refine j_icmp_ge C 75 dX3_digest_35 (by decide) (fun c35 => by first | exact absurd c35 (by decide) | exact absurd c35 (nI_ge (by omega) (by omega)) | exact absurd (nI_le (by omega) (by omega)) c35 | exact absurd c35 (nI_nlt (by omega) (by omega)) | exact absurd (nI_lt (by omega) (by omega)) c35 | exact absurd c35 (nI_nle0 (by omega) (by omega))) (fun c35 => ?_)
          refine j_iconst (v := nI 0) C dX3_digest_38 (by decide) ?_
          refine j_istore (lv' := [(4, .int _), (0, .ref _), (1, .long _), (3, .int _)]) C dX3_digest_39 (by decide) rfl ?_
          have L41 : ∀ (d t : Nat) (x1 : Int64) (x4 : Int32), t + d = 6 → x1 = dLF (dRF (dLF 1471 (cnd σ) 7) σ i) (rtl σ i) t → x4 = nI t → J X (WX ct sa ad mcn φ σ ++ wr) (7 + (18 * i + 3 * t)) (42 + (108 * i + 18 * t)) 41 [(0, .ref (ad 0)), (1, .long x1), (3, .int (nI i)), (4, .int x4)] [] := by
            intro d
            induction d with
            | zero =>
              intro t x1 x4 hd e_x1 e_x4 
              subst e_x1
              subst e_x4
              have ht : t = 6 := by omega
              subst ht
              refine j_iload C dX3_digest_41 3 rfl ?_
              refine j_bipush (v := nI 6) C dX3_digest_43 (by decide) ?_
              refine j_icmp_ge C 69 dX3_digest_45 (by decide) (fun c45 => ?_) (fun c45 => by first | exact absurd c45 (by decide) | exact absurd c45 (nI_ge (by omega) (by omega)) | exact absurd (nI_le (by omega) (by omega)) c45 | exact absurd c45 (nI_nlt (by omega) (by omega)) | exact absurd (nI_lt (by omega) (by omega)) c45 | exact absurd c45 (nI_nle0 (by omega) (by omega)))
              refine j_iinc (z := 2) (lv' := [(3, .int _), (0, .ref _), (1, .long _), (4, .int _)]) C dX3_digest_69 rfl rfl (by decide) rfl ?_
              refine j_goto C 33 dX3_digest_72 (by decide) ?_
              exact j_lvs [1, 2, 0] rfl (ih (i + 1) _ _ (by omega) (rfl) (nI_1 i))
            | succ d ih =>
              intro t x1 x4 hd e_x1 e_x4 
              subst e_x1
              subst e_x4
              refine j_iload C dX3_digest_41 3 rfl ?_
              refine j_bipush (v := nI 6) C dX3_digest_43 (by decide) ?_
              refine j_icmp_ge C 69 dX3_digest_45 (by decide) (fun c45 => by first | exact absurd c45 (by decide) | exact absurd c45 (nI_ge (by omega) (by omega)) | exact absurd (nI_le (by omega) (by omega)) c45 | exact absurd c45 (nI_nlt (by omega) (by omega)) | exact absurd (nI_lt (by omega) (by omega)) c45 | exact absurd c45 (nI_nle0 (by omega) (by omega))) (fun c45 => ?_)
              refine j_lload_n (i := 1) C dX3_digest_48 rfl 1 rfl ?_
              refine j_ldc2 C gw324 dX3_digest_49 ?_
              refine j_lmul C dX3_digest_52 ?_
              refine j_aload_n (i := 0) C dX3_digest_53 rfl 0 rfl ?_
              refine j_iload_n (i := 3) C dX3_digest_54 rfl 2 rfl ?_
              refine j_iload C dX3_digest_55 3 rfl ?_
              refine j_callVX (nargs := 2) (As := [_, _]) (Cn := RX3) C (0) rfl rfl rfl gw346 gw347 gw348 gw42 (kX3_rack l htr D ct sa ad mcn φ σ wr (nI i) (nI t) hi) gw349 (by decide +kernel) rfl dX3_digest_57 ⟨Nat.le_of_ble_eq_true rfl, Nat.le_of_ble_eq_true rfl⟩ ⟨by show 7 + (18 * i + 3 * t) + 3 ≤ 781; omega, by show 42 + (108 * i + 18 * t) + 18 ≤ 4686; omega⟩ (Nat.le_of_ble_eq_true rfl) (fun En hx => (kx_no hx (congrArg (fun f => f.1) (rack_v (σ := σ) (show i < 3 by omega) (show t < 6 by omega))) (by decide)).elim) (fun r w hk => ?_)
              obtain ⟨-, rfl, rfl⟩ := hk
              refine j_st (st1 := .int (rtl σ i t) :: _) (by rw [(rack_v (σ := σ) (show i < 3 by omega) (show t < 6 by omega))]; rfl) ?_
              refine j_i2l C dX3_digest_60 rfl ?_
              refine j_ladd C dX3_digest_61 ?_
              refine j_lstore_n (lv' := [(1, .long _), (0, .ref _), (3, .int _), (4, .int _)]) C dX3_digest_62 rfl (by decide) rfl ?_
              refine j_iinc (z := 3) (lv' := [(4, .int _), (1, .long _), (0, .ref _), (3, .int _)]) C dX3_digest_63 rfl rfl (by decide) rfl ?_
              refine j_goto C 41 dX3_digest_66 (by decide) ?_
              exact j_lvs [2, 1, 3, 0] rfl (ih (t + 1) _ _ (by omega) (rfl) (nI_1 t))
          exact j_lvs [1, 2, 3, 0] rfl (L41 (6) (0) _ _ (by omega) (rfl) (rfl))
      exact j_lvs [1, 2, 0] rfl (L33 (3) (0) _ _ (by omega) (rfl) (rfl))
    | succ d ih =>
      intro i x1 x3 hd e_x1 e_x3 
      subst e_x1
      subst e_x3
      refine j_iload_n (i := 3) C dX3_digest_6 rfl 2 rfl ?_
      refine j_bipush (v := nI 7) C dX3_digest_7 (by decide) ?_
      refine j_icmp_ge C 31 dX3_digest_9 (by decide) (fun c9 => by first | exact absurd c9 (by decide) | exact absurd c9 (nI_ge (by omega) (by omega)) | exact absurd (nI_le (by omega) (by omega)) c9 | exact absurd c9 (nI_nlt (by omega) (by omega)) | exact absurd (nI_lt (by omega) (by omega)) c9 | exact absurd c9 (nI_nle0 (by omega) (by omega))) (fun c9 => ?_)
      refine j_lload_n (i := 1) C dX3_digest_12 rfl 1 rfl ?_
      refine j_ldc2 C gw324 dX3_digest_13 ?_
      refine j_lmul C dX3_digest_16 ?_
      refine j_aload_n (i := 0) C dX3_digest_17 rfl 0 rfl ?_
      refine j_iload_n (i := 3) C dX3_digest_18 rfl 2 rfl ?_
      refine j_callVX (nargs := 1) (As := [_]) (Cn := RX3) C (0) rfl rfl rfl gw325 gw326 gw327 gw42 (kX3_count l htr D ct sa ad mcn φ σ wr (nI i) hi) gw328 (by decide +kernel) rfl dX3_digest_19 ⟨Nat.le_of_ble_eq_true rfl, Nat.le_of_ble_eq_true rfl⟩ ⟨by show i + 1 ≤ 781; omega, by show 6 * i + 6 ≤ 4686; omega⟩ (Nat.le_of_ble_eq_true rfl) (fun En hx => (kx_no hx (congrArg (fun f => f.1) (count_k (σ := σ) i (by omega) rfl)) (by decide)).elim) (fun r w hk => ?_)
      obtain ⟨-, rfl, rfl⟩ := hk
      refine j_st (st1 := .int (cnd σ i) :: _) (by rw [(count_k (σ := σ) i (by omega) rfl)]; rfl) ?_
      refine j_i2l C dX3_digest_22 rfl ?_
      refine j_ladd C dX3_digest_23 ?_
      refine j_lstore_n (lv' := [(1, .long _), (0, .ref _), (3, .int _)]) C dX3_digest_24 rfl (by decide) rfl ?_
      refine j_iinc (z := 2) (lv' := [(3, .int _), (1, .long _), (0, .ref _)]) C dX3_digest_25 rfl rfl (by decide) rfl ?_
      refine j_goto C 6 dX3_digest_28 (by decide) ?_
      exact j_lvs [2, 1, 0] rfl (ih (i + 1) _ _ (by omega) (rfl) (nI_1 i))
  exact j_lvs [2, 1, 0] rfl (L6 (7) (0) _ _ (by omega) (rfl) (rfl))
set_option maxRecDepth 100000 in
set_option maxHeartbeats 600000 in
theorem kX3_lock (l : Launch) (htr : l.stackTraces = false) (D : va_G) (ct : Nat → ClassId) (sa : Nat → Nat) (ad : Nat → Nat) (mcn : Int32) (φ : LD) (σ : St) (wr : va_W) (x : Int32) (hi : Inv1 σ) : jMX l yX3_lock (Cond.code yX3_lock cX3_lock 2 (Option.some Jvm.ClassFile.FieldType.int) :: GW) (rM 7 5 50 110) D ct sa [.ref (ad 0), .int x] (WX ct sa ad mcn φ σ ++ wr) (kL ct sa ad φ wr (f_lock σ x)) (kxF (f_lock σ x) [IAE, ISE]) 5 50 := by
  refine jBody (own := RX3) (by decide) rfl rfl (Nat.le_of_ble_eq_true rfl) ?_
  intro X C E T0
  refine j_lv (lv1 := [(0, .ref _), (1, .int _)]) rfl ?_
  refine j_iload_n (i := 1) C dX3_lock_0 rfl 1 rfl ?_
  refine j_callSX (nargs := 1) (As := [_]) C gw409 gw410 gw42 (kX3_requireWord l htr D ct sa _ x) gw411 (by decide +kernel) rfl dX3_lock_1 ⟨Nat.le_of_ble_eq_true rfl, Nat.le_of_ble_eq_true rfl⟩ ⟨Nat.le_of_ble_eq_true rfl, Nat.le_of_ble_eq_true rfl⟩ (Nat.le_of_ble_eq_true rfl) (fun En hx => jt_out C E T0 rfl (Nat.le_of_ble_eq_true rfl) (Nat.le_of_ble_eq_true rfl) (kx0 0 rfl (by rw [f_lock]; exact if_neg hx.1) hx.2)) (fun r w hk => ?_)
  obtain ⟨hw, rfl, rfl⟩ := hk
  refine j_st (st1 := []) rfl ?_
  refine j_aload_n (i := 0) C dX3_lock_4 rfl 0 rfl ?_
  refine j_get (Cn := RX3) (T := TX3) (N := 6) (ci := 4) C iX3 rfl (0) rfl 0 (by decide) gw158 rfl rfl dX3_lock_5 ?_
  refine j_callV (nargs := 0) (As := []) (Cn := RJx4a65c) C (1) wx_li rfl rfl gw181 gw182 gw183 gw45 (kJx4a65c_size_8abf5 l D ct sa _ 1 (ad 1) mcn _ (sN σ) wx_li) gw184 (by decide +kernel) rfl dX3_lock_8 ⟨Nat.le_of_ble_eq_true rfl, Nat.le_of_ble_eq_true rfl⟩ ⟨Nat.le_of_ble_eq_true rfl, Nat.le_of_ble_eq_true rfl⟩ (Nat.le_of_ble_eq_true rfl) (dki ?_)
  refine j_bipush (v := nI 8) C dX3_lock_11 (by decide) ?_
  refine j_icmp_lt C 26 dX3_lock_13 (by decide) (fun c13 => ?_) (fun c13 => ?_)
  · have h8 : sN σ < 8 := (nI_ltI (by have := hi.1.1; omega) (by decide)).mp c13
    have hn8 : ¬ nI (sN σ) = nI 8 := nI_ne (by omega) (by omega) (by decide)
    refine j_aload_n (i := 0) C dX3_lock_26 rfl 0 rfl ?_
    refine j_get (Cn := RX3) (T := TX3) (N := 6) (ci := 4) C iX3 rfl (0) rfl 0 (by decide) gw158 rfl rfl dX3_lock_27 ?_
    refine j_new (Cn := RX0) (T := TX0) (N := 6) (ci := 1) (fs := [.null, .null, .int (nI 0), .int (nI 0), .int (nI 0), .int (nI 0)]) C iX0 tyX0 tyX0_ok gw129 gw130 gw48 rfl (fun j hj => by match j, hj with | 0, _ => rfl | 1, _ => rfl | 2, _ => rfl | 3, _ => rfl | 4, _ => rfl | 5, _ => rfl) (Nat.le_of_ble_eq_true rfl) (Nat.le_of_ble_eq_true rfl) dX3_lock_30 (fun h => ?_)
    refine j_dup C dX3_lock_33 rfl ?_
    refine j_iload_n (i := 1) C dX3_lock_34 rfl 1 rfl ?_
    refine j_callI (nargs := 1) (As := [_]) C gw131 gw132 gw48 rfl (kX0_init l D ct sa _ (WX ct sa ad mcn φ σ ++ wr).length h x gA) gw133 (by decide +kernel) rfl dX3_lock_35 ⟨Nat.le_of_ble_eq_true rfl, Nat.le_of_ble_eq_true rfl⟩ ⟨Nat.le_of_ble_eq_true rfl, Nat.le_of_ble_eq_true rfl⟩ (Nat.le_of_ble_eq_true rfl) (fun r w hk => ?_)
    obtain ⟨q1, q2, rfl, rfl⟩ := hk
    refine j_ws (ws1 := WX ct sa ad mcn φ σ ++ wr ++ nwL ct h q1 q2 x) (by rw [sA, List.append_assoc]; rfl) ?_
    refine j_st (st1 := .ref h :: .ref (ad 1) :: []) rfl ?_
    by_cases h0 : sN σ = 0
    · refine j_callV (nargs := 1) (As := [_]) (Cn := RJx4a65c) C (1) (app_at (wx_li0 h0)) rfl rfl gw444 gw445 gw446 gw45 (kJx4a65c_add_9ea2d_0 l D ct sa (WX ct sa ad mcn φ σ ++ wr ++ nwL ct h q1 q2 x) 1 (ad 1) ((WX ct sa ad mcn φ σ ++ wr).length) h mcn _ (app_at (wx_li0 h0)) th_at0 (by rw [wx_len]; omega)) gw447 (by decide +kernel) rfl dX3_lock_38 ⟨Nat.le_of_ble_eq_true rfl, Nat.le_of_ble_eq_true rfl⟩ ⟨Nat.le_of_ble_eq_true rfl, Nat.le_of_ble_eq_true rfl⟩ (Nat.le_of_ble_eq_true rfl) (fun r w hk => ?_)
      obtain ⟨q, rfl, rfl⟩ := hk
      refine j_st (st1 := .int (nI 1) :: []) rfl ?_
      refine j_pop C dX3_lock_41 rfl ?_
      refine j_aload_n (i := 0) C dX3_lock_42 rfl 0 rfl ?_
      refine j_get (Cn := RX3) (T := TX3) (N := 6) (ci := 4) C iX3 rfl (0) (app_at ((set_ne (by decide)).trans (app_at rfl))) 0 (by decide) gw158 rfl rfl dX3_lock_43 ?_
      refine j_callV (nargs := 0) (As := []) (Cn := RJx4a65c) C (1) (app_at (set_eq (app_at (wx_li0 h0)))) rfl rfl gw181 gw182 gw183 gw45 (kJx4a65c_size_8abf5 l D ct sa _ 1 (ad 1) _ _ 1 (app_at (set_eq (app_at (wx_li0 h0))))) gw184 (by decide +kernel) rfl dX3_lock_46 ⟨Nat.le_of_ble_eq_true rfl, Nat.le_of_ble_eq_true rfl⟩ ⟨Nat.le_of_ble_eq_true rfl, Nat.le_of_ble_eq_true rfl⟩ (Nat.le_of_ble_eq_true rfl) (dki ?_)
      refine j_iconst (v := nI 1) C dX3_lock_49 (by decide) ?_
      refine j_isub C dX3_lock_50 ?_
      refine j_st (st1 := .int (nI (sN σ)) :: []) (by rw [h0]; rfl) ?_
      refine j_ws (wn_0 h0) ?_
      refine j_swap (a := ((FX ct sa ad mcn φ σ).set 1 (ad 1, .inr (0, [.int (mcn + nI 1), .ref (q), .int (nI (sN σ + 1))])) ++ LX ct ad (ldS σ) (sN σ))) (b := wr) (c0 := nwL ct h q1 q2 x ++ [(arO ct (q) (va_up (fun _ => none) 0 (some h)))]) rfl ?_
      refine j_ws (ws1 := WX ct sa (adN ad (sN σ) h q1 q2 q) (mcn + nI 1) φ (nwS σ x) ++ wr) (congrArg (fun w => w ++ wr) (wn_new hi h8 (fun z => absurd z (by omega)) _ (f_new0 h0))) ?_
      exact j_ireturn C E rfl dX3_lock_51 (Nat.le_of_ble_eq_true rfl) (Nat.le_of_ble_eq_true rfl) (kl (by rw [f_lock, if_pos hw]; exact if_neg hn8) (adN_o (by omega) (fun z => absurd z (by decide))))
    · refine j_callV (nargs := 1) (As := [_]) (Cn := RJx4a65c) C (1) (app_at (wx_li1 (by omega))) rfl rfl gw444 gw445 gw446 gw45 (kJx4a65c_add_9ea2d_1 l D ct sa (WX ct sa ad mcn φ σ ++ wr ++ nwL ct h q1 q2 x) 1 (ad 1) ((WX ct sa ad mcn φ σ ++ wr).length) h (16 + 3 * sN σ) (ad 2) (sN σ) mcn _ _ (app_at (wx_li1 (by omega))) th_at0 (by rw [wx_len]; omega) (app_at (wx_ar (by omega))) (by omega) (by omega) (by omega)) gw447 (by decide +kernel) rfl dX3_lock_38 ⟨Nat.le_of_ble_eq_true rfl, Nat.le_of_ble_eq_true rfl⟩ ⟨Nat.le_of_ble_eq_true rfl, Nat.le_of_ble_eq_true rfl⟩ (Nat.le_of_ble_eq_true rfl) (dki ?_)
      refine j_pop C dX3_lock_41 rfl ?_
      refine j_aload_n (i := 0) C dX3_lock_42 rfl 0 rfl ?_
      refine j_get (Cn := RX3) (T := TX3) (N := 6) (ci := 4) C iX3 rfl (0) ((set_ne (by decide)).trans ((set_ne (by omega)).trans (app_at rfl))) 0 (by decide) gw158 rfl rfl dX3_lock_43 ?_
      refine j_callV (nargs := 0) (As := []) (Cn := RJx4a65c) C (1) (set_eq ((set_ne (by omega)).trans (app_at (wx_li1 (by omega))))) rfl rfl gw181 gw182 gw183 gw45 (kJx4a65c_size_8abf5 l D ct sa _ 1 (ad 1) _ _ (sN σ + 1) (set_eq ((set_ne (by omega)).trans (app_at (wx_li1 (by omega)))))) gw184 (by decide +kernel) rfl dX3_lock_46 ⟨Nat.le_of_ble_eq_true rfl, Nat.le_of_ble_eq_true rfl⟩ ⟨Nat.le_of_ble_eq_true rfl, Nat.le_of_ble_eq_true rfl⟩ (Nat.le_of_ble_eq_true rfl) (dki ?_)
      refine j_iconst (v := nI 1) C dX3_lock_49 (by decide) ?_
      refine j_isub C dX3_lock_50 ?_
      refine j_st (st1 := .int (nI (sN σ)) :: []) (congrArg (fun z => Value.int z :: []) (nI_pred (sN σ))) ?_
      refine j_ws (wn_1 (by omega)) ?_
      refine j_swap (a := ((FX ct sa ad mcn φ σ).set 1 (ad 1, .inr (0, [.int (mcn + nI 1), .ref (ad 2), .int (nI (sN σ + 1))])) ++ LX ct ad (ldS σ) (sN σ))) (b := [(arO ct (ad 2) (va_up (fun i => if i < sN σ then some (ad (20 + 3 * i)) else none) (sN σ) (some h)))] ++ wr) (c0 := nwL ct h q1 q2 x) rfl ?_
      refine j_ws (ws1 := WX ct sa (adN ad (sN σ) h q1 q2 (ad 2)) (mcn + nI 1) φ (nwS σ x) ++ wr) ((by simp only [List.append_assoc] : _ = (((FX ct sa ad mcn φ σ).set 1 (ad 1, .inr (0, [.int (mcn + nI 1), .ref (ad 2), .int (nI (sN σ + 1))])) ++ LX ct ad (ldS σ) (sN σ)) ++ (nwL ct h q1 q2 x ++ [(arO ct (ad 2) (va_up (fun i => if i < sN σ then some (ad (20 + 3 * i)) else none) (sN σ) (some h)))])) ++ wr).trans (congrArg (fun w => w ++ wr) (wn_new hi h8 (fun _ => rfl) _ f_new1))) ?_
      exact j_ireturn C E rfl dX3_lock_51 (Nat.le_of_ble_eq_true rfl) (Nat.le_of_ble_eq_true rfl) (kl (by rw [f_lock, if_pos hw]; exact if_neg hn8) (adN_o (by omega) (fun z => absurd z (by decide))))
  · have e8 : sN σ = 8 := by
      have h1 := hi.1.1
      rcases Nat.lt_or_ge (sN σ) 8 with z | z
      · exact absurd (nI_lt z (by decide)) c13
      · omega
    exact j_throwS C E T0 htr (cls := ISE) (text := "there are 8 locks") (names := EXN) rfl (by decide +kernel) exn_fit gw428 gw54 (by decide) at_ISE ok_ISE dX3_lock_16 dX3_lock_19 dX3_lock_20 dX3_lock_22 dX3_lock_25 (by decide) (Nat.le_of_ble_eq_true rfl) (Nat.le_of_ble_eq_true rfl) (Nat.le_of_ble_eq_true rfl) rfl (kx0 1 rfl (by rw [f_lock, if_pos hw]; exact if_pos (by rw [e8])) rfl) (Nat.le_of_ble_eq_true rfl) (Nat.le_of_ble_eq_true rfl)
