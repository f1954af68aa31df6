set_option maxRecDepth 100000 in
set_option maxHeartbeats 4000000 in
theorem kX4_lock (l : Launch) (D : va_G) (ct : Nat → ClassId) (sa : Nat → Nat) (a : Nat → Nat) (thr : Int32) (σ : St) (wr : va_W) (x : Int32) (hi : Inv0 σ) : jM l yX4_lock (Cond.code yX4_lock cX4_lock 2 (Option.some Jvm.ClassFile.FieldType.int) :: GW) (rM 2 0 0 42) D ct sa [.ref (a 0), .int x] (WM ct a thr σ ++ wr) (fD ct a wr (f_lock σ x)) 0 0 := by
  refine jMX.plain (jBody (own := RX4) (by decide) rfl rfl (Nat.le_of_ble_eq_true rfl) ?_)
  intro X C E T0
  refine j_lv (lv1 := [(0, .ref _), (1, .int _)]) rfl ?_
  refine j_aload_n (i := 0) C dX4_lock_0 rfl 0 rfl ?_
  refine j_iconst (v := nI 0) C dX4_lock_1 (by decide) ?_
  refine j_put (Cn := RX4) (T := TX4) (N := 7) (ci := 5) (ws2 := WM ct a (nI 0) σ ++ wr) C iX4 tyX4 tyX4_ok nmX4 rfl (0) rfl 0 (by decide) gw677 rfl rfl rfl rfl rfl (Nat.le_of_ble_eq_true rfl) rfl dX4_lock_2 ?_
  refine j_iload_n (i := 1) C dX4_lock_5 rfl 1 rfl ?_
  refine j_callS (nargs := 1) (As := [_]) C gw707 gw708 gw49 (kX4_isWord l D ct sa _ _) gw709 (by decide +kernel) rfl dX4_lock_6 ⟨Nat.le_of_ble_eq_true rfl, Nat.le_of_ble_eq_true rfl⟩ ⟨Nat.le_of_ble_eq_true rfl, Nat.le_of_ble_eq_true rfl⟩ (Nat.le_of_ble_eq_true rfl) (dki ?_)
  refine j_if_ne C 18 dX4_lock_9 (by decide) (fun c9 => ?_) (fun c9 => ?_)
  · refine j_aload_n (i := 0) C dX4_lock_18 rfl 0 rfl ?_
    refine j_get (Cn := RX4) (T := TX4) (N := 7) (ci := 5) C iX4 rfl (0) rfl 1 (by decide) gw678 rfl rfl dX4_lock_19 ?_
    refine j_bipush (v := nI 8) C dX4_lock_22 (by decide) ?_
    refine j_icmp_ne C 33 dX4_lock_24 (by decide) (fun c24 => ?_) (fun c24 => ?_)
    · have h8 : sN σ < 8 := by
        rcases Nat.lt_or_ge (sN σ) 8 with h | h
        · exact h
        · exact absurd (by rw [show sN σ = 8 from Nat.le_antisymm hi.1 h]) c24
      refine j_aload_n (i := 0) C dX4_lock_33 rfl 0 rfl ?_
      refine j_aload_n (i := 0) C dX4_lock_34 rfl 0 rfl ?_
      refine j_get (Cn := RX4) (T := TX4) (N := 7) (ci := 5) C iX4 rfl (0) rfl 1 (by decide) gw678 rfl rfl dX4_lock_35 ?_
      refine j_iconst (v := nI 0) C dX4_lock_38 (by decide) ?_
      refine j_iload_n (i := 1) C dX4_lock_39 rfl 1 rfl ?_
      refine j_callV (nargs := 3) (As := [_, _, _]) (Cn := RX4) C (0) rfl rfl rfl gw717 gw719 gw22 gw49 (kX4_let l D ct sa a (nI 0) σ wr _ _ _ (sN σ) 0 rfl rfl h8 (by decide)) gw720 (by decide +kernel) rfl dX4_lock_40 ⟨Nat.le_of_ble_eq_true rfl, Nat.le_of_ble_eq_true rfl⟩ ⟨Nat.le_of_ble_eq_true rfl, Nat.le_of_ble_eq_true rfl⟩ (Nat.le_of_ble_eq_true rfl) (dkv ?_)
      refine j_aload_n (i := 0) C dX4_lock_43 rfl 0 rfl ?_
      refine j_aload_n (i := 0) C dX4_lock_44 rfl 0 rfl ?_
      refine j_get (Cn := RX4) (T := TX4) (N := 7) (ci := 5) C iX4 rfl (0) rfl 1 (by decide) gw678 rfl rfl dX4_lock_45 ?_
      refine j_iconst (v := nI 1) C dX4_lock_48 (by decide) ?_
      refine j_iconst (v := nI 1) C dX4_lock_49 (by decide) ?_
      refine j_callV (nargs := 3) (As := [_, _, _]) (Cn := RX4) C (0) rfl rfl rfl gw717 gw719 gw22 gw49 (kX4_let l D ct sa a (nI 0) (uR σ (upd (sR σ) (8 * sN σ + 0) x)) wr _ _ _ (sN σ) 1 rfl rfl h8 (by decide)) gw720 (by decide +kernel) rfl dX4_lock_50 ⟨Nat.le_of_ble_eq_true rfl, Nat.le_of_ble_eq_true rfl⟩ ⟨Nat.le_of_ble_eq_true rfl, Nat.le_of_ble_eq_true rfl⟩ (Nat.le_of_ble_eq_true rfl) (dkv ?_)
      refine j_aload_n (i := 0) C dX4_lock_53 rfl 0 rfl ?_
      refine j_aload_n (i := 0) C dX4_lock_54 rfl 0 rfl ?_
      refine j_get (Cn := RX4) (T := TX4) (N := 7) (ci := 5) C iX4 rfl (0) rfl 1 (by decide) gw678 rfl rfl dX4_lock_55 ?_
      refine j_iconst (v := nI 2) C dX4_lock_58 (by decide) ?_
      refine j_iconst (v := (-1)) C dX4_lock_59 (by decide) ?_
      refine j_callV (nargs := 3) (As := [_, _, _]) (Cn := RX4) C (0) rfl rfl rfl gw717 gw719 gw22 gw49 (kX4_let l D ct sa a (nI 0) (uR σ (upd (upd (sR σ) (8 * sN σ + 0) x) (8 * sN σ + 1) (nI 1))) wr _ _ _ (sN σ) 2 rfl rfl h8 (by decide)) gw720 (by decide +kernel) rfl dX4_lock_60 ⟨Nat.le_of_ble_eq_true rfl, Nat.le_of_ble_eq_true rfl⟩ ⟨Nat.le_of_ble_eq_true rfl, Nat.le_of_ble_eq_true rfl⟩ (Nat.le_of_ble_eq_true rfl) (dkv ?_)
      refine j_aload_n (i := 0) C dX4_lock_63 rfl 0 rfl ?_
      refine j_dup C dX4_lock_64 rfl ?_
      refine j_get (Cn := RX4) (T := TX4) (N := 7) (ci := 5) C iX4 rfl (0) rfl 1 (by decide) gw678 rfl rfl dX4_lock_65 ?_
      refine j_iconst (v := nI 1) C dX4_lock_68 (by decide) ?_
      refine j_iadd C dX4_lock_69 ?_
      refine j_st (st1 := .int (nI (sN σ + 1)) :: _) (by rw [nI_add]) ?_
      refine j_put (Cn := RX4) (T := TX4) (N := 7) (ci := 5) (ws2 := WM ct a (nI 0) (uN (uR σ (upd (upd (upd (sR σ) (8 * sN σ + 0) x) (8 * sN σ + 1) (nI 1)) (8 * sN σ + 2) (-1))) (sN σ + 1)) ++ wr) C iX4 tyX4 tyX4_ok nmX4 rfl (0) rfl 1 (by decide) gw678 rfl rfl rfl rfl rfl (Nat.le_of_ble_eq_true rfl) rfl dX4_lock_70 ?_
      refine j_aload_n (i := 0) C dX4_lock_73 rfl 0 rfl ?_
      refine j_get (Cn := RX4) (T := TX4) (N := 7) (ci := 5) C iX4 rfl (0) rfl 1 (by decide) gw678 rfl rfl dX4_lock_74 ?_
      refine j_iconst (v := nI 1) C dX4_lock_77 (by decide) ?_
      refine j_isub C dX4_lock_78 ?_
      refine j_st (st1 := .int (nI (sN σ)) :: _) (congrArg (fun z => Value.int z :: []) (nI_pred (sN σ))) ?_
      exact j_ireturn C E rfl dX4_lock_79 (Nat.le_of_ble_eq_true rfl) (Nat.le_of_ble_eq_true rfl) (fK (by rw [f_lock, if_pos (b2i_t c9), if_neg c24]))
    · refine j_aload_n (i := 0) C dX4_lock_27 rfl 0 rfl ?_
      refine j_iconst (v := nI 2) C dX4_lock_28 (by decide) ?_
      refine j_callV (nargs := 1) (As := [_]) (Cn := RX4) C (0) rfl rfl rfl gw713 gw715 gw21 gw49 (kX4_fail l D ct sa _ _ _ _ _) gw716 (by decide +kernel) rfl dX4_lock_29 ⟨Nat.le_of_ble_eq_true rfl, Nat.le_of_ble_eq_true rfl⟩ ⟨Nat.le_of_ble_eq_true rfl, Nat.le_of_ble_eq_true rfl⟩ (Nat.le_of_ble_eq_true rfl) (dki ?_)
      exact j_ireturn C E rfl dX4_lock_32 (Nat.le_of_ble_eq_true rfl) (Nat.le_of_ble_eq_true rfl) (fK (by rw [f_lock, if_pos (b2i_t c9), if_pos c24]))
  · refine j_aload_n (i := 0) C dX4_lock_12 rfl 0 rfl ?_
    refine j_iconst (v := nI 1) C dX4_lock_13 (by decide) ?_
    refine j_callV (nargs := 1) (As := [_]) (Cn := RX4) C (0) rfl rfl rfl gw713 gw715 gw21 gw49 (kX4_fail l D ct sa _ _ _ _ _) gw716 (by decide +kernel) rfl dX4_lock_14 ⟨Nat.le_of_ble_eq_true rfl, Nat.le_of_ble_eq_true rfl⟩ ⟨Nat.le_of_ble_eq_true rfl, Nat.le_of_ble_eq_true rfl⟩ (Nat.le_of_ble_eq_true rfl) (dki ?_)
    exact j_ireturn C E rfl dX4_lock_17 (Nat.le_of_ble_eq_true rfl) (Nat.le_of_ble_eq_true rfl) (fK (by rw [f_lock, if_neg (b2i_f c9)]))
set_option maxRecDepth 100000 in
set_option maxHeartbeats 4000000 in
theorem kX4_turn (l : Launch) (D : va_G) (ct : Nat → ClassId) (sa : Nat → Nat) (a : Nat → Nat) (thr : Int32) (σ : St) (wr : va_W) (x y z : Int32) (hi : Inv0 σ) : jM l yX4_turn (Cond.code yX4_turn cX4_turn 5 (Option.some Jvm.ClassFile.FieldType.int) :: GW) (rM 2 0 0 43) D ct sa [.ref (a 0), .int x, .int y, .int z] (WM ct a thr σ ++ wr) (fD ct a wr (f_turn σ x y z)) 0 0 := by
  refine jMX.plain (jBody (own := RX4) (by decide) rfl rfl (Nat.le_of_ble_eq_true rfl) ?_)
  intro X C E T0
  refine j_lv (lv1 := [(0, .ref _), (1, .int _), (2, .int _), (3, .int _)]) rfl ?_
  refine j_aload_n (i := 0) C dX4_turn_0 rfl 0 rfl ?_
  refine j_iconst (v := nI 0) C dX4_turn_1 (by decide) ?_
  refine j_put (Cn := RX4) (T := TX4) (N := 7) (ci := 5) (ws2 := WM ct a (nI 0) σ ++ wr) C iX4 tyX4 tyX4_ok nmX4 rfl (0) rfl 0 (by decide) gw677 rfl rfl rfl rfl rfl (Nat.le_of_ble_eq_true rfl) rfl dX4_turn_2 ?_
  refine j_aload_n (i := 0) C dX4_turn_5 rfl 0 rfl ?_
  refine j_iload_n (i := 1) C dX4_turn_6 rfl 1 rfl ?_
  refine j_callV (nargs := 1) (As := [_]) (Cn := RX4) C (0) rfl rfl rfl gw725 gw727 gw23 gw49 (kX4_isLock l D ct sa _ _ _ _ _ hi.1) gw728 (by decide +kernel) rfl dX4_turn_7 ⟨Nat.le_of_ble_eq_true rfl, Nat.le_of_ble_eq_true rfl⟩ ⟨Nat.le_of_ble_eq_true rfl, Nat.le_of_ble_eq_true rfl⟩ (Nat.le_of_ble_eq_true rfl) (dki ?_)
  refine j_if_eq C 22 dX4_turn_10 (by decide) (fun c10 => ?_) (fun c10 => ?_)
  · refine j_aload_n (i := 0) C dX4_turn_22 rfl 0 rfl ?_
    refine j_iconst (v := nI 1) C dX4_turn_23 (by decide) ?_
    refine j_callV (nargs := 1) (As := [_]) (Cn := RX4) C (0) rfl rfl rfl gw713 gw715 gw21 gw49 (kX4_fail l D ct sa _ _ _ _ _) gw716 (by decide +kernel) rfl dX4_turn_24 ⟨Nat.le_of_ble_eq_true rfl, Nat.le_of_ble_eq_true rfl⟩ ⟨Nat.le_of_ble_eq_true rfl, Nat.le_of_ble_eq_true rfl⟩ (Nat.le_of_ble_eq_true rfl) (dki ?_)
    exact j_ireturn C E rfl dX4_turn_27 (Nat.le_of_ble_eq_true rfl) (Nat.le_of_ble_eq_true rfl) (fK (by rw [f_turn]; first | rw [if_neg (fun z => absurd z.1 (b2i_f c10))] | rw [if_neg (fun z => absurd ((in_ok (M := 3) (by decide)).mpr z.2) (b2i_f c19))]))
  · refine j_iload_n (i := 2) C dX4_turn_13 rfl 2 rfl ?_
    refine j_iconst (v := nI 0) C dX4_turn_14 (by decide) ?_
    refine j_iconst (v := nI 3) C dX4_turn_15 (by decide) ?_
    refine j_callS (nargs := 3) (As := [_, _, _]) C gw710 gw711 gw49 (kX4_isIn l D ct sa _ _ _ _) gw712 (by decide +kernel) rfl dX4_turn_16 ⟨Nat.le_of_ble_eq_true rfl, Nat.le_of_ble_eq_true rfl⟩ ⟨Nat.le_of_ble_eq_true rfl, Nat.le_of_ble_eq_true rfl⟩ (Nat.le_of_ble_eq_true rfl) (dki ?_)
    refine j_if_ne C 28 dX4_turn_19 (by decide) (fun c19 => ?_) (fun c19 => ?_)
    · obtain ⟨hj_x, e_x⟩ := okI_ix (b2i_t c10) (by omega)
      have hy := (in_ok (M := 3) (by decide)).mp (b2i_t c19)
      obtain ⟨hj_y, e_y⟩ := okI_ix (hy) (by omega)
      refine j_iload_n (i := 3) C dX4_turn_28 rfl 3 rfl ?_
      refine j_iconst (v := nI 0) C dX4_turn_29 (by decide) ?_
      refine j_iconst (v := nI 5) C dX4_turn_30 (by decide) ?_
      refine j_callS (nargs := 3) (As := [_, _, _]) C gw710 gw711 gw49 (kX4_isIn l D ct sa _ _ _ _) gw712 (by decide +kernel) rfl dX4_turn_31 ⟨Nat.le_of_ble_eq_true rfl, Nat.le_of_ble_eq_true rfl⟩ ⟨Nat.le_of_ble_eq_true rfl, Nat.le_of_ble_eq_true rfl⟩ (Nat.le_of_ble_eq_true rfl) (dki ?_)
      refine j_if_ne C 43 dX4_turn_34 (by decide) (fun c34 => ?_) (fun c34 => ?_)
      · have hz := (in_ok (M := 5) (by decide)).mp (b2i_t c34)
        refine j_aload_n (i := 0) C dX4_turn_43 rfl 0 rfl ?_
        refine j_iload_n (i := 1) C dX4_turn_44 rfl 1 rfl ?_
        refine j_iconst (v := nI 4) C dX4_turn_45 (by decide) ?_
        refine j_iload_n (i := 2) C dX4_turn_46 rfl 2 rfl ?_
        refine j_iadd C dX4_turn_47 ?_
        refine j_callV (nargs := 2) (As := [_, _]) (Cn := RX4) C (0) rfl rfl rfl gw729 gw731 gw24 gw49 (kX4_lo l D ct sa a (nI 0) σ wr _ _ (ix x) (4 + ix y) e_x (by rw [e_y, nI_add]; congr 2; exact congrArg ix e_y) (by have := hi.1; omega) (by omega)) gw732 (by decide +kernel) rfl dX4_turn_48 ⟨Nat.le_of_ble_eq_true rfl, Nat.le_of_ble_eq_true rfl⟩ ⟨Nat.le_of_ble_eq_true rfl, Nat.le_of_ble_eq_true rfl⟩ (Nat.le_of_ble_eq_true rfl) (dki ?_)
        refine j_iload_n (i := 3) C dX4_turn_51 rfl 3 rfl ?_
        refine j_callS (nargs := 2) (As := [_, _]) C gw733 gw734 gw49 (kX4_far l D ct sa _ _ _) gw735 (by decide +kernel) rfl dX4_turn_52 ⟨Nat.le_of_ble_eq_true rfl, Nat.le_of_ble_eq_true rfl⟩ ⟨Nat.le_of_ble_eq_true rfl, Nat.le_of_ble_eq_true rfl⟩ (Nat.le_of_ble_eq_true rfl) (dki ?_)
        refine j_istore (lv' := [(4, .int _), (0, .ref _), (1, .int _), (2, .int _), (3, .int _)]) C dX4_turn_55 (by decide) rfl ?_
        refine j_aload_n (i := 0) C dX4_turn_57 rfl 1 rfl ?_
        refine j_iload_n (i := 1) C dX4_turn_58 rfl 2 rfl ?_
        refine j_iconst (v := nI 4) C dX4_turn_59 (by decide) ?_
        refine j_iload_n (i := 2) C dX4_turn_60 rfl 3 rfl ?_
        refine j_iadd C dX4_turn_61 ?_
        refine j_iload_n (i := 3) C dX4_turn_62 rfl 4 rfl ?_
        refine j_callV (nargs := 3) (As := [_, _, _]) (Cn := RX4) C (0) rfl rfl rfl gw717 gw719 gw22 gw49 (kX4_let l D ct sa a (nI 0) σ wr _ _ _ (ix x) (4 + ix y) e_x (by rw [e_y, nI_add]; congr 2; exact congrArg ix e_y) (by have := hi.1; omega) (by omega)) gw720 (by decide +kernel) rfl dX4_turn_63 ⟨Nat.le_of_ble_eq_true rfl, Nat.le_of_ble_eq_true rfl⟩ ⟨Nat.le_of_ble_eq_true rfl, Nat.le_of_ble_eq_true rfl⟩ (Nat.le_of_ble_eq_true rfl) (dkv ?_)
        refine j_aload_n (i := 0) C dX4_turn_66 rfl 1 rfl ?_
        refine j_dup C dX4_turn_67 rfl ?_
        refine j_get (Cn := RX4) (T := TX4) (N := 7) (ci := 5) C iX4 rfl (0) rfl 3 (by decide) gw680 rfl rfl dX4_turn_68 ?_
        refine j_iload C dX4_turn_71 0 rfl ?_
        refine j_iadd C dX4_turn_73 ?_
        refine j_put (Cn := RX4) (T := TX4) (N := 7) (ci := 5) (ws2 := WM ct a (nI 0) (uT (uR σ (upd (sR σ) (8 * ix x + (4 + ix y)) z)) (sT σ + farF (sR σ (8 * ix x + (4 + ix y))) z)) ++ wr) C iX4 tyX4 tyX4_ok nmX4 rfl (0) rfl 3 (by decide) gw680 rfl rfl rfl rfl rfl (Nat.le_of_ble_eq_true rfl) rfl dX4_turn_74 ?_
        refine j_iload C dX4_turn_77 0 rfl ?_
        exact j_ireturn C E rfl dX4_turn_79 (Nat.le_of_ble_eq_true rfl) (Nat.le_of_ble_eq_true rfl) (fK (by rw [f_turn, if_pos ⟨b2i_t c10, hy⟩, if_pos hz]))
      · refine j_aload_n (i := 0) C dX4_turn_37 rfl 0 rfl ?_
        refine j_iconst (v := nI 2) C dX4_turn_38 (by decide) ?_
        refine j_callV (nargs := 1) (As := [_]) (Cn := RX4) C (0) rfl rfl rfl gw713 gw715 gw21 gw49 (kX4_fail l D ct sa _ _ _ _ _) gw716 (by decide +kernel) rfl dX4_turn_39 ⟨Nat.le_of_ble_eq_true rfl, Nat.le_of_ble_eq_true rfl⟩ ⟨Nat.le_of_ble_eq_true rfl, Nat.le_of_ble_eq_true rfl⟩ (Nat.le_of_ble_eq_true rfl) (dki ?_)
        exact j_ireturn C E rfl dX4_turn_42 (Nat.le_of_ble_eq_true rfl) (Nat.le_of_ble_eq_true rfl) (fK (by rw [f_turn, if_pos ⟨b2i_t c10, hy⟩, if_neg (fun z => absurd ((in_ok (M := 5) (by decide)).mpr z) (b2i_f c34))]))
    · refine j_aload_n (i := 0) C dX4_turn_22 rfl 0 rfl ?_
      refine j_iconst (v := nI 1) C dX4_turn_23 (by decide) ?_
      refine j_callV (nargs := 1) (As := [_]) (Cn := RX4) C (0) rfl rfl rfl gw713 gw715 gw21 gw49 (kX4_fail l D ct sa _ _ _ _ _) gw716 (by decide +kernel) rfl dX4_turn_24 ⟨Nat.le_of_ble_eq_true rfl, Nat.le_of_ble_eq_true rfl⟩ ⟨Nat.le_of_ble_eq_true rfl, Nat.le_of_ble_eq_true rfl⟩ (Nat.le_of_ble_eq_true rfl) (dki ?_)
      exact j_ireturn C E rfl dX4_turn_27 (Nat.le_of_ble_eq_true rfl) (Nat.le_of_ble_eq_true rfl) (fK (by rw [f_turn]; first | rw [if_neg (fun z => absurd z.1 (b2i_f c10))] | rw [if_neg (fun z => absurd ((in_ok (M := 3) (by decide)).mpr z.2) (b2i_f c19))]))
set_option maxRecDepth 100000 in
set_option maxHeartbeats 4000000 in
theorem kX4_open (l : Launch) (D : va_G) (ct : Nat → ClassId) (sa : Nat → Nat) (a : Nat → Nat) (thr : Int32) (σ : St) (wr : va_W) (x : Int32) (hi : Inv0 σ) : jM l yX4_open (Cond.code yX4_open cX4_open 2 (Option.some Jvm.ClassFile.FieldType.boolean) :: GW) (rM 2 0 0 45) D ct sa [.ref (a 0), .int x] (WM ct a thr σ ++ wr) (fD ct a wr (f_open σ x)) 0 0 := by
  refine jMX.plain (jBody (own := RX4) (by decide) rfl rfl (Nat.le_of_ble_eq_true rfl) ?_)
  intro X C E T0
  refine j_lv (lv1 := [(0, .ref _), (1, .int _)]) rfl ?_
  refine j_aload_n (i := 0) C dX4_open_0 rfl 0 rfl ?_
  refine j_aload_n (i := 0) C dX4_open_1 rfl 0 rfl ?_
  refine j_iload_n (i := 1) C dX4_open_2 rfl 1 rfl ?_
  refine j_callV (nargs := 1) (As := [_]) (Cn := RX4) C (0) rfl rfl rfl gw725 gw727 gw23 gw49 (kX4_isLock l D ct sa _ _ _ _ _ hi.1) gw728 (by decide +kernel) rfl dX4_open_3 ⟨Nat.le_of_ble_eq_true rfl, Nat.le_of_ble_eq_true rfl⟩ ⟨Nat.le_of_ble_eq_true rfl, Nat.le_of_ble_eq_true rfl⟩ (Nat.le_of_ble_eq_true rfl) (dki ?_)
  refine j_if_eq C 13 dX4_open_6 (by decide) (fun c6 => ?_) (fun c6 => ?_)
  · refine j_iconst (v := nI 1) C dX4_open_13 (by decide) ?_
    refine j_put (Cn := RX4) (T := TX4) (N := 7) (ci := 5) (ws2 := WM ct a _ σ ++ wr) C iX4 tyX4 tyX4_ok nmX4 rfl (0) rfl 0 (by decide) gw677 rfl rfl rfl rfl rfl (Nat.le_of_ble_eq_true rfl) rfl dX4_open_14 ?_
    refine j_aload_n (i := 0) C dX4_open_17 rfl 0 rfl ?_
    refine j_get (Cn := RX4) (T := TX4) (N := 7) (ci := 5) C iX4 rfl (0) rfl 0 (by decide) gw677 rfl rfl dX4_open_18 ?_
    refine j_if_eq C 26 dX4_open_21 (by decide) (fun c21 => by exact absurd c21 (by decide)) (fun c21 => ?_)
    refine j_iconst (v := nI 0) C dX4_open_24 (by decide) ?_
    exact j_ireturn C E (by first | exact nr_b | rfl) dX4_open_25 (Nat.le_of_ble_eq_true rfl) (Nat.le_of_ble_eq_true rfl) (fK (by rw [f_open, if_neg (b2i_f c6)]))
  · have hl := b2i_t c6
    obtain ⟨hj_x, e_x⟩ := okI_ix (hl) (by omega)
    refine j_iconst (v := nI 0) C dX4_open_9 (by decide) ?_
    refine j_goto C 14 dX4_open_10 (by decide) ?_
    refine j_put (Cn := RX4) (T := TX4) (N := 7) (ci := 5) (ws2 := WM ct a _ σ ++ wr) C iX4 tyX4 tyX4_ok nmX4 rfl (0) rfl 0 (by decide) gw677 rfl rfl rfl rfl rfl (Nat.le_of_ble_eq_true rfl) rfl dX4_open_14 ?_
    refine j_aload_n (i := 0) C dX4_open_17 rfl 0 rfl ?_
    refine j_get (Cn := RX4) (T := TX4) (N := 7) (ci := 5) C iX4 rfl (0) rfl 0 (by decide) gw677 rfl rfl dX4_open_18 ?_
    refine j_if_eq C 26 dX4_open_21 (by decide) (fun c21 => ?_) (fun c21 => by exact absurd (by decide) c21)
    refine j_aload_n (i := 0) C dX4_open_26 rfl 0 rfl ?_
    refine j_iload_n (i := 1) C dX4_open_27 rfl 1 rfl ?_
    refine j_callV (nargs := 1) (As := [_]) (Cn := RX4) C (0) rfl rfl rfl gw742 gw744 gw25 gw49 (kX4_stands l D ct sa a (nI 0) σ wr _ (ix x) e_x (by have := hi.1; omega)) gw745 (by decide +kernel) rfl dX4_open_28 ⟨Nat.le_of_ble_eq_true rfl, Nat.le_of_ble_eq_true rfl⟩ ⟨Nat.le_of_ble_eq_true rfl, Nat.le_of_ble_eq_true rfl⟩ (Nat.le_of_ble_eq_true rfl) (dki ?_)
    refine j_aload_n (i := 0) C dX4_open_31 rfl 0 rfl ?_
    refine j_iload_n (i := 1) C dX4_open_32 rfl 1 rfl ?_
    refine j_iconst (v := nI 0) C dX4_open_33 (by decide) ?_
    refine j_callV (nargs := 2) (As := [_, _]) (Cn := RX4) C (0) rfl rfl rfl gw729 gw731 gw24 gw49 (kX4_lo l D ct sa a (nI 0) σ wr _ _ (ix x) 0 e_x rfl (by have := hi.1; omega) (by decide)) gw732 (by decide +kernel) rfl dX4_open_34 ⟨Nat.le_of_ble_eq_true rfl, Nat.le_of_ble_eq_true rfl⟩ ⟨Nat.le_of_ble_eq_true rfl, Nat.le_of_ble_eq_true rfl⟩ (Nat.le_of_ble_eq_true rfl) (dki ?_)
    refine j_icmp_ne C 47 dX4_open_37 (by decide) (fun c37 => ?_) (fun c37 => ?_)
    · refine j_aload_n (i := 0) C dX4_open_47 rfl 0 rfl ?_
      refine j_iload_n (i := 1) C dX4_open_48 rfl 1 rfl ?_
      refine j_iconst (v := nI 1) C dX4_open_49 (by decide) ?_
      refine j_callV (nargs := 2) (As := [_, _]) (Cn := RX4) C (0) rfl rfl rfl gw729 gw731 gw24 gw49 (kX4_lo l D ct sa a (nI 0) _ wr _ _ (ix x) 1 e_x rfl (by have := hi.1; omega) (by decide)) gw732 (by decide +kernel) rfl dX4_open_50 ⟨Nat.le_of_ble_eq_true rfl, Nat.le_of_ble_eq_true rfl⟩ ⟨Nat.le_of_ble_eq_true rfl, Nat.le_of_ble_eq_true rfl⟩ (Nat.le_of_ble_eq_true rfl) (dki ?_)
      refine j_iconst (v := nI 1) C dX4_open_53 (by decide) ?_
      refine j_icmp_ne C 61 dX4_open_54 (by decide) (fun c54 => ?_) (fun c54 => ?_)
      · refine j_iconst (v := nI 0) C dX4_open_61 (by decide) ?_
        exact j_ireturn C E (by first | exact nr_b | rfl) dX4_open_62 (Nat.le_of_ble_eq_true rfl) (Nat.le_of_ble_eq_true rfl) (fK (by rw [f_open, if_pos hl, opnF]; first | rw [if_pos c37, b2i_y c54] | rw [if_pos c37, b2i_n c54] | rw [if_neg c37, b2i_y c54] | rw [if_neg c37, b2i_n c54]))
      · refine j_iconst (v := nI 1) C dX4_open_57 (by decide) ?_
        refine j_goto C 62 dX4_open_58 (by decide) ?_
        exact j_ireturn C E (by first | exact nr_b | rfl) dX4_open_62 (Nat.le_of_ble_eq_true rfl) (Nat.le_of_ble_eq_true rfl) (fK (by rw [f_open, if_pos hl, opnF]; first | rw [if_pos c37, b2i_y c54] | rw [if_pos c37, b2i_n c54] | rw [if_neg c37, b2i_y c54] | rw [if_neg c37, b2i_n c54]))
    · refine j_aload_n (i := 0) C dX4_open_40 rfl 0 rfl ?_
      refine j_iload_n (i := 1) C dX4_open_41 rfl 1 rfl ?_
      refine j_iconst (v := nI 1) C dX4_open_42 (by decide) ?_
      refine j_iconst (v := nI 1) C dX4_open_43 (by decide) ?_
      refine j_callV (nargs := 3) (As := [_, _, _]) (Cn := RX4) C (0) rfl rfl rfl gw717 gw719 gw22 gw49 (kX4_let l D ct sa a (nI 0) σ wr _ _ _ (ix x) 1 e_x rfl (by have := hi.1; omega) (by decide)) gw720 (by decide +kernel) rfl dX4_open_44 ⟨Nat.le_of_ble_eq_true rfl, Nat.le_of_ble_eq_true rfl⟩ ⟨Nat.le_of_ble_eq_true rfl, Nat.le_of_ble_eq_true rfl⟩ (Nat.le_of_ble_eq_true rfl) (dkv ?_)
      refine j_aload_n (i := 0) C dX4_open_47 rfl 0 rfl ?_
      refine j_iload_n (i := 1) C dX4_open_48 rfl 1 rfl ?_
      refine j_iconst (v := nI 1) C dX4_open_49 (by decide) ?_
      refine j_callV (nargs := 2) (As := [_, _]) (Cn := RX4) C (0) rfl rfl rfl gw729 gw731 gw24 gw49 (kX4_lo l D ct sa a (nI 0) _ wr _ _ (ix x) 1 e_x rfl (by have := hi.1; omega) (by decide)) gw732 (by decide +kernel) rfl dX4_open_50 ⟨Nat.le_of_ble_eq_true rfl, Nat.le_of_ble_eq_true rfl⟩ ⟨Nat.le_of_ble_eq_true rfl, Nat.le_of_ble_eq_true rfl⟩ (Nat.le_of_ble_eq_true rfl) (dki ?_)
      refine j_iconst (v := nI 1) C dX4_open_53 (by decide) ?_
      refine j_icmp_ne C 61 dX4_open_54 (by decide) (fun c54 => ?_) (fun c54 => ?_)
      · refine j_iconst (v := nI 0) C dX4_open_61 (by decide) ?_
        exact j_ireturn C E (by first | exact nr_b | rfl) dX4_open_62 (Nat.le_of_ble_eq_true rfl) (Nat.le_of_ble_eq_true rfl) (fK (by rw [f_open, if_pos hl, opnF]; first | rw [if_pos c37, b2i_y c54] | rw [if_pos c37, b2i_n c54] | rw [if_neg c37, b2i_y c54] | rw [if_neg c37, b2i_n c54]))
      · refine j_iconst (v := nI 1) C dX4_open_57 (by decide) ?_
        refine j_goto C 62 dX4_open_58 (by decide) ?_
        exact j_ireturn C E (by first | exact nr_b | rfl) dX4_open_62 (Nat.le_of_ble_eq_true rfl) (Nat.le_of_ble_eq_true rfl) (fK (by rw [f_open, if_pos hl, opnF]; first | rw [if_pos c37, b2i_y c54] | rw [if_pos c37, b2i_n c54] | rw [if_neg c37, b2i_y c54] | rw [if_neg c37, b2i_n c54]))
set_option maxRecDepth 100000 in
set_option maxHeartbeats 4000000 in
theorem kX4_shut (l : Launch) (D : va_G) (ct : Nat → ClassId) (sa : Nat → Nat) (a : Nat → Nat) (thr : Int32) (σ : St) (wr : va_W) (x : Int32) (hi : Inv0 σ) : jM l yX4_shut (Cond.code yX4_shut cX4_shut 2 (Option.some Jvm.ClassFile.FieldType.int) :: GW) (rM 2 0 0 45) D ct sa [.ref (a 0), .int x] (WM ct a thr σ ++ wr) (fD ct a wr (f_shut σ x)) 0 0 := by
  refine jMX.plain (jBody (own := RX4) (by decide) rfl rfl (Nat.le_of_ble_eq_true rfl) ?_)
  intro X C E T0
  refine j_lv (lv1 := [(0, .ref _), (1, .int _)]) rfl ?_
  refine j_aload_n (i := 0) C dX4_shut_0 rfl 0 rfl ?_
  refine j_iconst (v := nI 0) C dX4_shut_1 (by decide) ?_
  refine j_put (Cn := RX4) (T := TX4) (N := 7) (ci := 5) (ws2 := WM ct a (nI 0) σ ++ wr) C iX4 tyX4 tyX4_ok nmX4 rfl (0) rfl 0 (by decide) gw677 rfl rfl rfl rfl rfl (Nat.le_of_ble_eq_true rfl) rfl dX4_shut_2 ?_
  refine j_aload_n (i := 0) C dX4_shut_5 rfl 0 rfl ?_
  refine j_iload_n (i := 1) C dX4_shut_6 rfl 1 rfl ?_
  refine j_callV (nargs := 1) (As := [_]) (Cn := RX4) C (0) rfl rfl rfl gw725 gw727 gw23 gw49 (kX4_isLock l D ct sa _ _ _ _ _ hi.1) gw728 (by decide +kernel) rfl dX4_shut_7 ⟨Nat.le_of_ble_eq_true rfl, Nat.le_of_ble_eq_true rfl⟩ ⟨Nat.le_of_ble_eq_true rfl, Nat.le_of_ble_eq_true rfl⟩ (Nat.le_of_ble_eq_true rfl) (dki ?_)
  refine j_if_ne C 19 dX4_shut_10 (by decide) (fun c10 => ?_) (fun c10 => ?_)
  · obtain ⟨hj_x, e_x⟩ := okI_ix (b2i_t c10) (by omega)
    refine j_aload_n (i := 0) C dX4_shut_19 rfl 0 rfl ?_
    refine j_iload_n (i := 1) C dX4_shut_20 rfl 1 rfl ?_
    refine j_iconst (v := nI 1) C dX4_shut_21 (by decide) ?_
    refine j_callV (nargs := 2) (As := [_, _]) (Cn := RX4) C (0) rfl rfl rfl gw729 gw731 gw24 gw49 (kX4_lo l D ct sa a (nI 0) σ wr _ _ (ix x) 1 e_x rfl (by have := hi.1; omega) (by decide)) gw732 (by decide +kernel) rfl dX4_shut_22 ⟨Nat.le_of_ble_eq_true rfl, Nat.le_of_ble_eq_true rfl⟩ ⟨Nat.le_of_ble_eq_true rfl, Nat.le_of_ble_eq_true rfl⟩ (Nat.le_of_ble_eq_true rfl) (dki ?_)
    refine j_if_ne C 34 dX4_shut_25 (by decide) (fun c25 => ?_) (fun c25 => ?_)
    · refine j_aload_n (i := 0) C dX4_shut_34 rfl 0 rfl ?_
      refine j_iload_n (i := 1) C dX4_shut_35 rfl 1 rfl ?_
      refine j_callV (nargs := 1) (As := [_]) (Cn := RX4) C (0) rfl rfl rfl gw750 gw752 gw26 gw49 (kX4_close l D ct sa a (nI 0) σ wr _ (ix x) e_x (by have := hi.1; omega)) gw753 (by decide +kernel) rfl dX4_shut_36 ⟨Nat.le_of_ble_eq_true rfl, Nat.le_of_ble_eq_true rfl⟩ ⟨Nat.le_of_ble_eq_true rfl, Nat.le_of_ble_eq_true rfl⟩ (Nat.le_of_ble_eq_true rfl) (dkv ?_)
      refine j_aload_n (i := 0) C dX4_shut_39 rfl 0 rfl ?_
      refine j_iload_n (i := 1) C dX4_shut_40 rfl 1 rfl ?_
      refine j_callV (nargs := 1) (As := [_]) (Cn := RX4) C (0) rfl rfl rfl gw742 gw744 gw25 gw49 (kX4_stands l D ct sa a (nI 0) _ wr _ (ix x) e_x (by have := hi.1; omega)) gw745 (by decide +kernel) rfl dX4_shut_41 ⟨Nat.le_of_ble_eq_true rfl, Nat.le_of_ble_eq_true rfl⟩ ⟨Nat.le_of_ble_eq_true rfl, Nat.le_of_ble_eq_true rfl⟩ (Nat.le_of_ble_eq_true rfl) (dki ?_)
      exact j_ireturn C E rfl dX4_shut_44 (Nat.le_of_ble_eq_true rfl) (Nat.le_of_ble_eq_true rfl) (fK (by rw [f_shut, if_pos (b2i_t c10), if_neg c25]))
    · refine j_aload_n (i := 0) C dX4_shut_28 rfl 0 rfl ?_
      refine j_iconst (v := nI 2) C dX4_shut_29 (by decide) ?_
      refine j_callV (nargs := 1) (As := [_]) (Cn := RX4) C (0) rfl rfl rfl gw713 gw715 gw21 gw49 (kX4_fail l D ct sa _ _ _ _ _) gw716 (by decide +kernel) rfl dX4_shut_30 ⟨Nat.le_of_ble_eq_true rfl, Nat.le_of_ble_eq_true rfl⟩ ⟨Nat.le_of_ble_eq_true rfl, Nat.le_of_ble_eq_true rfl⟩ (Nat.le_of_ble_eq_true rfl) (dki ?_)
      exact j_ireturn C E rfl dX4_shut_33 (Nat.le_of_ble_eq_true rfl) (Nat.le_of_ble_eq_true rfl) (fK (by rw [f_shut, if_pos (b2i_t c10), if_pos c25]))
  · refine j_aload_n (i := 0) C dX4_shut_13 rfl 0 rfl ?_
    refine j_iconst (v := nI 1) C dX4_shut_14 (by decide) ?_
    refine j_callV (nargs := 1) (As := [_]) (Cn := RX4) C (0) rfl rfl rfl gw713 gw715 gw21 gw49 (kX4_fail l D ct sa _ _ _ _ _) gw716 (by decide +kernel) rfl dX4_shut_15 ⟨Nat.le_of_ble_eq_true rfl, Nat.le_of_ble_eq_true rfl⟩ ⟨Nat.le_of_ble_eq_true rfl, Nat.le_of_ble_eq_true rfl⟩ (Nat.le_of_ble_eq_true rfl) (dki ?_)
    exact j_ireturn C E rfl dX4_shut_18 (Nat.le_of_ble_eq_true rfl) (Nat.le_of_ble_eq_true rfl) (fK (by rw [f_shut, if_neg (b2i_f c10)]))
set_option maxRecDepth 100000 in
set_option maxHeartbeats 4000000 in
theorem kX4_rename (l : Launch) (D : va_G) (ct : Nat → ClassId) (sa : Nat → Nat) (a : Nat → Nat) (thr : Int32) (σ : St) (wr : va_W) (x w : Int32) (hi : Inv0 σ) : jM l yX4_rename (Cond.code yX4_rename cX4_rename 4 (Option.some Jvm.ClassFile.FieldType.int) :: GW) (rM 2 0 0 43) D ct sa [.ref (a 0), .int x, .int w] (WM ct a thr σ ++ wr) (fD ct a wr (f_rename σ x w)) 0 0 := by
  refine jMX.plain (jBody (own := RX4) (by decide) rfl rfl (Nat.le_of_ble_eq_true rfl) ?_)
  intro X C E T0
  refine j_lv (lv1 := [(0, .ref _), (1, .int _), (2, .int _)]) rfl ?_
  refine j_aload_n (i := 0) C dX4_rename_0 rfl 0 rfl ?_
  refine j_iconst (v := nI 0) C dX4_rename_1 (by decide) ?_
  refine j_put (Cn := RX4) (T := TX4) (N := 7) (ci := 5) (ws2 := WM ct a (nI 0) σ ++ wr) C iX4 tyX4 tyX4_ok nmX4 rfl (0) rfl 0 (by decide) gw677 rfl rfl rfl rfl rfl (Nat.le_of_ble_eq_true rfl) rfl dX4_rename_2 ?_
  refine j_aload_n (i := 0) C dX4_rename_5 rfl 0 rfl ?_
  refine j_iload_n (i := 1) C dX4_rename_6 rfl 1 rfl ?_
  refine j_callV (nargs := 1) (As := [_]) (Cn := RX4) C (0) rfl rfl rfl gw725 gw727 gw23 gw49 (kX4_isLock l D ct sa _ _ _ _ _ hi.1) gw728 (by decide +kernel) rfl dX4_rename_7 ⟨Nat.le_of_ble_eq_true rfl, Nat.le_of_ble_eq_true rfl⟩ ⟨Nat.le_of_ble_eq_true rfl, Nat.le_of_ble_eq_true rfl⟩ (Nat.le_of_ble_eq_true rfl) (dki ?_)
  refine j_if_ne C 19 dX4_rename_10 (by decide) (fun c10 => ?_) (fun c10 => ?_)
  · obtain ⟨hj_x, e_x⟩ := okI_ix (b2i_t c10) (by omega)
    refine j_iload_n (i := 2) C dX4_rename_19 rfl 2 rfl ?_
    refine j_callS (nargs := 1) (As := [_]) C gw707 gw708 gw49 (kX4_isWord l D ct sa _ _) gw709 (by decide +kernel) rfl dX4_rename_20 ⟨Nat.le_of_ble_eq_true rfl, Nat.le_of_ble_eq_true rfl⟩ ⟨Nat.le_of_ble_eq_true rfl, Nat.le_of_ble_eq_true rfl⟩ (Nat.le_of_ble_eq_true rfl) (dki ?_)
    refine j_if_ne C 32 dX4_rename_23 (by decide) (fun c23 => ?_) (fun c23 => ?_)
    · refine j_aload_n (i := 0) C dX4_rename_32 rfl 0 rfl ?_
      refine j_iload_n (i := 1) C dX4_rename_33 rfl 1 rfl ?_
      refine j_iconst (v := nI 1) C dX4_rename_34 (by decide) ?_
      refine j_callV (nargs := 2) (As := [_, _]) (Cn := RX4) C (0) rfl rfl rfl gw729 gw731 gw24 gw49 (kX4_lo l D ct sa a (nI 0) σ wr _ _ (ix x) 1 e_x rfl (by have := hi.1; omega) (by decide)) gw732 (by decide +kernel) rfl dX4_rename_35 ⟨Nat.le_of_ble_eq_true rfl, Nat.le_of_ble_eq_true rfl⟩ ⟨Nat.le_of_ble_eq_true rfl, Nat.le_of_ble_eq_true rfl⟩ (Nat.le_of_ble_eq_true rfl) (dki ?_)
      refine j_if_ne C 47 dX4_rename_38 (by decide) (fun c38 => ?_) (fun c38 => ?_)
      · refine j_aload_n (i := 0) C dX4_rename_47 rfl 0 rfl ?_
        refine j_iload_n (i := 1) C dX4_rename_48 rfl 1 rfl ?_
        refine j_iconst (v := nI 0) C dX4_rename_49 (by decide) ?_
        refine j_callV (nargs := 2) (As := [_, _]) (Cn := RX4) C (0) rfl rfl rfl gw729 gw731 gw24 gw49 (kX4_lo l D ct sa a (nI 0) σ wr _ _ (ix x) 0 e_x rfl (by have := hi.1; omega) (by decide)) gw732 (by decide +kernel) rfl dX4_rename_50 ⟨Nat.le_of_ble_eq_true rfl, Nat.le_of_ble_eq_true rfl⟩ ⟨Nat.le_of_ble_eq_true rfl, Nat.le_of_ble_eq_true rfl⟩ (Nat.le_of_ble_eq_true rfl) (dki ?_)
        refine j_istore_n (lv' := [(3, .int _), (0, .ref _), (1, .int _), (2, .int _)]) C dX4_rename_53 rfl (by decide) rfl ?_
        refine j_aload_n (i := 0) C dX4_rename_54 rfl 1 rfl ?_
        refine j_iload_n (i := 1) C dX4_rename_55 rfl 2 rfl ?_
        refine j_iconst (v := nI 0) C dX4_rename_56 (by decide) ?_
        refine j_iload_n (i := 2) C dX4_rename_57 rfl 3 rfl ?_
        refine j_callV (nargs := 3) (As := [_, _, _]) (Cn := RX4) C (0) rfl rfl rfl gw717 gw719 gw22 gw49 (kX4_let l D ct sa a (nI 0) σ wr _ _ _ (ix x) 0 e_x rfl (by have := hi.1; omega) (by decide)) gw720 (by decide +kernel) rfl dX4_rename_58 ⟨Nat.le_of_ble_eq_true rfl, Nat.le_of_ble_eq_true rfl⟩ ⟨Nat.le_of_ble_eq_true rfl, Nat.le_of_ble_eq_true rfl⟩ (Nat.le_of_ble_eq_true rfl) (dkv ?_)
        refine j_aload_n (i := 0) C dX4_rename_61 rfl 1 rfl ?_
        refine j_iload_n (i := 1) C dX4_rename_62 rfl 2 rfl ?_
        refine j_iconst (v := nI 3) C dX4_rename_63 (by decide) ?_
        refine j_iconst (v := nI 0) C dX4_rename_64 (by decide) ?_
        refine j_callV (nargs := 3) (As := [_, _, _]) (Cn := RX4) C (0) rfl rfl rfl gw717 gw719 gw22 gw49 (kX4_let l D ct sa a (nI 0) _ wr _ _ _ (ix x) 3 e_x rfl (by have := hi.1; omega) (by decide)) gw720 (by decide +kernel) rfl dX4_rename_65 ⟨Nat.le_of_ble_eq_true rfl, Nat.le_of_ble_eq_true rfl⟩ ⟨Nat.le_of_ble_eq_true rfl, Nat.le_of_ble_eq_true rfl⟩ (Nat.le_of_ble_eq_true rfl) (dkv ?_)
        refine j_iload_n (i := 3) C dX4_rename_68 rfl 0 rfl ?_
        exact j_ireturn C E rfl dX4_rename_69 (Nat.le_of_ble_eq_true rfl) (Nat.le_of_ble_eq_true rfl) (fK (by rw [f_rename, if_pos (b2i_t c10), if_pos (b2i_t c23), if_neg c38]))
      · refine j_aload_n (i := 0) C dX4_rename_41 rfl 0 rfl ?_
        refine j_iconst (v := nI 3) C dX4_rename_42 (by decide) ?_
        refine j_callV (nargs := 1) (As := [_]) (Cn := RX4) C (0) rfl rfl rfl gw713 gw715 gw21 gw49 (kX4_fail l D ct sa _ _ _ _ _) gw716 (by decide +kernel) rfl dX4_rename_43 ⟨Nat.le_of_ble_eq_true rfl, Nat.le_of_ble_eq_true rfl⟩ ⟨Nat.le_of_ble_eq_true rfl, Nat.le_of_ble_eq_true rfl⟩ (Nat.le_of_ble_eq_true rfl) (dki ?_)
        exact j_ireturn C E rfl dX4_rename_46 (Nat.le_of_ble_eq_true rfl) (Nat.le_of_ble_eq_true rfl) (fK (by rw [f_rename, if_pos (b2i_t c10), if_pos (b2i_t c23), if_pos c38]))
    · refine j_aload_n (i := 0) C dX4_rename_26 rfl 0 rfl ?_
      refine j_iconst (v := nI 2) C dX4_rename_27 (by decide) ?_
      refine j_callV (nargs := 1) (As := [_]) (Cn := RX4) C (0) rfl rfl rfl gw713 gw715 gw21 gw49 (kX4_fail l D ct sa _ _ _ _ _) gw716 (by decide +kernel) rfl dX4_rename_28 ⟨Nat.le_of_ble_eq_true rfl, Nat.le_of_ble_eq_true rfl⟩ ⟨Nat.le_of_ble_eq_true rfl, Nat.le_of_ble_eq_true rfl⟩ (Nat.le_of_ble_eq_true rfl) (dki ?_)
      exact j_ireturn C E rfl dX4_rename_31 (Nat.le_of_ble_eq_true rfl) (Nat.le_of_ble_eq_true rfl) (fK (by rw [f_rename, if_pos (b2i_t c10), if_neg (b2i_f c23)]))
  · refine j_aload_n (i := 0) C dX4_rename_13 rfl 0 rfl ?_
    refine j_iconst (v := nI 1) C dX4_rename_14 (by decide) ?_
    refine j_callV (nargs := 1) (As := [_]) (Cn := RX4) C (0) rfl rfl rfl gw713 gw715 gw21 gw49 (kX4_fail l D ct sa _ _ _ _ _) gw716 (by decide +kernel) rfl dX4_rename_15 ⟨Nat.le_of_ble_eq_true rfl, Nat.le_of_ble_eq_true rfl⟩ ⟨Nat.le_of_ble_eq_true rfl, Nat.le_of_ble_eq_true rfl⟩ (Nat.le_of_ble_eq_true rfl) (dki ?_)
    exact j_ireturn C E rfl dX4_rename_18 (Nat.le_of_ble_eq_true rfl) (Nat.le_of_ble_eq_true rfl) (fK (by rw [f_rename, if_neg (b2i_f c10)]))
set_option maxRecDepth 100000 in
set_option maxHeartbeats 4000000 in
theorem kX4_lose (l : Launch) (D : va_G) (ct : Nat → ClassId) (sa : Nat → Nat) (a : Nat → Nat) (thr : Int32) (σ : St) (wr : va_W) (x b : Int32) (hi : Inv0 σ) : jM l yX4_lose (Cond.code yX4_lose cX4_lose 4 (Option.some Jvm.ClassFile.FieldType.boolean) :: GW) (rM 2 0 0 43) D ct sa [.ref (a 0), .int x, .int b] (WM ct a thr σ ++ wr) (fD ct a wr (f_lose σ x b)) 0 0 := by
  refine jMX.plain (jBody (own := RX4) (by decide) rfl rfl (Nat.le_of_ble_eq_true rfl) ?_)
  intro X C E T0
  refine j_lv (lv1 := [(0, .ref _), (1, .int _), (2, .int _)]) rfl ?_
  refine j_aload_n (i := 0) C dX4_lose_0 rfl 0 rfl ?_
  refine j_aload_n (i := 0) C dX4_lose_1 rfl 0 rfl ?_
  refine j_iload_n (i := 1) C dX4_lose_2 rfl 1 rfl ?_
  refine j_callV (nargs := 1) (As := [_]) (Cn := RX4) C (0) rfl rfl rfl gw725 gw727 gw23 gw49 (kX4_isLock l D ct sa _ _ _ _ _ hi.1) gw728 (by decide +kernel) rfl dX4_lose_3 ⟨Nat.le_of_ble_eq_true rfl, Nat.le_of_ble_eq_true rfl⟩ ⟨Nat.le_of_ble_eq_true rfl, Nat.le_of_ble_eq_true rfl⟩ (Nat.le_of_ble_eq_true rfl) (dki ?_)
  refine j_if_eq C 13 dX4_lose_6 (by decide) (fun c6 => ?_) (fun c6 => ?_)
  · refine j_iconst (v := nI 1) C dX4_lose_13 (by decide) ?_
    refine j_put (Cn := RX4) (T := TX4) (N := 7) (ci := 5) (ws2 := WM ct a _ σ ++ wr) C iX4 tyX4 tyX4_ok nmX4 rfl (0) rfl 0 (by decide) gw677 rfl rfl rfl rfl rfl (Nat.le_of_ble_eq_true rfl) rfl dX4_lose_14 ?_
    refine j_aload_n (i := 0) C dX4_lose_17 rfl 0 rfl ?_
    refine j_get (Cn := RX4) (T := TX4) (N := 7) (ci := 5) C iX4 rfl (0) rfl 0 (by decide) gw677 rfl rfl dX4_lose_18 ?_
    refine j_if_eq C 26 dX4_lose_21 (by decide) (fun c21 => by exact absurd c21 (by decide)) (fun c21 => ?_)
    refine j_iconst (v := nI 0) C dX4_lose_24 (by decide) ?_
    exact j_ireturn C E (by first | exact nr_b | rfl) dX4_lose_25 (Nat.le_of_ble_eq_true rfl) (Nat.le_of_ble_eq_true rfl) (fK (by rw [f_lose, if_neg (b2i_f c6)]))
  · have hl := b2i_t c6
    obtain ⟨hj_x, e_x⟩ := okI_ix (hl) (by omega)
    refine j_iconst (v := nI 0) C dX4_lose_9 (by decide) ?_
    refine j_goto C 14 dX4_lose_10 (by decide) ?_
    refine j_put (Cn := RX4) (T := TX4) (N := 7) (ci := 5) (ws2 := WM ct a _ σ ++ wr) C iX4 tyX4 tyX4_ok nmX4 rfl (0) rfl 0 (by decide) gw677 rfl rfl rfl rfl rfl (Nat.le_of_ble_eq_true rfl) rfl dX4_lose_14 ?_
    refine j_aload_n (i := 0) C dX4_lose_17 rfl 0 rfl ?_
    refine j_get (Cn := RX4) (T := TX4) (N := 7) (ci := 5) C iX4 rfl (0) rfl 0 (by decide) gw677 rfl rfl dX4_lose_18 ?_
    refine j_if_eq C 26 dX4_lose_21 (by decide) (fun c21 => ?_) (fun c21 => by exact absurd (by decide) c21)
    refine j_aload_n (i := 0) C dX4_lose_26 rfl 0 rfl ?_
    refine j_iload_n (i := 1) C dX4_lose_27 rfl 1 rfl ?_
    refine j_iconst (v := nI 3) C dX4_lose_28 (by decide) ?_
    refine j_callV (nargs := 2) (As := [_, _]) (Cn := RX4) C (0) rfl rfl rfl gw729 gw731 gw24 gw49 (kX4_lo l D ct sa a (nI 0) σ wr _ _ (ix x) 3 e_x rfl (by have := hi.1; omega) (by decide)) gw732 (by decide +kernel) rfl dX4_lose_29 ⟨Nat.le_of_ble_eq_true rfl, Nat.le_of_ble_eq_true rfl⟩ ⟨Nat.le_of_ble_eq_true rfl, Nat.le_of_ble_eq_true rfl⟩ (Nat.le_of_ble_eq_true rfl) (dki ?_)
    refine j_iconst (v := nI 1) C dX4_lose_32 (by decide) ?_
    refine j_icmp_ne C 40 dX4_lose_33 (by decide) (fun c33 => ?_) (fun c33 => ?_)
    · refine j_iconst (v := nI 0) C dX4_lose_40 (by decide) ?_
      refine j_istore_n (lv' := [(3, .int _), (0, .ref _), (1, .int _), (2, .int _)]) C dX4_lose_41 rfl (by decide) rfl ?_
      refine j_aload_n (i := 0) C dX4_lose_42 rfl 1 rfl ?_
      refine j_iload_n (i := 1) C dX4_lose_43 rfl 2 rfl ?_
      refine j_iconst (v := nI 3) C dX4_lose_44 (by decide) ?_
      refine j_iload_n (i := 2) C dX4_lose_45 rfl 3 rfl ?_
      refine j_if_eq C 53 dX4_lose_46 (by decide) (fun c46 => ?_) (fun c46 => ?_)
      · refine j_iconst (v := nI 0) C dX4_lose_53 (by decide) ?_
        refine j_callV (nargs := 3) (As := [_, _, _]) (Cn := RX4) C (0) rfl rfl rfl gw717 gw719 gw22 gw49 (kX4_let l D ct sa a (nI 0) σ wr _ _ _ (ix x) 3 e_x rfl (by have := hi.1; omega) (by decide)) gw720 (by decide +kernel) rfl dX4_lose_54 ⟨Nat.le_of_ble_eq_true rfl, Nat.le_of_ble_eq_true rfl⟩ ⟨Nat.le_of_ble_eq_true rfl, Nat.le_of_ble_eq_true rfl⟩ (Nat.le_of_ble_eq_true rfl) (dkv ?_)
        refine j_iload_n (i := 3) C dX4_lose_57 rfl 0 rfl ?_
        exact j_ireturn C E (by first | exact nr_b | rfl) dX4_lose_58 (Nat.le_of_ble_eq_true rfl) (Nat.le_of_ble_eq_true rfl) (fK (by rw [f_lose, if_pos hl]; first | rw [b2i_y c33, b2i_y c46] | rw [b2i_y c33, b2i_n (fun z => z c46)] | rw [b2i_n c33, b2i_y c46] | rw [b2i_n c33, b2i_n (fun z => z c46)]))
      · refine j_iconst (v := nI 1) C dX4_lose_49 (by decide) ?_
        refine j_goto C 54 dX4_lose_50 (by decide) ?_
        refine j_callV (nargs := 3) (As := [_, _, _]) (Cn := RX4) C (0) rfl rfl rfl gw717 gw719 gw22 gw49 (kX4_let l D ct sa a (nI 0) σ wr _ _ _ (ix x) 3 e_x rfl (by have := hi.1; omega) (by decide)) gw720 (by decide +kernel) rfl dX4_lose_54 ⟨Nat.le_of_ble_eq_true rfl, Nat.le_of_ble_eq_true rfl⟩ ⟨Nat.le_of_ble_eq_true rfl, Nat.le_of_ble_eq_true rfl⟩ (Nat.le_of_ble_eq_true rfl) (dkv ?_)
        refine j_iload_n (i := 3) C dX4_lose_57 rfl 0 rfl ?_
        exact j_ireturn C E (by first | exact nr_b | rfl) dX4_lose_58 (Nat.le_of_ble_eq_true rfl) (Nat.le_of_ble_eq_true rfl) (fK (by rw [f_lose, if_pos hl]; first | rw [b2i_y c33, b2i_y c46] | rw [b2i_y c33, b2i_n (fun z => z c46)] | rw [b2i_n c33, b2i_y c46] | rw [b2i_n c33, b2i_n (fun z => z c46)]))
    · refine j_iconst (v := nI 1) C dX4_lose_36 (by decide) ?_
      refine j_goto C 41 dX4_lose_37 (by decide) ?_
      refine j_istore_n (lv' := [(3, .int _), (0, .ref _), (1, .int _), (2, .int _)]) C dX4_lose_41 rfl (by decide) rfl ?_
      refine j_aload_n (i := 0) C dX4_lose_42 rfl 1 rfl ?_
      refine j_iload_n (i := 1) C dX4_lose_43 rfl 2 rfl ?_
      refine j_iconst (v := nI 3) C dX4_lose_44 (by decide) ?_
      refine j_iload_n (i := 2) C dX4_lose_45 rfl 3 rfl ?_
      refine j_if_eq C 53 dX4_lose_46 (by decide) (fun c46 => ?_) (fun c46 => ?_)
      · refine j_iconst (v := nI 0) C dX4_lose_53 (by decide) ?_
        refine j_callV (nargs := 3) (As := [_, _, _]) (Cn := RX4) C (0) rfl rfl rfl gw717 gw719 gw22 gw49 (kX4_let l D ct sa a (nI 0) σ wr _ _ _ (ix x) 3 e_x rfl (by have := hi.1; omega) (by decide)) gw720 (by decide +kernel) rfl dX4_lose_54 ⟨Nat.le_of_ble_eq_true rfl, Nat.le_of_ble_eq_true rfl⟩ ⟨Nat.le_of_ble_eq_true rfl, Nat.le_of_ble_eq_true rfl⟩ (Nat.le_of_ble_eq_true rfl) (dkv ?_)
        refine j_iload_n (i := 3) C dX4_lose_57 rfl 0 rfl ?_
        exact j_ireturn C E (by first | exact nr_b | rfl) dX4_lose_58 (Nat.le_of_ble_eq_true rfl) (Nat.le_of_ble_eq_true rfl) (fK (by rw [f_lose, if_pos hl]; first | rw [b2i_y c33, b2i_y c46] | rw [b2i_y c33, b2i_n (fun z => z c46)] | rw [b2i_n c33, b2i_y c46] | rw [b2i_n c33, b2i_n (fun z => z c46)]))
      · refine j_iconst (v := nI 1) C dX4_lose_49 (by decide) ?_
        refine j_goto C 54 dX4_lose_50 (by decide) ?_
        refine j_callV (nargs := 3) (As := [_, _, _]) (Cn := RX4) C (0) rfl rfl rfl gw717 gw719 gw22 gw49 (kX4_let l D ct sa a (nI 0) σ wr _ _ _ (ix x) 3 e_x rfl (by have := hi.1; omega) (by decide)) gw720 (by decide +kernel) rfl dX4_lose_54 ⟨Nat.le_of_ble_eq_true rfl, Nat.le_of_ble_eq_true rfl⟩ ⟨Nat.le_of_ble_eq_true rfl, Nat.le_of_ble_eq_true rfl⟩ (Nat.le_of_ble_eq_true rfl) (dkv ?_)
        refine j_iload_n (i := 3) C dX4_lose_57 rfl 0 rfl ?_
        exact j_ireturn C E (by first | exact nr_b | rfl) dX4_lose_58 (Nat.le_of_ble_eq_true rfl) (Nat.le_of_ble_eq_true rfl) (fK (by rw [f_lose, if_pos hl]; first | rw [b2i_y c33, b2i_y c46] | rw [b2i_y c33, b2i_n (fun z => z c46)] | rw [b2i_n c33, b2i_y c46] | rw [b2i_n c33, b2i_n (fun z => z c46)]))
set_option maxRecDepth 100000 in
set_option maxHeartbeats 4000000 in
theorem kX4_isOpen (l : Launch) (D : va_G) (ct : Nat → ClassId) (sa : Nat → Nat) (a : Nat → Nat) (thr : Int32) (σ : St) (wr : va_W) (x : Int32) (r : Nat) (hx : x = nI r) (hr : r < 3) : jM l yX4_isOpen (Cond.code yX4_isOpen cX4_isOpen 5 (Option.some Jvm.ClassFile.FieldType.boolean) :: GW) (rM 1 0 0 22) D ct sa [.ref (a 0), .int x] (WM ct a thr σ ++ wr) (dK (some (.int (b2i (opR σ (sH σ) r)))) (WM ct a thr σ ++ wr)) 0 0 := by
  refine jMX.plain (jBody (own := RX4) (by decide) rfl rfl (Nat.le_of_ble_eq_true rfl) ?_)
  intro X C E T0
  refine j_lv (lv1 := [(0, .ref _), (1, .int _)]) rfl ?_
  refine j_aload_n (i := 0) C dX4_isOpen_0 rfl 0 rfl ?_
  refine j_get (Cn := RX4) (T := TX4) (N := 7) (ci := 5) C iX4 rfl (0) rfl 2 (by decide) gw679 rfl rfl dX4_isOpen_1 ?_
  refine j_bipush (v := nI 24) C dX4_isOpen_4 (by decide) ?_
  refine j_irem C dX4_isOpen_6 (by decide) ?_
  refine j_istore_n (lv' := [(2, .int _), (0, .ref _), (1, .int _)]) C dX4_isOpen_7 rfl (by decide) rfl ?_
  refine j_aload_n (i := 0) C dX4_isOpen_8 rfl 1 rfl ?_
  refine j_iload_n (i := 1) C dX4_isOpen_9 rfl 2 rfl ?_
  refine j_iconst (v := nI 1) C dX4_isOpen_10 (by decide) ?_
  refine j_callV (nargs := 2) (As := [_, _]) (Cn := RX4) C (0) rfl rfl rfl gw773 gw775 gw28 gw49 (kX4_ra l D ct sa a thr σ wr _ _ r 1 hx rfl hr (by decide)) gw776 (by decide +kernel) rfl dX4_isOpen_11 ⟨Nat.le_of_ble_eq_true rfl, Nat.le_of_ble_eq_true rfl⟩ ⟨Nat.le_of_ble_eq_true rfl, Nat.le_of_ble_eq_true rfl⟩ (Nat.le_of_ble_eq_true rfl) (dki ?_)
  refine j_istore_n (lv' := [(3, .int _), (2, .int _), (0, .ref _), (1, .int _)]) C dX4_isOpen_14 rfl (by decide) rfl ?_
  refine j_aload_n (i := 0) C dX4_isOpen_15 rfl 2 rfl ?_
  refine j_iload_n (i := 1) C dX4_isOpen_16 rfl 3 rfl ?_
  refine j_iconst (v := nI 2) C dX4_isOpen_17 (by decide) ?_
  refine j_callV (nargs := 2) (As := [_, _]) (Cn := RX4) C (0) rfl rfl rfl gw773 gw775 gw28 gw49 (kX4_ra l D ct sa a thr σ wr _ _ r 2 hx rfl hr (by decide)) gw776 (by decide +kernel) rfl dX4_isOpen_18 ⟨Nat.le_of_ble_eq_true rfl, Nat.le_of_ble_eq_true rfl⟩ ⟨Nat.le_of_ble_eq_true rfl, Nat.le_of_ble_eq_true rfl⟩ (Nat.le_of_ble_eq_true rfl) (dki ?_)
  refine j_istore (lv' := [(4, .int _), (3, .int _), (2, .int _), (0, .ref _), (1, .int _)]) C dX4_isOpen_21 (by decide) rfl ?_
  refine j_iload_n (i := 3) C dX4_isOpen_23 rfl 1 rfl ?_
  refine j_iload C dX4_isOpen_24 0 rfl ?_
  refine j_icmp_ge C 48 dX4_isOpen_26 (by decide) (fun c26 => ?_) (fun c26 => ?_)
  · refine j_iload_n (i := 3) C dX4_isOpen_48 rfl 1 rfl ?_
    refine j_iload C dX4_isOpen_49 0 rfl ?_
    refine j_icmp_le C 69 dX4_isOpen_51 (by decide) (fun c51 => ?_) (fun c51 => ?_)
    · refine j_iconst (v := nI 0) C dX4_isOpen_69 (by decide) ?_
      exact j_ireturn C E (by first | exact nr_b | rfl) dX4_isOpen_70 (Nat.le_of_ble_eq_true rfl) (Nat.le_of_ble_eq_true rfl) (⟨congrArg (fun z => some (Value.int z)) (by first | exact (b2i_y (by simp only [opR, opP, irm, Int32.lt_iff_toInt_lt, Int32.le_iff_toInt_le] at *; omega)).symm | exact (b2i_n (by simp only [opR, opP, irm, Int32.lt_iff_toInt_lt, Int32.le_iff_toInt_le] at *; omega)).symm), rfl⟩)
    · refine j_iload_n (i := 2) C dX4_isOpen_54 rfl 2 rfl ?_
      refine j_iload_n (i := 3) C dX4_isOpen_55 rfl 1 rfl ?_
      refine j_icmp_ge C 65 dX4_isOpen_56 (by decide) (fun c56 => ?_) (fun c56 => ?_)
      · refine j_iconst (v := nI 1) C dX4_isOpen_65 (by decide) ?_
        refine j_goto C 70 dX4_isOpen_66 (by decide) ?_
        exact j_ireturn C E (by first | exact nr_b | rfl) dX4_isOpen_70 (Nat.le_of_ble_eq_true rfl) (Nat.le_of_ble_eq_true rfl) (⟨congrArg (fun z => some (Value.int z)) (by first | exact (b2i_y (by simp only [opR, opP, irm, Int32.lt_iff_toInt_lt, Int32.le_iff_toInt_le] at *; omega)).symm | exact (b2i_n (by simp only [opR, opP, irm, Int32.lt_iff_toInt_lt, Int32.le_iff_toInt_le] at *; omega)).symm), rfl⟩)
      · refine j_iload_n (i := 2) C dX4_isOpen_59 rfl 2 rfl ?_
        refine j_iload C dX4_isOpen_60 0 rfl ?_
        refine j_icmp_ge C 69 dX4_isOpen_62 (by decide) (fun c62 => ?_) (fun c62 => ?_)
        · refine j_iconst (v := nI 0) C dX4_isOpen_69 (by decide) ?_
          exact j_ireturn C E (by first | exact nr_b | rfl) dX4_isOpen_70 (Nat.le_of_ble_eq_true rfl) (Nat.le_of_ble_eq_true rfl) (⟨congrArg (fun z => some (Value.int z)) (by first | exact (b2i_y (by simp only [opR, opP, irm, Int32.lt_iff_toInt_lt, Int32.le_iff_toInt_le] at *; omega)).symm | exact (b2i_n (by simp only [opR, opP, irm, Int32.lt_iff_toInt_lt, Int32.le_iff_toInt_le] at *; omega)).symm), rfl⟩)
        · refine j_iconst (v := nI 1) C dX4_isOpen_65 (by decide) ?_
          refine j_goto C 70 dX4_isOpen_66 (by decide) ?_
          exact j_ireturn C E (by first | exact nr_b | rfl) dX4_isOpen_70 (Nat.le_of_ble_eq_true rfl) (Nat.le_of_ble_eq_true rfl) (⟨congrArg (fun z => some (Value.int z)) (by first | exact (b2i_y (by simp only [opR, opP, irm, Int32.lt_iff_toInt_lt, Int32.le_iff_toInt_le] at *; omega)).symm | exact (b2i_n (by simp only [opR, opP, irm, Int32.lt_iff_toInt_lt, Int32.le_iff_toInt_le] at *; omega)).symm), rfl⟩)
  · refine j_iload_n (i := 2) C dX4_isOpen_29 rfl 2 rfl ?_
    refine j_iload_n (i := 3) C dX4_isOpen_30 rfl 1 rfl ?_
    refine j_icmp_lt C 44 dX4_isOpen_31 (by decide) (fun c31 => ?_) (fun c31 => ?_)
    · refine j_iconst (v := nI 0) C dX4_isOpen_44 (by decide) ?_
      refine j_goto C 70 dX4_isOpen_45 (by decide) ?_
      exact j_ireturn C E (by first | exact nr_b | rfl) dX4_isOpen_70 (Nat.le_of_ble_eq_true rfl) (Nat.le_of_ble_eq_true rfl) (⟨congrArg (fun z => some (Value.int z)) (by first | exact (b2i_y (by simp only [opR, opP, irm, Int32.lt_iff_toInt_lt, Int32.le_iff_toInt_le] at *; omega)).symm | exact (b2i_n (by simp only [opR, opP, irm, Int32.lt_iff_toInt_lt, Int32.le_iff_toInt_le] at *; omega)).symm), rfl⟩)
    · refine j_iload_n (i := 2) C dX4_isOpen_34 rfl 2 rfl ?_
      refine j_iload C dX4_isOpen_35 0 rfl ?_
      refine j_icmp_ge C 44 dX4_isOpen_37 (by decide) (fun c37 => ?_) (fun c37 => ?_)
      · refine j_iconst (v := nI 0) C dX4_isOpen_44 (by decide) ?_
        refine j_goto C 70 dX4_isOpen_45 (by decide) ?_
        exact j_ireturn C E (by first | exact nr_b | rfl) dX4_isOpen_70 (Nat.le_of_ble_eq_true rfl) (Nat.le_of_ble_eq_true rfl) (⟨congrArg (fun z => some (Value.int z)) (by first | exact (b2i_y (by simp only [opR, opP, irm, Int32.lt_iff_toInt_lt, Int32.le_iff_toInt_le] at *; omega)).symm | exact (b2i_n (by simp only [opR, opP, irm, Int32.lt_iff_toInt_lt, Int32.le_iff_toInt_le] at *; omega)).symm), rfl⟩)
      · refine j_iconst (v := nI 1) C dX4_isOpen_40 (by decide) ?_
        refine j_goto C 70 dX4_isOpen_41 (by decide) ?_
        exact j_ireturn C E (by first | exact nr_b | rfl) dX4_isOpen_70 (Nat.le_of_ble_eq_true rfl) (Nat.le_of_ble_eq_true rfl) (⟨congrArg (fun z => some (Value.int z)) (by first | exact (b2i_y (by simp only [opR, opP, irm, Int32.lt_iff_toInt_lt, Int32.le_iff_toInt_le] at *; omega)).symm | exact (b2i_n (by simp only [opR, opP, irm, Int32.lt_iff_toInt_lt, Int32.le_iff_toInt_le] at *; omega)).symm), rfl⟩)
set_option maxRecDepth 100000 in
set_option maxHeartbeats 4000000 in
theorem kX4_setPlaces (l : Launch) (D : va_G) (ct : Nat → ClassId) (sa : Nat → Nat) (a : Nat → Nat) (thr : Int32) (σ : St) (wr : va_W) (x y : Int32) (hi : Inv0 σ) : jM l yX4_setPlaces (Cond.code yX4_setPlaces cX4_setPlaces 4 (Option.some Jvm.ClassFile.FieldType.int) :: GW) (rM 2 0 0 45) D ct sa [.ref (a 0), .int x, .int y] (WM ct a thr σ ++ wr) (fD ct a wr (f_setPlaces σ x y)) 0 0 := by
  refine jMX.plain (jBody (own := RX4) (by decide) rfl rfl (Nat.le_of_ble_eq_true rfl) ?_)
  intro X C E T0
  refine j_lv (lv1 := [(0, .ref _), (1, .int _), (2, .int _)]) rfl ?_
  refine j_aload_n (i := 0) C dX4_setPlaces_0 rfl 0 rfl ?_
  refine j_iconst (v := nI 0) C dX4_setPlaces_1 (by decide) ?_
  refine j_put (Cn := RX4) (T := TX4) (N := 7) (ci := 5) (ws2 := WM ct a (nI 0) σ ++ wr) C iX4 tyX4 tyX4_ok nmX4 rfl (0) rfl 0 (by decide) gw677 rfl rfl rfl rfl rfl (Nat.le_of_ble_eq_true rfl) rfl dX4_setPlaces_2 ?_
  refine j_iload_n (i := 1) C dX4_setPlaces_5 rfl 1 rfl ?_
  refine j_callS (nargs := 1) (As := [_]) C gw766 gw767 gw49 (kX4_isRack l D ct sa _ _) gw768 (by decide +kernel) rfl dX4_setPlaces_6 ⟨Nat.le_of_ble_eq_true rfl, Nat.le_of_ble_eq_true rfl⟩ ⟨Nat.le_of_ble_eq_true rfl, Nat.le_of_ble_eq_true rfl⟩ (Nat.le_of_ble_eq_true rfl) (dki ?_)
  refine j_if_ne C 18 dX4_setPlaces_9 (by decide) (fun c9 => ?_) (fun c9 => ?_)
  · refine j_iload_n (i := 2) C dX4_setPlaces_18 rfl 2 rfl ?_
    refine j_iconst (v := nI 1) C dX4_setPlaces_19 (by decide) ?_
    refine j_bipush (v := nI 6) C dX4_setPlaces_20 (by decide) ?_
    refine j_callS (nargs := 3) (As := [_, _, _]) C gw710 gw711 gw49 (kX4_isIn l D ct sa _ _ _ _) gw712 (by decide +kernel) rfl dX4_setPlaces_22 ⟨Nat.le_of_ble_eq_true rfl, Nat.le_of_ble_eq_true rfl⟩ ⟨Nat.le_of_ble_eq_true rfl, Nat.le_of_ble_eq_true rfl⟩ (Nat.le_of_ble_eq_true rfl) (dki ?_)
    refine j_if_ne C 34 dX4_setPlaces_25 (by decide) (fun c25 => ?_) (fun c25 => ?_)
    · refine j_aload_n (i := 0) C dX4_setPlaces_34 rfl 0 rfl ?_
      refine j_iload_n (i := 1) C dX4_setPlaces_35 rfl 1 rfl ?_
      refine j_callV (nargs := 1) (As := [_]) (Cn := RX4) C (0) rfl rfl rfl gw769 gw771 gw27 gw49 (kX4_in l D ct sa _ _ _ _ _ hi.1) gw772 (by decide +kernel) rfl dX4_setPlaces_36 ⟨Nat.le_of_ble_eq_true rfl, Nat.le_of_ble_eq_true rfl⟩ ⟨Nat.le_of_ble_eq_true rfl, Nat.le_of_ble_eq_true rfl⟩ (Nat.le_of_ble_eq_true rfl) (dki ?_)
      refine j_iload_n (i := 2) C dX4_setPlaces_39 rfl 2 rfl ?_
      refine j_icmp_le C 49 dX4_setPlaces_40 (by decide) (fun c40 => ?_) (fun c40 => ?_)
      · obtain ⟨hj_x, e_x⟩ := okI_ix (b2i_t c9) (by omega)
        refine j_aload_n (i := 0) C dX4_setPlaces_49 rfl 0 rfl ?_
        refine j_iload_n (i := 1) C dX4_setPlaces_50 rfl 1 rfl ?_
        refine j_iconst (v := nI 0) C dX4_setPlaces_51 (by decide) ?_
        refine j_callV (nargs := 2) (As := [_, _]) (Cn := RX4) C (0) rfl rfl rfl gw773 gw775 gw28 gw49 (kX4_ra l D ct sa a (nI 0) σ wr _ _ (ix x) 0 e_x rfl hj_x (by decide)) gw776 (by decide +kernel) rfl dX4_setPlaces_52 ⟨Nat.le_of_ble_eq_true rfl, Nat.le_of_ble_eq_true rfl⟩ ⟨Nat.le_of_ble_eq_true rfl, Nat.le_of_ble_eq_true rfl⟩ (Nat.le_of_ble_eq_true rfl) (dki ?_)
        refine j_istore_n (lv' := [(3, .int _), (0, .ref _), (1, .int _), (2, .int _)]) C dX4_setPlaces_55 rfl (by decide) rfl ?_
        refine j_aload_n (i := 0) C dX4_setPlaces_56 rfl 1 rfl ?_
        refine j_get (Cn := RX4) (T := TX4) (N := 7) (ci := 5) C iX4 rfl (0) rfl 6 (by decide) gw683 rfl rfl dX4_setPlaces_57 ?_
        refine j_iconst (v := nI 3) C dX4_setPlaces_60 (by decide) ?_
        refine j_iload_n (i := 1) C dX4_setPlaces_61 rfl 2 rfl ?_
        refine j_imul C dX4_setPlaces_62 ?_
        refine j_iconst (v := nI 0) C dX4_setPlaces_63 (by decide) ?_
        refine j_iadd C dX4_setPlaces_64 ?_
        refine j_iload_n (i := 2) C dX4_setPlaces_65 rfl 3 rfl ?_
        refine j_iast (ws2 := WM ct a (nI 0) (uK σ (upd (sK σ) (3 * ix x + 0) y)) ++ wr) C (3) rfl (3 * ix x + 0) (by rw [e_x, pk_mul, nI_add]; congr 3; exact congrArg ix e_x) (by omega) (by decide) rfl dX4_setPlaces_66 ?_
        refine j_iload_n (i := 3) C dX4_setPlaces_67 rfl 0 rfl ?_
        exact j_ireturn C E rfl dX4_setPlaces_68 (Nat.le_of_ble_eq_true rfl) (Nat.le_of_ble_eq_true rfl) (fK (by rw [f_setPlaces, if_pos (b2i_t c9), if_pos (b2i_t c25), if_pos c40]))
      · refine j_aload_n (i := 0) C dX4_setPlaces_43 rfl 0 rfl ?_
        refine j_iconst (v := nI 3) C dX4_setPlaces_44 (by decide) ?_
        refine j_callV (nargs := 1) (As := [_]) (Cn := RX4) C (0) rfl rfl rfl gw713 gw715 gw21 gw49 (kX4_fail l D ct sa _ _ _ _ _) gw716 (by decide +kernel) rfl dX4_setPlaces_45 ⟨Nat.le_of_ble_eq_true rfl, Nat.le_of_ble_eq_true rfl⟩ ⟨Nat.le_of_ble_eq_true rfl, Nat.le_of_ble_eq_true rfl⟩ (Nat.le_of_ble_eq_true rfl) (dki ?_)
        exact j_ireturn C E rfl dX4_setPlaces_48 (Nat.le_of_ble_eq_true rfl) (Nat.le_of_ble_eq_true rfl) (fK (by rw [f_setPlaces, if_pos (b2i_t c9), if_pos (b2i_t c25), if_neg c40]))
    · refine j_aload_n (i := 0) C dX4_setPlaces_28 rfl 0 rfl ?_
      refine j_iconst (v := nI 2) C dX4_setPlaces_29 (by decide) ?_
      refine j_callV (nargs := 1) (As := [_]) (Cn := RX4) C (0) rfl rfl rfl gw713 gw715 gw21 gw49 (kX4_fail l D ct sa _ _ _ _ _) gw716 (by decide +kernel) rfl dX4_setPlaces_30 ⟨Nat.le_of_ble_eq_true rfl, Nat.le_of_ble_eq_true rfl⟩ ⟨Nat.le_of_ble_eq_true rfl, Nat.le_of_ble_eq_true rfl⟩ (Nat.le_of_ble_eq_true rfl) (dki ?_)
      exact j_ireturn C E rfl dX4_setPlaces_33 (Nat.le_of_ble_eq_true rfl) (Nat.le_of_ble_eq_true rfl) (fK (by rw [f_setPlaces, if_pos (b2i_t c9), if_neg (b2i_f c25)]))
  · refine j_aload_n (i := 0) C dX4_setPlaces_12 rfl 0 rfl ?_
    refine j_iconst (v := nI 1) C dX4_setPlaces_13 (by decide) ?_
    refine j_callV (nargs := 1) (As := [_]) (Cn := RX4) C (0) rfl rfl rfl gw713 gw715 gw21 gw49 (kX4_fail l D ct sa _ _ _ _ _) gw716 (by decide +kernel) rfl dX4_setPlaces_14 ⟨Nat.le_of_ble_eq_true rfl, Nat.le_of_ble_eq_true rfl⟩ ⟨Nat.le_of_ble_eq_true rfl, Nat.le_of_ble_eq_true rfl⟩ (Nat.le_of_ble_eq_true rfl) (dki ?_)
    exact j_ireturn C E rfl dX4_setPlaces_17 (Nat.le_of_ble_eq_true rfl) (Nat.le_of_ble_eq_true rfl) (fK (by rw [f_setPlaces, if_neg (b2i_f c9)]))
set_option maxRecDepth 100000 in
set_option maxHeartbeats 4000000 in
theorem kX4_setHours (l : Launch) (D : va_G) (ct : Nat → ClassId) (sa : Nat → Nat) (a : Nat → Nat) (thr : Int32) (σ : St) (wr : va_W) (x y z : Int32) (hi : Inv0 σ) : jM l yX4_setHours (Cond.code yX4_setHours cX4_setHours 5 (Option.some Jvm.ClassFile.FieldType.int) :: GW) (rM 2 0 0 42) D ct sa [.ref (a 0), .int x, .int y, .int z] (WM ct a thr σ ++ wr) (fD ct a wr (f_setHours σ x y z)) 0 0 := by
  refine jMX.plain (jBody (own := RX4) (by decide) rfl rfl (Nat.le_of_ble_eq_true rfl) ?_)
  intro X C E T0
  refine j_lv (lv1 := [(0, .ref _), (1, .int _), (2, .int _), (3, .int _)]) rfl ?_
  refine j_aload_n (i := 0) C dX4_setHours_0 rfl 0 rfl ?_
  refine j_iconst (v := nI 0) C dX4_setHours_1 (by decide) ?_
  refine j_put (Cn := RX4) (T := TX4) (N := 7) (ci := 5) (ws2 := WM ct a (nI 0) σ ++ wr) C iX4 tyX4 tyX4_ok nmX4 rfl (0) rfl 0 (by decide) gw677 rfl rfl rfl rfl rfl (Nat.le_of_ble_eq_true rfl) rfl dX4_setHours_2 ?_
  refine j_iload_n (i := 1) C dX4_setHours_5 rfl 1 rfl ?_
  refine j_callS (nargs := 1) (As := [_]) C gw766 gw767 gw49 (kX4_isRack l D ct sa _ _) gw768 (by decide +kernel) rfl dX4_setHours_6 ⟨Nat.le_of_ble_eq_true rfl, Nat.le_of_ble_eq_true rfl⟩ ⟨Nat.le_of_ble_eq_true rfl, Nat.le_of_ble_eq_true rfl⟩ (Nat.le_of_ble_eq_true rfl) (dki ?_)
  refine j_if_ne C 18 dX4_setHours_9 (by decide) (fun c9 => ?_) (fun c9 => ?_)
  · refine j_iload_n (i := 2) C dX4_setHours_18 rfl 2 rfl ?_
    refine j_iconst (v := nI 0) C dX4_setHours_19 (by decide) ?_
    refine j_bipush (v := nI 23) C dX4_setHours_20 (by decide) ?_
    refine j_callS (nargs := 3) (As := [_, _, _]) C gw710 gw711 gw49 (kX4_isIn l D ct sa _ _ _ _) gw712 (by decide +kernel) rfl dX4_setHours_22 ⟨Nat.le_of_ble_eq_true rfl, Nat.le_of_ble_eq_true rfl⟩ ⟨Nat.le_of_ble_eq_true rfl, Nat.le_of_ble_eq_true rfl⟩ (Nat.le_of_ble_eq_true rfl) (dki ?_)
    refine j_if_eq C 38 dX4_setHours_25 (by decide) (fun c25 => ?_) (fun c25 => ?_)
    · refine j_aload_n (i := 0) C dX4_setHours_38 rfl 0 rfl ?_
      refine j_iconst (v := nI 2) C dX4_setHours_39 (by decide) ?_
      refine j_callV (nargs := 1) (As := [_]) (Cn := RX4) C (0) rfl rfl rfl gw713 gw715 gw21 gw49 (kX4_fail l D ct sa _ _ _ _ _) gw716 (by decide +kernel) rfl dX4_setHours_40 ⟨Nat.le_of_ble_eq_true rfl, Nat.le_of_ble_eq_true rfl⟩ ⟨Nat.le_of_ble_eq_true rfl, Nat.le_of_ble_eq_true rfl⟩ (Nat.le_of_ble_eq_true rfl) (dki ?_)
      exact j_ireturn C E rfl dX4_setHours_43 (Nat.le_of_ble_eq_true rfl) (Nat.le_of_ble_eq_true rfl) (fK (by rw [f_setHours, if_pos (b2i_t c9)]; first | rw [if_neg (fun z => absurd ((in_ok (M := 23) (by decide)).mpr z.1) (b2i_f c25))] | rw [if_neg (fun z => absurd ((in_ok (M := 24) (by decide)).mpr z.2) (b2i_f c35))]))
    · refine j_iload_n (i := 3) C dX4_setHours_28 rfl 3 rfl ?_
      refine j_iconst (v := nI 0) C dX4_setHours_29 (by decide) ?_
      refine j_bipush (v := nI 24) C dX4_setHours_30 (by decide) ?_
      refine j_callS (nargs := 3) (As := [_, _, _]) C gw710 gw711 gw49 (kX4_isIn l D ct sa _ _ _ _) gw712 (by decide +kernel) rfl dX4_setHours_32 ⟨Nat.le_of_ble_eq_true rfl, Nat.le_of_ble_eq_true rfl⟩ ⟨Nat.le_of_ble_eq_true rfl, Nat.le_of_ble_eq_true rfl⟩ (Nat.le_of_ble_eq_true rfl) (dki ?_)
      refine j_if_ne C 44 dX4_setHours_35 (by decide) (fun c35 => ?_) (fun c35 => ?_)
      · obtain ⟨hj_x, e_x⟩ := okI_ix (b2i_t c9) (by omega)
        refine j_bipush (v := nI 25) C dX4_setHours_44 (by decide) ?_
        refine j_aload_n (i := 0) C dX4_setHours_46 rfl 0 rfl ?_
        refine j_iload_n (i := 1) C dX4_setHours_47 rfl 1 rfl ?_
        refine j_iconst (v := nI 1) C dX4_setHours_48 (by decide) ?_
        refine j_callV (nargs := 2) (As := [_, _]) (Cn := RX4) C (0) rfl rfl rfl gw773 gw775 gw28 gw49 (kX4_ra l D ct sa a (nI 0) σ wr _ _ (ix x) 1 e_x rfl hj_x (by decide)) gw776 (by decide +kernel) rfl dX4_setHours_49 ⟨Nat.le_of_ble_eq_true rfl, Nat.le_of_ble_eq_true rfl⟩ ⟨Nat.le_of_ble_eq_true rfl, Nat.le_of_ble_eq_true rfl⟩ (Nat.le_of_ble_eq_true rfl) (dki ?_)
        refine j_imul C dX4_setHours_52 ?_
        refine j_aload_n (i := 0) C dX4_setHours_53 rfl 0 rfl ?_
        refine j_iload_n (i := 1) C dX4_setHours_54 rfl 1 rfl ?_
        refine j_iconst (v := nI 2) C dX4_setHours_55 (by decide) ?_
        refine j_callV (nargs := 2) (As := [_, _]) (Cn := RX4) C (0) rfl rfl rfl gw773 gw775 gw28 gw49 (kX4_ra l D ct sa a (nI 0) σ wr _ _ (ix x) 2 e_x rfl hj_x (by decide)) gw776 (by decide +kernel) rfl dX4_setHours_56 ⟨Nat.le_of_ble_eq_true rfl, Nat.le_of_ble_eq_true rfl⟩ ⟨Nat.le_of_ble_eq_true rfl, Nat.le_of_ble_eq_true rfl⟩ (Nat.le_of_ble_eq_true rfl) (dki ?_)
        refine j_iadd C dX4_setHours_59 ?_
        refine j_istore (lv' := [(4, .int _), (0, .ref _), (1, .int _), (2, .int _), (3, .int _)]) C dX4_setHours_60 (by decide) rfl ?_
        refine j_aload_n (i := 0) C dX4_setHours_62 rfl 1 rfl ?_
        refine j_get (Cn := RX4) (T := TX4) (N := 7) (ci := 5) C iX4 rfl (0) rfl 6 (by decide) gw683 rfl rfl dX4_setHours_63 ?_
        refine j_iconst (v := nI 3) C dX4_setHours_66 (by decide) ?_
        refine j_iload_n (i := 1) C dX4_setHours_67 rfl 2 rfl ?_
        refine j_imul C dX4_setHours_68 ?_
        refine j_iconst (v := nI 1) C dX4_setHours_69 (by decide) ?_
        refine j_iadd C dX4_setHours_70 ?_
        refine j_iload_n (i := 2) C dX4_setHours_71 rfl 3 rfl ?_
        refine j_iast (ws2 := WM ct a (nI 0) (uK σ (upd (sK σ) (3 * ix x + 1) y)) ++ wr) C (3) rfl (3 * ix x + 1) (by rw [e_x, pk_mul, nI_add]; congr 3; exact congrArg ix e_x) (by omega) (by decide) rfl dX4_setHours_72 ?_
        refine j_aload_n (i := 0) C dX4_setHours_73 rfl 1 rfl ?_
        refine j_get (Cn := RX4) (T := TX4) (N := 7) (ci := 5) C iX4 rfl (0) rfl 6 (by decide) gw683 rfl rfl dX4_setHours_74 ?_
        refine j_iconst (v := nI 3) C dX4_setHours_77 (by decide) ?_
        refine j_iload_n (i := 1) C dX4_setHours_78 rfl 2 rfl ?_
        refine j_imul C dX4_setHours_79 ?_
        refine j_iconst (v := nI 2) C dX4_setHours_80 (by decide) ?_
        refine j_iadd C dX4_setHours_81 ?_
        refine j_iload_n (i := 3) C dX4_setHours_82 rfl 4 rfl ?_
        refine j_iast (ws2 := WM ct a (nI 0) (uK σ (upd (upd (sK σ) (3 * ix x + 1) y) (3 * ix x + 2) z)) ++ wr) C (3) rfl (3 * ix x + 2) (by rw [e_x, pk_mul, nI_add]; congr 3; exact congrArg ix e_x) (by omega) (by decide) rfl dX4_setHours_83 ?_
        refine j_iload C dX4_setHours_84 0 rfl ?_
        exact j_ireturn C E rfl dX4_setHours_86 (Nat.le_of_ble_eq_true rfl) (Nat.le_of_ble_eq_true rfl) (fK (by rw [f_setHours, if_pos (b2i_t c9), if_pos ⟨(in_ok (M := 23) (by decide)).mp (b2i_t c25), (in_ok (M := 24) (by decide)).mp (b2i_t c35)⟩]))
      · refine j_aload_n (i := 0) C dX4_setHours_38 rfl 0 rfl ?_
        refine j_iconst (v := nI 2) C dX4_setHours_39 (by decide) ?_
        refine j_callV (nargs := 1) (As := [_]) (Cn := RX4) C (0) rfl rfl rfl gw713 gw715 gw21 gw49 (kX4_fail l D ct sa _ _ _ _ _) gw716 (by decide +kernel) rfl dX4_setHours_40 ⟨Nat.le_of_ble_eq_true rfl, Nat.le_of_ble_eq_true rfl⟩ ⟨Nat.le_of_ble_eq_true rfl, Nat.le_of_ble_eq_true rfl⟩ (Nat.le_of_ble_eq_true rfl) (dki ?_)
        exact j_ireturn C E rfl dX4_setHours_43 (Nat.le_of_ble_eq_true rfl) (Nat.le_of_ble_eq_true rfl) (fK (by rw [f_setHours, if_pos (b2i_t c9)]; first | rw [if_neg (fun z => absurd ((in_ok (M := 23) (by decide)).mpr z.1) (b2i_f c25))] | rw [if_neg (fun z => absurd ((in_ok (M := 24) (by decide)).mpr z.2) (b2i_f c35))]))
  · refine j_aload_n (i := 0) C dX4_setHours_12 rfl 0 rfl ?_
    refine j_iconst (v := nI 1) C dX4_setHours_13 (by decide) ?_
    refine j_callV (nargs := 1) (As := [_]) (Cn := RX4) C (0) rfl rfl rfl gw713 gw715 gw21 gw49 (kX4_fail l D ct sa _ _ _ _ _) gw716 (by decide +kernel) rfl dX4_setHours_14 ⟨Nat.le_of_ble_eq_true rfl, Nat.le_of_ble_eq_true rfl⟩ ⟨Nat.le_of_ble_eq_true rfl, Nat.le_of_ble_eq_true rfl⟩ (Nat.le_of_ble_eq_true rfl) (dki ?_)
    exact j_ireturn C E rfl dX4_setHours_17 (Nat.le_of_ble_eq_true rfl) (Nat.le_of_ble_eq_true rfl) (fK (by rw [f_setHours, if_neg (b2i_f c9)]))
set_option maxRecDepth 100000 in
set_option maxHeartbeats 4000000 in
theorem kX4_put (l : Launch) (D : va_G) (ct : Nat → ClassId) (sa : Nat → Nat) (a : Nat → Nat) (thr : Int32) (σ : St) (wr : va_W) (x y : Int32) (hi : Inv0 σ) : jM l yX4_put (Cond.code yX4_put cX4_put 4 (Option.some Jvm.ClassFile.FieldType.int) :: GW) (rM 2 0 0 46) D ct sa [.ref (a 0), .int x, .int y] (WM ct a thr σ ++ wr) (fD ct a wr (f_put σ x y)) 0 0 := by
  refine jMX.plain (jBody (own := RX4) (by decide) rfl rfl (Nat.le_of_ble_eq_true rfl) ?_)
  intro X C E T0
  refine j_lv (lv1 := [(0, .ref _), (1, .int _), (2, .int _)]) rfl ?_
  refine j_aload_n (i := 0) C dX4_put_0 rfl 0 rfl ?_
  refine j_iconst (v := nI 0) C dX4_put_1 (by decide) ?_
  refine j_put (Cn := RX4) (T := TX4) (N := 7) (ci := 5) (ws2 := WM ct a (nI 0) σ ++ wr) C iX4 tyX4 tyX4_ok nmX4 rfl (0) rfl 0 (by decide) gw677 rfl rfl rfl rfl rfl (Nat.le_of_ble_eq_true rfl) rfl dX4_put_2 ?_
  refine j_aload_n (i := 0) C dX4_put_5 rfl 0 rfl ?_
  refine j_iload_n (i := 1) C dX4_put_6 rfl 1 rfl ?_
  refine j_callV (nargs := 1) (As := [_]) (Cn := RX4) C (0) rfl rfl rfl gw725 gw727 gw23 gw49 (kX4_isLock l D ct sa _ _ _ _ _ hi.1) gw728 (by decide +kernel) rfl dX4_put_7 ⟨Nat.le_of_ble_eq_true rfl, Nat.le_of_ble_eq_true rfl⟩ ⟨Nat.le_of_ble_eq_true rfl, Nat.le_of_ble_eq_true rfl⟩ (Nat.le_of_ble_eq_true rfl) (dki ?_)
  refine j_if_eq C 25 dX4_put_10 (by decide) (fun c10 => ?_) (fun c10 => ?_)
  · refine j_aload_n (i := 0) C dX4_put_25 rfl 0 rfl ?_
    refine j_iconst (v := nI 1) C dX4_put_26 (by decide) ?_
    refine j_callV (nargs := 1) (As := [_]) (Cn := RX4) C (0) rfl rfl rfl gw713 gw715 gw21 gw49 (kX4_fail l D ct sa _ _ _ _ _) gw716 (by decide +kernel) rfl dX4_put_27 ⟨Nat.le_of_ble_eq_true rfl, Nat.le_of_ble_eq_true rfl⟩ ⟨Nat.le_of_ble_eq_true rfl, Nat.le_of_ble_eq_true rfl⟩ (Nat.le_of_ble_eq_true rfl) (dki ?_)
    exact j_ireturn C E rfl dX4_put_30 (Nat.le_of_ble_eq_true rfl) (Nat.le_of_ble_eq_true rfl) (fK (by rw [f_put]; first | rw [if_neg (fun z => absurd z.1 (b2i_f c10))] | rw [if_neg (fun z => z.2.elim c15 (b2i_f c22))]))
  · refine j_iload_n (i := 2) C dX4_put_13 rfl 2 rfl ?_
    refine j_iconst (v := (-1)) C dX4_put_14 (by decide) ?_
    refine j_icmp_eq C 31 dX4_put_15 (by decide) (fun c15 => ?_) (fun c15 => ?_)
    · have hl := b2i_t c10
      obtain ⟨hj_x, e_x⟩ := okI_ix (hl) (by omega)
      have hy : y = -1 ∨ okI 3 y := by first | exact Or.inl c15 | exact Or.inr (b2i_t c22)
      refine j_aload_n (i := 0) C dX4_put_31 rfl 0 rfl ?_
      refine j_iload_n (i := 1) C dX4_put_32 rfl 1 rfl ?_
      refine j_iconst (v := nI 2) C dX4_put_33 (by decide) ?_
      refine j_callV (nargs := 2) (As := [_, _]) (Cn := RX4) C (0) rfl rfl rfl gw729 gw731 gw24 gw49 (kX4_lo l D ct sa a (nI 0) σ wr _ _ (ix x) 2 e_x rfl (by have := hi.1; omega) (by decide)) gw732 (by decide +kernel) rfl dX4_put_34 ⟨Nat.le_of_ble_eq_true rfl, Nat.le_of_ble_eq_true rfl⟩ ⟨Nat.le_of_ble_eq_true rfl, Nat.le_of_ble_eq_true rfl⟩ (Nat.le_of_ble_eq_true rfl) (dki ?_)
      refine j_istore_n (lv' := [(3, .int _), (0, .ref _), (1, .int _), (2, .int _)]) C dX4_put_37 rfl (by decide) rfl ?_
      refine j_iload_n (i := 3) C dX4_put_38 rfl 0 rfl ?_
      refine j_iload_n (i := 2) C dX4_put_39 rfl 3 rfl ?_
      refine j_icmp_ne C 45 dX4_put_40 (by decide) (fun c40 => ?_) (fun c40 => ?_)
      · refine j_aload_n (i := 0) C dX4_put_45 rfl 1 rfl ?_
        refine j_iload_n (i := 1) C dX4_put_46 rfl 2 rfl ?_
        refine j_iconst (v := nI 1) C dX4_put_47 (by decide) ?_
        refine j_callV (nargs := 2) (As := [_, _]) (Cn := RX4) C (0) rfl rfl rfl gw729 gw731 gw24 gw49 (kX4_lo l D ct sa a (nI 0) σ wr _ _ (ix x) 1 e_x rfl (by have := hi.1; omega) (by decide)) gw732 (by decide +kernel) rfl dX4_put_48 ⟨Nat.le_of_ble_eq_true rfl, Nat.le_of_ble_eq_true rfl⟩ ⟨Nat.le_of_ble_eq_true rfl, Nat.le_of_ble_eq_true rfl⟩ (Nat.le_of_ble_eq_true rfl) (dki ?_)
        refine j_if_eq C 81 dX4_put_51 (by decide) (fun c51 => ?_) (fun c51 => ?_)
        · refine j_aload_n (i := 0) C dX4_put_81 rfl 1 rfl ?_
          refine j_iconst (v := nI 2) C dX4_put_82 (by decide) ?_
          refine j_callV (nargs := 1) (As := [_]) (Cn := RX4) C (0) rfl rfl rfl gw713 gw715 gw21 gw49 (kX4_fail l D ct sa _ _ _ _ _) gw716 (by decide +kernel) rfl dX4_put_83 ⟨Nat.le_of_ble_eq_true rfl, Nat.le_of_ble_eq_true rfl⟩ ⟨Nat.le_of_ble_eq_true rfl, Nat.le_of_ble_eq_true rfl⟩ (Nat.le_of_ble_eq_true rfl) (dki ?_)
          exact j_ireturn C E rfl dX4_put_86 (Nat.le_of_ble_eq_true rfl) (Nat.le_of_ble_eq_true rfl) (fK (by rw [f_put, if_pos ⟨hl, hy⟩, if_neg c40]; refine if_pos ?_; first | exact Or.inl c51 | (refine Or.inr ⟨c56, ?_⟩; first | exact Or.inl (b2i_f c64) | exact Or.inr (ile_of c78))))
        · refine j_iload_n (i := 2) C dX4_put_54 rfl 3 rfl ?_
          refine j_iconst (v := (-1)) C dX4_put_55 (by decide) ?_
          refine j_icmp_eq C 87 dX4_put_56 (by decide) (fun c56 => ?_) (fun c56 => ?_)
          · refine j_aload_n (i := 0) C dX4_put_87 rfl 1 rfl ?_
            refine j_iload_n (i := 1) C dX4_put_88 rfl 2 rfl ?_
            refine j_iconst (v := nI 2) C dX4_put_89 (by decide) ?_
            refine j_iload_n (i := 2) C dX4_put_90 rfl 3 rfl ?_
            refine j_callV (nargs := 3) (As := [_, _, _]) (Cn := RX4) C (0) rfl rfl rfl gw717 gw719 gw22 gw49 (kX4_let l D ct sa a (nI 0) σ wr _ _ _ (ix x) 2 e_x rfl (by have := hi.1; omega) (by decide)) gw720 (by decide +kernel) rfl dX4_put_91 ⟨Nat.le_of_ble_eq_true rfl, Nat.le_of_ble_eq_true rfl⟩ ⟨Nat.le_of_ble_eq_true rfl, Nat.le_of_ble_eq_true rfl⟩ (Nat.le_of_ble_eq_true rfl) (dkv ?_)
            refine j_iload_n (i := 3) C dX4_put_94 rfl 0 rfl ?_
            exact j_ireturn C E rfl dX4_put_95 (Nat.le_of_ble_eq_true rfl) (Nat.le_of_ble_eq_true rfl) (fK (by rw [f_put, if_pos ⟨hl, hy⟩, if_neg c40]; refine if_neg ?_; rintro (h | ⟨h1, h2 | h2⟩) <;> first | exact c51 h | exact h1 c56 | exact h2 (b2i_t c64) | exact inle c78 h2))
          · have hr := hy.resolve_left c56
            obtain ⟨hj_y, e_y⟩ := okI_ix (hr) (by omega)
            refine j_aload_n (i := 0) C dX4_put_59 rfl 1 rfl ?_
            refine j_iload_n (i := 2) C dX4_put_60 rfl 3 rfl ?_
            refine j_callV (nargs := 1) (As := [_]) (Cn := RX4) C (0) rfl rfl rfl gw785 gw787 gw29 gw49 (kX4_isOpen l D ct sa a (nI 0) σ wr _ (ix y) e_y hj_y) gw788 (by decide +kernel) rfl dX4_put_61 ⟨Nat.le_of_ble_eq_true rfl, Nat.le_of_ble_eq_true rfl⟩ ⟨Nat.le_of_ble_eq_true rfl, Nat.le_of_ble_eq_true rfl⟩ (Nat.le_of_ble_eq_true rfl) (dki ?_)
            refine j_if_eq C 81 dX4_put_64 (by decide) (fun c64 => ?_) (fun c64 => ?_)
            · refine j_aload_n (i := 0) C dX4_put_81 rfl 1 rfl ?_
              refine j_iconst (v := nI 2) C dX4_put_82 (by decide) ?_
              refine j_callV (nargs := 1) (As := [_]) (Cn := RX4) C (0) rfl rfl rfl gw713 gw715 gw21 gw49 (kX4_fail l D ct sa _ _ _ _ _) gw716 (by decide +kernel) rfl dX4_put_83 ⟨Nat.le_of_ble_eq_true rfl, Nat.le_of_ble_eq_true rfl⟩ ⟨Nat.le_of_ble_eq_true rfl, Nat.le_of_ble_eq_true rfl⟩ (Nat.le_of_ble_eq_true rfl) (dki ?_)
              exact j_ireturn C E rfl dX4_put_86 (Nat.le_of_ble_eq_true rfl) (Nat.le_of_ble_eq_true rfl) (fK (by rw [f_put, if_pos ⟨hl, hy⟩, if_neg c40]; refine if_pos ?_; first | exact Or.inl c51 | (refine Or.inr ⟨c56, ?_⟩; first | exact Or.inl (b2i_f c64) | exact Or.inr (ile_of c78))))
            · refine j_aload_n (i := 0) C dX4_put_67 rfl 1 rfl ?_
              refine j_iload_n (i := 2) C dX4_put_68 rfl 3 rfl ?_
              refine j_callV (nargs := 1) (As := [_]) (Cn := RX4) C (0) rfl rfl rfl gw769 gw771 gw27 gw49 (kX4_in l D ct sa _ _ _ _ _ hi.1) gw772 (by decide +kernel) rfl dX4_put_69 ⟨Nat.le_of_ble_eq_true rfl, Nat.le_of_ble_eq_true rfl⟩ ⟨Nat.le_of_ble_eq_true rfl, Nat.le_of_ble_eq_true rfl⟩ (Nat.le_of_ble_eq_true rfl) (dki ?_)
              refine j_aload_n (i := 0) C dX4_put_72 rfl 1 rfl ?_
              refine j_iload_n (i := 2) C dX4_put_73 rfl 3 rfl ?_
              refine j_iconst (v := nI 0) C dX4_put_74 (by decide) ?_
              refine j_callV (nargs := 2) (As := [_, _]) (Cn := RX4) C (0) rfl rfl rfl gw773 gw775 gw28 gw49 (kX4_ra l D ct sa a (nI 0) σ wr _ _ (ix y) 0 e_y rfl hj_y (by decide)) gw776 (by decide +kernel) rfl dX4_put_75 ⟨Nat.le_of_ble_eq_true rfl, Nat.le_of_ble_eq_true rfl⟩ ⟨Nat.le_of_ble_eq_true rfl, Nat.le_of_ble_eq_true rfl⟩ (Nat.le_of_ble_eq_true rfl) (dki ?_)
              refine j_icmp_lt C 87 dX4_put_78 (by decide) (fun c78 => ?_) (fun c78 => ?_)
              · refine j_aload_n (i := 0) C dX4_put_87 rfl 1 rfl ?_
                refine j_iload_n (i := 1) C dX4_put_88 rfl 2 rfl ?_
                refine j_iconst (v := nI 2) C dX4_put_89 (by decide) ?_
                refine j_iload_n (i := 2) C dX4_put_90 rfl 3 rfl ?_
                refine j_callV (nargs := 3) (As := [_, _, _]) (Cn := RX4) C (0) rfl rfl rfl gw717 gw719 gw22 gw49 (kX4_let l D ct sa a (nI 0) σ wr _ _ _ (ix x) 2 e_x rfl (by have := hi.1; omega) (by decide)) gw720 (by decide +kernel) rfl dX4_put_91 ⟨Nat.le_of_ble_eq_true rfl, Nat.le_of_ble_eq_true rfl⟩ ⟨Nat.le_of_ble_eq_true rfl, Nat.le_of_ble_eq_true rfl⟩ (Nat.le_of_ble_eq_true rfl) (dkv ?_)
                refine j_iload_n (i := 3) C dX4_put_94 rfl 0 rfl ?_
                exact j_ireturn C E rfl dX4_put_95 (Nat.le_of_ble_eq_true rfl) (Nat.le_of_ble_eq_true rfl) (fK (by rw [f_put, if_pos ⟨hl, hy⟩, if_neg c40]; refine if_neg ?_; rintro (h | ⟨h1, h2 | h2⟩) <;> first | exact c51 h | exact h1 c56 | exact h2 (b2i_t c64) | exact inle c78 h2))
              · refine j_aload_n (i := 0) C dX4_put_81 rfl 1 rfl ?_
                refine j_iconst (v := nI 2) C dX4_put_82 (by decide) ?_
                refine j_callV (nargs := 1) (As := [_]) (Cn := RX4) C (0) rfl rfl rfl gw713 gw715 gw21 gw49 (kX4_fail l D ct sa _ _ _ _ _) gw716 (by decide +kernel) rfl dX4_put_83 ⟨Nat.le_of_ble_eq_true rfl, Nat.le_of_ble_eq_true rfl⟩ ⟨Nat.le_of_ble_eq_true rfl, Nat.le_of_ble_eq_true rfl⟩ (Nat.le_of_ble_eq_true rfl) (dki ?_)
                exact j_ireturn C E rfl dX4_put_86 (Nat.le_of_ble_eq_true rfl) (Nat.le_of_ble_eq_true rfl) (fK (by rw [f_put, if_pos ⟨hl, hy⟩, if_neg c40]; refine if_pos ?_; first | exact Or.inl c51 | (refine Or.inr ⟨c56, ?_⟩; first | exact Or.inl (b2i_f c64) | exact Or.inr (ile_of c78))))
      · refine j_iload_n (i := 3) C dX4_put_43 rfl 0 rfl ?_
        exact j_ireturn C E rfl dX4_put_44 (Nat.le_of_ble_eq_true rfl) (Nat.le_of_ble_eq_true rfl) (fK (by rw [f_put, if_pos ⟨hl, hy⟩, if_pos c40]))
    · refine j_iload_n (i := 2) C dX4_put_18 rfl 2 rfl ?_
      refine j_callS (nargs := 1) (As := [_]) C gw766 gw767 gw49 (kX4_isRack l D ct sa _ _) gw768 (by decide +kernel) rfl dX4_put_19 ⟨Nat.le_of_ble_eq_true rfl, Nat.le_of_ble_eq_true rfl⟩ ⟨Nat.le_of_ble_eq_true rfl, Nat.le_of_ble_eq_true rfl⟩ (Nat.le_of_ble_eq_true rfl) (dki ?_)
      refine j_if_ne C 31 dX4_put_22 (by decide) (fun c22 => ?_) (fun c22 => ?_)
      · have hl := b2i_t c10
        obtain ⟨hj_x, e_x⟩ := okI_ix (hl) (by omega)
        have hy : y = -1 ∨ okI 3 y := by first | exact Or.inl c15 | exact Or.inr (b2i_t c22)
        refine j_aload_n (i := 0) C dX4_put_31 rfl 0 rfl ?_
        refine j_iload_n (i := 1) C dX4_put_32 rfl 1 rfl ?_
        refine j_iconst (v := nI 2) C dX4_put_33 (by decide) ?_
        refine j_callV (nargs := 2) (As := [_, _]) (Cn := RX4) C (0) rfl rfl rfl gw729 gw731 gw24 gw49 (kX4_lo l D ct sa a (nI 0) σ wr _ _ (ix x) 2 e_x rfl (by have := hi.1; omega) (by decide)) gw732 (by decide +kernel) rfl dX4_put_34 ⟨Nat.le_of_ble_eq_true rfl, Nat.le_of_ble_eq_true rfl⟩ ⟨Nat.le_of_ble_eq_true rfl, Nat.le_of_ble_eq_true rfl⟩ (Nat.le_of_ble_eq_true rfl) (dki ?_)
        refine j_istore_n (lv' := [(3, .int _), (0, .ref _), (1, .int _), (2, .int _)]) C dX4_put_37 rfl (by decide) rfl ?_
        refine j_iload_n (i := 3) C dX4_put_38 rfl 0 rfl ?_
        refine j_iload_n (i := 2) C dX4_put_39 rfl 3 rfl ?_
        refine j_icmp_ne C 45 dX4_put_40 (by decide) (fun c40 => ?_) (fun c40 => ?_)
        · refine j_aload_n (i := 0) C dX4_put_45 rfl 1 rfl ?_
          refine j_iload_n (i := 1) C dX4_put_46 rfl 2 rfl ?_
          refine j_iconst (v := nI 1) C dX4_put_47 (by decide) ?_
          refine j_callV (nargs := 2) (As := [_, _]) (Cn := RX4) C (0) rfl rfl rfl gw729 gw731 gw24 gw49 (kX4_lo l D ct sa a (nI 0) σ wr _ _ (ix x) 1 e_x rfl (by have := hi.1; omega) (by decide)) gw732 (by decide +kernel) rfl dX4_put_48 ⟨Nat.le_of_ble_eq_true rfl, Nat.le_of_ble_eq_true rfl⟩ ⟨Nat.le_of_ble_eq_true rfl, Nat.le_of_ble_eq_true rfl⟩ (Nat.le_of_ble_eq_true rfl) (dki ?_)
          refine j_if_eq C 81 dX4_put_51 (by decide) (fun c51 => ?_) (fun c51 => ?_)
          · refine j_aload_n (i := 0) C dX4_put_81 rfl 1 rfl ?_
            refine j_iconst (v := nI 2) C dX4_put_82 (by decide) ?_
            refine j_callV (nargs := 1) (As := [_]) (Cn := RX4) C (0) rfl rfl rfl gw713 gw715 gw21 gw49 (kX4_fail l D ct sa _ _ _ _ _) gw716 (by decide +kernel) rfl dX4_put_83 ⟨Nat.le_of_ble_eq_true rfl, Nat.le_of_ble_eq_true rfl⟩ ⟨Nat.le_of_ble_eq_true rfl, Nat.le_of_ble_eq_true rfl⟩ (Nat.le_of_ble_eq_true rfl) (dki ?_)
            exact j_ireturn C E rfl dX4_put_86 (Nat.le_of_ble_eq_true rfl) (Nat.le_of_ble_eq_true rfl) (fK (by rw [f_put, if_pos ⟨hl, hy⟩, if_neg c40]; refine if_pos ?_; first | exact Or.inl c51 | (refine Or.inr ⟨c56, ?_⟩; first | exact Or.inl (b2i_f c64) | exact Or.inr (ile_of c78))))
          · refine j_iload_n (i := 2) C dX4_put_54 rfl 3 rfl ?_
            refine j_iconst (v := (-1)) C dX4_put_55 (by decide) ?_
            refine j_icmp_eq C 87 dX4_put_56 (by decide) (fun c56 => ?_) (fun c56 => ?_)
            · refine j_aload_n (i := 0) C dX4_put_87 rfl 1 rfl ?_
              refine j_iload_n (i := 1) C dX4_put_88 rfl 2 rfl ?_
              refine j_iconst (v := nI 2) C dX4_put_89 (by decide) ?_
              refine j_iload_n (i := 2) C dX4_put_90 rfl 3 rfl ?_
              refine j_callV (nargs := 3) (As := [_, _, _]) (Cn := RX4) C (0) rfl rfl rfl gw717 gw719 gw22 gw49 (kX4_let l D ct sa a (nI 0) σ wr _ _ _ (ix x) 2 e_x rfl (by have := hi.1; omega) (by decide)) gw720 (by decide +kernel) rfl dX4_put_91 ⟨Nat.le_of_ble_eq_true rfl, Nat.le_of_ble_eq_true rfl⟩ ⟨Nat.le_of_ble_eq_true rfl, Nat.le_of_ble_eq_true rfl⟩ (Nat.le_of_ble_eq_true rfl) (dkv ?_)
              refine j_iload_n (i := 3) C dX4_put_94 rfl 0 rfl ?_
              exact j_ireturn C E rfl dX4_put_95 (Nat.le_of_ble_eq_true rfl) (Nat.le_of_ble_eq_true rfl) (fK (by rw [f_put, if_pos ⟨hl, hy⟩, if_neg c40]; refine if_neg ?_; rintro (h | ⟨h1, h2 | h2⟩) <;> first | exact c51 h | exact h1 c56 | exact h2 (b2i_t c64) | exact inle c78 h2))
            · have hr := hy.resolve_left c56
              obtain ⟨hj_y, e_y⟩ := okI_ix (hr) (by omega)
              refine j_aload_n (i := 0) C dX4_put_59 rfl 1 rfl ?_
              refine j_iload_n (i := 2) C dX4_put_60 rfl 3 rfl ?_
              refine j_callV (nargs := 1) (As := [_]) (Cn := RX4) C (0) rfl rfl rfl gw785 gw787 gw29 gw49 (kX4_isOpen l D ct sa a (nI 0) σ wr _ (ix y) e_y hj_y) gw788 (by decide +kernel) rfl dX4_put_61 ⟨Nat.le_of_ble_eq_true rfl, Nat.le_of_ble_eq_true rfl⟩ ⟨Nat.le_of_ble_eq_true rfl, Nat.le_of_ble_eq_true rfl⟩ (Nat.le_of_ble_eq_true rfl) (dki ?_)
              refine j_if_eq C 81 dX4_put_64 (by decide) (fun c64 => ?_) (fun c64 => ?_)
              · refine j_aload_n (i := 0) C dX4_put_81 rfl 1 rfl ?_
                refine j_iconst (v := nI 2) C dX4_put_82 (by decide) ?_
                refine j_callV (nargs := 1) (As := [_]) (Cn := RX4) C (0) rfl rfl rfl gw713 gw715 gw21 gw49 (kX4_fail l D ct sa _ _ _ _ _) gw716 (by decide +kernel) rfl dX4_put_83 ⟨Nat.le_of_ble_eq_true rfl, Nat.le_of_ble_eq_true rfl⟩ ⟨Nat.le_of_ble_eq_true rfl, Nat.le_of_ble_eq_true rfl⟩ (Nat.le_of_ble_eq_true rfl) (dki ?_)
                exact j_ireturn C E rfl dX4_put_86 (Nat.le_of_ble_eq_true rfl) (Nat.le_of_ble_eq_true rfl) (fK (by rw [f_put, if_pos ⟨hl, hy⟩, if_neg c40]; refine if_pos ?_; first | exact Or.inl c51 | (refine Or.inr ⟨c56, ?_⟩; first | exact Or.inl (b2i_f c64) | exact Or.inr (ile_of c78))))
              · refine j_aload_n (i := 0) C dX4_put_67 rfl 1 rfl ?_
                refine j_iload_n (i := 2) C dX4_put_68 rfl 3 rfl ?_
                refine j_callV (nargs := 1) (As := [_]) (Cn := RX4) C (0) rfl rfl rfl gw769 gw771 gw27 gw49 (kX4_in l D ct sa _ _ _ _ _ hi.1) gw772 (by decide +kernel) rfl dX4_put_69 ⟨Nat.le_of_ble_eq_true rfl, Nat.le_of_ble_eq_true rfl⟩ ⟨Nat.le_of_ble_eq_true rfl, Nat.le_of_ble_eq_true rfl⟩ (Nat.le_of_ble_eq_true rfl) (dki ?_)
                refine j_aload_n (i := 0) C dX4_put_72 rfl 1 rfl ?_
                refine j_iload_n (i := 2) C dX4_put_73 rfl 3 rfl ?_
                refine j_iconst (v := nI 0) C dX4_put_74 (by decide) ?_
                refine j_callV (nargs := 2) (As := [_, _]) (Cn := RX4) C (0) rfl rfl rfl gw773 gw775 gw28 gw49 (kX4_ra l D ct sa a (nI 0) σ wr _ _ (ix y) 0 e_y rfl hj_y (by decide)) gw776 (by decide +kernel) rfl dX4_put_75 ⟨Nat.le_of_ble_eq_true rfl, Nat.le_of_ble_eq_true rfl⟩ ⟨Nat.le_of_ble_eq_true rfl, Nat.le_of_ble_eq_true rfl⟩ (Nat.le_of_ble_eq_true rfl) (dki ?_)
                refine j_icmp_lt C 87 dX4_put_78 (by decide) (fun c78 => ?_) (fun c78 => ?_)
                · refine j_aload_n (i := 0) C dX4_put_87 rfl 1 rfl ?_
                  refine j_iload_n (i := 1) C dX4_put_88 rfl 2 rfl ?_
                  refine j_iconst (v := nI 2) C dX4_put_89 (by decide) ?_
                  refine j_iload_n (i := 2) C dX4_put_90 rfl 3 rfl ?_
                  refine j_callV (nargs := 3) (As := [_, _, _]) (Cn := RX4) C (0) rfl rfl rfl gw717 gw719 gw22 gw49 (kX4_let l D ct sa a (nI 0) σ wr _ _ _ (ix x) 2 e_x rfl (by have := hi.1; omega) (by decide)) gw720 (by decide +kernel) rfl dX4_put_91 ⟨Nat.le_of_ble_eq_true rfl, Nat.le_of_ble_eq_true rfl⟩ ⟨Nat.le_of_ble_eq_true rfl, Nat.le_of_ble_eq_true rfl⟩ (Nat.le_of_ble_eq_true rfl) (dkv ?_)
                  refine j_iload_n (i := 3) C dX4_put_94 rfl 0 rfl ?_
                  exact j_ireturn C E rfl dX4_put_95 (Nat.le_of_ble_eq_true rfl) (Nat.le_of_ble_eq_true rfl) (fK (by rw [f_put, if_pos ⟨hl, hy⟩, if_neg c40]; refine if_neg ?_; rintro (h | ⟨h1, h2 | h2⟩) <;> first | exact c51 h | exact h1 c56 | exact h2 (b2i_t c64) | exact inle c78 h2))
                · refine j_aload_n (i := 0) C dX4_put_81 rfl 1 rfl ?_
                  refine j_iconst (v := nI 2) C dX4_put_82 (by decide) ?_
                  refine j_callV (nargs := 1) (As := [_]) (Cn := RX4) C (0) rfl rfl rfl gw713 gw715 gw21 gw49 (kX4_fail l D ct sa _ _ _ _ _) gw716 (by decide +kernel) rfl dX4_put_83 ⟨Nat.le_of_ble_eq_true rfl, Nat.le_of_ble_eq_true rfl⟩ ⟨Nat.le_of_ble_eq_true rfl, Nat.le_of_ble_eq_true rfl⟩ (Nat.le_of_ble_eq_true rfl) (dki ?_)
                  exact j_ireturn C E rfl dX4_put_86 (Nat.le_of_ble_eq_true rfl) (Nat.le_of_ble_eq_true rfl) (fK (by rw [f_put, if_pos ⟨hl, hy⟩, if_neg c40]; refine if_pos ?_; first | exact Or.inl c51 | (refine Or.inr ⟨c56, ?_⟩; first | exact Or.inl (b2i_f c64) | exact Or.inr (ile_of c78))))
        · refine j_iload_n (i := 3) C dX4_put_43 rfl 0 rfl ?_
          exact j_ireturn C E rfl dX4_put_44 (Nat.le_of_ble_eq_true rfl) (Nat.le_of_ble_eq_true rfl) (fK (by rw [f_put, if_pos ⟨hl, hy⟩, if_pos c40]))
      · refine j_aload_n (i := 0) C dX4_put_25 rfl 0 rfl ?_
        refine j_iconst (v := nI 1) C dX4_put_26 (by decide) ?_
        refine j_callV (nargs := 1) (As := [_]) (Cn := RX4) C (0) rfl rfl rfl gw713 gw715 gw21 gw49 (kX4_fail l D ct sa _ _ _ _ _) gw716 (by decide +kernel) rfl dX4_put_27 ⟨Nat.le_of_ble_eq_true rfl, Nat.le_of_ble_eq_true rfl⟩ ⟨Nat.le_of_ble_eq_true rfl, Nat.le_of_ble_eq_true rfl⟩ (Nat.le_of_ble_eq_true rfl) (dki ?_)
        exact j_ireturn C E rfl dX4_put_30 (Nat.le_of_ble_eq_true rfl) (Nat.le_of_ble_eq_true rfl) (fK (by rw [f_put]; first | rw [if_neg (fun z => absurd z.1 (b2i_f c10))] | rw [if_neg (fun z => z.2.elim c15 (b2i_f c22))]))
set_option maxRecDepth 100000 in
set_option maxHeartbeats 4000000 in
theorem kX4_shows (l : Launch) (D : va_G) (ct : Nat → ClassId) (sa : Nat → Nat) (a : Nat → Nat) (thr : Int32) (σ : St) (wr : va_W) (x : Int32) (j : Nat) (hx : x = nI j) (hj : j < 8) : jM l yX4_shows (Cond.code yX4_shows cX4_shows 6 (Option.some Jvm.ClassFile.FieldType.int) :: GW) (rM 1 0 0 23) D ct sa [.ref (a 0), .int x] (WM ct a thr σ ++ wr) (dK (some (.int (shF (sW σ) j))) (WM ct a thr σ ++ wr)) 0 0 := by
  refine jMX.plain (jBody (own := RX4) (by decide) rfl rfl (Nat.le_of_ble_eq_true rfl) ?_)
  intro X C E T0
  refine j_lv (lv1 := [(0, .ref _), (1, .int _)]) rfl ?_
  refine j_iconst (v := nI 0) C dX4_shows_0 (by decide) ?_
  refine j_istore_n (lv' := [(2, .int _), (0, .ref _), (1, .int _)]) C dX4_shows_1 rfl (by decide) rfl ?_
  refine j_iconst (v := nI 0) C dX4_shows_2 (by decide) ?_
  refine j_istore_n (lv' := [(3, .int _), (2, .int _), (0, .ref _), (1, .int _)]) C dX4_shows_3 rfl (by decide) rfl ?_
  have L4 : ∀ (d i : Nat) (x2 : Int32) (x3 : Int32), i + d = 4 → x2 = stF (fun r => nI (bmF (wrow (sW σ) j r) 5)) i → x3 = nI i → J X (WM ct a thr σ ++ wr) (0) (0) 4 [(0, .ref (a 0)), (1, .int x), (2, .int x2), (3, .int x3)] [] := by
    intro d
    induction d with
    | zero =>
      intro i x2 x3 hd e_x2 e_x3 
      subst e_x2
      subst e_x3
      have hi : i = 4 := by omega
      subst hi
      refine j_iload_n (i := 3) C dX4_shows_4 rfl 3 rfl ?_
      refine j_iconst (v := nI 4) C dX4_shows_5 (by decide) ?_
      refine j_icmp_ge C 65 dX4_shows_6 (by decide) (fun c6 => ?_) (fun c6 => by first | exact absurd c6 (by decide) | exact absurd c6 (nI_ge (by omega) (by omega)) | exact absurd (nI_le (by omega) (by omega)) c6 | exact absurd c6 (nI_nlt (by omega) (by omega)) | exact absurd (nI_lt (by omega) (by omega)) c6 | exact absurd c6 (nI_nle0 (by omega) (by omega)))
      refine j_iload_n (i := 2) C dX4_shows_65 rfl 2 rfl ?_
      exact j_ireturn C E rfl dX4_shows_66 (Nat.le_of_ble_eq_true rfl) (Nat.le_of_ble_eq_true rfl) (⟨rfl, rfl⟩)
    | succ d ih =>
      intro i x2 x3 hd e_x2 e_x3 
      subst e_x2
      subst e_x3
      refine j_iload_n (i := 3) C dX4_shows_4 rfl 3 rfl ?_
      refine j_iconst (v := nI 4) C dX4_shows_5 (by decide) ?_
      refine j_icmp_ge C 65 dX4_shows_6 (by decide) (fun c6 => by first | exact absurd c6 (by decide) | exact absurd c6 (nI_ge (by omega) (by omega)) | exact absurd (nI_le (by omega) (by omega)) c6 | exact absurd c6 (nI_nlt (by omega) (by omega)) | exact absurd (nI_lt (by omega) (by omega)) c6 | exact absurd c6 (nI_nle0 (by omega) (by omega))) (fun c6 => ?_)
      refine j_iconst (v := nI 0) C dX4_shows_9 (by decide) ?_
      refine j_istore (lv' := [(4, .int _), (0, .ref _), (1, .int _), (2, .int _), (3, .int _)]) C dX4_shows_10 (by decide) rfl ?_
      refine j_iconst (v := nI 1) C dX4_shows_12 (by decide) ?_
      refine j_istore (lv' := [(5, .int _), (4, .int _), (0, .ref _), (1, .int _), (2, .int _), (3, .int _)]) C dX4_shows_13 (by decide) rfl ?_
      have L15 : ∀ (d t : Nat) (x4 : Int32) (x5 : Int32), t + d = 5 → x4 = nI (bmF (wrow (sW σ) j i) t) → x5 = nI (t + 1) → J X (WM ct a thr σ ++ wr) (0) (0) 15 [(0, .ref (a 0)), (1, .int x), (2, .int (stF (fun r => nI (bmF (wrow (sW σ) j r) 5)) i)), (3, .int (nI i)), (4, .int x4), (5, .int x5)] [] := by
        intro d
        induction d with
        | zero =>
          intro t x4 x5 hd e_x4 e_x5 
          subst e_x4
          subst e_x5
          have ht : t = 5 := by omega
          subst ht
          refine j_iload C dX4_shows_15 5 rfl ?_
          refine j_bipush (v := nI 6) C dX4_shows_17 (by decide) ?_
          refine j_icmp_ge C 51 dX4_shows_19 (by decide) (fun c19 => ?_) (fun c19 => by first | exact absurd c19 (by decide) | exact absurd c19 (nI_ge (by omega) (by omega)) | exact absurd (nI_le (by omega) (by omega)) c19 | exact absurd c19 (nI_nlt (by omega) (by omega)) | exact absurd (nI_lt (by omega) (by omega)) c19 | exact absurd c19 (nI_nle0 (by omega) (by omega)))
          refine j_bipush (v := nI 6) C dX4_shows_51 (by decide) ?_
          refine j_iload_n (i := 2) C dX4_shows_53 rfl 2 rfl ?_
          refine j_imul C dX4_shows_54 ?_
          refine j_iload C dX4_shows_55 4 rfl ?_
          refine j_iadd C dX4_shows_57 ?_
          refine j_istore_n (lv' := [(2, .int _), (0, .ref _), (1, .int _), (3, .int _), (4, .int _), (5, .int _)]) C dX4_shows_58 rfl (by decide) rfl ?_
          refine j_iinc (z := 3) (lv' := [(3, .int _), (2, .int _), (0, .ref _), (1, .int _), (4, .int _), (5, .int _)]) C dX4_shows_59 rfl rfl (by decide) rfl ?_
          refine j_goto C 4 dX4_shows_62 (by decide) ?_
          exact j_lvs [2, 3, 1, 0] rfl (ih (i + 1) _ _ (by omega) (rfl) (nI_1 i))
        | succ d ih =>
          intro t x4 x5 hd e_x4 e_x5 
          subst e_x4
          subst e_x5
          have hb := bmF_le (wrow (sW σ) j i) t
          refine j_iload C dX4_shows_15 5 rfl ?_
          refine j_bipush (v := nI 6) C dX4_shows_17 (by decide) ?_
          refine j_icmp_ge C 51 dX4_shows_19 (by decide) (fun c19 => by first | exact absurd c19 (by decide) | exact absurd c19 (nI_ge (by omega) (by omega)) | exact absurd (nI_le (by omega) (by omega)) c19 | exact absurd c19 (nI_nlt (by omega) (by omega)) | exact absurd (nI_lt (by omega) (by omega)) c19 | exact absurd c19 (nI_nle0 (by omega) (by omega))) (fun c19 => ?_)
          refine j_aload_n (i := 0) C dX4_shows_22 rfl 0 rfl ?_
          refine j_iload_n (i := 1) C dX4_shows_23 rfl 1 rfl ?_
          refine j_iload_n (i := 3) C dX4_shows_24 rfl 3 rfl ?_
          refine j_iload C dX4_shows_25 5 rfl ?_
          refine j_callV (nargs := 3) (As := [_, _, _]) (Cn := RX4) C (0) rfl rfl rfl gw801 gw803 gw32 gw49 (kX4_we l D ct sa a thr σ wr _ _ _ j i (t + 1) hx rfl rfl hj (by omega) (by omega)) gw804 (by decide +kernel) rfl dX4_shows_27 ⟨Nat.le_of_ble_eq_true rfl, Nat.le_of_ble_eq_true rfl⟩ ⟨Nat.le_of_ble_eq_true rfl, Nat.le_of_ble_eq_true rfl⟩ (Nat.le_of_ble_eq_true rfl) (dki ?_)
          refine j_aload_n (i := 0) C dX4_shows_30 rfl 0 rfl ?_
          refine j_iload_n (i := 1) C dX4_shows_31 rfl 1 rfl ?_
          refine j_iload_n (i := 3) C dX4_shows_32 rfl 3 rfl ?_
          refine j_iload C dX4_shows_33 4 rfl ?_
          refine j_callV (nargs := 3) (As := [_, _, _]) (Cn := RX4) C (0) rfl rfl rfl gw801 gw803 gw32 gw49 (kX4_we l D ct sa a thr σ wr _ _ _ j i (bmF (wrow (sW σ) j i) t) hx rfl rfl hj (by omega) (by omega)) gw804 (by decide +kernel) rfl dX4_shows_35 ⟨Nat.le_of_ble_eq_true rfl, Nat.le_of_ble_eq_true rfl⟩ ⟨Nat.le_of_ble_eq_true rfl, Nat.le_of_ble_eq_true rfl⟩ (Nat.le_of_ble_eq_true rfl) (dki ?_)
          refine j_icmp_le C 45 dX4_shows_38 (by decide) (fun c38 => ?_) (fun c38 => ?_)
          · refine j_iinc (z := 5) (lv' := [(5, .int _), (0, .ref _), (1, .int _), (2, .int _), (3, .int _), (4, .int _)]) C dX4_shows_45 rfl rfl (by decide) rfl ?_
            refine j_goto C 15 dX4_shows_48 (by decide) ?_
            exact j_lvs [1, 2, 3, 4, 5, 0] rfl (ih (t + 1) _ _ (by omega) (by show _ = nI (if _ then _ else _); first | rw [if_neg (inlt c38)] | rw [if_pos (ilt_of c38)]) (nI_1 (t + 1)))
          · refine j_iload C dX4_shows_41 5 rfl ?_
            refine j_istore (lv' := [(4, .int _), (0, .ref _), (1, .int _), (2, .int _), (3, .int _), (5, .int _)]) C dX4_shows_43 (by decide) rfl ?_
            refine j_iinc (z := 5) (lv' := [(5, .int _), (4, .int _), (0, .ref _), (1, .int _), (2, .int _), (3, .int _)]) C dX4_shows_45 rfl rfl (by decide) rfl ?_
            refine j_goto C 15 dX4_shows_48 (by decide) ?_
            exact j_lvs [2, 3, 4, 5, 1, 0] rfl (ih (t + 1) _ _ (by omega) (by show _ = nI (if _ then _ else _); first | rw [if_neg (inlt c38)] | rw [if_pos (ilt_of c38)]) (nI_1 (t + 1)))
      exact j_lvs [2, 3, 4, 5, 1, 0] rfl (L15 (5) (0) _ _ (by omega) (rfl) (rfl))
  exact j_lvs [2, 3, 1, 0] rfl (L4 (4) (0) _ _ (by omega) (rfl) (rfl))
set_option maxRecDepth 100000 in
set_option maxHeartbeats 4000000 in
theorem kX4_lockTold (l : Launch) (D : va_G) (ct : Nat → ClassId) (sa : Nat → Nat) (a : Nat → Nat) (thr : Int32) (σ : St) (wr : va_W) (x y : Int32) (j v : Nat) (hx : x = nI j) (hy : y = nI v) (hj : j < 8) (hv : v < 6) : jM l yX4_lockTold (Cond.code yX4_lockTold cX4_lockTold 3 (Option.some Jvm.ClassFile.FieldType.int) :: GW) (rM 2 0 0 48) D ct sa [.ref (a 0), .int x, .int y] (WM ct a thr σ ++ wr) (dK (some (.int (tld σ j v))) (WM ct a thr σ ++ wr)) 0 0 := by
  refine jMX.plain (jBody (own := RX4) (by decide) rfl rfl (Nat.le_of_ble_eq_true rfl) ?_)
  intro X C E T0
  refine j_lv (lv1 := [(0, .ref _), (1, .int _), (2, .int _)]) rfl ?_
  subst hy
  rcases (show v = 0 ∨ v = 1 ∨ v = 2 ∨ v = 3 ∨ v = 4 ∨ v = 5 by omega) with rfl | rfl | rfl | rfl | rfl | rfl
  · refine j_iload_n (i := 2) C dX4_lockTold_0 rfl 2 rfl ?_
    refine j_tsIn (tgt := 36) C dX4_lockTold_1 (by decide) (by decide) rfl (by decide) ?_
    refine j_aload_n (i := 0) C dX4_lockTold_36 rfl 0 rfl ?_
    refine j_iload_n (i := 1) C dX4_lockTold_37 rfl 1 rfl ?_
    refine j_callV (nargs := 1) (As := [_]) (Cn := RX4) C (0) rfl rfl rfl gw742 gw744 gw25 gw49 (kX4_stands l D ct sa a thr σ wr _ j hx hj) gw745 (by decide +kernel) rfl dX4_lockTold_38 ⟨Nat.le_of_ble_eq_true rfl, Nat.le_of_ble_eq_true rfl⟩ ⟨Nat.le_of_ble_eq_true rfl, Nat.le_of_ble_eq_true rfl⟩ (Nat.le_of_ble_eq_true rfl) (dki ?_)
    exact j_ireturn C E rfl dX4_lockTold_41 (Nat.le_of_ble_eq_true rfl) (Nat.le_of_ble_eq_true rfl) (⟨rfl, rfl⟩)
  · refine j_iload_n (i := 2) C dX4_lockTold_0 rfl 2 rfl ?_
    refine j_tsIn (tgt := 42) C dX4_lockTold_1 (by decide) (by decide) rfl (by decide) ?_
    refine j_aload_n (i := 0) C dX4_lockTold_42 rfl 0 rfl ?_
    refine j_iload_n (i := 1) C dX4_lockTold_43 rfl 1 rfl ?_
    refine j_iconst (v := nI 1) C dX4_lockTold_44 (by decide) ?_
    refine j_callV (nargs := 2) (As := [_, _]) (Cn := RX4) C (0) rfl rfl rfl gw729 gw731 gw24 gw49 (kX4_lo l D ct sa a thr σ wr _ _ j 1 hx rfl hj (by decide)) gw732 (by decide +kernel) rfl dX4_lockTold_45 ⟨Nat.le_of_ble_eq_true rfl, Nat.le_of_ble_eq_true rfl⟩ ⟨Nat.le_of_ble_eq_true rfl, Nat.le_of_ble_eq_true rfl⟩ (Nat.le_of_ble_eq_true rfl) (dki ?_)
    exact j_ireturn C E rfl dX4_lockTold_48 (Nat.le_of_ble_eq_true rfl) (Nat.le_of_ble_eq_true rfl) (⟨rfl, rfl⟩)
  · refine j_iload_n (i := 2) C dX4_lockTold_0 rfl 2 rfl ?_
    refine j_tsIn (tgt := 49) C dX4_lockTold_1 (by decide) (by decide) rfl (by decide) ?_
    refine j_aload_n (i := 0) C dX4_lockTold_49 rfl 0 rfl ?_
    refine j_iload_n (i := 1) C dX4_lockTold_50 rfl 1 rfl ?_
    refine j_iconst (v := nI 2) C dX4_lockTold_51 (by decide) ?_
    refine j_callV (nargs := 2) (As := [_, _]) (Cn := RX4) C (0) rfl rfl rfl gw729 gw731 gw24 gw49 (kX4_lo l D ct sa a thr σ wr _ _ j 2 hx rfl hj (by decide)) gw732 (by decide +kernel) rfl dX4_lockTold_52 ⟨Nat.le_of_ble_eq_true rfl, Nat.le_of_ble_eq_true rfl⟩ ⟨Nat.le_of_ble_eq_true rfl, Nat.le_of_ble_eq_true rfl⟩ (Nat.le_of_ble_eq_true rfl) (dki ?_)
    exact j_ireturn C E rfl dX4_lockTold_55 (Nat.le_of_ble_eq_true rfl) (Nat.le_of_ble_eq_true rfl) (⟨rfl, rfl⟩)
  · refine j_iload_n (i := 2) C dX4_lockTold_0 rfl 2 rfl ?_
    refine j_tsIn (tgt := 56) C dX4_lockTold_1 (by decide) (by decide) rfl (by decide) ?_
    refine j_aload_n (i := 0) C dX4_lockTold_56 rfl 0 rfl ?_
    refine j_iload_n (i := 1) C dX4_lockTold_57 rfl 1 rfl ?_
    refine j_iconst (v := nI 3) C dX4_lockTold_58 (by decide) ?_
    refine j_callV (nargs := 2) (As := [_, _]) (Cn := RX4) C (0) rfl rfl rfl gw729 gw731 gw24 gw49 (kX4_lo l D ct sa a thr σ wr _ _ j 3 hx rfl hj (by decide)) gw732 (by decide +kernel) rfl dX4_lockTold_59 ⟨Nat.le_of_ble_eq_true rfl, Nat.le_of_ble_eq_true rfl⟩ ⟨Nat.le_of_ble_eq_true rfl, Nat.le_of_ble_eq_true rfl⟩ (Nat.le_of_ble_eq_true rfl) (dki ?_)
    exact j_ireturn C E rfl dX4_lockTold_62 (Nat.le_of_ble_eq_true rfl) (Nat.le_of_ble_eq_true rfl) (⟨rfl, rfl⟩)
  · refine j_iload_n (i := 2) C dX4_lockTold_0 rfl 2 rfl ?_
    refine j_tsIn (tgt := 63) C dX4_lockTold_1 (by decide) (by decide) rfl (by decide) ?_
    refine j_aload_n (i := 0) C dX4_lockTold_63 rfl 0 rfl ?_
    refine j_iload_n (i := 1) C dX4_lockTold_64 rfl 1 rfl ?_
    refine j_callV (nargs := 1) (As := [_]) (Cn := RX4) C (0) rfl rfl rfl gw797 gw799 gw31 gw49 (kX4_shows l D ct sa a thr σ wr _ j hx hj) gw800 (by decide +kernel) rfl dX4_lockTold_65 ⟨Nat.le_of_ble_eq_true rfl, Nat.le_of_ble_eq_true rfl⟩ ⟨Nat.le_of_ble_eq_true rfl, Nat.le_of_ble_eq_true rfl⟩ (Nat.le_of_ble_eq_true rfl) (dki ?_)
    exact j_ireturn C E rfl dX4_lockTold_68 (Nat.le_of_ble_eq_true rfl) (Nat.le_of_ble_eq_true rfl) (⟨rfl, rfl⟩)
  · refine j_iload_n (i := 2) C dX4_lockTold_0 rfl 2 rfl ?_
    refine j_tsOut (tgt := 69) C dX4_lockTold_1 (Or.inr (by decide)) (by decide) ?_
    refine j_aload_n (i := 0) C dX4_lockTold_69 rfl 0 rfl ?_
    refine j_iload_n (i := 1) C dX4_lockTold_70 rfl 1 rfl ?_
    refine j_iconst (v := nI 3) C dX4_lockTold_71 (by decide) ?_
    refine j_callV (nargs := 2) (As := [_, _]) (Cn := RX4) C (0) rfl rfl rfl gw729 gw731 gw24 gw49 (kX4_lo l D ct sa a thr σ wr _ _ j 3 hx rfl hj (by decide)) gw732 (by decide +kernel) rfl dX4_lockTold_72 ⟨Nat.le_of_ble_eq_true rfl, Nat.le_of_ble_eq_true rfl⟩ ⟨Nat.le_of_ble_eq_true rfl, Nat.le_of_ble_eq_true rfl⟩ (Nat.le_of_ble_eq_true rfl) (dki ?_)
    refine j_iconst (v := nI 1) C dX4_lockTold_75 (by decide) ?_
    refine j_icmp_ne C 83 dX4_lockTold_76 (by decide) (fun c76 => ?_) (fun c76 => ?_)
    · refine j_aload_n (i := 0) C dX4_lockTold_83 rfl 0 rfl ?_
      refine j_iload_n (i := 1) C dX4_lockTold_84 rfl 1 rfl ?_
      refine j_iconst (v := nI 0) C dX4_lockTold_85 (by decide) ?_
      refine j_callV (nargs := 2) (As := [_, _]) (Cn := RX4) C (0) rfl rfl rfl gw729 gw731 gw24 gw49 (kX4_lo l D ct sa a thr σ wr _ _ j 0 hx rfl hj (by decide)) gw732 (by decide +kernel) rfl dX4_lockTold_86 ⟨Nat.le_of_ble_eq_true rfl, Nat.le_of_ble_eq_true rfl⟩ ⟨Nat.le_of_ble_eq_true rfl, Nat.le_of_ble_eq_true rfl⟩ (Nat.le_of_ble_eq_true rfl) (dki ?_)
      exact j_ireturn C E rfl dX4_lockTold_89 (Nat.le_of_ble_eq_true rfl) (Nat.le_of_ble_eq_true rfl) (⟨congrArg (fun z => some (Value.int z)) (by first | exact (if_pos c76).symm | exact (if_neg c76).symm), rfl⟩)
    · refine j_iconst (v := (-1)) C dX4_lockTold_79 (by decide) ?_
      refine j_goto C 89 dX4_lockTold_80 (by decide) ?_
      exact j_ireturn C E rfl dX4_lockTold_89 (Nat.le_of_ble_eq_true rfl) (Nat.le_of_ble_eq_true rfl) (⟨congrArg (fun z => some (Value.int z)) (by first | exact (if_pos c76).symm | exact (if_neg c76).symm), rfl⟩)
set_option maxRecDepth 100000 in
set_option maxHeartbeats 4000000 in
theorem kX4_told (l : Launch) (D : va_G) (ct : Nat → ClassId) (sa : Nat → Nat) (a : Nat → Nat) (thr : Int32) (σ : St) (wr : va_W) (x y : Int32) (hi : Inv0 σ) : jM l yX4_told (Cond.code yX4_told cX4_told 3 (Option.some Jvm.ClassFile.FieldType.int) :: GW) (rM 3 0 0 70) D ct sa [.ref (a 0), .int x, .int y] (WM ct a thr σ ++ wr) (fD ct a wr (f_told σ x y)) 0 0 := by
  refine jMX.plain (jBody (own := RX4) (by decide) rfl rfl (Nat.le_of_ble_eq_true rfl) ?_)
  intro X C E T0
  refine j_lv (lv1 := [(0, .ref _), (1, .int _), (2, .int _)]) rfl ?_
  refine j_aload_n (i := 0) C dX4_told_0 rfl 0 rfl ?_
  refine j_iconst (v := nI 0) C dX4_told_1 (by decide) ?_
  refine j_put (Cn := RX4) (T := TX4) (N := 7) (ci := 5) (ws2 := WM ct a (nI 0) σ ++ wr) C iX4 tyX4 tyX4_ok nmX4 rfl (0) rfl 0 (by decide) gw677 rfl rfl rfl rfl rfl (Nat.le_of_ble_eq_true rfl) rfl dX4_told_2 ?_
  refine j_aload_n (i := 0) C dX4_told_5 rfl 0 rfl ?_
  refine j_iload_n (i := 1) C dX4_told_6 rfl 1 rfl ?_
  refine j_callV (nargs := 1) (As := [_]) (Cn := RX4) C (0) rfl rfl rfl gw725 gw727 gw23 gw49 (kX4_isLock l D ct sa _ _ _ _ _ hi.1) gw728 (by decide +kernel) rfl dX4_told_7 ⟨Nat.le_of_ble_eq_true rfl, Nat.le_of_ble_eq_true rfl⟩ ⟨Nat.le_of_ble_eq_true rfl, Nat.le_of_ble_eq_true rfl⟩ (Nat.le_of_ble_eq_true rfl) (dki ?_)
  refine j_if_eq C 31 dX4_told_10 (by decide) (fun c10 => ?_) (fun c10 => ?_)
  · refine j_aload_n (i := 0) C dX4_told_31 rfl 0 rfl ?_
    refine j_iconst (v := nI 1) C dX4_told_32 (by decide) ?_
    refine j_callV (nargs := 1) (As := [_]) (Cn := RX4) C (0) rfl rfl rfl gw713 gw715 gw21 gw49 (kX4_fail l D ct sa _ _ _ _ _) gw716 (by decide +kernel) rfl dX4_told_33 ⟨Nat.le_of_ble_eq_true rfl, Nat.le_of_ble_eq_true rfl⟩ ⟨Nat.le_of_ble_eq_true rfl, Nat.le_of_ble_eq_true rfl⟩ (Nat.le_of_ble_eq_true rfl) (dki ?_)
    exact j_ireturn C E rfl dX4_told_36 (Nat.le_of_ble_eq_true rfl) (Nat.le_of_ble_eq_true rfl) (fK (by rw [f_told]; first | exact if_pos ⟨b2i_t c10, hy⟩ | exact if_neg (fun z => absurd z.1 (b2i_f c10)) | exact if_neg (fun z => absurd ((in_ok (M := 5) (by decide)).mpr z.2) (b2i_f c19))))
  · refine j_iload_n (i := 2) C dX4_told_13 rfl 2 rfl ?_
    refine j_iconst (v := nI 0) C dX4_told_14 (by decide) ?_
    refine j_iconst (v := nI 5) C dX4_told_15 (by decide) ?_
    refine j_callS (nargs := 3) (As := [_, _, _]) C gw710 gw711 gw49 (kX4_isIn l D ct sa _ _ _ _) gw712 (by decide +kernel) rfl dX4_told_16 ⟨Nat.le_of_ble_eq_true rfl, Nat.le_of_ble_eq_true rfl⟩ ⟨Nat.le_of_ble_eq_true rfl, Nat.le_of_ble_eq_true rfl⟩ (Nat.le_of_ble_eq_true rfl) (dki ?_)
    refine j_if_eq C 31 dX4_told_19 (by decide) (fun c19 => ?_) (fun c19 => ?_)
    · refine j_aload_n (i := 0) C dX4_told_31 rfl 0 rfl ?_
      refine j_iconst (v := nI 1) C dX4_told_32 (by decide) ?_
      refine j_callV (nargs := 1) (As := [_]) (Cn := RX4) C (0) rfl rfl rfl gw713 gw715 gw21 gw49 (kX4_fail l D ct sa _ _ _ _ _) gw716 (by decide +kernel) rfl dX4_told_33 ⟨Nat.le_of_ble_eq_true rfl, Nat.le_of_ble_eq_true rfl⟩ ⟨Nat.le_of_ble_eq_true rfl, Nat.le_of_ble_eq_true rfl⟩ (Nat.le_of_ble_eq_true rfl) (dki ?_)
      exact j_ireturn C E rfl dX4_told_36 (Nat.le_of_ble_eq_true rfl) (Nat.le_of_ble_eq_true rfl) (fK (by rw [f_told]; first | exact if_pos ⟨b2i_t c10, hy⟩ | exact if_neg (fun z => absurd z.1 (b2i_f c10)) | exact if_neg (fun z => absurd ((in_ok (M := 5) (by decide)).mpr z.2) (b2i_f c19))))
    · obtain ⟨hj_x, e_x⟩ := okI_ix (b2i_t c10) (by omega)
      have hy := (in_ok (M := 5) (by decide)).mp (b2i_t c19)
      obtain ⟨hj_y, e_y⟩ := okI_ix (hy) (by omega)
      refine j_aload_n (i := 0) C dX4_told_22 rfl 0 rfl ?_
      refine j_iload_n (i := 1) C dX4_told_23 rfl 1 rfl ?_
      refine j_iload_n (i := 2) C dX4_told_24 rfl 2 rfl ?_
      refine j_callV (nargs := 2) (As := [_, _]) (Cn := RX4) C (0) rfl rfl rfl gw793 gw795 gw30 gw49 (kX4_lockTold l D ct sa a (nI 0) σ wr _ _ (ix x) (ix y) e_x e_y (by have := hi.1; omega) hj_y) gw796 (by decide +kernel) rfl dX4_told_25 ⟨Nat.le_of_ble_eq_true rfl, Nat.le_of_ble_eq_true rfl⟩ ⟨Nat.le_of_ble_eq_true rfl, Nat.le_of_ble_eq_true rfl⟩ (Nat.le_of_ble_eq_true rfl) (dki ?_)
      refine j_goto C 36 dX4_told_28 (by decide) ?_
      exact j_ireturn C E rfl dX4_told_36 (Nat.le_of_ble_eq_true rfl) (Nat.le_of_ble_eq_true rfl) (fK (by rw [f_told]; first | exact if_pos ⟨b2i_t c10, hy⟩ | exact if_neg (fun z => absurd z.1 (b2i_f c10)) | exact if_neg (fun z => absurd ((in_ok (M := 5) (by decide)).mpr z.2) (b2i_f c19))))
set_option maxRecDepth 100000 in
set_option maxHeartbeats 4000000 in
theorem kX4_wear (l : Launch) (D : va_G) (ct : Nat → ClassId) (sa : Nat → Nat) (a : Nat → Nat) (thr : Int32) (σ : St) (wr : va_W) (x y z : Int32) (hi : Inv0 σ) : jM l yX4_wear (Cond.code yX4_wear cX4_wear 4 (Option.some Jvm.ClassFile.FieldType.int) :: GW) (rM 2 0 0 43) D ct sa [.ref (a 0), .int x, .int y, .int z] (WM ct a thr σ ++ wr) (fD ct a wr (f_wear σ x y z)) 0 0 := by
  refine jMX.plain (jBody (own := RX4) (by decide) rfl rfl (Nat.le_of_ble_eq_true rfl) ?_)
  intro X C E T0
  refine j_lv (lv1 := [(0, .ref _), (1, .int _), (2, .int _), (3, .int _)]) rfl ?_
  refine j_aload_n (i := 0) C dX4_wear_0 rfl 0 rfl ?_
  refine j_iconst (v := nI 0) C dX4_wear_1 (by decide) ?_
  refine j_put (Cn := RX4) (T := TX4) (N := 7) (ci := 5) (ws2 := WM ct a (nI 0) σ ++ wr) C iX4 tyX4 tyX4_ok nmX4 rfl (0) rfl 0 (by decide) gw677 rfl rfl rfl rfl rfl (Nat.le_of_ble_eq_true rfl) rfl dX4_wear_2 ?_
  refine j_aload_n (i := 0) C dX4_wear_5 rfl 0 rfl ?_
  refine j_iload_n (i := 1) C dX4_wear_6 rfl 1 rfl ?_
  refine j_callV (nargs := 1) (As := [_]) (Cn := RX4) C (0) rfl rfl rfl gw725 gw727 gw23 gw49 (kX4_isLock l D ct sa _ _ _ _ _ hi.1) gw728 (by decide +kernel) rfl dX4_wear_7 ⟨Nat.le_of_ble_eq_true rfl, Nat.le_of_ble_eq_true rfl⟩ ⟨Nat.le_of_ble_eq_true rfl, Nat.le_of_ble_eq_true rfl⟩ (Nat.le_of_ble_eq_true rfl) (dki ?_)
  refine j_if_eq C 41 dX4_wear_10 (by decide) (fun c10 => ?_) (fun c10 => ?_)
  · refine j_aload_n (i := 0) C dX4_wear_41 rfl 0 rfl ?_
    refine j_iconst (v := nI 1) C dX4_wear_42 (by decide) ?_
    refine j_callV (nargs := 1) (As := [_]) (Cn := RX4) C (0) rfl rfl rfl gw713 gw715 gw21 gw49 (kX4_fail l D ct sa _ _ _ _ _) gw716 (by decide +kernel) rfl dX4_wear_43 ⟨Nat.le_of_ble_eq_true rfl, Nat.le_of_ble_eq_true rfl⟩ ⟨Nat.le_of_ble_eq_true rfl, Nat.le_of_ble_eq_true rfl⟩ (Nat.le_of_ble_eq_true rfl) (dki ?_)
    exact j_ireturn C E rfl dX4_wear_46 (Nat.le_of_ble_eq_true rfl) (Nat.le_of_ble_eq_true rfl) (fK (by rw [f_wear]; first | exact if_pos ⟨b2i_t c10, hy, hz⟩ | exact if_neg (fun z => absurd z.1 (b2i_f c10)) | exact if_neg (fun z => absurd ((in_ok (M := 3) (by decide)).mpr z.2.1) (b2i_f c19)) | exact if_neg (fun z => absurd ((in_ok (M := 5) (by decide)).mpr z.2.2) (b2i_f c28))))
  · refine j_iload_n (i := 2) C dX4_wear_13 rfl 2 rfl ?_
    refine j_iconst (v := nI 0) C dX4_wear_14 (by decide) ?_
    refine j_iconst (v := nI 3) C dX4_wear_15 (by decide) ?_
    refine j_callS (nargs := 3) (As := [_, _, _]) C gw710 gw711 gw49 (kX4_isIn l D ct sa _ _ _ _) gw712 (by decide +kernel) rfl dX4_wear_16 ⟨Nat.le_of_ble_eq_true rfl, Nat.le_of_ble_eq_true rfl⟩ ⟨Nat.le_of_ble_eq_true rfl, Nat.le_of_ble_eq_true rfl⟩ (Nat.le_of_ble_eq_true rfl) (dki ?_)
    refine j_if_eq C 41 dX4_wear_19 (by decide) (fun c19 => ?_) (fun c19 => ?_)
    · refine j_aload_n (i := 0) C dX4_wear_41 rfl 0 rfl ?_
      refine j_iconst (v := nI 1) C dX4_wear_42 (by decide) ?_
      refine j_callV (nargs := 1) (As := [_]) (Cn := RX4) C (0) rfl rfl rfl gw713 gw715 gw21 gw49 (kX4_fail l D ct sa _ _ _ _ _) gw716 (by decide +kernel) rfl dX4_wear_43 ⟨Nat.le_of_ble_eq_true rfl, Nat.le_of_ble_eq_true rfl⟩ ⟨Nat.le_of_ble_eq_true rfl, Nat.le_of_ble_eq_true rfl⟩ (Nat.le_of_ble_eq_true rfl) (dki ?_)
      exact j_ireturn C E rfl dX4_wear_46 (Nat.le_of_ble_eq_true rfl) (Nat.le_of_ble_eq_true rfl) (fK (by rw [f_wear]; first | exact if_pos ⟨b2i_t c10, hy, hz⟩ | exact if_neg (fun z => absurd z.1 (b2i_f c10)) | exact if_neg (fun z => absurd ((in_ok (M := 3) (by decide)).mpr z.2.1) (b2i_f c19)) | exact if_neg (fun z => absurd ((in_ok (M := 5) (by decide)).mpr z.2.2) (b2i_f c28))))
    · refine j_iload_n (i := 3) C dX4_wear_22 rfl 3 rfl ?_
      refine j_iconst (v := nI 0) C dX4_wear_23 (by decide) ?_
      refine j_iconst (v := nI 5) C dX4_wear_24 (by decide) ?_
      refine j_callS (nargs := 3) (As := [_, _, _]) C gw710 gw711 gw49 (kX4_isIn l D ct sa _ _ _ _) gw712 (by decide +kernel) rfl dX4_wear_25 ⟨Nat.le_of_ble_eq_true rfl, Nat.le_of_ble_eq_true rfl⟩ ⟨Nat.le_of_ble_eq_true rfl, Nat.le_of_ble_eq_true rfl⟩ (Nat.le_of_ble_eq_true rfl) (dki ?_)
      refine j_if_eq C 41 dX4_wear_28 (by decide) (fun c28 => ?_) (fun c28 => ?_)
      · refine j_aload_n (i := 0) C dX4_wear_41 rfl 0 rfl ?_
        refine j_iconst (v := nI 1) C dX4_wear_42 (by decide) ?_
        refine j_callV (nargs := 1) (As := [_]) (Cn := RX4) C (0) rfl rfl rfl gw713 gw715 gw21 gw49 (kX4_fail l D ct sa _ _ _ _ _) gw716 (by decide +kernel) rfl dX4_wear_43 ⟨Nat.le_of_ble_eq_true rfl, Nat.le_of_ble_eq_true rfl⟩ ⟨Nat.le_of_ble_eq_true rfl, Nat.le_of_ble_eq_true rfl⟩ (Nat.le_of_ble_eq_true rfl) (dki ?_)
        exact j_ireturn C E rfl dX4_wear_46 (Nat.le_of_ble_eq_true rfl) (Nat.le_of_ble_eq_true rfl) (fK (by rw [f_wear]; first | exact if_pos ⟨b2i_t c10, hy, hz⟩ | exact if_neg (fun z => absurd z.1 (b2i_f c10)) | exact if_neg (fun z => absurd ((in_ok (M := 3) (by decide)).mpr z.2.1) (b2i_f c19)) | exact if_neg (fun z => absurd ((in_ok (M := 5) (by decide)).mpr z.2.2) (b2i_f c28))))
      · obtain ⟨hj_x, e_x⟩ := okI_ix (b2i_t c10) (by omega)
        have hy := (in_ok (M := 3) (by decide)).mp (b2i_t c19)
        obtain ⟨hj_y, e_y⟩ := okI_ix (hy) (by omega)
        have hz := (in_ok (M := 5) (by decide)).mp (b2i_t c28)
        obtain ⟨hj_z, e_z⟩ := okI_ix (hz) (by omega)
        refine j_aload_n (i := 0) C dX4_wear_31 rfl 0 rfl ?_
        refine j_iload_n (i := 1) C dX4_wear_32 rfl 1 rfl ?_
        refine j_iload_n (i := 2) C dX4_wear_33 rfl 2 rfl ?_
        refine j_iload_n (i := 3) C dX4_wear_34 rfl 3 rfl ?_
        refine j_callV (nargs := 3) (As := [_, _, _]) (Cn := RX4) C (0) rfl rfl rfl gw801 gw803 gw32 gw49 (kX4_we l D ct sa a (nI 0) σ wr _ _ _ (ix x) (ix y) (ix z) e_x e_y e_z (by have := hi.1; omega) hj_y hj_z) gw804 (by decide +kernel) rfl dX4_wear_35 ⟨Nat.le_of_ble_eq_true rfl, Nat.le_of_ble_eq_true rfl⟩ ⟨Nat.le_of_ble_eq_true rfl, Nat.le_of_ble_eq_true rfl⟩ (Nat.le_of_ble_eq_true rfl) (dki ?_)
        refine j_goto C 46 dX4_wear_38 (by decide) ?_
        exact j_ireturn C E rfl dX4_wear_46 (Nat.le_of_ble_eq_true rfl) (Nat.le_of_ble_eq_true rfl) (fK (by rw [f_wear]; first | exact if_pos ⟨b2i_t c10, hy, hz⟩ | exact if_neg (fun z => absurd z.1 (b2i_f c10)) | exact if_neg (fun z => absurd ((in_ok (M := 3) (by decide)).mpr z.2.1) (b2i_f c19)) | exact if_neg (fun z => absurd ((in_ok (M := 5) (by decide)).mpr z.2.2) (b2i_f c28))))
set_option maxRecDepth 100000 in
set_option maxHeartbeats 4000000 in
theorem kX4_rackTold (l : Launch) (D : va_G) (ct : Nat → ClassId) (sa : Nat → Nat) (a : Nat → Nat) (thr : Int32) (σ : St) (wr : va_W) (x y : Int32) (r v : Nat) (hn : sN σ ≤ 8) (hx : x = nI r) (hy : y = nI v) (hr : r < 3) (hv : v < 6) : jM l yX4_rackTold (Cond.code yX4_rackTold cX4_rackTold 5 (Option.some Jvm.ClassFile.FieldType.int) :: GW) (rM 2 0 0 46) D ct sa [.ref (a 0), .int x, .int y] (WM ct a thr σ ++ wr) (dK (some (.int (rtl σ r v))) (WM ct a thr σ ++ wr)) 0 0 := by
  refine jMX.plain (jBody (own := RX4) (by decide) rfl rfl (Nat.le_of_ble_eq_true rfl) ?_)
  intro X C E T0
  refine j_lv (lv1 := [(0, .ref _), (1, .int _), (2, .int _)]) rfl ?_
  subst hy
  subst hx
  rcases (show v = 0 ∨ v = 1 ∨ v = 2 ∨ v = 3 ∨ v = 4 ∨ v = 5 by omega) with rfl | rfl | rfl | rfl | rfl | rfl
  · refine j_iload_n (i := 2) C dX4_rackTold_0 rfl 2 rfl ?_
    refine j_tsIn (tgt := 36) C dX4_rackTold_1 (by decide) (by decide) rfl (by decide) ?_
    refine j_aload_n (i := 0) C dX4_rackTold_36 rfl 0 rfl ?_
    refine j_iload_n (i := 1) C dX4_rackTold_37 rfl 1 rfl ?_
    refine j_iconst (v := nI 0) C dX4_rackTold_38 (by decide) ?_
    refine j_callV (nargs := 2) (As := [_, _]) (Cn := RX4) C (0) rfl rfl rfl gw773 gw775 gw28 gw49 (kX4_ra l D ct sa a thr σ wr _ _ r 0 rfl rfl hr (by decide)) gw776 (by decide +kernel) rfl dX4_rackTold_39 ⟨Nat.le_of_ble_eq_true rfl, Nat.le_of_ble_eq_true rfl⟩ ⟨Nat.le_of_ble_eq_true rfl, Nat.le_of_ble_eq_true rfl⟩ (Nat.le_of_ble_eq_true rfl) (dki ?_)
    exact j_ireturn C E rfl dX4_rackTold_42 (Nat.le_of_ble_eq_true rfl) (Nat.le_of_ble_eq_true rfl) (⟨rfl, rfl⟩)
  · refine j_iload_n (i := 2) C dX4_rackTold_0 rfl 2 rfl ?_
    refine j_tsIn (tgt := 43) C dX4_rackTold_1 (by decide) (by decide) rfl (by decide) ?_
    refine j_aload_n (i := 0) C dX4_rackTold_43 rfl 0 rfl ?_
    refine j_iload_n (i := 1) C dX4_rackTold_44 rfl 1 rfl ?_
    refine j_callV (nargs := 1) (As := [_]) (Cn := RX4) C (0) rfl rfl rfl gw769 gw771 gw27 gw49 (kX4_in l D ct sa _ _ _ _ _ hn) gw772 (by decide +kernel) rfl dX4_rackTold_45 ⟨Nat.le_of_ble_eq_true rfl, Nat.le_of_ble_eq_true rfl⟩ ⟨Nat.le_of_ble_eq_true rfl, Nat.le_of_ble_eq_true rfl⟩ (Nat.le_of_ble_eq_true rfl) (dki ?_)
    exact j_ireturn C E rfl dX4_rackTold_48 (Nat.le_of_ble_eq_true rfl) (Nat.le_of_ble_eq_true rfl) (⟨rfl, rfl⟩)
  · refine j_iload_n (i := 2) C dX4_rackTold_0 rfl 2 rfl ?_
    refine j_tsIn (tgt := 49) C dX4_rackTold_1 (by decide) (by decide) rfl (by decide) ?_
    refine j_aload_n (i := 0) C dX4_rackTold_49 rfl 0 rfl ?_
    refine j_iload_n (i := 1) C dX4_rackTold_50 rfl 1 rfl ?_
    refine j_callV (nargs := 1) (As := [_]) (Cn := RX4) C (0) rfl rfl rfl gw785 gw787 gw29 gw49 (kX4_isOpen l D ct sa a thr σ wr _ r rfl hr) gw788 (by decide +kernel) rfl dX4_rackTold_51 ⟨Nat.le_of_ble_eq_true rfl, Nat.le_of_ble_eq_true rfl⟩ ⟨Nat.le_of_ble_eq_true rfl, Nat.le_of_ble_eq_true rfl⟩ (Nat.le_of_ble_eq_true rfl) (dki ?_)
    refine j_if_eq C 61 dX4_rackTold_54 (by decide) (fun c54 => ?_) (fun c54 => ?_)
    · refine j_iconst (v := nI 0) C dX4_rackTold_61 (by decide) ?_
      exact j_ireturn C E rfl dX4_rackTold_62 (Nat.le_of_ble_eq_true rfl) (Nat.le_of_ble_eq_true rfl) (⟨congrArg (fun z => some (Value.int z)) (by first | exact (b2i_y (b2i_t c54)).symm | exact (b2i_n (b2i_f c54)).symm), rfl⟩)
    · refine j_iconst (v := nI 1) C dX4_rackTold_57 (by decide) ?_
      refine j_goto C 62 dX4_rackTold_58 (by decide) ?_
      exact j_ireturn C E rfl dX4_rackTold_62 (Nat.le_of_ble_eq_true rfl) (Nat.le_of_ble_eq_true rfl) (⟨congrArg (fun z => some (Value.int z)) (by first | exact (b2i_y (b2i_t c54)).symm | exact (b2i_n (b2i_f c54)).symm), rfl⟩)
  · refine j_iload_n (i := 2) C dX4_rackTold_0 rfl 2 rfl ?_
    refine j_tsIn (tgt := 63) C dX4_rackTold_1 (by decide) (by decide) rfl (by decide) ?_
    refine j_iconst (v := nI 0) C dX4_rackTold_63 (by decide) ?_
    refine j_istore_n (lv' := [(3, .int _), (0, .ref _), (1, .int _), (2, .int _)]) C dX4_rackTold_64 rfl (by decide) rfl ?_
    refine j_iconst (v := nI 0) C dX4_rackTold_65 (by decide) ?_
    refine j_istore (lv' := [(4, .int _), (3, .int _), (0, .ref _), (1, .int _), (2, .int _)]) C dX4_rackTold_66 (by decide) rfl ?_
    have L68 : ∀ (d i : Nat) (x3 : Int32) (x4 : Int32), i + d = sN σ → x3 = sumF (fun i => if sR σ (8 * i + 2) = nI r then sR σ (8 * i + 1) else nI 0) i → x4 = nI i → J X (WM ct a thr σ ++ wr) (0) (0) 68 [(0, .ref (a 0)), (1, .int (nI r)), (3, .int x3), (4, .int x4)] [] := by
      intro d
      induction d with
      | zero =>
        intro i x3 x4 hd e_x3 e_x4 
        subst e_x3
        subst e_x4
        have hi : i = sN σ := by omega
        rw [hi]
        refine j_iload C dX4_rackTold_68 3 rfl ?_
        refine j_aload_n (i := 0) C dX4_rackTold_70 rfl 0 rfl ?_
        refine j_get (Cn := RX4) (T := TX4) (N := 7) (ci := 5) C iX4 rfl (0) rfl 1 (by decide) gw678 rfl rfl dX4_rackTold_71 ?_
        refine j_icmp_ge C 108 dX4_rackTold_74 (by decide) (fun c74 => ?_) (fun c74 => by first | exact absurd c74 (by decide) | exact absurd c74 (nI_ge (by omega) (by omega)) | exact absurd (nI_le (by omega) (by omega)) c74 | exact absurd c74 (nI_nlt (by omega) (by omega)) | exact absurd (nI_lt (by omega) (by omega)) c74 | exact absurd c74 (nI_nle0 (by omega) (by omega)))
        refine j_iload_n (i := 3) C dX4_rackTold_108 rfl 2 rfl ?_
        exact j_ireturn C E rfl dX4_rackTold_109 (Nat.le_of_ble_eq_true rfl) (Nat.le_of_ble_eq_true rfl) (⟨rfl, rfl⟩)
      | succ d ih =>
        intro i x3 x4 hd e_x3 e_x4 
        subst e_x3
        subst e_x4
        refine j_iload C dX4_rackTold_68 3 rfl ?_
        refine j_aload_n (i := 0) C dX4_rackTold_70 rfl 0 rfl ?_
        refine j_get (Cn := RX4) (T := TX4) (N := 7) (ci := 5) C iX4 rfl (0) rfl 1 (by decide) gw678 rfl rfl dX4_rackTold_71 ?_
        refine j_icmp_ge C 108 dX4_rackTold_74 (by decide) (fun c74 => by first | exact absurd c74 (by decide) | exact absurd c74 (nI_ge (by omega) (by omega)) | exact absurd (nI_le (by omega) (by omega)) c74 | exact absurd c74 (nI_nlt (by omega) (by omega)) | exact absurd (nI_lt (by omega) (by omega)) c74 | exact absurd c74 (nI_nle0 (by omega) (by omega))) (fun c74 => ?_)
        refine j_iload_n (i := 3) C dX4_rackTold_77 rfl 2 rfl ?_
        refine j_aload_n (i := 0) C dX4_rackTold_78 rfl 0 rfl ?_
        refine j_iload C dX4_rackTold_79 3 rfl ?_
        refine j_iconst (v := nI 2) C dX4_rackTold_81 (by decide) ?_
        refine j_callV (nargs := 2) (As := [_, _]) (Cn := RX4) C (0) rfl rfl rfl gw729 gw731 gw24 gw49 (kX4_lo l D ct sa a thr σ wr _ _ i 2 rfl rfl (by omega) (by decide)) gw732 (by decide +kernel) rfl dX4_rackTold_82 ⟨Nat.le_of_ble_eq_true rfl, Nat.le_of_ble_eq_true rfl⟩ ⟨Nat.le_of_ble_eq_true rfl, Nat.le_of_ble_eq_true rfl⟩ (Nat.le_of_ble_eq_true rfl) (dki ?_)
        refine j_iload_n (i := 1) C dX4_rackTold_85 rfl 1 rfl ?_
        refine j_icmp_ne C 99 dX4_rackTold_86 (by decide) (fun c86 => ?_) (fun c86 => ?_)
        · refine j_iconst (v := nI 0) C dX4_rackTold_99 (by decide) ?_
          refine j_iadd C dX4_rackTold_100 ?_
          refine j_istore_n (lv' := [(3, .int _), (0, .ref _), (1, .int _), (4, .int _)]) C dX4_rackTold_101 rfl (by decide) rfl ?_
          refine j_iinc (z := 3) (lv' := [(4, .int _), (3, .int _), (0, .ref _), (1, .int _)]) C dX4_rackTold_102 rfl rfl (by decide) rfl ?_
          refine j_goto C 68 dX4_rackTold_105 (by decide) ?_
          exact j_lvs [2, 3, 1, 0] rfl (ih (i + 1) _ _ (by omega) (by first | exact congrArg (fun z => sumF (fun i => if sR σ (8 * i + 2) = nI r then sR σ (8 * i + 1) else nI 0) i + z) (if_pos c86).symm | exact congrArg (fun z => sumF (fun i => if sR σ (8 * i + 2) = nI r then sR σ (8 * i + 1) else nI 0) i + z) (if_neg c86).symm) (nI_1 i))
        · refine j_aload_n (i := 0) C dX4_rackTold_89 rfl 0 rfl ?_
          refine j_iload C dX4_rackTold_90 3 rfl ?_
          refine j_iconst (v := nI 1) C dX4_rackTold_92 (by decide) ?_
          refine j_callV (nargs := 2) (As := [_, _]) (Cn := RX4) C (0) rfl rfl rfl gw729 gw731 gw24 gw49 (kX4_lo l D ct sa a thr σ wr _ _ i 1 rfl rfl (by omega) (by decide)) gw732 (by decide +kernel) rfl dX4_rackTold_93 ⟨Nat.le_of_ble_eq_true rfl, Nat.le_of_ble_eq_true rfl⟩ ⟨Nat.le_of_ble_eq_true rfl, Nat.le_of_ble_eq_true rfl⟩ (Nat.le_of_ble_eq_true rfl) (dki ?_)
          refine j_goto C 100 dX4_rackTold_96 (by decide) ?_
          refine j_iadd C dX4_rackTold_100 ?_
          refine j_istore_n (lv' := [(3, .int _), (0, .ref _), (1, .int _), (4, .int _)]) C dX4_rackTold_101 rfl (by decide) rfl ?_
          refine j_iinc (z := 3) (lv' := [(4, .int _), (3, .int _), (0, .ref _), (1, .int _)]) C dX4_rackTold_102 rfl rfl (by decide) rfl ?_
          refine j_goto C 68 dX4_rackTold_105 (by decide) ?_
          exact j_lvs [2, 3, 1, 0] rfl (ih (i + 1) _ _ (by omega) (by first | exact congrArg (fun z => sumF (fun i => if sR σ (8 * i + 2) = nI r then sR σ (8 * i + 1) else nI 0) i + z) (if_pos c86).symm | exact congrArg (fun z => sumF (fun i => if sR σ (8 * i + 2) = nI r then sR σ (8 * i + 1) else nI 0) i + z) (if_neg c86).symm) (nI_1 i))
    exact j_lvs [2, 3, 1, 0] rfl (L68 (sN σ) (0) _ _ (by omega) (rfl) (rfl))
  · refine j_iload_n (i := 2) C dX4_rackTold_0 rfl 2 rfl ?_
    refine j_tsIn (tgt := 110) C dX4_rackTold_1 (by decide) (by decide) rfl (by decide) ?_
    refine j_aload_n (i := 0) C dX4_rackTold_110 rfl 0 rfl ?_
    refine j_iload_n (i := 1) C dX4_rackTold_111 rfl 1 rfl ?_
    refine j_iconst (v := nI 1) C dX4_rackTold_112 (by decide) ?_
    refine j_callV (nargs := 2) (As := [_, _]) (Cn := RX4) C (0) rfl rfl rfl gw773 gw775 gw28 gw49 (kX4_ra l D ct sa a thr σ wr _ _ r 1 rfl rfl hr (by decide)) gw776 (by decide +kernel) rfl dX4_rackTold_113 ⟨Nat.le_of_ble_eq_true rfl, Nat.le_of_ble_eq_true rfl⟩ ⟨Nat.le_of_ble_eq_true rfl, Nat.le_of_ble_eq_true rfl⟩ (Nat.le_of_ble_eq_true rfl) (dki ?_)
    exact j_ireturn C E rfl dX4_rackTold_116 (Nat.le_of_ble_eq_true rfl) (Nat.le_of_ble_eq_true rfl) (⟨rfl, rfl⟩)
  · refine j_iload_n (i := 2) C dX4_rackTold_0 rfl 2 rfl ?_
    refine j_tsOut (tgt := 117) C dX4_rackTold_1 (Or.inr (by decide)) (by decide) ?_
    refine j_aload_n (i := 0) C dX4_rackTold_117 rfl 0 rfl ?_
    refine j_iload_n (i := 1) C dX4_rackTold_118 rfl 1 rfl ?_
    refine j_iconst (v := nI 2) C dX4_rackTold_119 (by decide) ?_
    refine j_callV (nargs := 2) (As := [_, _]) (Cn := RX4) C (0) rfl rfl rfl gw773 gw775 gw28 gw49 (kX4_ra l D ct sa a thr σ wr _ _ r 2 rfl rfl hr (by decide)) gw776 (by decide +kernel) rfl dX4_rackTold_120 ⟨Nat.le_of_ble_eq_true rfl, Nat.le_of_ble_eq_true rfl⟩ ⟨Nat.le_of_ble_eq_true rfl, Nat.le_of_ble_eq_true rfl⟩ (Nat.le_of_ble_eq_true rfl) (dki ?_)
    exact j_ireturn C E rfl dX4_rackTold_123 (Nat.le_of_ble_eq_true rfl) (Nat.le_of_ble_eq_true rfl) (⟨rfl, rfl⟩)
set_option maxRecDepth 100000 in
set_option maxHeartbeats 4000000 in
theorem kX4_rack (l : Launch) (D : va_G) (ct : Nat → ClassId) (sa : Nat → Nat) (a : Nat → Nat) (thr : Int32) (σ : St) (wr : va_W) (x y : Int32) (hi : Inv0 σ) : jM l yX4_rack (Cond.code yX4_rack cX4_rack 3 (Option.some Jvm.ClassFile.FieldType.int) :: GW) (rM 3 0 0 70) D ct sa [.ref (a 0), .int x, .int y] (WM ct a thr σ ++ wr) (fD ct a wr (f_rack σ x y)) 0 0 := by
  refine jMX.plain (jBody (own := RX4) (by decide) rfl rfl (Nat.le_of_ble_eq_true rfl) ?_)
  intro X C E T0
  refine j_lv (lv1 := [(0, .ref _), (1, .int _), (2, .int _)]) rfl ?_
  refine j_aload_n (i := 0) C dX4_rack_0 rfl 0 rfl ?_
  refine j_iconst (v := nI 0) C dX4_rack_1 (by decide) ?_
  refine j_put (Cn := RX4) (T := TX4) (N := 7) (ci := 5) (ws2 := WM ct a (nI 0) σ ++ wr) C iX4 tyX4 tyX4_ok nmX4 rfl (0) rfl 0 (by decide) gw677 rfl rfl rfl rfl rfl (Nat.le_of_ble_eq_true rfl) rfl dX4_rack_2 ?_
  refine j_iload_n (i := 1) C dX4_rack_5 rfl 1 rfl ?_
  refine j_callS (nargs := 1) (As := [_]) C gw766 gw767 gw49 (kX4_isRack l D ct sa _ _) gw768 (by decide +kernel) rfl dX4_rack_6 ⟨Nat.le_of_ble_eq_true rfl, Nat.le_of_ble_eq_true rfl⟩ ⟨Nat.le_of_ble_eq_true rfl, Nat.le_of_ble_eq_true rfl⟩ (Nat.le_of_ble_eq_true rfl) (dki ?_)
  refine j_if_eq C 30 dX4_rack_9 (by decide) (fun c9 => ?_) (fun c9 => ?_)
  · refine j_aload_n (i := 0) C dX4_rack_30 rfl 0 rfl ?_
    refine j_iconst (v := nI 1) C dX4_rack_31 (by decide) ?_
    refine j_callV (nargs := 1) (As := [_]) (Cn := RX4) C (0) rfl rfl rfl gw713 gw715 gw21 gw49 (kX4_fail l D ct sa _ _ _ _ _) gw716 (by decide +kernel) rfl dX4_rack_32 ⟨Nat.le_of_ble_eq_true rfl, Nat.le_of_ble_eq_true rfl⟩ ⟨Nat.le_of_ble_eq_true rfl, Nat.le_of_ble_eq_true rfl⟩ (Nat.le_of_ble_eq_true rfl) (dki ?_)
    exact j_ireturn C E rfl dX4_rack_35 (Nat.le_of_ble_eq_true rfl) (Nat.le_of_ble_eq_true rfl) (fK (by rw [f_rack]; first | exact if_pos ⟨b2i_t c9, hy⟩ | exact if_neg (fun z => absurd z.1 (b2i_f c9)) | exact if_neg (fun z => absurd ((in_ok (M := 5) (by decide)).mpr z.2) (b2i_f c18))))
  · refine j_iload_n (i := 2) C dX4_rack_12 rfl 2 rfl ?_
    refine j_iconst (v := nI 0) C dX4_rack_13 (by decide) ?_
    refine j_iconst (v := nI 5) C dX4_rack_14 (by decide) ?_
    refine j_callS (nargs := 3) (As := [_, _, _]) C gw710 gw711 gw49 (kX4_isIn l D ct sa _ _ _ _) gw712 (by decide +kernel) rfl dX4_rack_15 ⟨Nat.le_of_ble_eq_true rfl, Nat.le_of_ble_eq_true rfl⟩ ⟨Nat.le_of_ble_eq_true rfl, Nat.le_of_ble_eq_true rfl⟩ (Nat.le_of_ble_eq_true rfl) (dki ?_)
    refine j_if_eq C 30 dX4_rack_18 (by decide) (fun c18 => ?_) (fun c18 => ?_)
    · refine j_aload_n (i := 0) C dX4_rack_30 rfl 0 rfl ?_
      refine j_iconst (v := nI 1) C dX4_rack_31 (by decide) ?_
      refine j_callV (nargs := 1) (As := [_]) (Cn := RX4) C (0) rfl rfl rfl gw713 gw715 gw21 gw49 (kX4_fail l D ct sa _ _ _ _ _) gw716 (by decide +kernel) rfl dX4_rack_32 ⟨Nat.le_of_ble_eq_true rfl, Nat.le_of_ble_eq_true rfl⟩ ⟨Nat.le_of_ble_eq_true rfl, Nat.le_of_ble_eq_true rfl⟩ (Nat.le_of_ble_eq_true rfl) (dki ?_)
      exact j_ireturn C E rfl dX4_rack_35 (Nat.le_of_ble_eq_true rfl) (Nat.le_of_ble_eq_true rfl) (fK (by rw [f_rack]; first | exact if_pos ⟨b2i_t c9, hy⟩ | exact if_neg (fun z => absurd z.1 (b2i_f c9)) | exact if_neg (fun z => absurd ((in_ok (M := 5) (by decide)).mpr z.2) (b2i_f c18))))
    · obtain ⟨hj_x, e_x⟩ := okI_ix (b2i_t c9) (by omega)
      have hy := (in_ok (M := 5) (by decide)).mp (b2i_t c18)
      obtain ⟨hj_y, e_y⟩ := okI_ix (hy) (by omega)
      refine j_aload_n (i := 0) C dX4_rack_21 rfl 0 rfl ?_
      refine j_iload_n (i := 1) C dX4_rack_22 rfl 1 rfl ?_
      refine j_iload_n (i := 2) C dX4_rack_23 rfl 2 rfl ?_
      refine j_callV (nargs := 2) (As := [_, _]) (Cn := RX4) C (0) rfl rfl rfl gw813 gw815 gw33 gw49 (kX4_rackTold l D ct sa a (nI 0) σ wr _ _ (ix x) (ix y) hi.1 e_x e_y hj_x hj_y) gw816 (by decide +kernel) rfl dX4_rack_24 ⟨Nat.le_of_ble_eq_true rfl, Nat.le_of_ble_eq_true rfl⟩ ⟨Nat.le_of_ble_eq_true rfl, Nat.le_of_ble_eq_true rfl⟩ (Nat.le_of_ble_eq_true rfl) (dki ?_)
      refine j_goto C 35 dX4_rack_27 (by decide) ?_
      exact j_ireturn C E rfl dX4_rack_35 (Nat.le_of_ble_eq_true rfl) (Nat.le_of_ble_eq_true rfl) (fK (by rw [f_rack]; first | exact if_pos ⟨b2i_t c9, hy⟩ | exact if_neg (fun z => absurd z.1 (b2i_f c9)) | exact if_neg (fun z => absurd ((in_ok (M := 5) (by decide)).mpr z.2) (b2i_f c18))))
set_option maxRecDepth 100000 in
set_option maxHeartbeats 4000000 in
theorem kX4_counted (l : Launch) (D : va_G) (ct : Nat → ClassId) (sa : Nat → Nat) (a : Nat → Nat) (thr : Int32) (σ : St) (wr : va_W) (x : Int32) (v : Nat) (hn : sN σ ≤ 8) (hx : x = nI v) (hv : v < 7) : jM l yX4_counted (Cond.code yX4_counted cX4_counted 7 (Option.some Jvm.ClassFile.FieldType.int) :: GW) (rM 2 0 0 45) D ct sa [.ref (a 0), .int x] (WM ct a thr σ ++ wr) (dK (some (.int (cnd σ v))) (WM ct a thr σ ++ wr)) 0 0 := by
  refine jMX.plain (jBody (own := RX4) (by decide) rfl rfl (Nat.le_of_ble_eq_true rfl) ?_)
  intro X C E T0
  refine j_lv (lv1 := [(0, .ref _), (1, .int _)]) rfl ?_
  subst hx
  rcases (show v = 0 ∨ v = 1 ∨ v = 2 ∨ v = 3 ∨ v = 4 ∨ v = 5 ∨ v = 6 by omega) with rfl | rfl | rfl | rfl | rfl | rfl | rfl
  · refine j_iconst (v := nI 0) C dX4_counted_0 (by decide) ?_
    refine j_istore_n (lv' := [(2, .int _), (0, .ref _), (1, .int _)]) C dX4_counted_1 rfl (by decide) rfl ?_
    refine j_iload_n (i := 1) C dX4_counted_2 rfl 2 rfl ?_
    refine j_tsIn (tgt := 40) C dX4_counted_3 (by decide) (by decide) rfl (by decide) ?_
    refine j_aload_n (i := 0) C dX4_counted_40 rfl 1 rfl ?_
    refine j_get (Cn := RX4) (T := TX4) (N := 7) (ci := 5) C iX4 rfl (0) rfl 2 (by decide) gw679 rfl rfl dX4_counted_41 ?_
    exact j_ireturn C E rfl dX4_counted_44 (Nat.le_of_ble_eq_true rfl) (Nat.le_of_ble_eq_true rfl) (⟨rfl, rfl⟩)
  · refine j_iconst (v := nI 0) C dX4_counted_0 (by decide) ?_
    refine j_istore_n (lv' := [(2, .int _), (0, .ref _), (1, .int _)]) C dX4_counted_1 rfl (by decide) rfl ?_
    refine j_iload_n (i := 1) C dX4_counted_2 rfl 2 rfl ?_
    refine j_tsIn (tgt := 45) C dX4_counted_3 (by decide) (by decide) rfl (by decide) ?_
    refine j_aload_n (i := 0) C dX4_counted_45 rfl 1 rfl ?_
    refine j_get (Cn := RX4) (T := TX4) (N := 7) (ci := 5) C iX4 rfl (0) rfl 1 (by decide) gw678 rfl rfl dX4_counted_46 ?_
    exact j_ireturn C E rfl dX4_counted_49 (Nat.le_of_ble_eq_true rfl) (Nat.le_of_ble_eq_true rfl) (⟨rfl, rfl⟩)
  · refine j_iconst (v := nI 0) C dX4_counted_0 (by decide) ?_
    refine j_istore_n (lv' := [(2, .int _), (0, .ref _), (1, .int _)]) C dX4_counted_1 rfl (by decide) rfl ?_
    refine j_iload_n (i := 1) C dX4_counted_2 rfl 2 rfl ?_
    refine j_tsIn (tgt := 50) C dX4_counted_3 (by decide) (by decide) rfl (by decide) ?_
    refine j_iconst (v := nI 0) C dX4_counted_50 (by decide) ?_
    refine j_istore_n (lv' := [(3, .int _), (2, .int _), (0, .ref _), (1, .int _)]) C dX4_counted_51 rfl (by decide) rfl ?_
    have L52 : ∀ (d i : Nat) (x2 : Int32) (x3 : Int32), i + d = sN σ → x2 = sumF (fun i => sR σ (8 * i + 1)) i → x3 = nI i → J X (WM ct a thr σ ++ wr) (0) (0) 52 [(0, .ref (a 0)), (2, .int x2), (3, .int x3)] [] := by
      intro d
      induction d with
      | zero =>
        intro i x2 x3 hd e_x2 e_x3 
        subst e_x2
        subst e_x3
        have hi : i = sN σ := by omega
        rw [hi]
        refine j_iload_n (i := 3) C dX4_counted_52 rfl 2 rfl ?_
        refine j_aload_n (i := 0) C dX4_counted_53 rfl 0 rfl ?_
        refine j_get (Cn := RX4) (T := TX4) (N := 7) (ci := 5) C iX4 rfl (0) rfl 1 (by decide) gw678 rfl rfl dX4_counted_54 ?_
        refine j_icmp_ge C 75 dX4_counted_57 (by decide) (fun c57 => ?_) (fun c57 => by first | exact absurd c57 (by decide) | exact absurd c57 (nI_ge (by omega) (by omega)) | exact absurd (nI_le (by omega) (by omega)) c57 | exact absurd c57 (nI_nlt (by omega) (by omega)) | exact absurd (nI_lt (by omega) (by omega)) c57 | exact absurd c57 (nI_nle0 (by omega) (by omega)))
        refine j_iload_n (i := 2) C dX4_counted_75 rfl 1 rfl ?_
        exact j_ireturn C E rfl dX4_counted_76 (Nat.le_of_ble_eq_true rfl) (Nat.le_of_ble_eq_true rfl) (⟨rfl, rfl⟩)
      | succ d ih =>
        intro i x2 x3 hd e_x2 e_x3 
        subst e_x2
        subst e_x3
        refine j_iload_n (i := 3) C dX4_counted_52 rfl 2 rfl ?_
        refine j_aload_n (i := 0) C dX4_counted_53 rfl 0 rfl ?_
        refine j_get (Cn := RX4) (T := TX4) (N := 7) (ci := 5) C iX4 rfl (0) rfl 1 (by decide) gw678 rfl rfl dX4_counted_54 ?_
        refine j_icmp_ge C 75 dX4_counted_57 (by decide) (fun c57 => by first | exact absurd c57 (by decide) | exact absurd c57 (nI_ge (by omega) (by omega)) | exact absurd (nI_le (by omega) (by omega)) c57 | exact absurd c57 (nI_nlt (by omega) (by omega)) | exact absurd (nI_lt (by omega) (by omega)) c57 | exact absurd c57 (nI_nle0 (by omega) (by omega))) (fun c57 => ?_)
        refine j_iload_n (i := 2) C dX4_counted_60 rfl 1 rfl ?_
        refine j_aload_n (i := 0) C dX4_counted_61 rfl 0 rfl ?_
        refine j_iload_n (i := 3) C dX4_counted_62 rfl 2 rfl ?_
        refine j_iconst (v := nI 1) C dX4_counted_63 (by decide) ?_
        refine j_callV (nargs := 2) (As := [_, _]) (Cn := RX4) C (0) rfl rfl rfl gw729 gw731 gw24 gw49 (kX4_lo l D ct sa a thr σ wr _ _ i 1 rfl rfl (by omega) (by decide)) gw732 (by decide +kernel) rfl dX4_counted_64 ⟨Nat.le_of_ble_eq_true rfl, Nat.le_of_ble_eq_true rfl⟩ ⟨Nat.le_of_ble_eq_true rfl, Nat.le_of_ble_eq_true rfl⟩ (Nat.le_of_ble_eq_true rfl) (dki ?_)
        refine j_iadd C dX4_counted_67 ?_
        refine j_istore_n (lv' := [(2, .int _), (0, .ref _), (3, .int _)]) C dX4_counted_68 rfl (by decide) rfl ?_
        refine j_iinc (z := 2) (lv' := [(3, .int _), (2, .int _), (0, .ref _)]) C dX4_counted_69 rfl rfl (by decide) rfl ?_
        refine j_goto C 52 dX4_counted_72 (by decide) ?_
        exact j_lvs [2, 1, 0] rfl (ih (i + 1) _ _ (by omega) (rfl) (nI_1 i))
    exact j_lvs [2, 1, 0] rfl (L52 (sN σ) (0) _ _ (by omega) (rfl) (rfl))
  · refine j_iconst (v := nI 0) C dX4_counted_0 (by decide) ?_
    refine j_istore_n (lv' := [(2, .int _), (0, .ref _), (1, .int _)]) C dX4_counted_1 rfl (by decide) rfl ?_
    refine j_iload_n (i := 1) C dX4_counted_2 rfl 2 rfl ?_
    refine j_tsIn (tgt := 77) C dX4_counted_3 (by decide) (by decide) rfl (by decide) ?_
    refine j_iconst (v := nI 0) C dX4_counted_77 (by decide) ?_
    refine j_istore_n (lv' := [(3, .int _), (2, .int _), (0, .ref _), (1, .int _)]) C dX4_counted_78 rfl (by decide) rfl ?_
    have L79 : ∀ (d i : Nat) (x2 : Int32) (x3 : Int32), i + d = sN σ → x2 = sumF (fun i => sR σ (8 * i + 3)) i → x3 = nI i → J X (WM ct a thr σ ++ wr) (0) (0) 79 [(0, .ref (a 0)), (2, .int x2), (3, .int x3)] [] := by
      intro d
      induction d with
      | zero =>
        intro i x2 x3 hd e_x2 e_x3 
        subst e_x2
        subst e_x3
        have hi : i = sN σ := by omega
        rw [hi]
        refine j_iload_n (i := 3) C dX4_counted_79 rfl 2 rfl ?_
        refine j_aload_n (i := 0) C dX4_counted_80 rfl 0 rfl ?_
        refine j_get (Cn := RX4) (T := TX4) (N := 7) (ci := 5) C iX4 rfl (0) rfl 1 (by decide) gw678 rfl rfl dX4_counted_81 ?_
        refine j_icmp_ge C 102 dX4_counted_84 (by decide) (fun c84 => ?_) (fun c84 => by first | exact absurd c84 (by decide) | exact absurd c84 (nI_ge (by omega) (by omega)) | exact absurd (nI_le (by omega) (by omega)) c84 | exact absurd c84 (nI_nlt (by omega) (by omega)) | exact absurd (nI_lt (by omega) (by omega)) c84 | exact absurd c84 (nI_nle0 (by omega) (by omega)))
        refine j_iload_n (i := 2) C dX4_counted_102 rfl 1 rfl ?_
        exact j_ireturn C E rfl dX4_counted_103 (Nat.le_of_ble_eq_true rfl) (Nat.le_of_ble_eq_true rfl) (⟨rfl, rfl⟩)
      | succ d ih =>
        intro i x2 x3 hd e_x2 e_x3 
        subst e_x2
        subst e_x3
        refine j_iload_n (i := 3) C dX4_counted_79 rfl 2 rfl ?_
        refine j_aload_n (i := 0) C dX4_counted_80 rfl 0 rfl ?_
        refine j_get (Cn := RX4) (T := TX4) (N := 7) (ci := 5) C iX4 rfl (0) rfl 1 (by decide) gw678 rfl rfl dX4_counted_81 ?_
        refine j_icmp_ge C 102 dX4_counted_84 (by decide) (fun c84 => by first | exact absurd c84 (by decide) | exact absurd c84 (nI_ge (by omega) (by omega)) | exact absurd (nI_le (by omega) (by omega)) c84 | exact absurd c84 (nI_nlt (by omega) (by omega)) | exact absurd (nI_lt (by omega) (by omega)) c84 | exact absurd c84 (nI_nle0 (by omega) (by omega))) (fun c84 => ?_)
        refine j_iload_n (i := 2) C dX4_counted_87 rfl 1 rfl ?_
        refine j_aload_n (i := 0) C dX4_counted_88 rfl 0 rfl ?_
        refine j_iload_n (i := 3) C dX4_counted_89 rfl 2 rfl ?_
        refine j_iconst (v := nI 3) C dX4_counted_90 (by decide) ?_
        refine j_callV (nargs := 2) (As := [_, _]) (Cn := RX4) C (0) rfl rfl rfl gw729 gw731 gw24 gw49 (kX4_lo l D ct sa a thr σ wr _ _ i 3 rfl rfl (by omega) (by decide)) gw732 (by decide +kernel) rfl dX4_counted_91 ⟨Nat.le_of_ble_eq_true rfl, Nat.le_of_ble_eq_true rfl⟩ ⟨Nat.le_of_ble_eq_true rfl, Nat.le_of_ble_eq_true rfl⟩ (Nat.le_of_ble_eq_true rfl) (dki ?_)
        refine j_iadd C dX4_counted_94 ?_
        refine j_istore_n (lv' := [(2, .int _), (0, .ref _), (3, .int _)]) C dX4_counted_95 rfl (by decide) rfl ?_
        refine j_iinc (z := 2) (lv' := [(3, .int _), (2, .int _), (0, .ref _)]) C dX4_counted_96 rfl rfl (by decide) rfl ?_
        refine j_goto C 79 dX4_counted_99 (by decide) ?_
        exact j_lvs [2, 1, 0] rfl (ih (i + 1) _ _ (by omega) (rfl) (nI_1 i))
    exact j_lvs [2, 1, 0] rfl (L79 (sN σ) (0) _ _ (by omega) (rfl) (rfl))
  · refine j_iconst (v := nI 0) C dX4_counted_0 (by decide) ?_
    refine j_istore_n (lv' := [(2, .int _), (0, .ref _), (1, .int _)]) C dX4_counted_1 rfl (by decide) rfl ?_
    refine j_iload_n (i := 1) C dX4_counted_2 rfl 2 rfl ?_
    refine j_tsIn (tgt := 104) C dX4_counted_3 (by decide) (by decide) rfl (by decide) ?_
    refine j_aload_n (i := 0) C dX4_counted_104 rfl 1 rfl ?_
    refine j_get (Cn := RX4) (T := TX4) (N := 7) (ci := 5) C iX4 rfl (0) rfl 5 (by decide) gw682 rfl rfl dX4_counted_105 ?_
    refine j_astore_n (lv' := [(3, .ref _), (2, .int _), (0, .ref _), (1, .int _)]) C dX4_counted_108 rfl (by decide) rfl ?_
    refine j_aload_n (i := 3) C dX4_counted_109 rfl 0 rfl ?_
    refine j_alen C (2) 0 rfl rfl rfl dX4_counted_110 ?_
    refine j_istore (lv' := [(4, .int _), (3, .ref _), (2, .int _), (0, .ref _), (1, .int _)]) C dX4_counted_111 (by decide) rfl ?_
    refine j_iconst (v := nI 0) C dX4_counted_113 (by decide) ?_
    refine j_istore (lv' := [(5, .int _), (4, .int _), (3, .ref _), (2, .int _), (0, .ref _), (1, .int _)]) C dX4_counted_114 (by decide) rfl ?_
    have L116 : ∀ (d i : Nat) (x2 : Int32) (x5 : Int32), i + d = 192 → x2 = sumF (sW σ) i → x5 = nI i → J X (WM ct a thr σ ++ wr) (0) (0) 116 [(2, .int x2), (3, .ref (a 2)), (4, .int (nI 192)), (5, .int x5)] [] := by
      intro d
      induction d with
      | zero =>
        intro i x2 x5 hd e_x2 e_x5 
        subst e_x2
        subst e_x5
        have hi : i = 192 := by omega
        subst hi
        refine j_iload C dX4_counted_116 3 rfl ?_
        refine j_iload C dX4_counted_118 2 rfl ?_
        refine j_icmp_ge C 140 dX4_counted_120 (by decide) (fun c120 => ?_) (fun c120 => by first | exact absurd c120 (by decide) | exact absurd c120 (nI_ge (by omega) (by omega)) | exact absurd (nI_le (by omega) (by omega)) c120 | exact absurd c120 (nI_nlt (by omega) (by omega)) | exact absurd (nI_lt (by omega) (by omega)) c120 | exact absurd c120 (nI_nle0 (by omega) (by omega)))
        refine j_iload_n (i := 2) C dX4_counted_140 rfl 0 rfl ?_
        exact j_ireturn C E rfl dX4_counted_141 (Nat.le_of_ble_eq_true rfl) (Nat.le_of_ble_eq_true rfl) (⟨rfl, rfl⟩)
      | succ d ih =>
        intro i x2 x5 hd e_x2 e_x5 
        subst e_x2
        subst e_x5
        refine j_iload C dX4_counted_116 3 rfl ?_
        refine j_iload C dX4_counted_118 2 rfl ?_
        refine j_icmp_ge C 140 dX4_counted_120 (by decide) (fun c120 => by first | exact absurd c120 (by decide) | exact absurd c120 (nI_ge (by omega) (by omega)) | exact absurd (nI_le (by omega) (by omega)) c120 | exact absurd c120 (nI_nlt (by omega) (by omega)) | exact absurd (nI_lt (by omega) (by omega)) c120 | exact absurd c120 (nI_nle0 (by omega) (by omega))) (fun c120 => ?_)
        refine j_aload_n (i := 3) C dX4_counted_123 rfl 1 rfl ?_
        refine j_iload C dX4_counted_124 3 rfl ?_
        refine j_iald C (2) rfl (i) rfl (by omega) (by decide) dX4_counted_126 ?_
        refine j_istore (lv' := [(6, .int _), (2, .int _), (3, .ref _), (4, .int _), (5, .int _)]) C dX4_counted_127 (by decide) rfl ?_
        refine j_iload_n (i := 2) C dX4_counted_129 rfl 1 rfl ?_
        refine j_iload C dX4_counted_130 0 rfl ?_
        refine j_iadd C dX4_counted_132 ?_
        refine j_istore_n (lv' := [(2, .int _), (6, .int _), (3, .ref _), (4, .int _), (5, .int _)]) C dX4_counted_133 rfl (by decide) rfl ?_
        refine j_iinc (z := 4) (lv' := [(5, .int _), (2, .int _), (6, .int _), (3, .ref _), (4, .int _)]) C dX4_counted_134 rfl rfl (by decide) rfl ?_
        refine j_goto C 116 dX4_counted_137 (by decide) ?_
        exact j_lvs [1, 3, 4, 0] rfl (ih (i + 1) _ _ (by omega) (rfl) (nI_1 i))
    exact j_lvs [3, 2, 1, 0] rfl (L116 (192) (0) _ _ (by omega) (rfl) (rfl))
  · refine j_iconst (v := nI 0) C dX4_counted_0 (by decide) ?_
    refine j_istore_n (lv' := [(2, .int _), (0, .ref _), (1, .int _)]) C dX4_counted_1 rfl (by decide) rfl ?_
    refine j_iload_n (i := 1) C dX4_counted_2 rfl 2 rfl ?_
    refine j_tsIn (tgt := 142) C dX4_counted_3 (by decide) (by decide) rfl (by decide) ?_
    refine j_aload_n (i := 0) C dX4_counted_142 rfl 1 rfl ?_
    refine j_get (Cn := RX4) (T := TX4) (N := 7) (ci := 5) C iX4 rfl (0) rfl 3 (by decide) gw680 rfl rfl dX4_counted_143 ?_
    exact j_ireturn C E rfl dX4_counted_146 (Nat.le_of_ble_eq_true rfl) (Nat.le_of_ble_eq_true rfl) (⟨rfl, rfl⟩)
  · refine j_iconst (v := nI 0) C dX4_counted_0 (by decide) ?_
    refine j_istore_n (lv' := [(2, .int _), (0, .ref _), (1, .int _)]) C dX4_counted_1 rfl (by decide) rfl ?_
    refine j_iload_n (i := 1) C dX4_counted_2 rfl 2 rfl ?_
    refine j_tsOut (tgt := 147) C dX4_counted_3 (Or.inr (by decide)) (by decide) ?_
    refine j_aload_n (i := 0) C dX4_counted_147 rfl 1 rfl ?_
    refine j_iconst (v := nI 0) C dX4_counted_148 (by decide) ?_
    refine j_callV (nargs := 1) (As := [_]) (Cn := RX4) C (0) rfl rfl rfl gw769 gw771 gw27 gw49 (kX4_in l D ct sa _ _ _ _ _ hn) gw772 (by decide +kernel) rfl dX4_counted_149 ⟨Nat.le_of_ble_eq_true rfl, Nat.le_of_ble_eq_true rfl⟩ ⟨Nat.le_of_ble_eq_true rfl, Nat.le_of_ble_eq_true rfl⟩ (Nat.le_of_ble_eq_true rfl) (dki ?_)
    refine j_aload_n (i := 0) C dX4_counted_152 rfl 1 rfl ?_
    refine j_iconst (v := nI 1) C dX4_counted_153 (by decide) ?_
    refine j_callV (nargs := 1) (As := [_]) (Cn := RX4) C (0) rfl rfl rfl gw769 gw771 gw27 gw49 (kX4_in l D ct sa _ _ _ _ _ hn) gw772 (by decide +kernel) rfl dX4_counted_154 ⟨Nat.le_of_ble_eq_true rfl, Nat.le_of_ble_eq_true rfl⟩ ⟨Nat.le_of_ble_eq_true rfl, Nat.le_of_ble_eq_true rfl⟩ (Nat.le_of_ble_eq_true rfl) (dki ?_)
    refine j_iadd C dX4_counted_157 ?_
    refine j_aload_n (i := 0) C dX4_counted_158 rfl 1 rfl ?_
    refine j_iconst (v := nI 2) C dX4_counted_159 (by decide) ?_
    refine j_callV (nargs := 1) (As := [_]) (Cn := RX4) C (0) rfl rfl rfl gw769 gw771 gw27 gw49 (kX4_in l D ct sa _ _ _ _ _ hn) gw772 (by decide +kernel) rfl dX4_counted_160 ⟨Nat.le_of_ble_eq_true rfl, Nat.le_of_ble_eq_true rfl⟩ ⟨Nat.le_of_ble_eq_true rfl, Nat.le_of_ble_eq_true rfl⟩ (Nat.le_of_ble_eq_true rfl) (dki ?_)
    refine j_iadd C dX4_counted_163 ?_
    exact j_ireturn C E rfl dX4_counted_164 (Nat.le_of_ble_eq_true rfl) (Nat.le_of_ble_eq_true rfl) (⟨rfl, rfl⟩)
set_option maxRecDepth 100000 in
set_option maxHeartbeats 4000000 in
theorem kX4_count (l : Launch) (D : va_G) (ct : Nat → ClassId) (sa : Nat → Nat) (a : Nat → Nat) (thr : Int32) (σ : St) (wr : va_W) (x : Int32) (hi : Inv0 σ) : jM l yX4_count (Cond.code yX4_count cX4_count 2 (Option.some Jvm.ClassFile.FieldType.int) :: GW) (rM 3 0 0 71) D ct sa [.ref (a 0), .int x] (WM ct a thr σ ++ wr) (fD ct a wr (f_count σ x)) 0 0 := by
  refine jMX.plain (jBody (own := RX4) (by decide) rfl rfl (Nat.le_of_ble_eq_true rfl) ?_)
  intro X C E T0
  refine j_lv (lv1 := [(0, .ref _), (1, .int _)]) rfl ?_
  refine j_aload_n (i := 0) C dX4_count_0 rfl 0 rfl ?_
  refine j_iconst (v := nI 0) C dX4_count_1 (by decide) ?_
  refine j_put (Cn := RX4) (T := TX4) (N := 7) (ci := 5) (ws2 := WM ct a (nI 0) σ ++ wr) C iX4 tyX4 tyX4_ok nmX4 rfl (0) rfl 0 (by decide) gw677 rfl rfl rfl rfl rfl (Nat.le_of_ble_eq_true rfl) rfl dX4_count_2 ?_
  refine j_iload_n (i := 1) C dX4_count_5 rfl 1 rfl ?_
  refine j_iconst (v := nI 0) C dX4_count_6 (by decide) ?_
  refine j_bipush (v := nI 6) C dX4_count_7 (by decide) ?_
  refine j_callS (nargs := 3) (As := [_, _, _]) C gw710 gw711 gw49 (kX4_isIn l D ct sa _ _ _ _) gw712 (by decide +kernel) rfl dX4_count_9 ⟨Nat.le_of_ble_eq_true rfl, Nat.le_of_ble_eq_true rfl⟩ ⟨Nat.le_of_ble_eq_true rfl, Nat.le_of_ble_eq_true rfl⟩ (Nat.le_of_ble_eq_true rfl) (dki ?_)
  refine j_if_eq C 23 dX4_count_12 (by decide) (fun c12 => ?_) (fun c12 => ?_)
  · refine j_aload_n (i := 0) C dX4_count_23 rfl 0 rfl ?_
    refine j_iconst (v := nI 1) C dX4_count_24 (by decide) ?_
    refine j_callV (nargs := 1) (As := [_]) (Cn := RX4) C (0) rfl rfl rfl gw713 gw715 gw21 gw49 (kX4_fail l D ct sa _ _ _ _ _) gw716 (by decide +kernel) rfl dX4_count_25 ⟨Nat.le_of_ble_eq_true rfl, Nat.le_of_ble_eq_true rfl⟩ ⟨Nat.le_of_ble_eq_true rfl, Nat.le_of_ble_eq_true rfl⟩ (Nat.le_of_ble_eq_true rfl) (dki ?_)
    exact j_ireturn C E rfl dX4_count_28 (Nat.le_of_ble_eq_true rfl) (Nat.le_of_ble_eq_true rfl) (fK (by rw [f_count]; first | exact if_pos hx | exact if_neg (fun z => absurd ((in_ok (M := 6) (by decide)).mpr z) (b2i_f c12))))
  · have hx := (in_ok (M := 6) (by decide)).mp (b2i_t c12)
    obtain ⟨hj_x, e_x⟩ := okI_ix (hx) (by omega)
    refine j_aload_n (i := 0) C dX4_count_15 rfl 0 rfl ?_
    refine j_iload_n (i := 1) C dX4_count_16 rfl 1 rfl ?_
    refine j_callV (nargs := 1) (As := [_]) (Cn := RX4) C (0) rfl rfl rfl gw821 gw823 gw34 gw49 (kX4_counted l D ct sa a (nI 0) σ wr _ (ix x) hi.1 e_x hj_x) gw824 (by decide +kernel) rfl dX4_count_17 ⟨Nat.le_of_ble_eq_true rfl, Nat.le_of_ble_eq_true rfl⟩ ⟨Nat.le_of_ble_eq_true rfl, Nat.le_of_ble_eq_true rfl⟩ (Nat.le_of_ble_eq_true rfl) (dki ?_)
    refine j_goto C 28 dX4_count_20 (by decide) ?_
    exact j_ireturn C E rfl dX4_count_28 (Nat.le_of_ble_eq_true rfl) (Nat.le_of_ble_eq_true rfl) (fK (by rw [f_count]; first | exact if_pos hx | exact if_neg (fun z => absurd ((in_ok (M := 6) (by decide)).mpr z) (b2i_f c12))))
set_option maxRecDepth 100000 in
set_option maxHeartbeats 4000000 in
theorem kX4_between (l : Launch) (D : va_G) (ct : Nat → ClassId) (sa : Nat → Nat) (ws : va_W) (x y : Int32) : jM l yX4_between (Cond.code yX4_between cX4_between 4 (Option.some Jvm.ClassFile.FieldType.int) :: GW) (rM 2 0 0 39) D ct sa [.int x, .int y] (ws) (dK (some (.int (betF x y))) ws) 0 0 := by
  refine jMX.plain (jBody (own := RX4) (by decide) rfl rfl (Nat.le_of_ble_eq_true rfl) ?_)
  intro X C E T0
  refine j_lv (lv1 := [(0, .int _), (1, .int _)]) rfl ?_
  refine j_iconst (v := nI 0) C dX4_between_0 (by decide) ?_
  refine j_istore_n (lv' := [(2, .int _), (0, .int _), (1, .int _)]) C dX4_between_1 rfl (by decide) rfl ?_
  refine j_iconst (v := nI 0) C dX4_between_2 (by decide) ?_
  refine j_istore_n (lv' := [(3, .int _), (2, .int _), (0, .int _), (1, .int _)]) C dX4_between_3 rfl (by decide) rfl ?_
  have L4 : ∀ (d i : Nat) (x2 : Int32) (x3 : Int32), i + d = 4 → x2 = sumF (fun r => farF (ltF x r) (ltF y r)) i → x3 = nI i → J X (ws) (0) (0) 4 [(0, .int x), (1, .int y), (2, .int x2), (3, .int x3)] [] := by
    intro d
    induction d with
    | zero =>
      intro i x2 x3 hd e_x2 e_x3 
      subst e_x2
      subst e_x3
      have hi : i = 4 := by omega
      subst hi
      refine j_iload_n (i := 3) C dX4_between_4 rfl 3 rfl ?_
      refine j_iconst (v := nI 4) C dX4_between_5 (by decide) ?_
      refine j_icmp_ge C 31 dX4_between_6 (by decide) (fun c6 => ?_) (fun c6 => by first | exact absurd c6 (by decide) | exact absurd c6 (nI_ge (by omega) (by omega)) | exact absurd (nI_le (by omega) (by omega)) c6 | exact absurd c6 (nI_nlt (by omega) (by omega)) | exact absurd (nI_lt (by omega) (by omega)) c6 | exact absurd c6 (nI_nle0 (by omega) (by omega)))
      refine j_iload_n (i := 2) C dX4_between_31 rfl 2 rfl ?_
      exact j_ireturn C E rfl dX4_between_32 (Nat.le_of_ble_eq_true rfl) (Nat.le_of_ble_eq_true rfl) (⟨rfl, rfl⟩)
    | succ d ih =>
      intro i x2 x3 hd e_x2 e_x3 
      subst e_x2
      subst e_x3
      refine j_iload_n (i := 3) C dX4_between_4 rfl 3 rfl ?_
      refine j_iconst (v := nI 4) C dX4_between_5 (by decide) ?_
      refine j_icmp_ge C 31 dX4_between_6 (by decide) (fun c6 => by first | exact absurd c6 (by decide) | exact absurd c6 (nI_ge (by omega) (by omega)) | exact absurd (nI_le (by omega) (by omega)) c6 | exact absurd c6 (nI_nlt (by omega) (by omega)) | exact absurd (nI_lt (by omega) (by omega)) c6 | exact absurd c6 (nI_nle0 (by omega) (by omega))) (fun c6 => ?_)
      refine j_iload_n (i := 2) C dX4_between_9 rfl 2 rfl ?_
      refine j_iload_n (i := 0) C dX4_between_10 rfl 0 rfl ?_
      refine j_iload_n (i := 3) C dX4_between_11 rfl 3 rfl ?_
      refine j_callS (nargs := 2) (As := [_, _]) C gw832 gw833 gw49 (kX4_letter l D ct sa _ _ _ i rfl (by omega)) gw834 (by decide +kernel) rfl dX4_between_12 ⟨Nat.le_of_ble_eq_true rfl, Nat.le_of_ble_eq_true rfl⟩ ⟨Nat.le_of_ble_eq_true rfl, Nat.le_of_ble_eq_true rfl⟩ (Nat.le_of_ble_eq_true rfl) (dki ?_)
      refine j_iload_n (i := 1) C dX4_between_15 rfl 1 rfl ?_
      refine j_iload_n (i := 3) C dX4_between_16 rfl 3 rfl ?_
      refine j_callS (nargs := 2) (As := [_, _]) C gw832 gw833 gw49 (kX4_letter l D ct sa _ _ _ i rfl (by omega)) gw834 (by decide +kernel) rfl dX4_between_17 ⟨Nat.le_of_ble_eq_true rfl, Nat.le_of_ble_eq_true rfl⟩ ⟨Nat.le_of_ble_eq_true rfl, Nat.le_of_ble_eq_true rfl⟩ (Nat.le_of_ble_eq_true rfl) (dki ?_)
      refine j_callS (nargs := 2) (As := [_, _]) C gw733 gw734 gw49 (kX4_far l D ct sa _ _ _) gw735 (by decide +kernel) rfl dX4_between_20 ⟨Nat.le_of_ble_eq_true rfl, Nat.le_of_ble_eq_true rfl⟩ ⟨Nat.le_of_ble_eq_true rfl, Nat.le_of_ble_eq_true rfl⟩ (Nat.le_of_ble_eq_true rfl) (dki ?_)
      refine j_iadd C dX4_between_23 ?_
      refine j_istore_n (lv' := [(2, .int _), (0, .int _), (1, .int _), (3, .int _)]) C dX4_between_24 rfl (by decide) rfl ?_
      refine j_iinc (z := 3) (lv' := [(3, .int _), (2, .int _), (0, .int _), (1, .int _)]) C dX4_between_25 rfl rfl (by decide) rfl ?_
      refine j_goto C 4 dX4_between_28 (by decide) ?_
      exact j_lvs [2, 3, 1, 0] rfl (ih (i + 1) _ _ (by omega) (rfl) (nI_1 i))
  exact j_lvs [2, 3, 1, 0] rfl (L4 (4) (0) _ _ (by omega) (rfl) (rfl))
set_option maxRecDepth 100000 in
set_option maxHeartbeats 4000000 in
theorem kX4_apart (l : Launch) (D : va_G) (ct : Nat → ClassId) (sa : Nat → Nat) (a : Nat → Nat) (thr : Int32) (σ : St) (wr : va_W) (x y : Int32) (hi : Inv0 σ) : jM l yX4_apart (Cond.code yX4_apart cX4_apart 3 (Option.some Jvm.ClassFile.FieldType.int) :: GW) (rM 3 0 0 62) D ct sa [.ref (a 0), .int x, .int y] (WM ct a thr σ ++ wr) (fD ct a wr (f_apart σ x y)) 0 0 := by
  refine jMX.plain (jBody (own := RX4) (by decide) rfl rfl (Nat.le_of_ble_eq_true rfl) ?_)
  intro X C E T0
  refine j_lv (lv1 := [(0, .ref _), (1, .int _), (2, .int _)]) rfl ?_
  refine j_aload_n (i := 0) C dX4_apart_0 rfl 0 rfl ?_
  refine j_iconst (v := nI 0) C dX4_apart_1 (by decide) ?_
  refine j_put (Cn := RX4) (T := TX4) (N := 7) (ci := 5) (ws2 := WM ct a (nI 0) σ ++ wr) C iX4 tyX4 tyX4_ok nmX4 rfl (0) rfl 0 (by decide) gw677 rfl rfl rfl rfl rfl (Nat.le_of_ble_eq_true rfl) rfl dX4_apart_2 ?_
  refine j_iload_n (i := 1) C dX4_apart_5 rfl 1 rfl ?_
  refine j_callS (nargs := 1) (As := [_]) C gw707 gw708 gw49 (kX4_isWord l D ct sa _ _) gw709 (by decide +kernel) rfl dX4_apart_6 ⟨Nat.le_of_ble_eq_true rfl, Nat.le_of_ble_eq_true rfl⟩ ⟨Nat.le_of_ble_eq_true rfl, Nat.le_of_ble_eq_true rfl⟩ (Nat.le_of_ble_eq_true rfl) (dki ?_)
  refine j_if_eq C 27 dX4_apart_9 (by decide) (fun c9 => ?_) (fun c9 => ?_)
  · refine j_aload_n (i := 0) C dX4_apart_27 rfl 0 rfl ?_
    refine j_iconst (v := nI 1) C dX4_apart_28 (by decide) ?_
    refine j_callV (nargs := 1) (As := [_]) (Cn := RX4) C (0) rfl rfl rfl gw713 gw715 gw21 gw49 (kX4_fail l D ct sa _ _ _ _ _) gw716 (by decide +kernel) rfl dX4_apart_29 ⟨Nat.le_of_ble_eq_true rfl, Nat.le_of_ble_eq_true rfl⟩ ⟨Nat.le_of_ble_eq_true rfl, Nat.le_of_ble_eq_true rfl⟩ (Nat.le_of_ble_eq_true rfl) (dki ?_)
    exact j_ireturn C E rfl dX4_apart_32 (Nat.le_of_ble_eq_true rfl) (Nat.le_of_ble_eq_true rfl) (fK (by rw [f_apart]; first | exact if_pos ⟨b2i_t c9, b2i_t c16⟩ | exact if_neg (fun z => absurd z.1 (b2i_f c9)) | exact if_neg (fun z => absurd z.2 (b2i_f c16))))
  · refine j_iload_n (i := 2) C dX4_apart_12 rfl 2 rfl ?_
    refine j_callS (nargs := 1) (As := [_]) C gw707 gw708 gw49 (kX4_isWord l D ct sa _ _) gw709 (by decide +kernel) rfl dX4_apart_13 ⟨Nat.le_of_ble_eq_true rfl, Nat.le_of_ble_eq_true rfl⟩ ⟨Nat.le_of_ble_eq_true rfl, Nat.le_of_ble_eq_true rfl⟩ (Nat.le_of_ble_eq_true rfl) (dki ?_)
    refine j_if_eq C 27 dX4_apart_16 (by decide) (fun c16 => ?_) (fun c16 => ?_)
    · refine j_aload_n (i := 0) C dX4_apart_27 rfl 0 rfl ?_
      refine j_iconst (v := nI 1) C dX4_apart_28 (by decide) ?_
      refine j_callV (nargs := 1) (As := [_]) (Cn := RX4) C (0) rfl rfl rfl gw713 gw715 gw21 gw49 (kX4_fail l D ct sa _ _ _ _ _) gw716 (by decide +kernel) rfl dX4_apart_29 ⟨Nat.le_of_ble_eq_true rfl, Nat.le_of_ble_eq_true rfl⟩ ⟨Nat.le_of_ble_eq_true rfl, Nat.le_of_ble_eq_true rfl⟩ (Nat.le_of_ble_eq_true rfl) (dki ?_)
      exact j_ireturn C E rfl dX4_apart_32 (Nat.le_of_ble_eq_true rfl) (Nat.le_of_ble_eq_true rfl) (fK (by rw [f_apart]; first | exact if_pos ⟨b2i_t c9, b2i_t c16⟩ | exact if_neg (fun z => absurd z.1 (b2i_f c9)) | exact if_neg (fun z => absurd z.2 (b2i_f c16))))
    · refine j_iload_n (i := 1) C dX4_apart_19 rfl 1 rfl ?_
      refine j_iload_n (i := 2) C dX4_apart_20 rfl 2 rfl ?_
      refine j_callS (nargs := 2) (As := [_, _]) C gw829 gw830 gw49 (kX4_between l D ct sa _ _ _) gw831 (by decide +kernel) rfl dX4_apart_21 ⟨Nat.le_of_ble_eq_true rfl, Nat.le_of_ble_eq_true rfl⟩ ⟨Nat.le_of_ble_eq_true rfl, Nat.le_of_ble_eq_true rfl⟩ (Nat.le_of_ble_eq_true rfl) (dki ?_)
      refine j_goto C 32 dX4_apart_24 (by decide) ?_
      exact j_ireturn C E rfl dX4_apart_32 (Nat.le_of_ble_eq_true rfl) (Nat.le_of_ble_eq_true rfl) (fK (by rw [f_apart]; first | exact if_pos ⟨b2i_t c9, b2i_t c16⟩ | exact if_neg (fun z => absurd z.1 (b2i_f c9)) | exact if_neg (fun z => absurd z.2 (b2i_f c16))))
