set_option maxRecDepth 100000 in
set_option maxHeartbeats 4000000 in
theorem kX3_isRing (l : Launch) (D : va_G) (ct : Nat → ClassId) (sa : Nat → Nat) (ws : va_W) (x : Int32) : jM l yX3_isRing (Cond.code yX3_isRing cX3_isRing 1 (Option.some Jvm.ClassFile.FieldType.boolean) :: GW) (rM 0 0 0 0) D ct sa [.int x] (ws) (dK (some (.int (b2i (okI 4 x)))) ws) 0 0 := by
  refine jMX.plain (jBody (own := RX3) (by decide) rfl rfl (Nat.le_of_ble_eq_true rfl) ?_)
  intro X C E T0
  refine j_lv (lv1 := [(0, .int _)]) rfl ?_
  refine j_iload_n (i := 0) C dX3_isRing_0 rfl 0 rfl ?_
  refine j_if_lt C 13 dX3_isRing_1 (by decide) (fun c1 => ?_) (fun c1 => ?_)
  · refine j_iconst (v := nI 0) C dX3_isRing_13 (by decide) ?_
    exact j_ireturn C E (by first | exact nr_b | rfl) dX3_isRing_14 (Nat.le_of_ble_eq_true rfl) (Nat.le_of_ble_eq_true rfl) (⟨congrArg (fun z => some (Value.int z)) (by first | exact (b2i_y ⟨ile_of c1, ilt_of c6⟩).symm | (refine Eq.symm (b2i_n ?_); rintro ⟨h1, h2⟩; first | exact inlt h1 c1 | exact inle h2 c6)), rfl⟩)
  · refine j_iload_n (i := 0) C dX3_isRing_4 rfl 0 rfl ?_
    refine j_iconst (v := nI 4) C dX3_isRing_5 (by decide) ?_
    refine j_icmp_ge C 13 dX3_isRing_6 (by decide) (fun c6 => ?_) (fun c6 => ?_)
    · refine j_iconst (v := nI 0) C dX3_isRing_13 (by decide) ?_
      exact j_ireturn C E (by first | exact nr_b | rfl) dX3_isRing_14 (Nat.le_of_ble_eq_true rfl) (Nat.le_of_ble_eq_true rfl) (⟨congrArg (fun z => some (Value.int z)) (by first | exact (b2i_y ⟨ile_of c1, ilt_of c6⟩).symm | (refine Eq.symm (b2i_n ?_); rintro ⟨h1, h2⟩; first | exact inlt h1 c1 | exact inle h2 c6)), rfl⟩)
    · refine j_iconst (v := nI 1) C dX3_isRing_9 (by decide) ?_
      refine j_goto C 14 dX3_isRing_10 (by decide) ?_
      exact j_ireturn C E (by first | exact nr_b | rfl) dX3_isRing_14 (Nat.le_of_ble_eq_true rfl) (Nat.le_of_ble_eq_true rfl) (⟨congrArg (fun z => some (Value.int z)) (by first | exact (b2i_y ⟨ile_of c1, ilt_of c6⟩).symm | (refine Eq.symm (b2i_n ?_); rintro ⟨h1, h2⟩; first | exact inlt h1 c1 | exact inle h2 c6)), rfl⟩)
set_option maxRecDepth 100000 in
set_option maxHeartbeats 4000000 in
theorem kX3_isLetter (l : Launch) (D : va_G) (ct : Nat → ClassId) (sa : Nat → Nat) (ws : va_W) (x : Int32) : jM l yX3_isLetter (Cond.code yX3_isLetter cX3_isLetter 1 (Option.some Jvm.ClassFile.FieldType.boolean) :: GW) (rM 0 0 0 0) D ct sa [.int x] (ws) (dK (some (.int (b2i (okI 6 x)))) ws) 0 0 := by
  refine jMX.plain (jBody (own := RX3) (by decide) rfl rfl (Nat.le_of_ble_eq_true rfl) ?_)
  intro X C E T0
  refine j_lv (lv1 := [(0, .int _)]) rfl ?_
  refine j_iload_n (i := 0) C dX3_isLetter_0 rfl 0 rfl ?_
  refine j_if_lt C 14 dX3_isLetter_1 (by decide) (fun c1 => ?_) (fun c1 => ?_)
  · refine j_iconst (v := nI 0) C dX3_isLetter_14 (by decide) ?_
    exact j_ireturn C E (by first | exact nr_b | rfl) dX3_isLetter_15 (Nat.le_of_ble_eq_true rfl) (Nat.le_of_ble_eq_true rfl) (⟨congrArg (fun z => some (Value.int z)) (by first | exact (b2i_y ⟨ile_of c1, ilt_of c7⟩).symm | (refine Eq.symm (b2i_n ?_); rintro ⟨h1, h2⟩; first | exact inlt h1 c1 | exact inle h2 c7)), rfl⟩)
  · refine j_iload_n (i := 0) C dX3_isLetter_4 rfl 0 rfl ?_
    refine j_bipush (v := nI 6) C dX3_isLetter_5 (by decide) ?_
    refine j_icmp_ge C 14 dX3_isLetter_7 (by decide) (fun c7 => ?_) (fun c7 => ?_)
    · refine j_iconst (v := nI 0) C dX3_isLetter_14 (by decide) ?_
      exact j_ireturn C E (by first | exact nr_b | rfl) dX3_isLetter_15 (Nat.le_of_ble_eq_true rfl) (Nat.le_of_ble_eq_true rfl) (⟨congrArg (fun z => some (Value.int z)) (by first | exact (b2i_y ⟨ile_of c1, ilt_of c7⟩).symm | (refine Eq.symm (b2i_n ?_); rintro ⟨h1, h2⟩; first | exact inlt h1 c1 | exact inle h2 c7)), rfl⟩)
    · refine j_iconst (v := nI 1) C dX3_isLetter_10 (by decide) ?_
      refine j_goto C 15 dX3_isLetter_11 (by decide) ?_
      exact j_ireturn C E (by first | exact nr_b | rfl) dX3_isLetter_15 (Nat.le_of_ble_eq_true rfl) (Nat.le_of_ble_eq_true rfl) (⟨congrArg (fun z => some (Value.int z)) (by first | exact (b2i_y ⟨ile_of c1, ilt_of c7⟩).symm | (refine Eq.symm (b2i_n ?_); rintro ⟨h1, h2⟩; first | exact inlt h1 c1 | exact inle h2 c7)), rfl⟩)
set_option maxRecDepth 100000 in
set_option maxHeartbeats 4000000 in
theorem kX3_letterOf (l : Launch) (D : va_G) (ct : Nat → ClassId) (sa : Nat → Nat) (ws : va_W) (x y : Int32) (r : Nat) (hy : y = nI r) (hr : r < 4) : jM l yX3_letterOf (Cond.code yX3_letterOf cX3_letterOf 4 (Option.some Jvm.ClassFile.FieldType.int) :: GW) (rM 0 0 0 0) D ct sa [.int x, .int y] (ws) (dK (some (.int (ltF x r))) ws) 0 0 := by
  refine jMX.plain (jBody (own := RX3) (by decide) rfl rfl (Nat.le_of_ble_eq_true rfl) ?_)
  intro X C E T0
  refine j_lv (lv1 := [(0, .int _), (1, .int _)]) rfl ?_
  subst hy
  refine j_iload_n (i := 0) C dX3_letterOf_0 rfl 0 rfl ?_
  refine j_istore_n (lv' := [(2, .int _), (0, .int _), (1, .int _)]) C dX3_letterOf_1 rfl (by decide) rfl ?_
  refine j_iconst (v := nI 3) C dX3_letterOf_2 (by decide) ?_
  refine j_istore_n (lv' := [(3, .int _), (2, .int _), (0, .int _), (1, .int _)]) C dX3_letterOf_3 rfl (by decide) rfl ?_
  have L4 : ∀ (d i : Nat) (x2 : Int32) (x3 : Int32), i + d = 3 - r → x2 = dvF x i → x3 = rgF i → J X (ws) (0) (0) 4 [(1, .int (nI r)), (2, .int x2), (3, .int x3)] [] := by
    intro d
    induction d with
    | zero =>
      intro i x2 x3 hd e_x2 e_x3 
      subst e_x2
      subst e_x3
      have hi9 : i = 3 - r := by omega
      subst hi9
      refine j_iload_n (i := 3) C dX3_letterOf_4 rfl 2 rfl ?_
      refine j_iload_n (i := 1) C dX3_letterOf_5 rfl 0 rfl ?_
      refine j_icmp_le C 20 dX3_letterOf_6 (by decide) (fun c6 => ?_) (fun c6 => by (rw [rg_n _ (by omega)] at c6; first | exact absurd c6 (by decide) | exact absurd c6 (nI_ge (by omega) (by omega)) | exact absurd (nI_le (by omega) (by omega)) c6 | exact absurd c6 (nI_nlt (by omega) (by omega)) | exact absurd (nI_lt (by omega) (by omega)) c6 | exact absurd c6 (nI_nle0 (by omega) (by omega))))
      refine j_iload_n (i := 2) C dX3_letterOf_20 rfl 1 rfl ?_
      refine j_bipush (v := nI 6) C dX3_letterOf_21 (by decide) ?_
      refine j_irem C dX3_letterOf_23 (by decide) ?_
      exact j_ireturn C E rfl dX3_letterOf_24 (Nat.le_of_ble_eq_true rfl) (Nat.le_of_ble_eq_true rfl) (⟨rfl, rfl⟩)
    | succ d ih =>
      intro i x2 x3 hd e_x2 e_x3 
      subst e_x2
      subst e_x3
      refine j_iload_n (i := 3) C dX3_letterOf_4 rfl 2 rfl ?_
      refine j_iload_n (i := 1) C dX3_letterOf_5 rfl 0 rfl ?_
      refine j_icmp_le C 20 dX3_letterOf_6 (by decide) (fun c6 => by (rw [rg_n _ (by omega)] at c6; first | exact absurd c6 (by decide) | exact absurd c6 (nI_ge (by omega) (by omega)) | exact absurd (nI_le (by omega) (by omega)) c6 | exact absurd c6 (nI_nlt (by omega) (by omega)) | exact absurd (nI_lt (by omega) (by omega)) c6 | exact absurd c6 (nI_nle0 (by omega) (by omega)))) (fun c6 => ?_)
      refine j_iload_n (i := 2) C dX3_letterOf_9 rfl 1 rfl ?_
      refine j_bipush (v := nI 6) C dX3_letterOf_10 (by decide) ?_
      refine j_idiv C dX3_letterOf_12 (by decide) ?_
      refine j_istore_n (lv' := [(2, .int _), (1, .int _), (3, .int _)]) C dX3_letterOf_13 rfl (by decide) rfl ?_
      refine j_iinc (z := 2) (lv' := [(3, .int _), (2, .int _), (1, .int _)]) C dX3_letterOf_14 rfl rfl (by decide) rfl ?_
      refine j_goto C 4 dX3_letterOf_17 (by decide) ?_
      exact j_lvs [2, 1, 0] rfl (ih (i + 1) _ _ (by omega) (rfl) (rfl))
  exact j_lvs [3, 1, 0] rfl (L4 (3 - r) (0) _ _ (by omega) (rfl) (rfl))
set_option maxRecDepth 100000 in
set_option maxHeartbeats 4000000 in
theorem kX3_turnsBetween (l : Launch) (D : va_G) (ct : Nat → ClassId) (sa : Nat → Nat) (ws : va_W) (x y : Int32) : jM l yX3_turnsBetween (Cond.code yX3_turnsBetween cX3_turnsBetween 3 (Option.some Jvm.ClassFile.FieldType.int) :: GW) (rM 1 0 0 17) D ct sa [.int x, .int y] (ws) (dK (some (.int (farF x y))) ws) 0 0 := by
  refine jMX.plain (jBody (own := RX3) (by decide) rfl rfl (Nat.le_of_ble_eq_true rfl) ?_)
  intro X C E T0
  refine j_lv (lv1 := [(0, .int _), (1, .int _)]) rfl ?_
  refine j_iload_n (i := 0) C dX3_turnsBetween_0 rfl 0 rfl ?_
  refine j_iload_n (i := 1) C dX3_turnsBetween_1 rfl 1 rfl ?_
  refine j_isub C dX3_turnsBetween_2 ?_
  refine j_mabs C gw285 gw286 gw36 gw287 ⟨Nat.le_of_ble_eq_true rfl, Nat.le_of_ble_eq_true rfl⟩ ⟨Nat.le_of_ble_eq_true rfl, Nat.le_of_ble_eq_true rfl⟩ dX3_turnsBetween_3 ?_
  refine j_istore_n (lv' := [(2, .int _), (0, .int _), (1, .int _)]) C dX3_turnsBetween_6 rfl (by decide) rfl ?_
  refine j_iload_n (i := 2) C dX3_turnsBetween_7 rfl 0 rfl ?_
  refine j_bipush (v := nI 6) C dX3_turnsBetween_8 (by decide) ?_
  refine j_iload_n (i := 2) C dX3_turnsBetween_10 rfl 0 rfl ?_
  refine j_isub C dX3_turnsBetween_11 ?_
  refine j_mmin C gw288 gw289 gw36 gw290 ⟨Nat.le_of_ble_eq_true rfl, Nat.le_of_ble_eq_true rfl⟩ ⟨Nat.le_of_ble_eq_true rfl, Nat.le_of_ble_eq_true rfl⟩ dX3_turnsBetween_12 ?_
  exact j_ireturn C E rfl dX3_turnsBetween_15 (Nat.le_of_ble_eq_true rfl) (Nat.le_of_ble_eq_true rfl) (⟨rfl, rfl⟩)
set_option maxRecDepth 100000 in
set_option maxHeartbeats 4000000 in
theorem kX0_letterAt (l : Launch) (D : va_G) (ct : Nat → ClassId) (sa : Nat → Nat) (ws : va_W) (k h a b : Nat) (lt wr : Nat → Int32) (w rk op lo : Int32) (x : Int32) (r : Nat) (hk : Lk ct ws k h a b lt wr w rk op lo) (hx : x = nI r) (hr : r < 4) : jM l yX0_letterAt (Cond.code yX0_letterAt cX0_letterAt 2 (Option.some Jvm.ClassFile.FieldType.int) :: GW) (rM 1 0 0 20) D ct sa [.ref h, .int x] (ws) (dK (some (.int (lt r))) ws) 0 0 := by
  refine jMX.plain (jBody (own := RX0) (by decide) rfl rfl (Nat.le_of_ble_eq_true rfl) ?_)
  intro X C E T0
  refine j_lv (lv1 := [(0, .ref _), (1, .int _)]) rfl ?_
  subst hx
  refine j_iload_n (i := 1) C dX0_letterAt_0 rfl 1 rfl ?_
  refine j_callSN (nargs := 1) (As := [_]) C nw281 gw255 gw21 (kX3_isRing l D ct sa _ _) gw256 (by decide +kernel) rfl dX0_letterAt_1 ⟨Nat.le_of_ble_eq_true rfl, Nat.le_of_ble_eq_true rfl⟩ ⟨Nat.le_of_ble_eq_true rfl, Nat.le_of_ble_eq_true rfl⟩ (Nat.le_of_ble_eq_true rfl) (dki ?_)
  refine j_if_eq C 16 dX0_letterAt_4 (by decide) (fun c4 => by exact absurd c4 (by rw [b2i_y (okI_n hr (by decide))]; decide)) (fun c4 => ?_)
  refine j_aload_n (i := 0) C dX0_letterAt_7 rfl 0 rfl ?_
  refine j_get (Cn := RX0) (T := TX0) (N := 6) (ci := 1) C iX0 rfl (k) hk.1 0 (by decide) gw115 rfl rfl dX0_letterAt_8 ?_
  refine j_iload_n (i := 1) C dX0_letterAt_11 rfl 1 rfl ?_
  refine j_iald C (k + 1) hk.2.1 (r) rfl hr (by decide) dX0_letterAt_12 ?_
  refine j_goto C 17 dX0_letterAt_13 (by decide) ?_
  exact j_ireturn C E rfl dX0_letterAt_17 (Nat.le_of_ble_eq_true rfl) (Nat.le_of_ble_eq_true rfl) (⟨rfl, rfl⟩)
set_option maxRecDepth 100000 in
set_option maxHeartbeats 4000000 in
theorem kX0_turnTo (l : Launch) (D : va_G) (ct : Nat → ClassId) (sa : Nat → Nat) (ws : va_W) (k h a b : Nat) (lt wr : Nat → Int32) (w rk op lo : Int32) (x y : Int32) (r : Nat) (hk : Lk ct ws k h a b lt wr w rk op lo) (hx : x = nI r) (hr : r < 4) : jM l yX0_turnTo (Cond.code yX0_turnTo cX0_turnTo 3 (Option.none : Option Jvm.ClassFile.FieldType) :: GW) (rM 1 0 0 20) D ct sa [.ref h, .int x, .int y] (ws) (dK none (ws.set (k + 1) (a, .inl (ct 0, 4, .inl (upd lt r y))))) 0 0 := by
  refine jMX.plain (jBody (own := RX0) (by decide) rfl rfl (Nat.le_of_ble_eq_true rfl) ?_)
  intro X C E T0
  refine j_lv (lv1 := [(0, .ref _), (1, .int _), (2, .int _)]) rfl ?_
  subst hx
  refine j_iload_n (i := 1) C dX0_turnTo_0 rfl 1 rfl ?_
  refine j_callSN (nargs := 1) (As := [_]) C nw281 gw255 gw21 (kX3_isRing l D ct sa _ _) gw256 (by decide +kernel) rfl dX0_turnTo_1 ⟨Nat.le_of_ble_eq_true rfl, Nat.le_of_ble_eq_true rfl⟩ ⟨Nat.le_of_ble_eq_true rfl, Nat.le_of_ble_eq_true rfl⟩ (Nat.le_of_ble_eq_true rfl) (dki ?_)
  refine j_if_eq C 14 dX0_turnTo_4 (by decide) (fun c4 => by exact absurd c4 (by rw [b2i_y (okI_n hr (by decide))]; decide)) (fun c4 => ?_)
  refine j_aload_n (i := 0) C dX0_turnTo_7 rfl 0 rfl ?_
  refine j_get (Cn := RX0) (T := TX0) (N := 6) (ci := 1) C iX0 rfl (k) hk.1 0 (by decide) gw115 rfl rfl dX0_turnTo_8 ?_
  refine j_iload_n (i := 1) C dX0_turnTo_11 rfl 1 rfl ?_
  refine j_iload_n (i := 2) C dX0_turnTo_12 rfl 2 rfl ?_
  refine j_iast (ws2 := ws.set (k + 1) (a, .inl (ct 0, 4, .inl (upd lt r y)))) C (k + 1) hk.2.1 (r) rfl hr (by decide) rfl dX0_turnTo_13 ?_
  exact j_return C E dX0_turnTo_14 (Nat.le_of_ble_eq_true rfl) (Nat.le_of_ble_eq_true rfl) (⟨rfl, rfl⟩)
set_option maxRecDepth 100000 in
set_option maxHeartbeats 4000000 in
theorem kX0_standing (l : Launch) (D : va_G) (ct : Nat → ClassId) (sa : Nat → Nat) (ws : va_W) (k h a b : Nat) (lt wr : Nat → Int32) (w rk op lo : Int32) (hk : Lk ct ws k h a b lt wr w rk op lo) : jM l yX0_standing (Cond.code yX0_standing cX0_standing 3 (Option.some Jvm.ClassFile.FieldType.int) :: GW) (rM 0 0 0 0) D ct sa [.ref h] (ws) (dK (some (.int (stF lt 4))) ws) 0 0 := by
  refine jMX.plain (jBody (own := RX0) (by decide) rfl rfl (Nat.le_of_ble_eq_true rfl) ?_)
  intro X C E T0
  refine j_lv (lv1 := [(0, .ref _)]) rfl ?_
  refine j_iconst (v := nI 0) C dX0_standing_0 (by decide) ?_
  refine j_istore_n (lv' := [(1, .int _), (0, .ref _)]) C dX0_standing_1 rfl (by decide) rfl ?_
  refine j_iconst (v := nI 0) C dX0_standing_2 (by decide) ?_
  refine j_istore_n (lv' := [(2, .int _), (1, .int _), (0, .ref _)]) C dX0_standing_3 rfl (by decide) rfl ?_
  have L4 : ∀ (d i : Nat) (x1 : Int32) (x2 : Int32), i + d = 4 → x1 = stF lt i → x2 = nI i → J X (ws) (0) (0) 4 [(0, .ref h), (1, .int x1), (2, .int x2)] [] := by
    intro d
    induction d with
    | zero =>
      intro i x1 x2 hd e_x1 e_x2 
      subst e_x1
      subst e_x2
      have hi9 : i = 4 := by omega
      subst hi9
      refine j_iload_n (i := 2) C dX0_standing_4 rfl 2 rfl ?_
      refine j_iconst (v := nI 4) C dX0_standing_5 (by decide) ?_
      refine j_icmp_ge C 27 dX0_standing_6 (by decide) (fun c6 => ?_) (fun c6 => by first | exact absurd c6 (by decide) | exact absurd c6 (nI_ge (by omega) (by omega)) | exact absurd (nI_le (by omega) (by omega)) c6 | exact absurd c6 (nI_nlt (by omega) (by omega)) | exact absurd (nI_lt (by omega) (by omega)) c6 | exact absurd c6 (nI_nle0 (by omega) (by omega)))
      refine j_iload_n (i := 1) C dX0_standing_27 rfl 1 rfl ?_
      exact j_ireturn C E rfl dX0_standing_28 (Nat.le_of_ble_eq_true rfl) (Nat.le_of_ble_eq_true rfl) (⟨rfl, rfl⟩)
    | succ d ih =>
      intro i x1 x2 hd e_x1 e_x2 
      subst e_x1
      subst e_x2
      refine j_iload_n (i := 2) C dX0_standing_4 rfl 2 rfl ?_
      refine j_iconst (v := nI 4) C dX0_standing_5 (by decide) ?_
      refine j_icmp_ge C 27 dX0_standing_6 (by decide) (fun c6 => by first | exact absurd c6 (by decide) | exact absurd c6 (nI_ge (by omega) (by omega)) | exact absurd (nI_le (by omega) (by omega)) c6 | exact absurd c6 (nI_nlt (by omega) (by omega)) | exact absurd (nI_lt (by omega) (by omega)) c6 | exact absurd c6 (nI_nle0 (by omega) (by omega))) (fun c6 => ?_)
      refine j_iload_n (i := 1) C dX0_standing_9 rfl 1 rfl ?_
      refine j_bipush (v := nI 6) C dX0_standing_10 (by decide) ?_
      refine j_imul C dX0_standing_12 ?_
      refine j_aload_n (i := 0) C dX0_standing_13 rfl 0 rfl ?_
      refine j_get (Cn := RX0) (T := TX0) (N := 6) (ci := 1) C iX0 rfl (k) hk.1 0 (by decide) gw115 rfl rfl dX0_standing_14 ?_
      refine j_iload_n (i := 2) C dX0_standing_17 rfl 2 rfl ?_
      refine j_iald C (k + 1) hk.2.1 (i) rfl (by omega) (by decide) dX0_standing_18 ?_
      refine j_iadd C dX0_standing_19 ?_
      refine j_istore_n (lv' := [(1, .int _), (0, .ref _), (2, .int _)]) C dX0_standing_20 rfl (by decide) rfl ?_
      refine j_iinc (z := 2) (lv' := [(2, .int _), (1, .int _), (0, .ref _)]) C dX0_standing_21 rfl rfl (by decide) rfl ?_
      refine j_goto C 4 dX0_standing_24 (by decide) ?_
      exact j_lvs [2, 1, 0] rfl (ih (i + 1) _ _ (by omega) (congrArg (fun z => z + lt i) (Int32.mul_comm _ _)) (nI_1 i))
  exact j_lvs [2, 1, 0] rfl (L4 (4) (0) _ _ (by omega) (rfl) (rfl))
set_option maxRecDepth 100000 in
set_option maxHeartbeats 4000000 in
theorem kX0_close (l : Launch) (D : va_G) (ct : Nat → ClassId) (sa : Nat → Nat) (ws : va_W) (k h a b : Nat) (lt wr : Nat → Int32) (w rk op lo : Int32) (hk : Lk ct ws k h a b lt wr w rk op lo) : jM l yX0_close (Cond.code yX0_close cX0_close 2 (Option.none : Option Jvm.ClassFile.FieldType) :: GW) (rM 0 0 0 0) D ct sa [.ref h] (ws) (dK none ((ws.set (k + 1) (a, .inl (ct 0, 4, .inl (clL lt 4)))).set k (h, .inr (1, [.ref a, .ref b, .int w, .int rk, .int (nI 0), .int lo])))) 0 0 := by
  refine jMX.plain (jBody (own := RX0) (by decide) rfl rfl (Nat.le_of_ble_eq_true rfl) ?_)
  intro X C E T0
  refine j_lv (lv1 := [(0, .ref _)]) rfl ?_
  refine j_iconst (v := nI 0) C dX0_close_0 (by decide) ?_
  refine j_istore_n (lv' := [(1, .int _), (0, .ref _)]) C dX0_close_1 rfl (by decide) rfl ?_
  have L2 : ∀ (d i : Nat) (x1 : Int32) (wx : va_W), i + d = 4 → x1 = nI i → wx = ws.set (k + 1) (a, .inl (ct 0, 4, .inl (clL lt i))) → J X (wx) (0) (0) 2 [(0, .ref h), (1, .int x1)] [] := by
    intro d
    induction d with
    | zero =>
      intro i x1 wx hd e_x1 e_wx 
      subst e_x1
      subst e_wx
      have hi9 : i = 4 := by omega
      subst hi9
      refine j_iload_n (i := 1) C dX0_close_2 rfl 1 rfl ?_
      refine j_iconst (v := nI 4) C dX0_close_3 (by decide) ?_
      refine j_icmp_ge C 32 dX0_close_4 (by decide) (fun c4 => ?_) (fun c4 => by first | exact absurd c4 (by decide) | exact absurd c4 (nI_ge (by omega) (by omega)) | exact absurd (nI_le (by omega) (by omega)) c4 | exact absurd c4 (nI_nlt (by omega) (by omega)) | exact absurd (nI_lt (by omega) (by omega)) c4 | exact absurd c4 (nI_nle0 (by omega) (by omega)))
      refine j_aload_n (i := 0) C dX0_close_32 rfl 0 rfl ?_
      refine j_iconst (v := nI 0) C dX0_close_33 (by decide) ?_
      refine j_put (Cn := RX0) (T := TX0) (N := 6) (ci := 1) (ws2 := (ws.set (k + 1) (a, .inl (ct 0, 4, .inl (clL lt 4)))).set k (h, .inr (1, [.ref a, .ref b, .int w, .int rk, .int (nI 0), .int lo]))) C iX0 tyX0 tyX0_ok nmX0 rfl (k) ((set_ne (by omega)).trans hk.1) 4 (by decide) gw121 rfl rfl rfl rfl rfl (Nat.le_of_ble_eq_true rfl) rfl dX0_close_34 ?_
      exact j_return C E dX0_close_37 (Nat.le_of_ble_eq_true rfl) (Nat.le_of_ble_eq_true rfl) (⟨rfl, rfl⟩)
    | succ d ih =>
      intro i x1 wx hd e_x1 e_wx 
      subst e_x1
      subst e_wx
      refine j_iload_n (i := 1) C dX0_close_2 rfl 1 rfl ?_
      refine j_iconst (v := nI 4) C dX0_close_3 (by decide) ?_
      refine j_icmp_ge C 32 dX0_close_4 (by decide) (fun c4 => by first | exact absurd c4 (by decide) | exact absurd c4 (nI_ge (by omega) (by omega)) | exact absurd (nI_le (by omega) (by omega)) c4 | exact absurd c4 (nI_nlt (by omega) (by omega)) | exact absurd (nI_lt (by omega) (by omega)) c4 | exact absurd c4 (nI_nle0 (by omega) (by omega))) (fun c4 => ?_)
      refine j_aload_n (i := 0) C dX0_close_7 rfl 0 rfl ?_
      refine j_get (Cn := RX0) (T := TX0) (N := 6) (ci := 1) C iX0 rfl (k) ((set_ne (by omega)).trans hk.1) 0 (by decide) gw115 rfl rfl dX0_close_8 ?_
      refine j_iload_n (i := 1) C dX0_close_11 rfl 1 rfl ?_
      refine j_aload_n (i := 0) C dX0_close_12 rfl 0 rfl ?_
      refine j_get (Cn := RX0) (T := TX0) (N := 6) (ci := 1) C iX0 rfl (k) ((set_ne (by omega)).trans hk.1) 0 (by decide) gw115 rfl rfl dX0_close_13 ?_
      refine j_iload_n (i := 1) C dX0_close_16 rfl 1 rfl ?_
      refine j_iald C (k + 1) (set_eq hk.2.1) (i) rfl (by omega) (by decide) dX0_close_17 ?_
      refine j_iload_n (i := 1) C dX0_close_18 rfl 1 rfl ?_
      refine j_iadd C dX0_close_19 ?_
      refine j_iconst (v := nI 1) C dX0_close_20 (by decide) ?_
      refine j_iadd C dX0_close_21 ?_
      refine j_bipush (v := nI 6) C dX0_close_22 (by decide) ?_
      refine j_irem C dX0_close_24 (by decide) ?_
      refine j_iast (ws2 := ws.set (k + 1) (a, .inl (ct 0, 4, .inl (clL lt (i + 1))))) C (k + 1) (set_eq hk.2.1) (i) rfl (by omega) (by decide) set_set dX0_close_25 ?_
      refine j_iinc (z := 1) (lv' := [(1, .int _), (0, .ref _)]) C dX0_close_26 rfl rfl (by decide) rfl ?_
      refine j_goto C 2 dX0_close_29 (by decide) ?_
      exact j_lvs [1, 0] rfl (ih (i + 1) _ _ (by omega) (nI_1 i) (rfl))
  exact j_lvs [1, 0] rfl (L2 (4) (0) _ _ (by omega) (rfl) ((set_self hk.2.1).symm))
set_option maxRecDepth 100000 in
set_option maxHeartbeats 4000000 in
theorem kX0_wearAt (l : Launch) (D : va_G) (ct : Nat → ClassId) (sa : Nat → Nat) (ws : va_W) (k h a b : Nat) (lt wr : Nat → Int32) (w rk op lo : Int32) (x y : Int32) (r q : Nat) (hk : Lk ct ws k h a b lt wr w rk op lo) (hx : x = nI r) (hy : y = nI q) (hr : r < 4) (hq : q < 6) : jM l yX0_wearAt (Cond.code yX0_wearAt cX0_wearAt 3 (Option.some Jvm.ClassFile.FieldType.int) :: GW) (rM 1 0 0 20) D ct sa [.ref h, .int x, .int y] (ws) (dK (some (.int (wr (6 * r + q)))) ws) 0 0 := by
  refine jMX.plain (jBody (own := RX0) (by decide) rfl rfl (Nat.le_of_ble_eq_true rfl) ?_)
  intro X C E T0
  refine j_lv (lv1 := [(0, .ref _), (1, .int _), (2, .int _)]) rfl ?_
  subst hx
  subst hy
  refine j_iload_n (i := 1) C dX0_wearAt_0 rfl 1 rfl ?_
  refine j_callSN (nargs := 1) (As := [_]) C nw281 gw255 gw21 (kX3_isRing l D ct sa _ _) gw256 (by decide +kernel) rfl dX0_wearAt_1 ⟨Nat.le_of_ble_eq_true rfl, Nat.le_of_ble_eq_true rfl⟩ ⟨Nat.le_of_ble_eq_true rfl, Nat.le_of_ble_eq_true rfl⟩ (Nat.le_of_ble_eq_true rfl) (dki ?_)
  refine j_if_eq C 28 dX0_wearAt_4 (by decide) (fun c4 => by exact absurd c4 (by rw [b2i_y (okI_n hr (by decide))]; decide)) (fun c4 => ?_)
  refine j_iload_n (i := 2) C dX0_wearAt_7 rfl 2 rfl ?_
  refine j_callSN (nargs := 1) (As := [_]) C nw319 gw259 gw21 (kX3_isLetter l D ct sa _ _) gw260 (by decide +kernel) rfl dX0_wearAt_8 ⟨Nat.le_of_ble_eq_true rfl, Nat.le_of_ble_eq_true rfl⟩ ⟨Nat.le_of_ble_eq_true rfl, Nat.le_of_ble_eq_true rfl⟩ (Nat.le_of_ble_eq_true rfl) (dki ?_)
  refine j_if_eq C 28 dX0_wearAt_11 (by decide) (fun c11 => by exact absurd c11 (by rw [b2i_y (okI_n hq (by decide))]; decide)) (fun c11 => ?_)
  refine j_aload_n (i := 0) C dX0_wearAt_14 rfl 0 rfl ?_
  refine j_get (Cn := RX0) (T := TX0) (N := 6) (ci := 1) C iX0 rfl (k) hk.1 1 (by decide) gw116 rfl rfl dX0_wearAt_15 ?_
  refine j_iload_n (i := 1) C dX0_wearAt_18 rfl 1 rfl ?_
  refine j_bipush (v := nI 6) C dX0_wearAt_19 (by decide) ?_
  refine j_imul C dX0_wearAt_21 ?_
  refine j_iload_n (i := 2) C dX0_wearAt_22 rfl 2 rfl ?_
  refine j_iadd C dX0_wearAt_23 ?_
  refine j_iald C (k + 2) hk.2.2 (6 * r + q) (by rw [Int32.mul_comm, pk_mul, nI_add]) (by omega) (by decide) dX0_wearAt_24 ?_
  refine j_goto C 29 dX0_wearAt_25 (by decide) ?_
  exact j_ireturn C E rfl dX0_wearAt_29 (Nat.le_of_ble_eq_true rfl) (Nat.le_of_ble_eq_true rfl) (⟨rfl, rfl⟩)
set_option maxRecDepth 100000 in
set_option maxHeartbeats 4000000 in
theorem kX0_wearMore (l : Launch) (D : va_G) (ct : Nat → ClassId) (sa : Nat → Nat) (ws : va_W) (k h a b : Nat) (lt wr : Nat → Int32) (w rk op lo : Int32) (x y z : Int32) (r q : Nat) (hk : Lk ct ws k h a b lt wr w rk op lo) (hx : x = nI r) (hy : y = nI q) (hr : r < 4) (hq : q < 6) : jM l yX0_wearMore (Cond.code yX0_wearMore cX0_wearMore 5 (Option.none : Option Jvm.ClassFile.FieldType) :: GW) (rM 1 0 0 20) D ct sa [.ref h, .int x, .int y, .int z] (ws) (dK none (ws.set (k + 2) (b, .inl (ct 0, 24, .inl (wuL wr r q z))))) 0 0 := by
  refine jMX.plain (jBody (own := RX0) (by decide) rfl rfl (Nat.le_of_ble_eq_true rfl) ?_)
  intro X C E T0
  refine j_lv (lv1 := [(0, .ref _), (1, .int _), (2, .int _), (3, .int _)]) rfl ?_
  subst hx
  subst hy
  refine j_iload_n (i := 1) C dX0_wearMore_0 rfl 1 rfl ?_
  refine j_callSN (nargs := 1) (As := [_]) C nw281 gw255 gw21 (kX3_isRing l D ct sa _ _) gw256 (by decide +kernel) rfl dX0_wearMore_1 ⟨Nat.le_of_ble_eq_true rfl, Nat.le_of_ble_eq_true rfl⟩ ⟨Nat.le_of_ble_eq_true rfl, Nat.le_of_ble_eq_true rfl⟩ (Nat.le_of_ble_eq_true rfl) (dki ?_)
  refine j_if_eq C 43 dX0_wearMore_4 (by decide) (fun c4 => by exact absurd c4 (by rw [b2i_y (okI_n hr (by decide))]; decide)) (fun c4 => ?_)
  refine j_iload_n (i := 2) C dX0_wearMore_7 rfl 2 rfl ?_
  refine j_callSN (nargs := 1) (As := [_]) C nw319 gw259 gw21 (kX3_isLetter l D ct sa _ _) gw260 (by decide +kernel) rfl dX0_wearMore_8 ⟨Nat.le_of_ble_eq_true rfl, Nat.le_of_ble_eq_true rfl⟩ ⟨Nat.le_of_ble_eq_true rfl, Nat.le_of_ble_eq_true rfl⟩ (Nat.le_of_ble_eq_true rfl) (dki ?_)
  refine j_if_eq C 43 dX0_wearMore_11 (by decide) (fun c11 => by exact absurd c11 (by rw [b2i_y (okI_n hq (by decide))]; decide)) (fun c11 => ?_)
  refine j_iload_n (i := 1) C dX0_wearMore_14 rfl 1 rfl ?_
  refine j_bipush (v := nI 6) C dX0_wearMore_15 (by decide) ?_
  refine j_imul C dX0_wearMore_17 ?_
  refine j_iload_n (i := 2) C dX0_wearMore_18 rfl 2 rfl ?_
  refine j_iadd C dX0_wearMore_19 ?_
  refine j_istore (lv' := [(4, .int _), (0, .ref _), (1, .int _), (2, .int _), (3, .int _)]) C dX0_wearMore_20 (by decide) rfl ?_
  refine j_aload_n (i := 0) C dX0_wearMore_22 rfl 1 rfl ?_
  refine j_get (Cn := RX0) (T := TX0) (N := 6) (ci := 1) C iX0 rfl (k) hk.1 1 (by decide) gw116 rfl rfl dX0_wearMore_23 ?_
  refine j_iload C dX0_wearMore_26 0 rfl ?_
  refine j_bipush (v := nI 99) C dX0_wearMore_28 (by decide) ?_
  refine j_aload_n (i := 0) C dX0_wearMore_30 rfl 1 rfl ?_
  refine j_get (Cn := RX0) (T := TX0) (N := 6) (ci := 1) C iX0 rfl (k) hk.1 1 (by decide) gw116 rfl rfl dX0_wearMore_31 ?_
  refine j_iload C dX0_wearMore_34 0 rfl ?_
  refine j_iald C (k + 2) hk.2.2 (6 * r + q) (by rw [Int32.mul_comm, pk_mul, nI_add]) (by omega) (by decide) dX0_wearMore_36 ?_
  refine j_iload_n (i := 3) C dX0_wearMore_37 rfl 4 rfl ?_
  refine j_iadd C dX0_wearMore_38 ?_
  refine j_mmin C gw430 gw289 gw36 gw290 ⟨Nat.le_of_ble_eq_true rfl, Nat.le_of_ble_eq_true rfl⟩ ⟨Nat.le_of_ble_eq_true rfl, Nat.le_of_ble_eq_true rfl⟩ dX0_wearMore_39 ?_
  refine j_iast (ws2 := ws.set (k + 2) (b, .inl (ct 0, 24, .inl (wuL wr r q z)))) C (k + 2) hk.2.2 (6 * r + q) (by rw [Int32.mul_comm, pk_mul, nI_add]) (by omega) (by decide) rfl dX0_wearMore_42 ?_
  exact j_return C E dX0_wearMore_43 (Nat.le_of_ble_eq_true rfl) (Nat.le_of_ble_eq_true rfl) (⟨rfl, rfl⟩)
set_option maxRecDepth 100000 in
set_option maxHeartbeats 4000000 in
theorem kX0_wearByAnHour (l : Launch) (D : va_G) (ct : Nat → ClassId) (sa : Nat → Nat) (ws : va_W) (k h a b : Nat) (lt wr : Nat → Int32) (w rk op lo : Int32) (hk : Lk ct ws k h a b lt wr w rk op lo) (hl : ∀ r, r < 4 → okI 6 (lt r)) (hw : okI 1296 w) : jM l yX0_wearByAnHour (Cond.code yX0_wearByAnHour cX0_wearByAnHour 2 (Option.none : Option Jvm.ClassFile.FieldType) :: GW) (rM 2 0 0 44) D ct sa [.ref h] (ws) (dK none (ws.set (k + 2) (b, .inl (ct 0, 24, .inl (wLL lt w rk op wr 4))))) 0 0 := by
  refine jMX.plain (jBody (own := RX0) (by decide) rfl rfl (Nat.le_of_ble_eq_true rfl) ?_)
  intro X C E T0
  refine j_lv (lv1 := [(0, .ref _)]) rfl ?_
  refine j_iconst (v := nI 0) C dX0_wearByAnHour_0 (by decide) ?_
  refine j_istore_n (lv' := [(1, .int _), (0, .ref _)]) C dX0_wearByAnHour_1 rfl (by decide) rfl ?_
  have L2 : ∀ (d i : Nat) (x1 : Int32) (wx : va_W), i + d = 4 → x1 = nI i → wx = ws.set (k + 2) (b, .inl (ct 0, 24, .inl (wLL lt w rk op wr i))) → J X (wx) (0) (0) 2 [(0, .ref h), (1, .int x1)] [] := by
    intro d
    induction d with
    | zero =>
      intro i x1 wx hd e_x1 e_wx 
      subst e_x1
      subst e_wx
      have hi9 : i = 4 := by omega
      subst hi9
      refine j_iload_n (i := 1) C dX0_wearByAnHour_2 rfl 1 rfl ?_
      refine j_iconst (v := nI 4) C dX0_wearByAnHour_3 (by decide) ?_
      refine j_icmp_ge C 57 dX0_wearByAnHour_4 (by decide) (fun c4 => ?_) (fun c4 => by first | exact absurd c4 (by decide) | exact absurd c4 (nI_ge (by omega) (by omega)) | exact absurd (nI_le (by omega) (by omega)) c4 | exact absurd c4 (nI_nlt (by omega) (by omega)) | exact absurd (nI_lt (by omega) (by omega)) c4 | exact absurd c4 (nI_nle0 (by omega) (by omega)))
      exact j_return C E dX0_wearByAnHour_57 (Nat.le_of_ble_eq_true rfl) (Nat.le_of_ble_eq_true rfl) (⟨rfl, rfl⟩)
    | succ d ih =>
      intro i x1 wx hd e_x1 e_wx 
      subst e_x1
      subst e_wx
      obtain ⟨h6, e6⟩ := okI_ix (hl i (by omega)) (by decide)
      obtain ⟨h7, e7⟩ := okI_ix (lt_ok (r := i) hw) (by decide)
      refine j_iload_n (i := 1) C dX0_wearByAnHour_2 rfl 1 rfl ?_
      refine j_iconst (v := nI 4) C dX0_wearByAnHour_3 (by decide) ?_
      refine j_icmp_ge C 57 dX0_wearByAnHour_4 (by decide) (fun c4 => by first | exact absurd c4 (by decide) | exact absurd c4 (nI_ge (by omega) (by omega)) | exact absurd (nI_le (by omega) (by omega)) c4 | exact absurd c4 (nI_nlt (by omega) (by omega)) | exact absurd (nI_lt (by omega) (by omega)) c4 | exact absurd c4 (nI_nle0 (by omega) (by omega))) (fun c4 => ?_)
      refine j_aload_n (i := 0) C dX0_wearByAnHour_7 rfl 0 rfl ?_
      refine j_get (Cn := RX0) (T := TX0) (N := 6) (ci := 1) C iX0 rfl (k) ((set_ne (by omega)).trans hk.1) 4 (by decide) gw121 rfl rfl dX0_wearByAnHour_8 ?_
      refine j_if_ne C 29 dX0_wearByAnHour_11 (by decide) (fun c11 => ?_) (fun c11 => ?_)
      · refine j_aload_n (i := 0) C dX0_wearByAnHour_29 rfl 0 rfl ?_
        refine j_get (Cn := RX0) (T := TX0) (N := 6) (ci := 1) C iX0 rfl (k) ((set_ne (by omega)).trans hk.1) 3 (by decide) gw119 rfl rfl dX0_wearByAnHour_30 ?_
        refine j_iconst (v := (-1)) C dX0_wearByAnHour_33 (by decide) ?_
        refine j_icmp_eq C 51 dX0_wearByAnHour_34 (by decide) (fun c34 => ?_) (fun c34 => ?_)
        · refine j_iinc (z := 1) (lv' := [(1, .int _), (0, .ref _)]) C dX0_wearByAnHour_51 rfl rfl (by decide) rfl ?_
          refine j_goto C 2 dX0_wearByAnHour_54 (by decide) ?_
          exact j_lvs [1, 0] rfl (ih (i + 1) _ _ (by omega) (nI_1 i) (by first | exact set_set.trans (congrArg (fun f => ws.set (k + 2) (b, .inl (ct 0, 24, .inl (f)))) (if_pos c11).symm) | exact set_set.trans (congrArg (fun f => ws.set (k + 2) (b, .inl (ct 0, 24, .inl (f)))) ((if_neg c11).trans (if_neg c34)).symm) | exact congrArg (fun f => ws.set (k + 2) (b, .inl (ct 0, 24, .inl (f)))) ((if_neg c11).trans (if_pos c34)).symm))
        · refine j_aload_n (i := 0) C dX0_wearByAnHour_37 rfl 0 rfl ?_
          refine j_iload_n (i := 1) C dX0_wearByAnHour_38 rfl 1 rfl ?_
          refine j_aload_n (i := 0) C dX0_wearByAnHour_39 rfl 0 rfl ?_
          refine j_get (Cn := RX0) (T := TX0) (N := 6) (ci := 1) C iX0 rfl (k) ((set_ne (by omega)).trans hk.1) 2 (by decide) gw117 rfl rfl dX0_wearByAnHour_40 ?_
          refine j_iload_n (i := 1) C dX0_wearByAnHour_43 rfl 1 rfl ?_
          refine j_callSN (nargs := 2) (As := [_, _]) C nw431 gw392 gw21 (kX3_letterOf l D ct sa _ _ _ i rfl (by omega)) gw393 (by decide +kernel) rfl dX0_wearByAnHour_44 ⟨Nat.le_of_ble_eq_true rfl, Nat.le_of_ble_eq_true rfl⟩ ⟨Nat.le_of_ble_eq_true rfl, Nat.le_of_ble_eq_true rfl⟩ (Nat.le_of_ble_eq_true rfl) (dki ?_)
          refine j_iconst (v := nI 2) C dX0_wearByAnHour_47 (by decide) ?_
          refine j_callV (nargs := 3) (As := [_, _, _]) (Cn := RX0) C (k) ((set_ne (by omega)).trans hk.1) rfl rfl gw426 gw428 gw14 gw27 (kX0_wearMore l D ct sa _ k h a b lt _ w rk op lo _ _ _ i _ ⟨(set_ne (by omega)).trans hk.1, (set_ne (by omega)).trans hk.2.1, set_eq hk.2.2⟩ rfl e7 (by omega) h7) gw429 (by decide +kernel) rfl dX0_wearByAnHour_48 ⟨Nat.le_of_ble_eq_true rfl, Nat.le_of_ble_eq_true rfl⟩ ⟨Nat.le_of_ble_eq_true rfl, Nat.le_of_ble_eq_true rfl⟩ (Nat.le_of_ble_eq_true rfl) (dkv ?_)
          refine j_iinc (z := 1) (lv' := [(1, .int _), (0, .ref _)]) C dX0_wearByAnHour_51 rfl rfl (by decide) rfl ?_
          refine j_goto C 2 dX0_wearByAnHour_54 (by decide) ?_
          exact j_lvs [1, 0] rfl (ih (i + 1) _ _ (by omega) (nI_1 i) (by first | exact set_set.trans (congrArg (fun f => ws.set (k + 2) (b, .inl (ct 0, 24, .inl (f)))) (if_pos c11).symm) | exact set_set.trans (congrArg (fun f => ws.set (k + 2) (b, .inl (ct 0, 24, .inl (f)))) ((if_neg c11).trans (if_neg c34)).symm) | exact congrArg (fun f => ws.set (k + 2) (b, .inl (ct 0, 24, .inl (f)))) ((if_neg c11).trans (if_pos c34)).symm))
      · refine j_aload_n (i := 0) C dX0_wearByAnHour_14 rfl 0 rfl ?_
        refine j_iload_n (i := 1) C dX0_wearByAnHour_15 rfl 1 rfl ?_
        refine j_aload_n (i := 0) C dX0_wearByAnHour_16 rfl 0 rfl ?_
        refine j_get (Cn := RX0) (T := TX0) (N := 6) (ci := 1) C iX0 rfl (k) ((set_ne (by omega)).trans hk.1) 0 (by decide) gw115 rfl rfl dX0_wearByAnHour_17 ?_
        refine j_iload_n (i := 1) C dX0_wearByAnHour_20 rfl 1 rfl ?_
        refine j_iald C (k + 1) ((set_ne (by omega)).trans hk.2.1) (i) rfl (by omega) (by decide) dX0_wearByAnHour_21 ?_
        refine j_iconst (v := nI 1) C dX0_wearByAnHour_22 (by decide) ?_
        refine j_callV (nargs := 3) (As := [_, _, _]) (Cn := RX0) C (k) ((set_ne (by omega)).trans hk.1) rfl rfl gw426 gw428 gw14 gw27 (kX0_wearMore l D ct sa _ k h a b lt _ w rk op lo _ _ _ i _ ⟨(set_ne (by omega)).trans hk.1, (set_ne (by omega)).trans hk.2.1, set_eq hk.2.2⟩ rfl e6 (by omega) h6) gw429 (by decide +kernel) rfl dX0_wearByAnHour_23 ⟨Nat.le_of_ble_eq_true rfl, Nat.le_of_ble_eq_true rfl⟩ ⟨Nat.le_of_ble_eq_true rfl, Nat.le_of_ble_eq_true rfl⟩ (Nat.le_of_ble_eq_true rfl) (dkv ?_)
        refine j_goto C 51 dX0_wearByAnHour_26 (by decide) ?_
        refine j_iinc (z := 1) (lv' := [(1, .int _), (0, .ref _)]) C dX0_wearByAnHour_51 rfl rfl (by decide) rfl ?_
        refine j_goto C 2 dX0_wearByAnHour_54 (by decide) ?_
        exact j_lvs [1, 0] rfl (ih (i + 1) _ _ (by omega) (nI_1 i) (by first | exact set_set.trans (congrArg (fun f => ws.set (k + 2) (b, .inl (ct 0, 24, .inl (f)))) (if_pos c11).symm) | exact set_set.trans (congrArg (fun f => ws.set (k + 2) (b, .inl (ct 0, 24, .inl (f)))) ((if_neg c11).trans (if_neg c34)).symm) | exact congrArg (fun f => ws.set (k + 2) (b, .inl (ct 0, 24, .inl (f)))) ((if_neg c11).trans (if_pos c34)).symm))
  exact j_lvs [1, 0] rfl (L2 (4) (0) _ _ (by omega) (rfl) ((set_self hk.2.2).symm))
set_option maxRecDepth 100000 in
set_option maxHeartbeats 4000000 in
theorem kX0_allWears (l : Launch) (D : va_G) (ct : Nat → ClassId) (sa : Nat → Nat) (ws : va_W) (k h a b : Nat) (lt wr : Nat → Int32) (w rk op lo : Int32) (hk : Lk ct ws k h a b lt wr w rk op lo) : jM l yX0_allWears (Cond.code yX0_allWears cX0_allWears 3 (Option.some Jvm.ClassFile.FieldType.int) :: GW) (rM 0 0 0 0) D ct sa [.ref h] (ws) (dK (some (.int (sumF wr 24))) ws) 0 0 := by
  refine jMX.plain (jBody (own := RX0) (by decide) rfl rfl (Nat.le_of_ble_eq_true rfl) ?_)
  intro X C E T0
  refine j_lv (lv1 := [(0, .ref _)]) rfl ?_
  refine j_iconst (v := nI 0) C dX0_allWears_0 (by decide) ?_
  refine j_istore_n (lv' := [(1, .int _), (0, .ref _)]) C dX0_allWears_1 rfl (by decide) rfl ?_
  refine j_iconst (v := nI 0) C dX0_allWears_2 (by decide) ?_
  refine j_istore_n (lv' := [(2, .int _), (1, .int _), (0, .ref _)]) C dX0_allWears_3 rfl (by decide) rfl ?_
  have L4 : ∀ (d i : Nat) (x1 : Int32) (x2 : Int32), i + d = 24 → x1 = sumF wr i → x2 = nI i → J X (ws) (0) (0) 4 [(0, .ref h), (1, .int x1), (2, .int x2)] [] := by
    intro d
    induction d with
    | zero =>
      intro i x1 x2 hd e_x1 e_x2 
      subst e_x1
      subst e_x2
      have hi9 : i = 24 := by omega
      subst hi9
      refine j_iload_n (i := 2) C dX0_allWears_4 rfl 2 rfl ?_
      refine j_aload_n (i := 0) C dX0_allWears_5 rfl 0 rfl ?_
      refine j_get (Cn := RX0) (T := TX0) (N := 6) (ci := 1) C iX0 rfl (k) hk.1 1 (by decide) gw116 rfl rfl dX0_allWears_6 ?_
      refine j_alen (v := nI 24) C (k + 2) 0 hk.2.2 rfl rfl dX0_allWears_9 ?_
      refine j_icmp_ge C 28 dX0_allWears_10 (by decide) (fun c10 => ?_) (fun c10 => by first | exact absurd c10 (by decide) | exact absurd c10 (nI_ge (by omega) (by omega)) | exact absurd (nI_le (by omega) (by omega)) c10 | exact absurd c10 (nI_nlt (by omega) (by omega)) | exact absurd (nI_lt (by omega) (by omega)) c10 | exact absurd c10 (nI_nle0 (by omega) (by omega)))
      refine j_iload_n (i := 1) C dX0_allWears_28 rfl 1 rfl ?_
      exact j_ireturn C E rfl dX0_allWears_29 (Nat.le_of_ble_eq_true rfl) (Nat.le_of_ble_eq_true rfl) (⟨rfl, rfl⟩)
    | succ d ih =>
      intro i x1 x2 hd e_x1 e_x2 
      subst e_x1
      subst e_x2
      refine j_iload_n (i := 2) C dX0_allWears_4 rfl 2 rfl ?_
      refine j_aload_n (i := 0) C dX0_allWears_5 rfl 0 rfl ?_
      refine j_get (Cn := RX0) (T := TX0) (N := 6) (ci := 1) C iX0 rfl (k) hk.1 1 (by decide) gw116 rfl rfl dX0_allWears_6 ?_
      refine j_alen (v := nI 24) C (k + 2) 0 hk.2.2 rfl rfl dX0_allWears_9 ?_
      refine j_icmp_ge C 28 dX0_allWears_10 (by decide) (fun c10 => by first | exact absurd c10 (by decide) | exact absurd c10 (nI_ge (by omega) (by omega)) | exact absurd (nI_le (by omega) (by omega)) c10 | exact absurd c10 (nI_nlt (by omega) (by omega)) | exact absurd (nI_lt (by omega) (by omega)) c10 | exact absurd c10 (nI_nle0 (by omega) (by omega))) (fun c10 => ?_)
      refine j_iload_n (i := 1) C dX0_allWears_13 rfl 1 rfl ?_
      refine j_aload_n (i := 0) C dX0_allWears_14 rfl 0 rfl ?_
      refine j_get (Cn := RX0) (T := TX0) (N := 6) (ci := 1) C iX0 rfl (k) hk.1 1 (by decide) gw116 rfl rfl dX0_allWears_15 ?_
      refine j_iload_n (i := 2) C dX0_allWears_18 rfl 2 rfl ?_
      refine j_iald C (k + 2) hk.2.2 (i) rfl (by omega) (by decide) dX0_allWears_19 ?_
      refine j_iadd C dX0_allWears_20 ?_
      refine j_istore_n (lv' := [(1, .int _), (0, .ref _), (2, .int _)]) C dX0_allWears_21 rfl (by decide) rfl ?_
      refine j_iinc (z := 2) (lv' := [(2, .int _), (1, .int _), (0, .ref _)]) C dX0_allWears_22 rfl rfl (by decide) rfl ?_
      refine j_goto C 4 dX0_allWears_25 (by decide) ?_
      exact j_lvs [2, 1, 0] rfl (ih (i + 1) _ _ (by omega) (rfl) (nI_1 i))
  exact j_lvs [2, 1, 0] rfl (L4 (24) (0) _ _ (by omega) (rfl) (rfl))
set_option maxRecDepth 100000 in
set_option maxHeartbeats 4000000 in
theorem kX0_mostWorn (l : Launch) (D : va_G) (ct : Nat → ClassId) (sa : Nat → Nat) (ws : va_W) (k h a b : Nat) (lt wr : Nat → Int32) (w rk op lo : Int32) (x : Int32) (r : Nat) (hk : Lk ct ws k h a b lt wr w rk op lo) (hx : x = nI r) (hr : r < 4) : jM l yX0_mostWorn (Cond.code yX0_mostWorn cX0_mostWorn 4 (Option.some Jvm.ClassFile.FieldType.int) :: GW) (rM 2 0 0 42) D ct sa [.ref h, .int x] (ws) (dK (some (.int (nI (bmF (wrw wr r) 5)))) ws) 0 0 := by
  refine jMX.plain (jBody (own := RX0) (by decide) rfl rfl (Nat.le_of_ble_eq_true rfl) ?_)
  intro X C E T0
  refine j_lv (lv1 := [(0, .ref _), (1, .int _)]) rfl ?_
  refine j_iconst (v := nI 0) C dX0_mostWorn_0 (by decide) ?_
  refine j_istore_n (lv' := [(2, .int _), (0, .ref _), (1, .int _)]) C dX0_mostWorn_1 rfl (by decide) rfl ?_
  refine j_iconst (v := nI 1) C dX0_mostWorn_2 (by decide) ?_
  refine j_istore_n (lv' := [(3, .int _), (2, .int _), (0, .ref _), (1, .int _)]) C dX0_mostWorn_3 rfl (by decide) rfl ?_
  have L4 : ∀ (d t : Nat) (x2 : Int32) (x3 : Int32), t + d = 5 → x2 = nI (bmF (wrw wr r) t) → x3 = nI (t + 1) → J X (ws) (0) (0) 4 [(0, .ref h), (1, .int x), (2, .int x2), (3, .int x3)] [] := by
    intro d
    induction d with
    | zero =>
      intro t x2 x3 hd e_x2 e_x3 
      subst e_x2
      subst e_x3
      have ht : t = 5 := by omega
      subst ht
      refine j_iload_n (i := 3) C dX0_mostWorn_4 rfl 3 rfl ?_
      refine j_bipush (v := nI 6) C dX0_mostWorn_5 (by decide) ?_
      refine j_icmp_ge C 33 dX0_mostWorn_7 (by decide) (fun c7 => ?_) (fun c7 => by first | exact absurd c7 (by decide) | exact absurd c7 (nI_ge (by omega) (by omega)) | exact absurd (nI_le (by omega) (by omega)) c7 | exact absurd c7 (nI_nlt (by omega) (by omega)) | exact absurd (nI_lt (by omega) (by omega)) c7 | exact absurd c7 (nI_nle0 (by omega) (by omega)))
      refine j_iload_n (i := 2) C dX0_mostWorn_33 rfl 2 rfl ?_
      exact j_ireturn C E rfl dX0_mostWorn_34 (Nat.le_of_ble_eq_true rfl) (Nat.le_of_ble_eq_true rfl) (⟨rfl, rfl⟩)
    | succ d ih =>
      intro t x2 x3 hd e_x2 e_x3 
      subst e_x2
      subst e_x3
      have hb := bmF_le (wrw wr r) t
      refine j_iload_n (i := 3) C dX0_mostWorn_4 rfl 3 rfl ?_
      refine j_bipush (v := nI 6) C dX0_mostWorn_5 (by decide) ?_
      refine j_icmp_ge C 33 dX0_mostWorn_7 (by decide) (fun c7 => by first | exact absurd c7 (by decide) | exact absurd c7 (nI_ge (by omega) (by omega)) | exact absurd (nI_le (by omega) (by omega)) c7 | exact absurd c7 (nI_nlt (by omega) (by omega)) | exact absurd (nI_lt (by omega) (by omega)) c7 | exact absurd c7 (nI_nle0 (by omega) (by omega))) (fun c7 => ?_)
      refine j_aload_n (i := 0) C dX0_mostWorn_10 rfl 0 rfl ?_
      refine j_iload_n (i := 1) C dX0_mostWorn_11 rfl 1 rfl ?_
      refine j_iload_n (i := 3) C dX0_mostWorn_12 rfl 3 rfl ?_
      refine j_callV (nargs := 2) (As := [_, _]) (Cn := RX0) C (k) hk.1 rfl rfl gw315 gw316 gw317 gw27 (kX0_wearAt l D ct sa _ k h a b lt wr w rk op lo _ _ r (t + 1) hk hx rfl hr (by omega)) gw318 (by decide +kernel) rfl dX0_mostWorn_13 ⟨Nat.le_of_ble_eq_true rfl, Nat.le_of_ble_eq_true rfl⟩ ⟨Nat.le_of_ble_eq_true rfl, Nat.le_of_ble_eq_true rfl⟩ (Nat.le_of_ble_eq_true rfl) (dki ?_)
      refine j_aload_n (i := 0) C dX0_mostWorn_16 rfl 0 rfl ?_
      refine j_iload_n (i := 1) C dX0_mostWorn_17 rfl 1 rfl ?_
      refine j_iload_n (i := 2) C dX0_mostWorn_18 rfl 2 rfl ?_
      refine j_callV (nargs := 2) (As := [_, _]) (Cn := RX0) C (k) hk.1 rfl rfl gw315 gw316 gw317 gw27 (kX0_wearAt l D ct sa _ k h a b lt wr w rk op lo _ _ r (bmF (wrw wr r) t) hk hx rfl hr (by omega)) gw318 (by decide +kernel) rfl dX0_mostWorn_19 ⟨Nat.le_of_ble_eq_true rfl, Nat.le_of_ble_eq_true rfl⟩ ⟨Nat.le_of_ble_eq_true rfl, Nat.le_of_ble_eq_true rfl⟩ (Nat.le_of_ble_eq_true rfl) (dki ?_)
      refine j_icmp_le C 27 dX0_mostWorn_22 (by decide) (fun c22 => ?_) (fun c22 => ?_)
      · refine j_iinc (z := 3) (lv' := [(3, .int _), (0, .ref _), (1, .int _), (2, .int _)]) C dX0_mostWorn_27 rfl rfl (by decide) rfl ?_
        refine j_goto C 4 dX0_mostWorn_30 (by decide) ?_
        exact j_lvs [1, 2, 3, 0] rfl (ih (t + 1) _ _ (by omega) (by show _ = nI (if _ then _ else _); first | rw [if_neg (inlt c22)] | rw [if_pos (ilt_of c22)]) (nI_1 (t + 1)))
      · refine j_iload_n (i := 3) C dX0_mostWorn_25 rfl 3 rfl ?_
        refine j_istore_n (lv' := [(2, .int _), (0, .ref _), (1, .int _), (3, .int _)]) C dX0_mostWorn_26 rfl (by decide) rfl ?_
        refine j_iinc (z := 3) (lv' := [(3, .int _), (2, .int _), (0, .ref _), (1, .int _)]) C dX0_mostWorn_27 rfl rfl (by decide) rfl ?_
        refine j_goto C 4 dX0_mostWorn_30 (by decide) ?_
        exact j_lvs [2, 3, 1, 0] rfl (ih (t + 1) _ _ (by omega) (by show _ = nI (if _ then _ else _); first | rw [if_neg (inlt c22)] | rw [if_pos (ilt_of c22)]) (nI_1 (t + 1)))
  exact j_lvs [2, 3, 1, 0] rfl (L4 (5) (0) _ _ (by omega) (rfl) (rfl))
set_option maxRecDepth 100000 in
set_option maxHeartbeats 4000000 in
theorem kX0_showing (l : Launch) (D : va_G) (ct : Nat → ClassId) (sa : Nat → Nat) (ws : va_W) (k h a b : Nat) (lt wr : Nat → Int32) (w rk op lo : Int32) (hk : Lk ct ws k h a b lt wr w rk op lo) : jM l yX0_showing (Cond.code yX0_showing cX0_showing 3 (Option.some Jvm.ClassFile.FieldType.int) :: GW) (rM 3 0 0 65) D ct sa [.ref h] (ws) (dK (some (.int (stF (fun r => nI (bmF (wrw wr r) 5)) 4))) ws) 0 0 := by
  refine jMX.plain (jBody (own := RX0) (by decide) rfl rfl (Nat.le_of_ble_eq_true rfl) ?_)
  intro X C E T0
  refine j_lv (lv1 := [(0, .ref _)]) rfl ?_
  refine j_iconst (v := nI 0) C dX0_showing_0 (by decide) ?_
  refine j_istore_n (lv' := [(1, .int _), (0, .ref _)]) C dX0_showing_1 rfl (by decide) rfl ?_
  refine j_iconst (v := nI 0) C dX0_showing_2 (by decide) ?_
  refine j_istore_n (lv' := [(2, .int _), (1, .int _), (0, .ref _)]) C dX0_showing_3 rfl (by decide) rfl ?_
  have L4 : ∀ (d i : Nat) (x1 : Int32) (x2 : Int32), i + d = 4 → x1 = stF (fun r => nI (bmF (wrw wr r) 5)) i → x2 = nI i → J X (ws) (0) (0) 4 [(0, .ref h), (1, .int x1), (2, .int x2)] [] := by
    intro d
    induction d with
    | zero =>
      intro i x1 x2 hd e_x1 e_x2 
      subst e_x1
      subst e_x2
      have hi9 : i = 4 := by omega
      subst hi9
      refine j_iload_n (i := 2) C dX0_showing_4 rfl 2 rfl ?_
      refine j_iconst (v := nI 4) C dX0_showing_5 (by decide) ?_
      refine j_icmp_ge C 26 dX0_showing_6 (by decide) (fun c6 => ?_) (fun c6 => by first | exact absurd c6 (by decide) | exact absurd c6 (nI_ge (by omega) (by omega)) | exact absurd (nI_le (by omega) (by omega)) c6 | exact absurd c6 (nI_nlt (by omega) (by omega)) | exact absurd (nI_lt (by omega) (by omega)) c6 | exact absurd c6 (nI_nle0 (by omega) (by omega)))
      refine j_iload_n (i := 1) C dX0_showing_26 rfl 1 rfl ?_
      exact j_ireturn C E rfl dX0_showing_27 (Nat.le_of_ble_eq_true rfl) (Nat.le_of_ble_eq_true rfl) (⟨rfl, rfl⟩)
    | succ d ih =>
      intro i x1 x2 hd e_x1 e_x2 
      subst e_x1
      subst e_x2
      refine j_iload_n (i := 2) C dX0_showing_4 rfl 2 rfl ?_
      refine j_iconst (v := nI 4) C dX0_showing_5 (by decide) ?_
      refine j_icmp_ge C 26 dX0_showing_6 (by decide) (fun c6 => by first | exact absurd c6 (by decide) | exact absurd c6 (nI_ge (by omega) (by omega)) | exact absurd (nI_le (by omega) (by omega)) c6 | exact absurd c6 (nI_nlt (by omega) (by omega)) | exact absurd (nI_lt (by omega) (by omega)) c6 | exact absurd c6 (nI_nle0 (by omega) (by omega))) (fun c6 => ?_)
      refine j_iload_n (i := 1) C dX0_showing_9 rfl 1 rfl ?_
      refine j_bipush (v := nI 6) C dX0_showing_10 (by decide) ?_
      refine j_imul C dX0_showing_12 ?_
      refine j_aload_n (i := 0) C dX0_showing_13 rfl 0 rfl ?_
      refine j_iload_n (i := 2) C dX0_showing_14 rfl 2 rfl ?_
      refine j_callV (nargs := 1) (As := [_]) (Cn := RX0) C (k) hk.1 rfl rfl gw311 gw313 gw2 gw27 (kX0_mostWorn l D ct sa _ k h a b lt wr w rk op lo _ i hk rfl (by omega)) gw314 (by decide +kernel) rfl dX0_showing_15 ⟨Nat.le_of_ble_eq_true rfl, Nat.le_of_ble_eq_true rfl⟩ ⟨Nat.le_of_ble_eq_true rfl, Nat.le_of_ble_eq_true rfl⟩ (Nat.le_of_ble_eq_true rfl) (dki ?_)
      refine j_iadd C dX0_showing_18 ?_
      refine j_istore_n (lv' := [(1, .int _), (0, .ref _), (2, .int _)]) C dX0_showing_19 rfl (by decide) rfl ?_
      refine j_iinc (z := 2) (lv' := [(2, .int _), (1, .int _), (0, .ref _)]) C dX0_showing_20 rfl rfl (by decide) rfl ?_
      refine j_goto C 4 dX0_showing_23 (by decide) ?_
      exact j_lvs [2, 1, 0] rfl (ih (i + 1) _ _ (by omega) (congrArg (fun z => z + nI (bmF (wrw wr i) 5)) (Int32.mul_comm _ _)) (nI_1 i))
  exact j_lvs [2, 1, 0] rfl (L4 (4) (0) _ _ (by omega) (rfl) (rfl))
set_option maxRecDepth 100000 in
set_option maxHeartbeats 4000000 in
theorem kX0_placeInOrder (l : Launch) (D : va_G) (ct : Nat → ClassId) (sa : Nat → Nat) (ws : va_W) (k h a b : Nat) (lt wr : Nat → Int32) (w rk op lo : Int32) (x y : Int32) (r q : Nat) (hk : Lk ct ws k h a b lt wr w rk op lo) (hx : x = nI r) (hy : y = nI q) (hr : r < 4) (hq : q < 6) : jM l yX0_placeInOrder (Cond.code yX0_placeInOrder cX0_placeInOrder 7 (Option.some Jvm.ClassFile.FieldType.int) :: GW) (rM 2 0 0 42) D ct sa [.ref h, .int x, .int y] (ws) (dK (some (.int (pxN (wrw wr r) q 6))) ws) 0 0 := by
  refine jMX.plain (jBody (own := RX0) (by decide) rfl rfl (Nat.le_of_ble_eq_true rfl) ?_)
  intro X C E T0
  refine j_lv (lv1 := [(0, .ref _), (1, .int _), (2, .int _)]) rfl ?_
  subst hy
  refine j_iconst (v := nI 0) C dX0_placeInOrder_0 (by decide) ?_
  refine j_istore_n (lv' := [(3, .int _), (0, .ref _), (1, .int _), (2, .int _)]) C dX0_placeInOrder_1 rfl (by decide) rfl ?_
  refine j_aload_n (i := 0) C dX0_placeInOrder_2 rfl 1 rfl ?_
  refine j_iload_n (i := 1) C dX0_placeInOrder_3 rfl 2 rfl ?_
  refine j_iload_n (i := 2) C dX0_placeInOrder_4 rfl 3 rfl ?_
  refine j_callV (nargs := 2) (As := [_, _]) (Cn := RX0) C (k) hk.1 rfl rfl gw315 gw316 gw317 gw27 (kX0_wearAt l D ct sa _ k h a b lt wr w rk op lo _ _ r q hk hx rfl hr hq) gw318 (by decide +kernel) rfl dX0_placeInOrder_5 ⟨Nat.le_of_ble_eq_true rfl, Nat.le_of_ble_eq_true rfl⟩ ⟨Nat.le_of_ble_eq_true rfl, Nat.le_of_ble_eq_true rfl⟩ (Nat.le_of_ble_eq_true rfl) (dki ?_)
  refine j_istore (lv' := [(4, .int _), (3, .int _), (0, .ref _), (1, .int _), (2, .int _)]) C dX0_placeInOrder_8 (by decide) rfl ?_
  refine j_iconst (v := nI 0) C dX0_placeInOrder_10 (by decide) ?_
  refine j_istore (lv' := [(5, .int _), (4, .int _), (3, .int _), (0, .ref _), (1, .int _), (2, .int _)]) C dX0_placeInOrder_11 (by decide) rfl ?_
  have L13 : ∀ (d t : Nat) (x3 : Int32) (x5 : Int32), t + d = 6 → x3 = pxN (wrw wr r) q t → x5 = nI t → J X (ws) (0) (0) 13 [(0, .ref h), (1, .int x), (2, .int (nI q)), (3, .int x3), (4, .int (wr (6 * r + q))), (5, .int x5)] [] := by
    intro d
    induction d with
    | zero =>
      intro t x3 x5 hd e_x3 e_x5 
      subst e_x3
      subst e_x5
      have ht : t = 6 := by omega
      subst ht
      refine j_iload C dX0_placeInOrder_13 5 rfl ?_
      refine j_bipush (v := nI 6) C dX0_placeInOrder_15 (by decide) ?_
      refine j_icmp_ge C 58 dX0_placeInOrder_17 (by decide) (fun c17 => ?_) (fun c17 => by first | exact absurd c17 (by decide) | exact absurd c17 (nI_ge (by omega) (by omega)) | exact absurd (nI_le (by omega) (by omega)) c17 | exact absurd c17 (nI_nlt (by omega) (by omega)) | exact absurd (nI_lt (by omega) (by omega)) c17 | exact absurd c17 (nI_nle0 (by omega) (by omega)))
      refine j_iload_n (i := 3) C dX0_placeInOrder_58 rfl 3 rfl ?_
      exact j_ireturn C E rfl dX0_placeInOrder_59 (Nat.le_of_ble_eq_true rfl) (Nat.le_of_ble_eq_true rfl) (⟨rfl, rfl⟩)
    | succ d ih =>
      intro t x3 x5 hd e_x3 e_x5 
      subst e_x3
      subst e_x5
      refine j_iload C dX0_placeInOrder_13 5 rfl ?_
      refine j_bipush (v := nI 6) C dX0_placeInOrder_15 (by decide) ?_
      refine j_icmp_ge C 58 dX0_placeInOrder_17 (by decide) (fun c17 => by first | exact absurd c17 (by decide) | exact absurd c17 (nI_ge (by omega) (by omega)) | exact absurd (nI_le (by omega) (by omega)) c17 | exact absurd c17 (nI_nlt (by omega) (by omega)) | exact absurd (nI_lt (by omega) (by omega)) c17 | exact absurd c17 (nI_nle0 (by omega) (by omega))) (fun c17 => ?_)
      refine j_aload_n (i := 0) C dX0_placeInOrder_20 rfl 0 rfl ?_
      refine j_iload_n (i := 1) C dX0_placeInOrder_21 rfl 1 rfl ?_
      refine j_iload C dX0_placeInOrder_22 5 rfl ?_
      refine j_callV (nargs := 2) (As := [_, _]) (Cn := RX0) C (k) hk.1 rfl rfl gw315 gw316 gw317 gw27 (kX0_wearAt l D ct sa _ k h a b lt wr w rk op lo _ _ r t hk hx rfl hr (by omega)) gw318 (by decide +kernel) rfl dX0_placeInOrder_24 ⟨Nat.le_of_ble_eq_true rfl, Nat.le_of_ble_eq_true rfl⟩ ⟨Nat.le_of_ble_eq_true rfl, Nat.le_of_ble_eq_true rfl⟩ (Nat.le_of_ble_eq_true rfl) (dki ?_)
      refine j_istore (lv' := [(6, .int _), (0, .ref _), (1, .int _), (2, .int _), (3, .int _), (4, .int _), (5, .int _)]) C dX0_placeInOrder_27 (by decide) rfl ?_
      refine j_iload C dX0_placeInOrder_29 0 rfl ?_
      refine j_iload C dX0_placeInOrder_31 5 rfl ?_
      refine j_icmp_gt C 49 dX0_placeInOrder_33 (by decide) (fun c33 => ?_) (fun c33 => ?_)
      · refine j_iinc (z := 4) (lv' := [(3, .int _), (6, .int _), (0, .ref _), (1, .int _), (2, .int _), (4, .int _), (5, .int _)]) C dX0_placeInOrder_49 rfl rfl (by decide) rfl ?_
        refine j_iinc (z := 6) (lv' := [(5, .int _), (3, .int _), (6, .int _), (0, .ref _), (1, .int _), (2, .int _), (4, .int _)]) C dX0_placeInOrder_52 rfl rfl (by decide) rfl ?_
        refine j_goto C 13 dX0_placeInOrder_55 (by decide) ?_
        exact j_lvs [3, 4, 5, 1, 6, 0] rfl (ih (t + 1) _ _ (by omega) (by show _ = pxN (wrw wr r) q t + b2i (pxC (wrw wr r) q t); first | exact congrArg (fun z => pxN (wrw wr r) q t + z) (b2i_y (Or.inl c33)).symm | exact congrArg (fun z => pxN (wrw wr r) q t + z) (b2i_y (Or.inr ⟨c40, ilt_of c46⟩)).symm | (refine (i_add0 _).symm.trans (congrArg (fun z => pxN (wrw wr r) q t + z) (b2i_n ?_).symm); rintro (h | ⟨h1, h2⟩); (exact absurd h c33); first | exact absurd h1 c40 | exact inle h2 c46)) (nI_1 t))
      · refine j_iload C dX0_placeInOrder_36 0 rfl ?_
        refine j_iload C dX0_placeInOrder_38 5 rfl ?_
        refine j_icmp_ne C 52 dX0_placeInOrder_40 (by decide) (fun c40 => ?_) (fun c40 => ?_)
        · refine j_iinc (z := 6) (lv' := [(5, .int _), (6, .int _), (0, .ref _), (1, .int _), (2, .int _), (3, .int _), (4, .int _)]) C dX0_placeInOrder_52 rfl rfl (by decide) rfl ?_
          refine j_goto C 13 dX0_placeInOrder_55 (by decide) ?_
          exact j_lvs [2, 3, 4, 5, 6, 0] rfl (ih (t + 1) _ _ (by omega) (by show _ = pxN (wrw wr r) q t + b2i (pxC (wrw wr r) q t); first | exact congrArg (fun z => pxN (wrw wr r) q t + z) (b2i_y (Or.inl c33)).symm | exact congrArg (fun z => pxN (wrw wr r) q t + z) (b2i_y (Or.inr ⟨c40, ilt_of c46⟩)).symm | (refine (i_add0 _).symm.trans (congrArg (fun z => pxN (wrw wr r) q t + z) (b2i_n ?_).symm); rintro (h | ⟨h1, h2⟩); (exact absurd h c33); first | exact absurd h1 c40 | exact inle h2 c46)) (nI_1 t))
        · refine j_iload C dX0_placeInOrder_43 6 rfl ?_
          refine j_iload_n (i := 2) C dX0_placeInOrder_45 rfl 3 rfl ?_
          refine j_icmp_ge C 52 dX0_placeInOrder_46 (by decide) (fun c46 => ?_) (fun c46 => ?_)
          · refine j_iinc (z := 6) (lv' := [(5, .int _), (6, .int _), (0, .ref _), (1, .int _), (2, .int _), (3, .int _), (4, .int _)]) C dX0_placeInOrder_52 rfl rfl (by decide) rfl ?_
            refine j_goto C 13 dX0_placeInOrder_55 (by decide) ?_
            exact j_lvs [2, 3, 4, 5, 6, 0] rfl (ih (t + 1) _ _ (by omega) (by show _ = pxN (wrw wr r) q t + b2i (pxC (wrw wr r) q t); first | exact congrArg (fun z => pxN (wrw wr r) q t + z) (b2i_y (Or.inl c33)).symm | exact congrArg (fun z => pxN (wrw wr r) q t + z) (b2i_y (Or.inr ⟨c40, ilt_of c46⟩)).symm | (refine (i_add0 _).symm.trans (congrArg (fun z => pxN (wrw wr r) q t + z) (b2i_n ?_).symm); rintro (h | ⟨h1, h2⟩); (exact absurd h c33); first | exact absurd h1 c40 | exact inle h2 c46)) (nI_1 t))
          · refine j_iinc (z := 4) (lv' := [(3, .int _), (6, .int _), (0, .ref _), (1, .int _), (2, .int _), (4, .int _), (5, .int _)]) C dX0_placeInOrder_49 rfl rfl (by decide) rfl ?_
            refine j_iinc (z := 6) (lv' := [(5, .int _), (3, .int _), (6, .int _), (0, .ref _), (1, .int _), (2, .int _), (4, .int _)]) C dX0_placeInOrder_52 rfl rfl (by decide) rfl ?_
            refine j_goto C 13 dX0_placeInOrder_55 (by decide) ?_
            exact j_lvs [3, 4, 5, 1, 6, 0] rfl (ih (t + 1) _ _ (by omega) (by show _ = pxN (wrw wr r) q t + b2i (pxC (wrw wr r) q t); first | exact congrArg (fun z => pxN (wrw wr r) q t + z) (b2i_y (Or.inl c33)).symm | exact congrArg (fun z => pxN (wrw wr r) q t + z) (b2i_y (Or.inr ⟨c40, ilt_of c46⟩)).symm | (refine (i_add0 _).symm.trans (congrArg (fun z => pxN (wrw wr r) q t + z) (b2i_n ?_).symm); rintro (h | ⟨h1, h2⟩); (exact absurd h c33); first | exact absurd h1 c40 | exact inle h2 c46)) (nI_1 t))
  exact j_lvs [3, 4, 5, 2, 1, 0] rfl (L13 (6) (0) _ _ (by omega) (rfl) (rfl))
set_option maxRecDepth 100000 in
set_option maxHeartbeats 4000000 in
theorem kX1_isOpenIn (l : Launch) (D : va_G) (ct : Nat → ClassId) (sa : Nat → Nat) (ws : va_W) (k h : Nat) (pl f t : Int32) (x : Int32) (hk : ws[k]? = some (h, .inr (2, [.int pl, .int f, .int t]))) : jM l yX1_isOpenIn (Cond.code yX1_isOpenIn cX1_isOpenIn 3 (Option.some Jvm.ClassFile.FieldType.boolean) :: GW) (rM 0 0 0 0) D ct sa [.ref h, .int x] (ws) (dK (some (.int (b2i (opP (irm x (nI 24)) f t)))) ws) 0 0 := by
  refine jMX.plain (jBody (own := RX1) (by decide) rfl rfl (Nat.le_of_ble_eq_true rfl) ?_)
  intro X C E T0
  refine j_lv (lv1 := [(0, .ref _), (1, .int _)]) rfl ?_
  refine j_iload_n (i := 1) C dX1_isOpenIn_0 rfl 1 rfl ?_
  refine j_bipush (v := nI 24) C dX1_isOpenIn_1 (by decide) ?_
  refine j_irem C dX1_isOpenIn_3 (by decide) ?_
  refine j_istore_n (lv' := [(2, .int _), (0, .ref _), (1, .int _)]) C dX1_isOpenIn_4 rfl (by decide) rfl ?_
  refine j_aload_n (i := 0) C dX1_isOpenIn_5 rfl 1 rfl ?_
  refine j_get (Cn := RX1) (T := TX1) (N := 3) (ci := 2) C iX1 rfl (k) hk 1 (by decide) gw85 rfl rfl dX1_isOpenIn_6 ?_
  refine j_aload_n (i := 0) C dX1_isOpenIn_9 rfl 1 rfl ?_
  refine j_get (Cn := RX1) (T := TX1) (N := 3) (ci := 2) C iX1 rfl (k) hk 2 (by decide) gw87 rfl rfl dX1_isOpenIn_10 ?_
  refine j_icmp_gt C 38 dX1_isOpenIn_13 (by decide) (fun c13 => ?_) (fun c13 => ?_)
  · refine j_iload_n (i := 2) C dX1_isOpenIn_38 rfl 0 rfl ?_
    refine j_aload_n (i := 0) C dX1_isOpenIn_39 rfl 1 rfl ?_
    refine j_get (Cn := RX1) (T := TX1) (N := 3) (ci := 2) C iX1 rfl (k) hk 1 (by decide) gw85 rfl rfl dX1_isOpenIn_40 ?_
    refine j_icmp_ge C 54 dX1_isOpenIn_43 (by decide) (fun c43 => ?_) (fun c43 => ?_)
    · refine j_iconst (v := nI 1) C dX1_isOpenIn_54 (by decide) ?_
      refine j_goto C 59 dX1_isOpenIn_55 (by decide) ?_
      exact j_ireturn C E (by first | exact nr_b | rfl) dX1_isOpenIn_59 (Nat.le_of_ble_eq_true rfl) (Nat.le_of_ble_eq_true rfl) (⟨congrArg (fun z => some (Value.int z)) (by first | exact (b2i_y (by simp only [opP, irm, Int32.lt_iff_toInt_lt, Int32.le_iff_toInt_le] at *; omega)).symm | exact (b2i_n (by simp only [opP, irm, Int32.lt_iff_toInt_lt, Int32.le_iff_toInt_le] at *; omega)).symm), rfl⟩)
    · refine j_iload_n (i := 2) C dX1_isOpenIn_46 rfl 0 rfl ?_
      refine j_aload_n (i := 0) C dX1_isOpenIn_47 rfl 1 rfl ?_
      refine j_get (Cn := RX1) (T := TX1) (N := 3) (ci := 2) C iX1 rfl (k) hk 2 (by decide) gw87 rfl rfl dX1_isOpenIn_48 ?_
      refine j_icmp_ge C 58 dX1_isOpenIn_51 (by decide) (fun c51 => ?_) (fun c51 => ?_)
      · refine j_iconst (v := nI 0) C dX1_isOpenIn_58 (by decide) ?_
        exact j_ireturn C E (by first | exact nr_b | rfl) dX1_isOpenIn_59 (Nat.le_of_ble_eq_true rfl) (Nat.le_of_ble_eq_true rfl) (⟨congrArg (fun z => some (Value.int z)) (by first | exact (b2i_y (by simp only [opP, irm, Int32.lt_iff_toInt_lt, Int32.le_iff_toInt_le] at *; omega)).symm | exact (b2i_n (by simp only [opP, irm, Int32.lt_iff_toInt_lt, Int32.le_iff_toInt_le] at *; omega)).symm), rfl⟩)
      · refine j_iconst (v := nI 1) C dX1_isOpenIn_54 (by decide) ?_
        refine j_goto C 59 dX1_isOpenIn_55 (by decide) ?_
        exact j_ireturn C E (by first | exact nr_b | rfl) dX1_isOpenIn_59 (Nat.le_of_ble_eq_true rfl) (Nat.le_of_ble_eq_true rfl) (⟨congrArg (fun z => some (Value.int z)) (by first | exact (b2i_y (by simp only [opP, irm, Int32.lt_iff_toInt_lt, Int32.le_iff_toInt_le] at *; omega)).symm | exact (b2i_n (by simp only [opP, irm, Int32.lt_iff_toInt_lt, Int32.le_iff_toInt_le] at *; omega)).symm), rfl⟩)
  · refine j_iload_n (i := 2) C dX1_isOpenIn_16 rfl 0 rfl ?_
    refine j_aload_n (i := 0) C dX1_isOpenIn_17 rfl 1 rfl ?_
    refine j_get (Cn := RX1) (T := TX1) (N := 3) (ci := 2) C iX1 rfl (k) hk 1 (by decide) gw85 rfl rfl dX1_isOpenIn_18 ?_
    refine j_icmp_lt C 36 dX1_isOpenIn_21 (by decide) (fun c21 => ?_) (fun c21 => ?_)
    · refine j_iconst (v := nI 0) C dX1_isOpenIn_36 (by decide) ?_
      exact j_ireturn C E (by first | exact nr_b | rfl) dX1_isOpenIn_37 (Nat.le_of_ble_eq_true rfl) (Nat.le_of_ble_eq_true rfl) (⟨congrArg (fun z => some (Value.int z)) (by first | exact (b2i_y (by simp only [opP, irm, Int32.lt_iff_toInt_lt, Int32.le_iff_toInt_le] at *; omega)).symm | exact (b2i_n (by simp only [opP, irm, Int32.lt_iff_toInt_lt, Int32.le_iff_toInt_le] at *; omega)).symm), rfl⟩)
    · refine j_iload_n (i := 2) C dX1_isOpenIn_24 rfl 0 rfl ?_
      refine j_aload_n (i := 0) C dX1_isOpenIn_25 rfl 1 rfl ?_
      refine j_get (Cn := RX1) (T := TX1) (N := 3) (ci := 2) C iX1 rfl (k) hk 2 (by decide) gw87 rfl rfl dX1_isOpenIn_26 ?_
      refine j_icmp_ge C 36 dX1_isOpenIn_29 (by decide) (fun c29 => ?_) (fun c29 => ?_)
      · refine j_iconst (v := nI 0) C dX1_isOpenIn_36 (by decide) ?_
        exact j_ireturn C E (by first | exact nr_b | rfl) dX1_isOpenIn_37 (Nat.le_of_ble_eq_true rfl) (Nat.le_of_ble_eq_true rfl) (⟨congrArg (fun z => some (Value.int z)) (by first | exact (b2i_y (by simp only [opP, irm, Int32.lt_iff_toInt_lt, Int32.le_iff_toInt_le] at *; omega)).symm | exact (b2i_n (by simp only [opP, irm, Int32.lt_iff_toInt_lt, Int32.le_iff_toInt_le] at *; omega)).symm), rfl⟩)
      · refine j_iconst (v := nI 1) C dX1_isOpenIn_32 (by decide) ?_
        refine j_goto C 37 dX1_isOpenIn_33 (by decide) ?_
        exact j_ireturn C E (by first | exact nr_b | rfl) dX1_isOpenIn_37 (Nat.le_of_ble_eq_true rfl) (Nat.le_of_ble_eq_true rfl) (⟨congrArg (fun z => some (Value.int z)) (by first | exact (b2i_y (by simp only [opP, irm, Int32.lt_iff_toInt_lt, Int32.le_iff_toInt_le] at *; omega)).symm | exact (b2i_n (by simp only [opP, irm, Int32.lt_iff_toInt_lt, Int32.le_iff_toInt_le] at *; omega)).symm), rfl⟩)
set_option maxRecDepth 100000 in
set_option maxHeartbeats 4000000 in
theorem kJx4a65c_size_8abf5 (l : Launch) (D : va_G) (ct : Nat → ClassId) (sa : Nat → Nat) (ws : va_W) (k h : Nat) (mc : Int32) (arr : Value) (n : Nat) (hk : ws[k]? = some (h, .inr (0, [.int mc, arr, .int (nI n)]))) : jM l yJx4a65c_size_8abf5 (Cond.code yJx4a65c_size_8abf5 cJx4a65c_size_8abf5 1 (Option.some Jvm.ClassFile.FieldType.int) :: GW) (rM 0 0 0 0) D ct sa [.ref h] (ws) (dK (some (.int (nI n))) ws) 0 0 := by
  refine jMX.plain (jBody (own := RJx4a65c) (by decide) rfl rfl (Nat.le_of_ble_eq_true rfl) ?_)
  intro X C E T0
  refine j_lv (lv1 := [(0, .ref _)]) rfl ?_
  refine j_aload_n (i := 0) C dJx4a65c_size_8abf5_0 rfl 0 rfl ?_
  refine j_get (Cn := RJx4a65c) (T := TJx4a65c) (N := 3) (ci := 0) C iJx4a65c rfl (k) hk 2 (by decide) gw65 rfl rfl dJx4a65c_size_8abf5_1 ?_
  exact j_ireturn C E rfl dJx4a65c_size_8abf5_4 (Nat.le_of_ble_eq_true rfl) (Nat.le_of_ble_eq_true rfl) (⟨rfl, rfl⟩)
set_option maxRecDepth 100000 in
set_option maxHeartbeats 4000000 in
theorem kJ3_checkIndex_8e157 (l : Launch) (D : va_G) (ct : Nat → ClassId) (sa : Nat → Nat) (ws : va_W) (x y : Int32) (i n : Nat) (hx : x = nI i) (hy : y = nI n) (hi : i < n) (hn : n < 2 ^ 31) : jM l yJ3_checkIndex_8e157 (Cond.code yJ3_checkIndex_8e157 cJ3_checkIndex_8e157 3 (Option.some Jvm.ClassFile.FieldType.int) :: GW) (rM 0 0 0 0) D ct sa [.int x, .int y, .null] (ws) (dK (some (.int x)) ws) 0 0 := by
  refine jMX.plain (jBody (own := RJ3) (by decide) rfl rfl (Nat.le_of_ble_eq_true rfl) ?_)
  intro X C E T0
  refine j_lv (lv1 := [(0, .int _), (1, .int _), (2, .null)]) rfl ?_
  refine j_iload_n (i := 0) C dJ3_checkIndex_8e157_0 rfl 0 rfl ?_
  refine j_if_lt C 9 dJ3_checkIndex_8e157_1 (by decide) (fun c1 => by rw [hx] at c1; exact absurd c1 (nI_pos (by omega))) (fun c1 => ?_)
  refine j_iload_n (i := 0) C dJ3_checkIndex_8e157_4 rfl 0 rfl ?_
  refine j_iload_n (i := 1) C dJ3_checkIndex_8e157_5 rfl 1 rfl ?_
  refine j_icmp_lt C 16 dJ3_checkIndex_8e157_6 (by decide) (fun c6 => ?_) (fun c6 => by rw [hx, hy] at c6; exact absurd (nI_lt hi hn) c6)
  refine j_iload_n (i := 0) C dJ3_checkIndex_8e157_16 rfl 0 rfl ?_
  exact j_ireturn C E rfl dJ3_checkIndex_8e157_17 (Nat.le_of_ble_eq_true rfl) (Nat.le_of_ble_eq_true rfl) (⟨rfl, rfl⟩)
set_option maxRecDepth 100000 in
set_option maxHeartbeats 4000000 in
theorem kJ15_checkIndex_7cf53 (l : Launch) (D : va_G) (ct : Nat → ClassId) (sa : Nat → Nat) (ws : va_W) (x y : Int32) (i n : Nat) (hx : x = nI i) (hy : y = nI n) (hi : i < n) (hn : n < 2 ^ 31) : jM l yJ15_checkIndex_7cf53 (Cond.code yJ15_checkIndex_7cf53 cJ15_checkIndex_7cf53 2 (Option.some Jvm.ClassFile.FieldType.int) :: GW) (rM 1 0 0 22) D ct sa [.int x, .int y] (ws) (dK (some (.int x)) ws) 0 0 := by
  refine jMX.plain (jBody (own := RJ15) (by decide) rfl rfl (Nat.le_of_ble_eq_true rfl) ?_)
  intro X C E T0
  refine j_lv (lv1 := [(0, .int _), (1, .int _)]) rfl ?_
  refine j_iload_n (i := 0) C dJ15_checkIndex_7cf53_0 rfl 0 rfl ?_
  refine j_iload_n (i := 1) C dJ15_checkIndex_7cf53_1 rfl 1 rfl ?_
  refine j_null C dJ15_checkIndex_7cf53_2 ?_
  refine j_callS (nargs := 3) (As := [_, _, _]) C gw244 gw245 gw41 (kJ3_checkIndex_8e157 l D ct sa _ _ _ i n hx hy hi hn) gw246 (by decide +kernel) rfl dJ15_checkIndex_7cf53_3 ⟨Nat.le_of_ble_eq_true rfl, Nat.le_of_ble_eq_true rfl⟩ ⟨Nat.le_of_ble_eq_true rfl, Nat.le_of_ble_eq_true rfl⟩ (Nat.le_of_ble_eq_true rfl) (dki ?_)
  exact j_ireturn C E rfl dJ15_checkIndex_7cf53_6 (Nat.le_of_ble_eq_true rfl) (Nat.le_of_ble_eq_true rfl) (⟨rfl, rfl⟩)
set_option maxRecDepth 100000 in
set_option maxHeartbeats 4000000 in
theorem kJx4a65c_elementData_915e3 (l : Launch) (D : va_G) (ct : Nat → ClassId) (sa : Nat → Nat) (ws : va_W) (k ka h ar : Nat) (mc : Int32) (n N : Nat) (g : Nat → Option Nat) (x : Int32) (i b : Nat) (hk : ws[k]? = some (h, .inr (0, [.int mc, .ref ar, .int (nI n)]))) (hka : ws[ka]? = some (ar, .inl (ct 2, N, .inr (.inr (.inr (.inr g)))))) (hx : x = nI i) (hi : i < n) (hN : n ≤ N) (hN2 : N < 2 ^ 31) (hb : g i = some b) : jM l yJx4a65c_elementData_915e3 (Cond.code yJx4a65c_elementData_915e3 cJx4a65c_elementData_915e3 2 (Option.some (Jvm.ClassFile.FieldType.object "java/lang/Object")) :: GW) (rM 0 0 0 0) D ct sa [.ref h, .int x] (ws) (dK (some (.ref b)) ws) 0 0 := by
  refine jMX.plain (jBody (own := RJx4a65c) (by decide) rfl rfl (Nat.le_of_ble_eq_true rfl) ?_)
  intro X C E T0
  refine j_lv (lv1 := [(0, .ref _), (1, .int _)]) rfl ?_
  refine j_aload_n (i := 0) C dJx4a65c_elementData_915e3_0 rfl 0 rfl ?_
  refine j_get (Cn := RJx4a65c) (T := TJx4a65c) (N := 3) (ci := 0) C iJx4a65c rfl (k) hk 1 (by decide) gw64 rfl rfl dJx4a65c_elementData_915e3_1 ?_
  refine j_iload_n (i := 1) C dJx4a65c_elementData_915e3_4 rfl 1 rfl ?_
  refine j_aald C (ka) 2 hka rfl rfl (i) hx (by omega) hN2 hb dJx4a65c_elementData_915e3_5 ?_
  exact j_areturn C E (Or.inl ⟨_, rfl⟩) dJx4a65c_elementData_915e3_6 (Nat.le_of_ble_eq_true rfl) (Nat.le_of_ble_eq_true rfl) (⟨rfl, rfl⟩)
set_option maxRecDepth 100000 in
set_option maxHeartbeats 4000000 in
theorem kJx4a65c_get_915e3 (l : Launch) (D : va_G) (ct : Nat → ClassId) (sa : Nat → Nat) (ws : va_W) (k ka h ar : Nat) (mc : Int32) (n N : Nat) (g : Nat → Option Nat) (x : Int32) (i b : Nat) (hk : ws[k]? = some (h, .inr (0, [.int mc, .ref ar, .int (nI n)]))) (hka : ws[ka]? = some (ar, .inl (ct 2, N, .inr (.inr (.inr (.inr g)))))) (hx : x = nI i) (hi : i < n) (hN : n ≤ N) (hN2 : N < 2 ^ 31) (hb : g i = some b) : jM l yJx4a65c_get_915e3 (Cond.code yJx4a65c_get_915e3 cJx4a65c_get_915e3 2 (Option.some (Jvm.ClassFile.FieldType.object "java/lang/Object")) :: GW) (rM 2 0 0 43) D ct sa [.ref h, .int x] (ws) (dK (some (.ref b)) ws) 0 0 := by
  refine jMX.plain (jBody (own := RJx4a65c) (by decide) rfl rfl (Nat.le_of_ble_eq_true rfl) ?_)
  intro X C E T0
  refine j_lv (lv1 := [(0, .ref _), (1, .int _)]) rfl ?_
  refine j_iload_n (i := 1) C dJx4a65c_get_915e3_0 rfl 1 rfl ?_
  refine j_aload_n (i := 0) C dJx4a65c_get_915e3_1 rfl 0 rfl ?_
  refine j_get (Cn := RJx4a65c) (T := TJx4a65c) (N := 3) (ci := 0) C iJx4a65c rfl (k) hk 2 (by decide) gw65 rfl rfl dJx4a65c_get_915e3_2 ?_
  refine j_callS (nargs := 2) (As := [_, _]) C gw241 gw242 gw40 (kJ15_checkIndex_7cf53 l D ct sa _ _ _ i n hx rfl hi (by omega)) gw243 (by decide +kernel) rfl dJx4a65c_get_915e3_5 ⟨Nat.le_of_ble_eq_true rfl, Nat.le_of_ble_eq_true rfl⟩ ⟨Nat.le_of_ble_eq_true rfl, Nat.le_of_ble_eq_true rfl⟩ (Nat.le_of_ble_eq_true rfl) (dki ?_)
  refine j_pop C dJx4a65c_get_915e3_8 rfl ?_
  refine j_aload_n (i := 0) C dJx4a65c_get_915e3_9 rfl 0 rfl ?_
  refine j_iload_n (i := 1) C dJx4a65c_get_915e3_10 rfl 1 rfl ?_
  refine j_callV (nargs := 1) (As := [_]) (Cn := RJx4a65c) C (k) hk rfl rfl gw247 gw248 gw249 gw24 (kJx4a65c_elementData_915e3 l D ct sa _ k ka h ar mc n N g _ i b hk hka hx hi hN hN2 hb) gw250 (by decide +kernel) rfl dJx4a65c_get_915e3_11 ⟨Nat.le_of_ble_eq_true rfl, Nat.le_of_ble_eq_true rfl⟩ ⟨Nat.le_of_ble_eq_true rfl, Nat.le_of_ble_eq_true rfl⟩ (Nat.le_of_ble_eq_true rfl) (dkr ?_)
  exact j_areturn C E (Or.inl ⟨_, rfl⟩) dJx4a65c_get_915e3_14 (Nat.le_of_ble_eq_true rfl) (Nat.le_of_ble_eq_true rfl) (⟨rfl, rfl⟩)
