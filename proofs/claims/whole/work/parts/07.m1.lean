set_option maxRecDepth 100000 in
set_option maxHeartbeats 4000000 in
theorem kX4_thrown (l : Launch) (D : va_G) (ct : Nat → ClassId) (sa : Nat → Nat) (a : Nat → Nat) (thr : Int32) (σ : St) (wr : va_W) : jM l yX4_thrown (Cond.code yX4_thrown cX4_thrown 1 (Option.some Jvm.ClassFile.FieldType.int) :: GW) (rM 0 0 0 0) D ct sa [.ref (a 0)] (WM ct a thr σ ++ wr) (dK (some (.int thr)) (WM ct a thr σ ++ wr)) 0 0 := by
  refine jMX.plain (jBody (own := RX4) (by decide) rfl rfl (Nat.le_of_ble_eq_true rfl) ?_)
  intro X C E T0
  refine j_lv (lv1 := [(0, .ref _)]) rfl ?_
  refine j_aload_n (i := 0) C dX4_thrown_0 rfl 0 rfl ?_
  refine j_get (Cn := RX4) (T := TX4) (N := 7) (ci := 5) C iX4 rfl (0) rfl 0 (by decide) gw677 rfl rfl dX4_thrown_1 ?_
  exact j_ireturn C E rfl dX4_thrown_4 (Nat.le_of_ble_eq_true rfl) (Nat.le_of_ble_eq_true rfl) (⟨rfl, rfl⟩)
set_option maxRecDepth 100000 in
set_option maxHeartbeats 4000000 in
theorem kX4_fail (l : Launch) (D : va_G) (ct : Nat → ClassId) (sa : Nat → Nat) (a : Nat → Nat) (thr : Int32) (σ : St) (wr : va_W) (x : Int32) : jM l yX4_fail (Cond.code yX4_fail cX4_fail 2 (Option.some Jvm.ClassFile.FieldType.int) :: GW) (rM 0 0 0 0) D ct sa [.ref (a 0), .int x] (WM ct a thr σ ++ wr) (dK (some (.int (nI 0))) (WM ct a x σ ++ wr)) 0 0 := by
  refine jMX.plain (jBody (own := RX4) (by decide) rfl rfl (Nat.le_of_ble_eq_true rfl) ?_)
  intro X C E T0
  refine j_lv (lv1 := [(0, .ref _), (1, .int _)]) rfl ?_
  refine j_aload_n (i := 0) C dX4_fail_0 rfl 0 rfl ?_
  refine j_iload_n (i := 1) C dX4_fail_1 rfl 1 rfl ?_
  refine j_put (Cn := RX4) (T := TX4) (N := 7) (ci := 5) (ws2 := WM ct a x σ ++ wr) C iX4 tyX4 tyX4_ok nmX4 rfl (0) rfl 0 (by decide) gw677 rfl rfl rfl rfl rfl (Nat.le_of_ble_eq_true rfl) rfl dX4_fail_2 ?_
  refine j_iconst (v := nI 0) C dX4_fail_5 (by decide) ?_
  exact j_ireturn C E rfl dX4_fail_6 (Nat.le_of_ble_eq_true rfl) (Nat.le_of_ble_eq_true rfl) (⟨rfl, rfl⟩)
set_option maxRecDepth 100000 in
set_option maxHeartbeats 4000000 in
theorem kX4_isIn (l : Launch) (D : va_G) (ct : Nat → ClassId) (sa : Nat → Nat) (ws : va_W) (v lo hi : Int32) : jM l yX4_isIn (Cond.code yX4_isIn cX4_isIn 3 (Option.some Jvm.ClassFile.FieldType.boolean) :: GW) (rM 0 0 0 0) D ct sa [.int v, .int lo, .int hi] (ws) (dK (some (.int (b2i (lo ≤ v ∧ v ≤ hi)))) ws) 0 0 := by
  refine jMX.plain (jBody (own := RX4) (by decide) rfl rfl (Nat.le_of_ble_eq_true rfl) ?_)
  intro X C E T0
  refine j_lv (lv1 := [(0, .int _), (1, .int _), (2, .int _)]) rfl ?_
  refine j_iload_n (i := 0) C dX4_isIn_0 rfl 0 rfl ?_
  refine j_iload_n (i := 1) C dX4_isIn_1 rfl 1 rfl ?_
  refine j_icmp_lt C 14 dX4_isIn_2 (by decide) (fun c2 => ?_) (fun c2 => ?_)
  · refine j_iconst (v := nI 0) C dX4_isIn_14 (by decide) ?_
    exact j_ireturn C E (by first | exact nr_b | rfl) dX4_isIn_15 (Nat.le_of_ble_eq_true rfl) (Nat.le_of_ble_eq_true rfl) (⟨congrArg (fun z => some (Value.int z)) (by first | exact (b2i_n (fun z => inle c2 z.1)).symm | exact (b2i_y ⟨ile_of c2, ile_of c7⟩).symm | exact (b2i_n (fun z => inle c7 z.2)).symm), rfl⟩)
  · refine j_iload_n (i := 0) C dX4_isIn_5 rfl 0 rfl ?_
    refine j_iload_n (i := 2) C dX4_isIn_6 rfl 2 rfl ?_
    refine j_icmp_gt C 14 dX4_isIn_7 (by decide) (fun c7 => ?_) (fun c7 => ?_)
    · refine j_iconst (v := nI 0) C dX4_isIn_14 (by decide) ?_
      exact j_ireturn C E (by first | exact nr_b | rfl) dX4_isIn_15 (Nat.le_of_ble_eq_true rfl) (Nat.le_of_ble_eq_true rfl) (⟨congrArg (fun z => some (Value.int z)) (by first | exact (b2i_n (fun z => inle c2 z.1)).symm | exact (b2i_y ⟨ile_of c2, ile_of c7⟩).symm | exact (b2i_n (fun z => inle c7 z.2)).symm), rfl⟩)
    · refine j_iconst (v := nI 1) C dX4_isIn_10 (by decide) ?_
      refine j_goto C 15 dX4_isIn_11 (by decide) ?_
      exact j_ireturn C E (by first | exact nr_b | rfl) dX4_isIn_15 (Nat.le_of_ble_eq_true rfl) (Nat.le_of_ble_eq_true rfl) (⟨congrArg (fun z => some (Value.int z)) (by first | exact (b2i_n (fun z => inle c2 z.1)).symm | exact (b2i_y ⟨ile_of c2, ile_of c7⟩).symm | exact (b2i_n (fun z => inle c7 z.2)).symm), rfl⟩)
set_option maxRecDepth 100000 in
set_option maxHeartbeats 4000000 in
theorem kX4_isLock (l : Launch) (D : va_G) (ct : Nat → ClassId) (sa : Nat → Nat) (a : Nat → Nat) (thr : Int32) (σ : St) (wr : va_W) (x : Int32) (hn : sN σ ≤ 8) : jM l yX4_isLock (Cond.code yX4_isLock cX4_isLock 2 (Option.some Jvm.ClassFile.FieldType.boolean) :: GW) (rM 1 0 0 22) D ct sa [.ref (a 0), .int x] (WM ct a thr σ ++ wr) (dK (some (.int (b2i (okI (sN σ) x)))) (WM ct a thr σ ++ wr)) 0 0 := by
  refine jMX.plain (jBody (own := RX4) (by decide) rfl rfl (Nat.le_of_ble_eq_true rfl) ?_)
  intro X C E T0
  refine j_lv (lv1 := [(0, .ref _), (1, .int _)]) rfl ?_
  refine j_iload_n (i := 1) C dX4_isLock_0 rfl 1 rfl ?_
  refine j_iconst (v := nI 0) C dX4_isLock_1 (by decide) ?_
  refine j_aload_n (i := 0) C dX4_isLock_2 rfl 0 rfl ?_
  refine j_get (Cn := RX4) (T := TX4) (N := 7) (ci := 5) C iX4 rfl (0) rfl 1 (by decide) gw678 rfl rfl dX4_isLock_3 ?_
  refine j_iconst (v := nI 1) C dX4_isLock_6 (by decide) ?_
  refine j_isub C dX4_isLock_7 ?_
  refine j_callS (nargs := 3) (As := [_, _, _]) C gw710 gw711 gw49 (kX4_isIn l D ct sa _ _ _ _) gw712 (by decide +kernel) rfl dX4_isLock_8 ⟨Nat.le_of_ble_eq_true rfl, Nat.le_of_ble_eq_true rfl⟩ ⟨Nat.le_of_ble_eq_true rfl, Nat.le_of_ble_eq_true rfl⟩ (Nat.le_of_ble_eq_true rfl) (dki ?_)
  exact j_ireturn C E (by first | exact nr_b | rfl) dX4_isLock_11 (Nat.le_of_ble_eq_true rfl) (Nat.le_of_ble_eq_true rfl) (⟨congrArg (fun z => some (Value.int z)) (b2i_c (in_okn hn)), rfl⟩)
set_option maxRecDepth 100000 in
set_option maxHeartbeats 4000000 in
theorem kX4_isWord (l : Launch) (D : va_G) (ct : Nat → ClassId) (sa : Nat → Nat) (ws : va_W) (x : Int32) : jM l yX4_isWord (Cond.code yX4_isWord cX4_isWord 1 (Option.some Jvm.ClassFile.FieldType.boolean) :: GW) (rM 1 0 0 22) D ct sa [.int x] (ws) (dK (some (.int (b2i (okI 1296 x)))) ws) 0 0 := by
  refine jMX.plain (jBody (own := RX4) (by decide) rfl rfl (Nat.le_of_ble_eq_true rfl) ?_)
  intro X C E T0
  refine j_lv (lv1 := [(0, .int _)]) rfl ?_
  refine j_iload_n (i := 0) C dX4_isWord_0 rfl 0 rfl ?_
  refine j_iconst (v := nI 0) C dX4_isWord_1 (by decide) ?_
  refine j_sipush (v := nI 1295) C dX4_isWord_2 (by decide) ?_
  refine j_callS (nargs := 3) (As := [_, _, _]) C gw710 gw711 gw49 (kX4_isIn l D ct sa _ _ _ _) gw712 (by decide +kernel) rfl dX4_isWord_5 ⟨Nat.le_of_ble_eq_true rfl, Nat.le_of_ble_eq_true rfl⟩ ⟨Nat.le_of_ble_eq_true rfl, Nat.le_of_ble_eq_true rfl⟩ (Nat.le_of_ble_eq_true rfl) (dki ?_)
  exact j_ireturn C E (by first | exact nr_b | rfl) dX4_isWord_8 (Nat.le_of_ble_eq_true rfl) (Nat.le_of_ble_eq_true rfl) (⟨congrArg (fun z => some (Value.int z)) (b2i_c (in_ok (M := 1295) (by decide))), rfl⟩)
set_option maxRecDepth 100000 in
set_option maxHeartbeats 4000000 in
theorem kX4_isRack (l : Launch) (D : va_G) (ct : Nat → ClassId) (sa : Nat → Nat) (ws : va_W) (x : Int32) : jM l yX4_isRack (Cond.code yX4_isRack cX4_isRack 1 (Option.some Jvm.ClassFile.FieldType.boolean) :: GW) (rM 1 0 0 22) D ct sa [.int x] (ws) (dK (some (.int (b2i (okI 3 x)))) ws) 0 0 := by
  refine jMX.plain (jBody (own := RX4) (by decide) rfl rfl (Nat.le_of_ble_eq_true rfl) ?_)
  intro X C E T0
  refine j_lv (lv1 := [(0, .int _)]) rfl ?_
  refine j_iload_n (i := 0) C dX4_isRack_0 rfl 0 rfl ?_
  refine j_iconst (v := nI 0) C dX4_isRack_1 (by decide) ?_
  refine j_iconst (v := nI 2) C dX4_isRack_2 (by decide) ?_
  refine j_callS (nargs := 3) (As := [_, _, _]) C gw710 gw711 gw49 (kX4_isIn l D ct sa _ _ _ _) gw712 (by decide +kernel) rfl dX4_isRack_3 ⟨Nat.le_of_ble_eq_true rfl, Nat.le_of_ble_eq_true rfl⟩ ⟨Nat.le_of_ble_eq_true rfl, Nat.le_of_ble_eq_true rfl⟩ (Nat.le_of_ble_eq_true rfl) (dki ?_)
  exact j_ireturn C E (by first | exact nr_b | rfl) dX4_isRack_6 (Nat.le_of_ble_eq_true rfl) (Nat.le_of_ble_eq_true rfl) (⟨congrArg (fun z => some (Value.int z)) (b2i_c (in_ok (M := 2) (by decide))), rfl⟩)
set_option maxRecDepth 100000 in
set_option maxHeartbeats 4000000 in
theorem kX4_lo (l : Launch) (D : va_G) (ct : Nat → ClassId) (sa : Nat → Nat) (a : Nat → Nat) (thr : Int32) (σ : St) (wr : va_W) (x y : Int32) (j w : Nat) (hx : x = nI j) (hy : y = nI w) (hj : j < 8) (hw : w < 8) : jM l yX4_lo (Cond.code yX4_lo cX4_lo 3 (Option.some Jvm.ClassFile.FieldType.int) :: GW) (rM 0 0 0 0) D ct sa [.ref (a 0), .int x, .int y] (WM ct a thr σ ++ wr) (dK (some (.int (sR σ (8 * j + w)))) (WM ct a thr σ ++ wr)) 0 0 := by
  refine jMX.plain (jBody (own := RX4) (by decide) rfl rfl (Nat.le_of_ble_eq_true rfl) ?_)
  intro X C E T0
  refine j_lv (lv1 := [(0, .ref _), (1, .int _), (2, .int _)]) rfl ?_
  refine j_aload_n (i := 0) C dX4_lo_0 rfl 0 rfl ?_
  refine j_get (Cn := RX4) (T := TX4) (N := 7) (ci := 5) C iX4 rfl (0) rfl 4 (by decide) gw681 rfl rfl dX4_lo_1 ?_
  refine j_bipush (v := nI 8) C dX4_lo_4 (by decide) ?_
  refine j_iload_n (i := 1) C dX4_lo_6 rfl 1 rfl ?_
  refine j_imul C dX4_lo_7 ?_
  refine j_iload_n (i := 2) C dX4_lo_8 rfl 2 rfl ?_
  refine j_iadd C dX4_lo_9 ?_
  refine j_iald C (1) rfl (8 * j + w) (by rw [hx, hy, pk_mul, nI_add]) (by omega) (by decide) dX4_lo_10 ?_
  exact j_ireturn C E rfl dX4_lo_11 (Nat.le_of_ble_eq_true rfl) (Nat.le_of_ble_eq_true rfl) (⟨rfl, rfl⟩)
set_option maxRecDepth 100000 in
set_option maxHeartbeats 4000000 in
theorem kX4_let (l : Launch) (D : va_G) (ct : Nat → ClassId) (sa : Nat → Nat) (a : Nat → Nat) (thr : Int32) (σ : St) (wr : va_W) (x y v : Int32) (j w : Nat) (hx : x = nI j) (hy : y = nI w) (hj : j < 8) (hw : w < 8) : jM l yX4_let (Cond.code yX4_let cX4_let 4 (Option.none : Option Jvm.ClassFile.FieldType) :: GW) (rM 0 0 0 0) D ct sa [.ref (a 0), .int x, .int y, .int v] (WM ct a thr σ ++ wr) (dK none (WM ct a thr (uR σ (upd (sR σ) (8 * j + w) v)) ++ wr)) 0 0 := by
  refine jMX.plain (jBody (own := RX4) (by decide) rfl rfl (Nat.le_of_ble_eq_true rfl) ?_)
  intro X C E T0
  refine j_lv (lv1 := [(0, .ref _), (1, .int _), (2, .int _), (3, .int _)]) rfl ?_
  refine j_aload_n (i := 0) C dX4_let_0 rfl 0 rfl ?_
  refine j_get (Cn := RX4) (T := TX4) (N := 7) (ci := 5) C iX4 rfl (0) rfl 4 (by decide) gw681 rfl rfl dX4_let_1 ?_
  refine j_bipush (v := nI 8) C dX4_let_4 (by decide) ?_
  refine j_iload_n (i := 1) C dX4_let_6 rfl 1 rfl ?_
  refine j_imul C dX4_let_7 ?_
  refine j_iload_n (i := 2) C dX4_let_8 rfl 2 rfl ?_
  refine j_iadd C dX4_let_9 ?_
  refine j_iload_n (i := 3) C dX4_let_10 rfl 3 rfl ?_
  refine j_iast (ws2 := WM ct a thr (uR σ (upd (sR σ) (8 * j + w) v)) ++ wr) C (1) rfl (8 * j + w) (by rw [hx, hy, pk_mul, nI_add]) (by omega) (by decide) rfl dX4_let_11 ?_
  exact j_return C E dX4_let_12 (Nat.le_of_ble_eq_true rfl) (Nat.le_of_ble_eq_true rfl) (⟨rfl, rfl⟩)
set_option maxRecDepth 100000 in
set_option maxHeartbeats 4000000 in
theorem kX4_ra (l : Launch) (D : va_G) (ct : Nat → ClassId) (sa : Nat → Nat) (a : Nat → Nat) (thr : Int32) (σ : St) (wr : va_W) (x y : Int32) (j w : Nat) (hx : x = nI j) (hy : y = nI w) (hj : j < 3) (hw : w < 3) : jM l yX4_ra (Cond.code yX4_ra cX4_ra 3 (Option.some Jvm.ClassFile.FieldType.int) :: GW) (rM 0 0 0 0) D ct sa [.ref (a 0), .int x, .int y] (WM ct a thr σ ++ wr) (dK (some (.int (sK σ (3 * j + w)))) (WM ct a thr σ ++ wr)) 0 0 := by
  refine jMX.plain (jBody (own := RX4) (by decide) rfl rfl (Nat.le_of_ble_eq_true rfl) ?_)
  intro X C E T0
  refine j_lv (lv1 := [(0, .ref _), (1, .int _), (2, .int _)]) rfl ?_
  refine j_aload_n (i := 0) C dX4_ra_0 rfl 0 rfl ?_
  refine j_get (Cn := RX4) (T := TX4) (N := 7) (ci := 5) C iX4 rfl (0) rfl 6 (by decide) gw683 rfl rfl dX4_ra_1 ?_
  refine j_iconst (v := nI 3) C dX4_ra_4 (by decide) ?_
  refine j_iload_n (i := 1) C dX4_ra_5 rfl 1 rfl ?_
  refine j_imul C dX4_ra_6 ?_
  refine j_iload_n (i := 2) C dX4_ra_7 rfl 2 rfl ?_
  refine j_iadd C dX4_ra_8 ?_
  refine j_iald C (3) rfl (3 * j + w) (by rw [hx, hy, pk_mul, nI_add]) (by omega) (by decide) dX4_ra_9 ?_
  exact j_ireturn C E rfl dX4_ra_10 (Nat.le_of_ble_eq_true rfl) (Nat.le_of_ble_eq_true rfl) (⟨rfl, rfl⟩)
set_option maxRecDepth 100000 in
set_option maxHeartbeats 4000000 in
theorem kX4_we (l : Launch) (D : va_G) (ct : Nat → ClassId) (sa : Nat → Nat) (a : Nat → Nat) (thr : Int32) (σ : St) (wr : va_W) (x y z : Int32) (j r q : Nat) (hx : x = nI j) (hy : y = nI r) (hz : z = nI q) (hj : j < 8) (hr : r < 4) (hq : q < 6) : jM l yX4_we (Cond.code yX4_we cX4_we 4 (Option.some Jvm.ClassFile.FieldType.int) :: GW) (rM 0 0 0 0) D ct sa [.ref (a 0), .int x, .int y, .int z] (WM ct a thr σ ++ wr) (dK (some (.int (sW σ (6 * (4 * j + r) + q)))) (WM ct a thr σ ++ wr)) 0 0 := by
  refine jMX.plain (jBody (own := RX4) (by decide) rfl rfl (Nat.le_of_ble_eq_true rfl) ?_)
  intro X C E T0
  refine j_lv (lv1 := [(0, .ref _), (1, .int _), (2, .int _), (3, .int _)]) rfl ?_
  refine j_aload_n (i := 0) C dX4_we_0 rfl 0 rfl ?_
  refine j_get (Cn := RX4) (T := TX4) (N := 7) (ci := 5) C iX4 rfl (0) rfl 5 (by decide) gw682 rfl rfl dX4_we_1 ?_
  refine j_bipush (v := nI 6) C dX4_we_4 (by decide) ?_
  refine j_iconst (v := nI 4) C dX4_we_6 (by decide) ?_
  refine j_iload_n (i := 1) C dX4_we_7 rfl 1 rfl ?_
  refine j_imul C dX4_we_8 ?_
  refine j_iload_n (i := 2) C dX4_we_9 rfl 2 rfl ?_
  refine j_iadd C dX4_we_10 ?_
  refine j_imul C dX4_we_11 ?_
  refine j_iload_n (i := 3) C dX4_we_12 rfl 3 rfl ?_
  refine j_iadd C dX4_we_13 ?_
  refine j_iald C (2) rfl (6 * (4 * j + r) + q) (by rw [hx, hy, hz, pk_mul, nI_add, pk_mul, nI_add]) (by omega) (by decide) dX4_we_14 ?_
  exact j_ireturn C E rfl dX4_we_15 (Nat.le_of_ble_eq_true rfl) (Nat.le_of_ble_eq_true rfl) (⟨rfl, rfl⟩)
set_option maxRecDepth 100000 in
set_option maxHeartbeats 4000000 in
theorem kX4_letter (l : Launch) (D : va_G) (ct : Nat → ClassId) (sa : Nat → Nat) (ws : va_W) (x y : Int32) (r : Nat) (hy : y = nI r) (hr : r < 4) : jM l yX4_letter (Cond.code yX4_letter cX4_letter 4 (Option.some Jvm.ClassFile.FieldType.int) :: GW) (rM 0 0 0 0) D ct sa [.int x, .int y] (ws) (dK (some (.int (ltF x r))) ws) 0 0 := by
  refine jMX.plain (jBody (own := RX4) (by decide) rfl rfl (Nat.le_of_ble_eq_true rfl) ?_)
  intro X C E T0
  refine j_lv (lv1 := [(0, .int _), (1, .int _)]) rfl ?_
  refine j_iload_n (i := 0) C dX4_letter_0 rfl 0 rfl ?_
  refine j_istore_n (lv' := [(2, .int _), (0, .int _), (1, .int _)]) C dX4_letter_1 rfl (by decide) rfl ?_
  refine j_iload_n (i := 1) C dX4_letter_2 rfl 2 rfl ?_
  refine j_iconst (v := nI 1) C dX4_letter_3 (by decide) ?_
  refine j_iadd C dX4_letter_4 ?_
  refine j_istore_n (lv' := [(3, .int _), (2, .int _), (0, .int _), (1, .int _)]) C dX4_letter_5 rfl (by decide) rfl ?_
  have L6 : ∀ (d i : Nat) (x2 : Int32) (x3 : Int32), i + d = 3 - r → x2 = dvF x i → x3 = nI (r + 1 + i) → J X (ws) (0) (0) 6 [(1, .int y), (2, .int x2), (3, .int x3)] [] := by
    intro d
    induction d with
    | zero =>
      intro i x2 x3 hd e_x2 e_x3 
      subst e_x2
      subst e_x3
      have hi : i = 3 - r := by omega
      subst hi
      refine j_iload_n (i := 3) C dX4_letter_6 rfl 2 rfl ?_
      refine j_iconst (v := nI 4) C dX4_letter_7 (by decide) ?_
      refine j_icmp_ge C 22 dX4_letter_8 (by decide) (fun c8 => ?_) (fun c8 => by first | exact absurd c8 (by decide) | exact absurd c8 (nI_ge (by omega) (by omega)) | exact absurd (nI_le (by omega) (by omega)) c8 | exact absurd c8 (nI_nlt (by omega) (by omega)) | exact absurd (nI_lt (by omega) (by omega)) c8 | exact absurd c8 (nI_nle0 (by omega) (by omega)))
      refine j_iload_n (i := 2) C dX4_letter_22 rfl 1 rfl ?_
      refine j_bipush (v := nI 6) C dX4_letter_23 (by decide) ?_
      refine j_irem C dX4_letter_25 (by decide) ?_
      exact j_ireturn C E rfl dX4_letter_26 (Nat.le_of_ble_eq_true rfl) (Nat.le_of_ble_eq_true rfl) (⟨rfl, rfl⟩)
    | succ d ih =>
      intro i x2 x3 hd e_x2 e_x3 
      subst e_x2
      subst e_x3
      refine j_iload_n (i := 3) C dX4_letter_6 rfl 2 rfl ?_
      refine j_iconst (v := nI 4) C dX4_letter_7 (by decide) ?_
      refine j_icmp_ge C 22 dX4_letter_8 (by decide) (fun c8 => by first | exact absurd c8 (by decide) | exact absurd c8 (nI_ge (by omega) (by omega)) | exact absurd (nI_le (by omega) (by omega)) c8 | exact absurd c8 (nI_nlt (by omega) (by omega)) | exact absurd (nI_lt (by omega) (by omega)) c8 | exact absurd c8 (nI_nle0 (by omega) (by omega))) (fun c8 => ?_)
      refine j_iload_n (i := 2) C dX4_letter_11 rfl 1 rfl ?_
      refine j_bipush (v := nI 6) C dX4_letter_12 (by decide) ?_
      refine j_idiv C dX4_letter_14 (by decide) ?_
      refine j_istore_n (lv' := [(2, .int _), (1, .int _), (3, .int _)]) C dX4_letter_15 rfl (by decide) rfl ?_
      refine j_iinc (z := 2) (lv' := [(3, .int _), (2, .int _), (1, .int _)]) C dX4_letter_16 rfl rfl (by decide) rfl ?_
      refine j_goto C 6 dX4_letter_19 (by decide) ?_
      exact j_lvs [2, 1, 0] rfl (ih (i + 1) _ _ (by omega) (rfl) (by rw [← Nat.add_assoc]; exact nI_1 _))
  exact j_lvs [3, 1, 0] rfl (L6 (3 - r) (0) _ _ (by omega) (rfl) (by rw [hy]; exact nI_add r 1))
set_option maxRecDepth 100000 in
set_option maxHeartbeats 4000000 in
theorem kX4_stands (l : Launch) (D : va_G) (ct : Nat → ClassId) (sa : Nat → Nat) (a : Nat → Nat) (thr : Int32) (σ : St) (wr : va_W) (x : Int32) (j : Nat) (hx : x = nI j) (hj : j < 8) : jM l yX4_stands (Cond.code yX4_stands cX4_stands 4 (Option.some Jvm.ClassFile.FieldType.int) :: GW) (rM 1 0 0 22) D ct sa [.ref (a 0), .int x] (WM ct a thr σ ++ wr) (dK (some (.int (stF (fun i => sR σ (8 * j + (4 + i))) 4))) (WM ct a thr σ ++ wr)) 0 0 := by
  refine jMX.plain (jBody (own := RX4) (by decide) rfl rfl (Nat.le_of_ble_eq_true rfl) ?_)
  intro X C E T0
  refine j_lv (lv1 := [(0, .ref _), (1, .int _)]) rfl ?_
  refine j_iconst (v := nI 0) C dX4_stands_0 (by decide) ?_
  refine j_istore_n (lv' := [(2, .int _), (0, .ref _), (1, .int _)]) C dX4_stands_1 rfl (by decide) rfl ?_
  refine j_iconst (v := nI 0) C dX4_stands_2 (by decide) ?_
  refine j_istore_n (lv' := [(3, .int _), (2, .int _), (0, .ref _), (1, .int _)]) C dX4_stands_3 rfl (by decide) rfl ?_
  have L4 : ∀ (d i : Nat) (x2 : Int32) (x3 : Int32), i + d = 4 → x2 = stF (fun i => sR σ (8 * j + (4 + i))) i → x3 = nI i → J X (WM ct a thr σ ++ wr) (0) (0) 4 [(0, .ref (a 0)), (1, .int x), (2, .int x2), (3, .int x3)] [] := by
    intro d
    induction d with
    | zero =>
      intro i x2 x3 hd e_x2 e_x3 
      subst e_x2
      subst e_x3
      have hi : i = 4 := by omega
      subst hi
      refine j_iload_n (i := 3) C dX4_stands_4 rfl 3 rfl ?_
      refine j_iconst (v := nI 4) C dX4_stands_5 (by decide) ?_
      refine j_icmp_ge C 29 dX4_stands_6 (by decide) (fun c6 => ?_) (fun c6 => by first | exact absurd c6 (by decide) | exact absurd c6 (nI_ge (by omega) (by omega)) | exact absurd (nI_le (by omega) (by omega)) c6 | exact absurd c6 (nI_nlt (by omega) (by omega)) | exact absurd (nI_lt (by omega) (by omega)) c6 | exact absurd c6 (nI_nle0 (by omega) (by omega)))
      refine j_iload_n (i := 2) C dX4_stands_29 rfl 2 rfl ?_
      exact j_ireturn C E rfl dX4_stands_30 (Nat.le_of_ble_eq_true rfl) (Nat.le_of_ble_eq_true rfl) (⟨rfl, rfl⟩)
    | succ d ih =>
      intro i x2 x3 hd e_x2 e_x3 
      subst e_x2
      subst e_x3
      refine j_iload_n (i := 3) C dX4_stands_4 rfl 3 rfl ?_
      refine j_iconst (v := nI 4) C dX4_stands_5 (by decide) ?_
      refine j_icmp_ge C 29 dX4_stands_6 (by decide) (fun c6 => by first | exact absurd c6 (by decide) | exact absurd c6 (nI_ge (by omega) (by omega)) | exact absurd (nI_le (by omega) (by omega)) c6 | exact absurd c6 (nI_nlt (by omega) (by omega)) | exact absurd (nI_lt (by omega) (by omega)) c6 | exact absurd c6 (nI_nle0 (by omega) (by omega))) (fun c6 => ?_)
      refine j_bipush (v := nI 6) C dX4_stands_9 (by decide) ?_
      refine j_iload_n (i := 2) C dX4_stands_11 rfl 2 rfl ?_
      refine j_imul C dX4_stands_12 ?_
      refine j_aload_n (i := 0) C dX4_stands_13 rfl 0 rfl ?_
      refine j_iload_n (i := 1) C dX4_stands_14 rfl 1 rfl ?_
      refine j_iconst (v := nI 4) C dX4_stands_15 (by decide) ?_
      refine j_iload_n (i := 3) C dX4_stands_16 rfl 3 rfl ?_
      refine j_iadd C dX4_stands_17 ?_
      refine j_callV (nargs := 2) (As := [_, _]) (Cn := RX4) C (0) rfl rfl rfl gw729 gw731 gw24 gw49 (kX4_lo l D ct sa a thr σ wr _ _ j (4 + i) hx (nI_add 4 i) hj (by omega)) gw732 (by decide +kernel) rfl dX4_stands_18 ⟨Nat.le_of_ble_eq_true rfl, Nat.le_of_ble_eq_true rfl⟩ ⟨Nat.le_of_ble_eq_true rfl, Nat.le_of_ble_eq_true rfl⟩ (Nat.le_of_ble_eq_true rfl) (dki ?_)
      refine j_iadd C dX4_stands_21 ?_
      refine j_istore_n (lv' := [(2, .int _), (0, .ref _), (1, .int _), (3, .int _)]) C dX4_stands_22 rfl (by decide) rfl ?_
      refine j_iinc (z := 3) (lv' := [(3, .int _), (2, .int _), (0, .ref _), (1, .int _)]) C dX4_stands_23 rfl rfl (by decide) rfl ?_
      refine j_goto C 4 dX4_stands_26 (by decide) ?_
      exact j_lvs [2, 3, 1, 0] rfl (ih (i + 1) _ _ (by omega) (rfl) (nI_1 i))
  exact j_lvs [2, 3, 1, 0] rfl (L4 (4) (0) _ _ (by omega) (rfl) (rfl))
set_option maxRecDepth 100000 in
set_option maxHeartbeats 4000000 in
theorem kX4_far (l : Launch) (D : va_G) (ct : Nat → ClassId) (sa : Nat → Nat) (ws : va_W) (x y : Int32) : jM l yX4_far (Cond.code yX4_far cX4_far 3 (Option.some Jvm.ClassFile.FieldType.int) :: GW) (rM 1 0 0 17) D ct sa [.int x, .int y] (ws) (dK (some (.int (farF x y))) ws) 0 0 := by
  refine jMX.plain (jBody (own := RX4) (by decide) rfl rfl (Nat.le_of_ble_eq_true rfl) ?_)
  intro X C E T0
  refine j_lv (lv1 := [(0, .int _), (1, .int _)]) rfl ?_
  refine j_iload_n (i := 0) C dX4_far_0 rfl 0 rfl ?_
  refine j_iload_n (i := 1) C dX4_far_1 rfl 1 rfl ?_
  refine j_isub C dX4_far_2 ?_
  refine j_mabs C gw736 gw516 gw56 gw517 ⟨Nat.le_of_ble_eq_true rfl, Nat.le_of_ble_eq_true rfl⟩ ⟨Nat.le_of_ble_eq_true rfl, Nat.le_of_ble_eq_true rfl⟩ dX4_far_3 ?_
  refine j_istore_n (lv' := [(2, .int _), (0, .int _), (1, .int _)]) C dX4_far_6 rfl (by decide) rfl ?_
  refine j_iload_n (i := 2) C dX4_far_7 rfl 0 rfl ?_
  refine j_bipush (v := nI 6) C dX4_far_8 (by decide) ?_
  refine j_iload_n (i := 2) C dX4_far_10 rfl 0 rfl ?_
  refine j_isub C dX4_far_11 ?_
  refine j_mmin C gw737 gw493 gw56 gw494 ⟨Nat.le_of_ble_eq_true rfl, Nat.le_of_ble_eq_true rfl⟩ ⟨Nat.le_of_ble_eq_true rfl, Nat.le_of_ble_eq_true rfl⟩ dX4_far_12 ?_
  exact j_ireturn C E rfl dX4_far_15 (Nat.le_of_ble_eq_true rfl) (Nat.le_of_ble_eq_true rfl) (⟨rfl, rfl⟩)
set_option maxRecDepth 100000 in
set_option maxHeartbeats 4000000 in
theorem kX4_close (l : Launch) (D : va_G) (ct : Nat → ClassId) (sa : Nat → Nat) (a : Nat → Nat) (thr : Int32) (σ : St) (wr : va_W) (x : Int32) (j : Nat) (hx : x = nI j) (hj : j < 8) : jM l yX4_close (Cond.code yX4_close cX4_close 3 (Option.none : Option Jvm.ClassFile.FieldType) :: GW) (rM 1 0 0 23) D ct sa [.ref (a 0), .int x] (WM ct a thr σ ++ wr) (dK none (WM ct a thr (uR σ (clF (sR σ) j 4)) ++ wr)) 0 0 := by
  refine jMX.plain (jBody (own := RX4) (by decide) rfl rfl (Nat.le_of_ble_eq_true rfl) ?_)
  intro X C E T0
  refine j_lv (lv1 := [(0, .ref _), (1, .int _)]) rfl ?_
  refine j_aload_n (i := 0) C dX4_close_0 rfl 0 rfl ?_
  refine j_iload_n (i := 1) C dX4_close_1 rfl 1 rfl ?_
  refine j_iconst (v := nI 1) C dX4_close_2 (by decide) ?_
  refine j_iconst (v := nI 0) C dX4_close_3 (by decide) ?_
  refine j_callV (nargs := 3) (As := [_, _, _]) (Cn := RX4) C (0) rfl rfl rfl gw717 gw719 gw22 gw49 (kX4_let l D ct sa a thr σ wr _ _ _ j 1 hx rfl hj (by decide)) gw720 (by decide +kernel) rfl dX4_close_4 ⟨Nat.le_of_ble_eq_true rfl, Nat.le_of_ble_eq_true rfl⟩ ⟨Nat.le_of_ble_eq_true rfl, Nat.le_of_ble_eq_true rfl⟩ (Nat.le_of_ble_eq_true rfl) (dkv ?_)
  refine j_iconst (v := nI 0) C dX4_close_7 (by decide) ?_
  refine j_istore_n (lv' := [(2, .int _), (0, .ref _), (1, .int _)]) C dX4_close_8 rfl (by decide) rfl ?_
  have L9 : ∀ (d i : Nat) (x2 : Int32) (w : va_W), i + d = 4 → x2 = nI i → w = WM ct a thr (uR σ (clF (sR σ) j i)) ++ wr → J X (w) (0) (0) 9 [(0, .ref (a 0)), (1, .int x), (2, .int x2)] [] := by
    intro d
    induction d with
    | zero =>
      intro i x2 w hd e_x2 e_w 
      subst e_x2
      subst e_w
      have hi : i = 4 := by omega
      subst hi
      refine j_iload_n (i := 2) C dX4_close_9 rfl 2 rfl ?_
      refine j_iconst (v := nI 4) C dX4_close_10 (by decide) ?_
      refine j_icmp_ge C 43 dX4_close_11 (by decide) (fun c11 => ?_) (fun c11 => by first | exact absurd c11 (by decide) | exact absurd c11 (nI_ge (by omega) (by omega)) | exact absurd (nI_le (by omega) (by omega)) c11 | exact absurd c11 (nI_nlt (by omega) (by omega)) | exact absurd (nI_lt (by omega) (by omega)) c11 | exact absurd c11 (nI_nle0 (by omega) (by omega)))
      exact j_return C E dX4_close_43 (Nat.le_of_ble_eq_true rfl) (Nat.le_of_ble_eq_true rfl) (⟨rfl, rfl⟩)
    | succ d ih =>
      intro i x2 w hd e_x2 e_w 
      subst e_x2
      subst e_w
      refine j_iload_n (i := 2) C dX4_close_9 rfl 2 rfl ?_
      refine j_iconst (v := nI 4) C dX4_close_10 (by decide) ?_
      refine j_icmp_ge C 43 dX4_close_11 (by decide) (fun c11 => by first | exact absurd c11 (by decide) | exact absurd c11 (nI_ge (by omega) (by omega)) | exact absurd (nI_le (by omega) (by omega)) c11 | exact absurd c11 (nI_nlt (by omega) (by omega)) | exact absurd (nI_lt (by omega) (by omega)) c11 | exact absurd c11 (nI_nle0 (by omega) (by omega))) (fun c11 => ?_)
      refine j_aload_n (i := 0) C dX4_close_14 rfl 0 rfl ?_
      refine j_iload_n (i := 1) C dX4_close_15 rfl 1 rfl ?_
      refine j_iconst (v := nI 4) C dX4_close_16 (by decide) ?_
      refine j_iload_n (i := 2) C dX4_close_17 rfl 2 rfl ?_
      refine j_iadd C dX4_close_18 ?_
      refine j_aload_n (i := 0) C dX4_close_19 rfl 0 rfl ?_
      refine j_iload_n (i := 1) C dX4_close_20 rfl 1 rfl ?_
      refine j_iconst (v := nI 4) C dX4_close_21 (by decide) ?_
      refine j_iload_n (i := 2) C dX4_close_22 rfl 2 rfl ?_
      refine j_iadd C dX4_close_23 ?_
      refine j_callV (nargs := 2) (As := [_, _]) (Cn := RX4) C (0) rfl rfl rfl gw729 gw731 gw24 gw49 (kX4_lo l D ct sa a thr (uR σ (clF (sR σ) j i)) wr _ _ j (4 + i) hx (nI_add 4 i) hj (by omega)) gw732 (by decide +kernel) rfl dX4_close_24 ⟨Nat.le_of_ble_eq_true rfl, Nat.le_of_ble_eq_true rfl⟩ ⟨Nat.le_of_ble_eq_true rfl, Nat.le_of_ble_eq_true rfl⟩ (Nat.le_of_ble_eq_true rfl) (dki ?_)
      refine j_iload_n (i := 2) C dX4_close_27 rfl 2 rfl ?_
      refine j_iadd C dX4_close_28 ?_
      refine j_iconst (v := nI 1) C dX4_close_29 (by decide) ?_
      refine j_iadd C dX4_close_30 ?_
      refine j_bipush (v := nI 6) C dX4_close_31 (by decide) ?_
      refine j_irem C dX4_close_33 (by decide) ?_
      refine j_callV (nargs := 3) (As := [_, _, _]) (Cn := RX4) C (0) rfl rfl rfl gw717 gw719 gw22 gw49 (kX4_let l D ct sa a thr (uR σ (clF (sR σ) j i)) wr _ _ _ j (4 + i) hx (nI_add 4 i) hj (by omega)) gw720 (by decide +kernel) rfl dX4_close_34 ⟨Nat.le_of_ble_eq_true rfl, Nat.le_of_ble_eq_true rfl⟩ ⟨Nat.le_of_ble_eq_true rfl, Nat.le_of_ble_eq_true rfl⟩ (Nat.le_of_ble_eq_true rfl) (dkv ?_)
      refine j_iinc (z := 2) (lv' := [(2, .int _), (0, .ref _), (1, .int _)]) C dX4_close_37 rfl rfl (by decide) rfl ?_
      refine j_goto C 9 dX4_close_40 (by decide) ?_
      exact j_lvs [1, 2, 0] rfl (ih (i + 1) _ _ (by omega) (nI_1 i) (rfl))
  exact j_lvs [1, 2, 0] rfl (L9 (4) (0) _ _ (by omega) (rfl) (rfl))
set_option maxRecDepth 100000 in
set_option maxHeartbeats 4000000 in
theorem kX4_in (l : Launch) (D : va_G) (ct : Nat → ClassId) (sa : Nat → Nat) (a : Nat → Nat) (thr : Int32) (σ : St) (wr : va_W) (y : Int32) (hn : sN σ ≤ 8) : jM l yX4_in (Cond.code yX4_in cX4_in 4 (Option.some Jvm.ClassFile.FieldType.int) :: GW) (rM 1 0 0 22) D ct sa [.ref (a 0), .int y] (WM ct a thr σ ++ wr) (dK (some (.int (sumF (fun i => b2i (sR σ (8 * i + 2) = y)) (sN σ)))) (WM ct a thr σ ++ wr)) 0 0 := by
  refine jMX.plain (jBody (own := RX4) (by decide) rfl rfl (Nat.le_of_ble_eq_true rfl) ?_)
  intro X C E T0
  refine j_lv (lv1 := [(0, .ref _), (1, .int _)]) rfl ?_
  refine j_iconst (v := nI 0) C dX4_in_0 (by decide) ?_
  refine j_istore_n (lv' := [(2, .int _), (0, .ref _), (1, .int _)]) C dX4_in_1 rfl (by decide) rfl ?_
  refine j_iconst (v := nI 0) C dX4_in_2 (by decide) ?_
  refine j_istore_n (lv' := [(3, .int _), (2, .int _), (0, .ref _), (1, .int _)]) C dX4_in_3 rfl (by decide) rfl ?_
  have L4 : ∀ (d i : Nat) (x2 : Int32) (x3 : Int32), i + d = sN σ → x2 = sumF (fun i => b2i (sR σ (8 * i + 2) = y)) i → x3 = nI i → J X (WM ct a thr σ ++ wr) (0) (0) 4 [(0, .ref (a 0)), (1, .int y), (2, .int x2), (3, .int x3)] [] := by
    intro d
    induction d with
    | zero =>
      intro i x2 x3 hd e_x2 e_x3 
      subst e_x2
      subst e_x3
      have hi : i = sN σ := by omega
      rw [hi]
      refine j_iload_n (i := 3) C dX4_in_4 rfl 3 rfl ?_
      refine j_aload_n (i := 0) C dX4_in_5 rfl 0 rfl ?_
      refine j_get (Cn := RX4) (T := TX4) (N := 7) (ci := 5) C iX4 rfl (0) rfl 1 (by decide) gw678 rfl rfl dX4_in_6 ?_
      refine j_icmp_ge C 36 dX4_in_9 (by decide) (fun c9 => ?_) (fun c9 => by first | exact absurd c9 (by decide) | exact absurd c9 (nI_ge (by omega) (by omega)) | exact absurd (nI_le (by omega) (by omega)) c9 | exact absurd c9 (nI_nlt (by omega) (by omega)) | exact absurd (nI_lt (by omega) (by omega)) c9 | exact absurd c9 (nI_nle0 (by omega) (by omega)))
      refine j_iload_n (i := 2) C dX4_in_36 rfl 2 rfl ?_
      exact j_ireturn C E rfl dX4_in_37 (Nat.le_of_ble_eq_true rfl) (Nat.le_of_ble_eq_true rfl) (⟨rfl, rfl⟩)
    | succ d ih =>
      intro i x2 x3 hd e_x2 e_x3 
      subst e_x2
      subst e_x3
      refine j_iload_n (i := 3) C dX4_in_4 rfl 3 rfl ?_
      refine j_aload_n (i := 0) C dX4_in_5 rfl 0 rfl ?_
      refine j_get (Cn := RX4) (T := TX4) (N := 7) (ci := 5) C iX4 rfl (0) rfl 1 (by decide) gw678 rfl rfl dX4_in_6 ?_
      refine j_icmp_ge C 36 dX4_in_9 (by decide) (fun c9 => by first | exact absurd c9 (by decide) | exact absurd c9 (nI_ge (by omega) (by omega)) | exact absurd (nI_le (by omega) (by omega)) c9 | exact absurd c9 (nI_nlt (by omega) (by omega)) | exact absurd (nI_lt (by omega) (by omega)) c9 | exact absurd c9 (nI_nle0 (by omega) (by omega))) (fun c9 => ?_)
      refine j_iload_n (i := 2) C dX4_in_12 rfl 2 rfl ?_
      refine j_aload_n (i := 0) C dX4_in_13 rfl 0 rfl ?_
      refine j_iload_n (i := 3) C dX4_in_14 rfl 3 rfl ?_
      refine j_iconst (v := nI 2) C dX4_in_15 (by decide) ?_
      refine j_callV (nargs := 2) (As := [_, _]) (Cn := RX4) C (0) rfl rfl rfl gw729 gw731 gw24 gw49 (kX4_lo l D ct sa a thr σ wr _ _ i 2 rfl rfl (by omega) (by decide)) gw732 (by decide +kernel) rfl dX4_in_16 ⟨Nat.le_of_ble_eq_true rfl, Nat.le_of_ble_eq_true rfl⟩ ⟨Nat.le_of_ble_eq_true rfl, Nat.le_of_ble_eq_true rfl⟩ (Nat.le_of_ble_eq_true rfl) (dki ?_)
      refine j_iload_n (i := 1) C dX4_in_19 rfl 1 rfl ?_
      refine j_icmp_ne C 27 dX4_in_20 (by decide) (fun c20 => ?_) (fun c20 => ?_)
      · refine j_iconst (v := nI 0) C dX4_in_27 (by decide) ?_
        refine j_iadd C dX4_in_28 ?_
        refine j_istore_n (lv' := [(2, .int _), (0, .ref _), (1, .int _), (3, .int _)]) C dX4_in_29 rfl (by decide) rfl ?_
        refine j_iinc (z := 3) (lv' := [(3, .int _), (2, .int _), (0, .ref _), (1, .int _)]) C dX4_in_30 rfl rfl (by decide) rfl ?_
        refine j_goto C 4 dX4_in_33 (by decide) ?_
        exact j_lvs [2, 3, 1, 0] rfl (ih (i + 1) _ _ (by omega) (by first | exact congrArg (fun z => sumF (fun i => b2i (sR σ (8 * i + 2) = y)) i + z) (b2i_n c20).symm | exact congrArg (fun z => sumF (fun i => b2i (sR σ (8 * i + 2) = y)) i + z) (b2i_y c20).symm) (nI_1 i))
      · refine j_iconst (v := nI 1) C dX4_in_23 (by decide) ?_
        refine j_goto C 28 dX4_in_24 (by decide) ?_
        refine j_iadd C dX4_in_28 ?_
        refine j_istore_n (lv' := [(2, .int _), (0, .ref _), (1, .int _), (3, .int _)]) C dX4_in_29 rfl (by decide) rfl ?_
        refine j_iinc (z := 3) (lv' := [(3, .int _), (2, .int _), (0, .ref _), (1, .int _)]) C dX4_in_30 rfl rfl (by decide) rfl ?_
        refine j_goto C 4 dX4_in_33 (by decide) ?_
        exact j_lvs [2, 3, 1, 0] rfl (ih (i + 1) _ _ (by omega) (by first | exact congrArg (fun z => sumF (fun i => b2i (sR σ (8 * i + 2) = y)) i + z) (b2i_n c20).symm | exact congrArg (fun z => sumF (fun i => b2i (sR σ (8 * i + 2) = y)) i + z) (b2i_y c20).symm) (nI_1 i))
  exact j_lvs [2, 3, 1, 0] rfl (L4 (sN σ) (0) _ _ (by omega) (rfl) (rfl))
