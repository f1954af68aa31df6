set_option maxRecDepth 100000 in
set_option maxHeartbeats 4000000 in
theorem kX0_init (l : Launch) (D : va_G) (ct : Nat → ClassId) (sa : Nat → Nat) (ws : va_W) (k h : Nat) (x : Int32) (hk : ws[k]? = some (h, .inr (1, [.null, .null, .int (nI 0), .int (nI 0), .int (nI 0), .int (nI 0)]))) : jM l yX0_init (Cond.code yX0_init cX0_init 2 (Option.none : Option Jvm.ClassFile.FieldType) :: GW) (rM 1 2 28 20) D ct sa [.ref h, .int x] (ws) (fun r w => ∃ q1 q2 : Nat, r = none ∧ w = (ws.set k (h, .inr (1, [.ref q1, .ref q2, .int (x), .int (-1), .int (nI 1), .int (nI 0)]))) ++ [(q1, .inl (ct 0, 4, .inl (fun _ => nI 0))), (q2, .inl (ct 0, 24, .inl (fun _ => nI 0)))]) 2 28 := by
  refine jMX.plain (jBodyN (own := RX0) (by decide) rfl rfl (Nat.le_of_ble_eq_true rfl) ?_)
  intro X N0 C E T0
  refine j_lv (lv1 := [(0, .ref _), (1, .int _)]) rfl ?_
  refine j_aload_n (i := 0) C dX0_init_0 rfl 0 rfl ?_
  refine j_objInit C gw114 gw48 gw49 ⟨Nat.le_of_ble_eq_true rfl, Nat.le_of_ble_eq_true rfl⟩ dX0_init_1 ?_
  refine j_aload_n (i := 0) C dX0_init_4 rfl 0 rfl ?_
  refine j_iconst (v := nI 4) C dX0_init_5 (by decide) ?_
  refine j_newaI C rfl (by decide) (Nat.le_of_ble_eq_true rfl) (Nat.le_of_ble_eq_true rfl) dX0_init_6 (fun q1 => ?_)
  refine j_putF (Cn := RX0) (T := TX0) (N := 6) (ci := 1) (ws2 := (ws.set k (h, .inr (1, [.ref q1, .null, .int (nI 0), .int (nI 0), .int (nI 0), .int (nI 0)]))) ++ [(q1, .inl (ct 0, 4, .inl (fun _ => nI 0)))]) C N0 iX0 tyX0 tyX0_ok nmX0 rfl (k) (app_at hk) 0 (by decide) gw115 rfl rfl rfl rfl rfl rfl (Nat.le_of_ble_eq_true rfl) (app_set hk) dX0_init_8 ?_
  refine j_aload_n (i := 0) C dX0_init_11 rfl 0 rfl ?_
  refine j_bipush (v := nI 24) C dX0_init_12 (by decide) ?_
  refine j_newaI C rfl (by decide) (Nat.le_of_ble_eq_true rfl) (Nat.le_of_ble_eq_true rfl) dX0_init_14 (fun q2 => ?_)
  refine j_putF (Cn := RX0) (T := TX0) (N := 6) (ci := 1) (ws2 := (ws.set k (h, .inr (1, [.ref q1, .ref q2, .int (nI 0), .int (nI 0), .int (nI 0), .int (nI 0)]))) ++ [(q1, .inl (ct 0, 4, .inl (fun _ => nI 0))), (q2, .inl (ct 0, 24, .inl (fun _ => nI 0)))]) C N0 iX0 tyX0 tyX0_ok nmX0 rfl (k) (app_at (app_at (set_eq hk))) 1 (by decide) gw116 rfl rfl rfl rfl rfl rfl (Nat.le_of_ble_eq_true rfl) (by rw [List.append_assoc, app_set (set_eq hk), set_set]; rfl) dX0_init_16 ?_
  refine j_aload_n (i := 0) C dX0_init_19 rfl 0 rfl ?_
  refine j_iconst (v := (-1)) C dX0_init_20 (by decide) ?_
  refine j_put (Cn := RX0) (T := TX0) (N := 6) (ci := 1) (ws2 := (ws.set k (h, .inr (1, [.ref q1, .ref q2, .int (nI 0), .int (-1), .int (nI 0), .int (nI 0)]))) ++ [(q1, .inl (ct 0, 4, .inl (fun _ => nI 0))), (q2, .inl (ct 0, 24, .inl (fun _ => nI 0)))]) C iX0 tyX0 tyX0_ok nmX0 rfl (k) (app_at (set_eq hk)) 3 (by decide) gw119 rfl rfl rfl rfl rfl (Nat.le_of_ble_eq_true rfl) (by rw [app_set (set_eq hk), set_set]; rfl) dX0_init_21 ?_
  refine j_aload_n (i := 0) C dX0_init_24 rfl 0 rfl ?_
  refine j_iconst (v := nI 1) C dX0_init_25 (by decide) ?_
  refine j_put (Cn := RX0) (T := TX0) (N := 6) (ci := 1) (ws2 := (ws.set k (h, .inr (1, [.ref q1, .ref q2, .int (nI 0), .int (-1), .int (nI 1), .int (nI 0)]))) ++ [(q1, .inl (ct 0, 4, .inl (fun _ => nI 0))), (q2, .inl (ct 0, 24, .inl (fun _ => nI 0)))]) C iX0 tyX0 tyX0_ok nmX0 rfl (k) (app_at (set_eq hk)) 4 (by decide) gw121 rfl rfl rfl rfl rfl (Nat.le_of_ble_eq_true rfl) (by rw [app_set (set_eq hk), set_set]; rfl) dX0_init_26 ?_
  refine j_aload_n (i := 0) C dX0_init_29 rfl 0 rfl ?_
  refine j_iconst (v := nI 0) C dX0_init_30 (by decide) ?_
  refine j_put (Cn := RX0) (T := TX0) (N := 6) (ci := 1) (ws2 := (ws.set k (h, .inr (1, [.ref q1, .ref q2, .int (nI 0), .int (-1), .int (nI 1), .int (nI 0)]))) ++ [(q1, .inl (ct 0, 4, .inl (fun _ => nI 0))), (q2, .inl (ct 0, 24, .inl (fun _ => nI 0)))]) C iX0 tyX0 tyX0_ok nmX0 rfl (k) (app_at (set_eq hk)) 5 (by decide) gw123 rfl rfl rfl rfl rfl (Nat.le_of_ble_eq_true rfl) (by rw [app_set (set_eq hk), set_set]; rfl) dX0_init_31 ?_
  refine j_aload_n (i := 0) C dX0_init_34 rfl 0 rfl ?_
  refine j_iload_n (i := 1) C dX0_init_35 rfl 1 rfl ?_
  refine j_put (Cn := RX0) (T := TX0) (N := 6) (ci := 1) (ws2 := (ws.set k (h, .inr (1, [.ref q1, .ref q2, .int (x), .int (-1), .int (nI 1), .int (nI 0)]))) ++ [(q1, .inl (ct 0, 4, .inl (fun _ => nI 0))), (q2, .inl (ct 0, 24, .inl (fun _ => nI 0)))]) C iX0 tyX0 tyX0_ok nmX0 rfl (k) (app_at (set_eq hk)) 2 (by decide) gw117 rfl rfl rfl rfl rfl (Nat.le_of_ble_eq_true rfl) (by rw [app_set (set_eq hk), set_set]; rfl) dX0_init_36 ?_
  exact j_return C E dX0_init_39 (Nat.le_of_ble_eq_true rfl) (Nat.le_of_ble_eq_true rfl) (⟨q1, q2, rfl, rfl⟩)
set_option maxRecDepth 100000 in
set_option maxHeartbeats 4000000 in
theorem kX1_init (l : Launch) (D : va_G) (ct : Nat → ClassId) (sa : Nat → Nat) (ws : va_W) (k h : Nat) (hk : ws[k]? = some (h, .inr (2, [.int (nI 0), .int (nI 0), .int (nI 0)]))) : jM l yX1_init (Cond.code yX1_init cX1_init 1 (Option.none : Option Jvm.ClassFile.FieldType) :: GW) (rM 1 0 0 20) D ct sa [.ref h] (ws) (dK none (ws.set k (h, .inr (2, [.int (nI 4), .int (nI 0), .int (nI 24)])))) 0 0 := by
  refine jMX.plain (jBody (own := RX1) (by decide) rfl rfl (Nat.le_of_ble_eq_true rfl) ?_)
  intro X C E T0
  refine j_lv (lv1 := [(0, .ref _)]) rfl ?_
  refine j_aload_n (i := 0) C dX1_init_0 rfl 0 rfl ?_
  refine j_objInit C gw82 gw48 gw49 ⟨Nat.le_of_ble_eq_true rfl, Nat.le_of_ble_eq_true rfl⟩ dX1_init_1 ?_
  refine j_aload_n (i := 0) C dX1_init_4 rfl 0 rfl ?_
  refine j_iconst (v := nI 4) C dX1_init_5 (by decide) ?_
  refine j_put (Cn := RX1) (T := TX1) (N := 3) (ci := 2) (ws2 := ws.set k (h, .inr (2, [.int (nI 4), .int (nI 0), .int (nI 0)]))) C iX1 tyX1 tyX1_ok nmX1 rfl (k) hk 0 (by decide) gw83 rfl rfl rfl rfl rfl (Nat.le_of_ble_eq_true rfl) rfl dX1_init_6 ?_
  refine j_aload_n (i := 0) C dX1_init_9 rfl 0 rfl ?_
  refine j_iconst (v := nI 0) C dX1_init_10 (by decide) ?_
  refine j_put (Cn := RX1) (T := TX1) (N := 3) (ci := 2) (ws2 := ws.set k (h, .inr (2, [.int (nI 4), .int (nI 0), .int (nI 0)]))) C iX1 tyX1 tyX1_ok nmX1 rfl (k) (set_eq hk) 1 (by decide) gw85 rfl rfl rfl rfl rfl (Nat.le_of_ble_eq_true rfl) set_set dX1_init_11 ?_
  refine j_aload_n (i := 0) C dX1_init_14 rfl 0 rfl ?_
  refine j_bipush (v := nI 24) C dX1_init_15 (by decide) ?_
  refine j_put (Cn := RX1) (T := TX1) (N := 3) (ci := 2) (ws2 := ws.set k (h, .inr (2, [.int (nI 4), .int (nI 0), .int (nI 24)]))) C iX1 tyX1 tyX1_ok nmX1 rfl (k) (set_eq hk) 2 (by decide) gw87 rfl rfl rfl rfl rfl (Nat.le_of_ble_eq_true rfl) set_set dX1_init_17 ?_
  exact j_return C E dX1_init_20 (Nat.le_of_ble_eq_true rfl) (Nat.le_of_ble_eq_true rfl) (⟨rfl, rfl⟩)
set_option maxRecDepth 100000 in
set_option maxHeartbeats 4000000 in
theorem kJxa1e45_init_da8c8 (l : Launch) (D : va_G) (ct : Nat → ClassId) (sa : Nat → Nat) (ws : va_W) (h : Nat) : jM l yJxa1e45_init_da8c8 (Cond.code yJxa1e45_init_da8c8 cJxa1e45_init_da8c8 1 (Option.none : Option Jvm.ClassFile.FieldType) :: GW) (rM 1 0 0 20) D ct sa [.ref h] (ws) (dK none ws) 0 0 := by
  refine jMX.plain (jBody (own := RJxa1e45) (by decide) rfl rfl (Nat.le_of_ble_eq_true rfl) ?_)
  intro X C E T0
  refine j_lv (lv1 := [(0, .ref _)]) rfl ?_
  refine j_aload_n (i := 0) C dJxa1e45_init_da8c8_0 rfl 0 rfl ?_
  refine j_objInit C gw61 gw48 gw49 ⟨Nat.le_of_ble_eq_true rfl, Nat.le_of_ble_eq_true rfl⟩ dJxa1e45_init_da8c8_1 ?_
  exact j_return C E dJxa1e45_init_da8c8_4 (Nat.le_of_ble_eq_true rfl) (Nat.le_of_ble_eq_true rfl) (⟨rfl, rfl⟩)
set_option maxRecDepth 100000 in
set_option maxHeartbeats 4000000 in
theorem kJxc12de_init_da8c8 (l : Launch) (D : va_G) (ct : Nat → ClassId) (sa : Nat → Nat) (ws : va_W) (k h : Nat) (v2 v3 : Value) (x : Int32) (hk : ws[k]? = some (h, .inr (0, [.int x, v2, v3]))) : jM l yJxc12de_init_da8c8 (Cond.code yJxc12de_init_da8c8 cJxc12de_init_da8c8 1 (Option.none : Option Jvm.ClassFile.FieldType) :: GW) (rM 2 0 0 40) D ct sa [.ref h] (ws) (dK none (ws.set k (h, .inr (0, [.int (nI 0), v2, v3])))) 0 0 := by
  refine jMX.plain (jBody (own := RJxc12de) (by decide) rfl rfl (Nat.le_of_ble_eq_true rfl) ?_)
  intro X C E T0
  refine j_lv (lv1 := [(0, .ref _)]) rfl ?_
  refine j_aload_n (i := 0) C dJxc12de_init_da8c8_0 rfl 0 rfl ?_
  refine j_callI (nargs := 0) (As := []) C gw58 gw59 gw22 rfl (kJxa1e45_init_da8c8 l D ct sa ws h) gw60 (by decide +kernel) rfl dJxc12de_init_da8c8_1 ⟨Nat.le_of_ble_eq_true rfl, Nat.le_of_ble_eq_true rfl⟩ ⟨Nat.le_of_ble_eq_true rfl, Nat.le_of_ble_eq_true rfl⟩ (Nat.le_of_ble_eq_true rfl) (dkv ?_)
  refine j_aload_n (i := 0) C dJxc12de_init_da8c8_4 rfl 0 rfl ?_
  refine j_iconst (v := nI 0) C dJxc12de_init_da8c8_5 (by decide) ?_
  refine j_put (Cn := RJx4a65c) (T := TJx4a65c) (N := 3) (ci := 0) (ws2 := ws.set k (h, .inr (0, [.int (nI 0), v2, v3]))) C iJx4a65c tyJx4a65c tyJx4a65c_ok nmJx4a65c rfl (k) hk 0 (by decide) gw66 rfl rfl rfl rfl rfl (Nat.le_of_ble_eq_true rfl) rfl dJxc12de_init_da8c8_6 ?_
  exact j_return C E dJxc12de_init_da8c8_9 (Nat.le_of_ble_eq_true rfl) (Nat.le_of_ble_eq_true rfl) (⟨rfl, rfl⟩)
set_option maxRecDepth 100000 in
set_option maxHeartbeats 4000000 in
theorem kJx4a65c_init_da8c8 (l : Launch) (D : va_G) (ct : Nat → ClassId) (sa : Nat → Nat) (ws : va_W) (k h : Nat) (hk : ws[k]? = some (h, .inr (0, [.int (nI 0), .null, .int (nI 0)]))) : jM l yJx4a65c_init_da8c8 (Cond.code yJx4a65c_init_da8c8 cJx4a65c_init_da8c8 1 (Option.none : Option Jvm.ClassFile.FieldType) :: GW) (rM 3 0 0 60) D ct sa [.ref h] (ws) (dK none (ws.set k (h, .inr (0, [.int (nI 0), .ref (sa 0), .int (nI 0)])))) 0 0 := by
  refine jMX.plain (jBody (own := RJx4a65c) (by decide) rfl rfl (Nat.le_of_ble_eq_true rfl) ?_)
  intro X C E T0
  refine j_lv (lv1 := [(0, .ref _)]) rfl ?_
  refine j_aload_n (i := 0) C dJx4a65c_init_da8c8_0 rfl 0 rfl ?_
  refine j_callI (nargs := 0) (As := []) C gw55 gw56 gw23 rfl (kJxc12de_init_da8c8 l D ct sa ws k h _ _ _ hk) gw57 (by decide +kernel) rfl dJx4a65c_init_da8c8_1 ⟨Nat.le_of_ble_eq_true rfl, Nat.le_of_ble_eq_true rfl⟩ ⟨Nat.le_of_ble_eq_true rfl, Nat.le_of_ble_eq_true rfl⟩ (Nat.le_of_ble_eq_true rfl) (dkv ?_)
  refine j_aload_n (i := 0) C dJx4a65c_init_da8c8_4 rfl 0 rfl ?_
  refine j_gets C gw62 dJx4a65c_init_da8c8_5 ?_
  refine j_put (Cn := RJx4a65c) (T := TJx4a65c) (N := 3) (ci := 0) (ws2 := ws.set k (h, .inr (0, [.int (nI 0), .ref (sa 0), .int (nI 0)]))) C iJx4a65c tyJx4a65c tyJx4a65c_ok nmJx4a65c rfl (k) (set_eq hk) 1 (by decide) gw64 rfl rfl rfl rfl rfl (Nat.le_of_ble_eq_true rfl) set_set dJx4a65c_init_da8c8_8 ?_
  exact j_return C E dJx4a65c_init_da8c8_11 (Nat.le_of_ble_eq_true rfl) (Nat.le_of_ble_eq_true rfl) (⟨rfl, rfl⟩)
set_option maxRecDepth 100000 in
set_option maxHeartbeats 4000000 in
theorem kJx4a65c_grow_92f84 (l : Launch) (D : va_G) (ct : Nat → ClassId) (sa : Nat → Nat) (ws : va_W) (k h : Nat) (mc : Int32) (hk : ws[k]? = some (h, .inr (0, [.int (mc), .ref (sa 0), .int (nI 0)]))) : jM l yJx4a65c_grow_92f84 (Cond.code yJx4a65c_grow_92f84 cJx4a65c_grow_92f84 4 (Option.some (Jvm.ClassFile.FieldType.array (Jvm.ClassFile.FieldType.object "java/lang/Object"))) :: GW) (rM 1 1 10 18) D ct sa [.ref h, .int (nI 1)] (ws) (fun r w => ∃ q : Nat, r = some (.ref q) ∧ w = ws.set k (h, .inr (0, [.int (mc), .ref q, .int (nI 0)])) ++ [(q, .inl (ct 2, 10, .inr (.inr (.inr (.inr (fun _ => none))))))]) 1 10 := by
  refine jMX.plain (jBody (own := RJx4a65c) (by decide) rfl rfl (Nat.le_of_ble_eq_true rfl) ?_)
  intro X C E T0
  refine j_lv (lv1 := [(0, .ref _), (1, .int _)]) rfl ?_
  refine j_aload_n (i := 0) C dJx4a65c_grow_92f84_0 rfl 0 rfl ?_
  refine j_get (Cn := RJx4a65c) (T := TJx4a65c) (N := 3) (ci := 0) C iJx4a65c rfl (k) hk 1 (by decide) gw64 rfl rfl dJx4a65c_grow_92f84_1 ?_
  refine j_tlen C dJx4a65c_grow_92f84_4 ?_
  refine j_istore_n (lv' := [(2, .int _), (0, .ref _), (1, .int _)]) C dJx4a65c_grow_92f84_5 rfl (by decide) rfl ?_
  refine j_iload_n (i := 2) C dJx4a65c_grow_92f84_6 rfl 0 rfl ?_
  refine j_if_gt C 20 dJx4a65c_grow_92f84_7 (by decide) (fun c7 => by exact absurd c7 (by decide)) (fun c7 => ?_)
  refine j_aload_n (i := 0) C dJx4a65c_grow_92f84_10 rfl 1 rfl ?_
  refine j_get (Cn := RJx4a65c) (T := TJx4a65c) (N := 3) (ci := 0) C iJx4a65c rfl (k) hk 1 (by decide) gw64 rfl rfl dJx4a65c_grow_92f84_11 ?_
  refine j_gets C gw62 dJx4a65c_grow_92f84_14 ?_
  refine j_acmp_eq C 45 dJx4a65c_grow_92f84_17 (by decide) (fun _ => ?_) (fun z => absurd rfl z)
  refine j_aload_n (i := 0) C dJx4a65c_grow_92f84_45 rfl 1 rfl ?_
  refine j_bipush (v := nI 10) C dJx4a65c_grow_92f84_46 (by decide) ?_
  refine j_iload_n (i := 1) C dJx4a65c_grow_92f84_48 rfl 2 rfl ?_
  refine j_mmax C gw599 gw566 gw36 gw567 ⟨Nat.le_of_ble_eq_true rfl, Nat.le_of_ble_eq_true rfl⟩ ⟨Nat.le_of_ble_eq_true rfl, Nat.le_of_ble_eq_true rfl⟩ dJx4a65c_grow_92f84_49 ?_
  refine j_newqO (N := 10) C gw600 (by decide) (by decide) (Nat.le_of_ble_eq_true rfl) (Nat.le_of_ble_eq_true rfl) dJx4a65c_grow_92f84_52 (fun q => ?_)
  refine j_dup_x1 C dJx4a65c_grow_92f84_55 rfl rfl ?_
  refine j_put (Cn := RJx4a65c) (T := TJx4a65c) (N := 3) (ci := 0) (ws2 := ws.set k (h, .inr (0, [.int (mc), .ref q, .int (nI 0)])) ++ [(q, .inl (ct 2, 10, .inr (.inr (.inr (.inr (fun _ => none))))))]) C iJx4a65c tyJx4a65c tyJx4a65c_ok nmJx4a65c rfl (k) (app_at hk) 1 (by decide) gw64 rfl rfl rfl rfl rfl (Nat.le_of_ble_eq_true rfl) (app_set hk) dJx4a65c_grow_92f84_56 ?_
  exact j_areturn C E (Or.inr ⟨_, rfl⟩) dJx4a65c_grow_92f84_59 (Nat.le_of_ble_eq_true rfl) (Nat.le_of_ble_eq_true rfl) (⟨q, rfl, rfl⟩)
set_option maxRecDepth 100000 in
set_option maxHeartbeats 4000000 in
theorem kJx4a65c_grow_d5877 (l : Launch) (D : va_G) (ct : Nat → ClassId) (sa : Nat → Nat) (ws : va_W) (k h : Nat) (mc : Int32) (hk : ws[k]? = some (h, .inr (0, [.int (mc), .ref (sa 0), .int (nI 0)]))) : jM l yJx4a65c_grow_d5877 (Cond.code yJx4a65c_grow_d5877 cJx4a65c_grow_d5877 1 (Option.some (Jvm.ClassFile.FieldType.array (Jvm.ClassFile.FieldType.object "java/lang/Object"))) :: GW) (rM 2 1 10 41) D ct sa [.ref h] (ws) (fun r w => ∃ q : Nat, r = some (.ref q) ∧ w = ws.set k (h, .inr (0, [.int (mc), .ref q, .int (nI 0)])) ++ [(q, .inl (ct 2, 10, .inr (.inr (.inr (.inr (fun _ => none))))))]) 1 10 := by
  refine jMX.plain (jBody (own := RJx4a65c) (by decide) rfl rfl (Nat.le_of_ble_eq_true rfl) ?_)
  intro X C E T0
  refine j_lv (lv1 := [(0, .ref _)]) rfl ?_
  refine j_aload_n (i := 0) C dJx4a65c_grow_d5877_0 rfl 0 rfl ?_
  refine j_aload_n (i := 0) C dJx4a65c_grow_d5877_1 rfl 0 rfl ?_
  refine j_get (Cn := RJx4a65c) (T := TJx4a65c) (N := 3) (ci := 0) C iJx4a65c rfl (k) hk 2 (by decide) gw65 rfl rfl dJx4a65c_grow_d5877_2 ?_
  refine j_iconst (v := nI 1) C dJx4a65c_grow_d5877_5 (by decide) ?_
  refine j_iadd C dJx4a65c_grow_d5877_6 ?_
  refine j_callV (nargs := 1) (As := [_]) (Cn := RJx4a65c) C (k) hk rfl rfl gw558 gw560 gw18 gw24 (kJx4a65c_grow_92f84 l D ct sa ws k h mc hk) gw561 (by decide +kernel) rfl dJx4a65c_grow_d5877_7 ⟨Nat.le_of_ble_eq_true rfl, Nat.le_of_ble_eq_true rfl⟩ ⟨Nat.le_of_ble_eq_true rfl, Nat.le_of_ble_eq_true rfl⟩ (Nat.le_of_ble_eq_true rfl) (fun r w hk2 => ?_)
  obtain ⟨q, rfl, rfl⟩ := hk2
  refine j_st (st1 := .ref q :: _) rfl ?_
  exact j_areturn C E (Or.inr ⟨_, rfl⟩) dJx4a65c_grow_d5877_10 (Nat.le_of_ble_eq_true rfl) (Nat.le_of_ble_eq_true rfl) (⟨q, rfl, rfl⟩)
set_option maxRecDepth 100000 in
set_option maxHeartbeats 4000000 in
theorem kJx4a65c_add_72be8_0 (l : Launch) (D : va_G) (ct : Nat → ClassId) (sa : Nat → Nat) (ws : va_W) (k h kl v : Nat) (mc : Int32) (vs : List Value) (hk : ws[k]? = some (h, .inr (0, [.int (mc), .ref (sa 0), .int (nI 0)]))) (hv : ws[kl]? = some (v, .inr (1, vs))) (hne : k ≠ kl) : jM l yJx4a65c_add_72be8 (Cond.code yJx4a65c_add_72be8 cJx4a65c_add_72be8 4 (Option.none : Option Jvm.ClassFile.FieldType) :: GW) (rM 3 1 10 61) D ct sa [.ref h, .ref v, .ref (sa 0), .int (nI 0)] (ws) (fun r w => ∃ q : Nat, r = none ∧ w = (ws.set k (h, .inr (0, [.int (mc), .ref q, .int (nI 1)])) ++ [(q, .inl (ct 2, 10, .inr (.inr (.inr (.inr (va_up (fun _ => none) 0 (some v)))))))])) 1 10 := by
  refine jMX.plain (jBody (own := RJx4a65c) (by decide) rfl rfl (Nat.le_of_ble_eq_true rfl) ?_)
  intro X C E T0
  refine j_lv (lv1 := [(0, .ref _), (1, .ref _), (2, .ref _), (3, .int _)]) rfl ?_
  refine j_iload_n (i := 3) C dJx4a65c_add_72be8_0 rfl 3 rfl ?_
  refine j_aload_n (i := 2) C dJx4a65c_add_72be8_1 rfl 2 rfl ?_
  refine j_tlen C dJx4a65c_add_72be8_2 ?_
  refine j_icmp_ne C 11 dJx4a65c_add_72be8_3 (by decide) (fun c3 => by exact absurd rfl c3) (fun c3 => ?_)
  refine j_aload_n (i := 0) C dJx4a65c_add_72be8_6 rfl 0 rfl ?_
  refine j_callV (nargs := 0) (As := []) (Cn := RJx4a65c) C (k) hk rfl rfl gw554 gw556 gw17 gw24 (kJx4a65c_grow_d5877 l D ct sa ws k h mc hk) gw557 (by decide +kernel) rfl dJx4a65c_add_72be8_7 ⟨Nat.le_of_ble_eq_true rfl, Nat.le_of_ble_eq_true rfl⟩ ⟨Nat.le_of_ble_eq_true rfl, Nat.le_of_ble_eq_true rfl⟩ (Nat.le_of_ble_eq_true rfl) (fun r w hk2 => ?_)
  obtain ⟨q, rfl, rfl⟩ := hk2
  refine j_st (st1 := .ref q :: _) rfl ?_
  refine j_astore_n (lv' := [(2, .ref _), (0, .ref _), (1, .ref _), (3, .int _)]) C dJx4a65c_add_72be8_10 rfl (by decide) rfl ?_
  refine j_aload_n (i := 2) C dJx4a65c_add_72be8_11 rfl 0 rfl ?_
  refine j_iload_n (i := 3) C dJx4a65c_add_72be8_12 rfl 3 rfl ?_
  refine j_aload_n (i := 1) C dJx4a65c_add_72be8_13 rfl 2 rfl ?_
  refine j_astqO (ws2 := (ws.set k (h, .inr (0, [.int (mc), .ref q, .int (nI 0)])) ++ [(q, .inl (ct 2, 10, .inr (.inr (.inr (.inr (va_up (fun _ => none) 0 (some v)))))))])) C nw676 (ws.length) kl (by rw [← len_set (ws := ws) (i := k)]; exact gA) (app_at ((set_ne hne).trans hv)) (0) rfl (by decide) (by decide) (by rw [← len_set (ws := ws) (i := k)]; exact sA) dJx4a65c_add_72be8_14 ?_
  refine j_aload_n (i := 0) C dJx4a65c_add_72be8_15 rfl 1 rfl ?_
  refine j_iload_n (i := 3) C dJx4a65c_add_72be8_16 rfl 3 rfl ?_
  refine j_iconst (v := nI 1) C dJx4a65c_add_72be8_17 (by decide) ?_
  refine j_iadd C dJx4a65c_add_72be8_18 ?_
  refine j_put (Cn := RJx4a65c) (T := TJx4a65c) (N := 3) (ci := 0) (ws2 := (ws.set k (h, .inr (0, [.int (mc), .ref q, .int (nI 1)])) ++ [(q, .inl (ct 2, 10, .inr (.inr (.inr (.inr (va_up (fun _ => none) 0 (some v)))))))])) C iJx4a65c tyJx4a65c tyJx4a65c_ok nmJx4a65c rfl (k) (app_at (set_eq hk)) 2 (by decide) gw65 rfl rfl rfl rfl rfl (Nat.le_of_ble_eq_true rfl) (by rw [app_set (set_eq hk), set_set]; rfl) dJx4a65c_add_72be8_19 ?_
  exact j_return C E dJx4a65c_add_72be8_22 (Nat.le_of_ble_eq_true rfl) (Nat.le_of_ble_eq_true rfl) (⟨q, rfl, rfl⟩)
set_option maxRecDepth 100000 in
set_option maxHeartbeats 4000000 in
theorem kJx4a65c_add_72be8_1 (l : Launch) (D : va_G) (ct : Nat → ClassId) (sa : Nat → Nat) (ws : va_W) (k h kl v ka ar n : Nat) (mc : Int32) (vs : List Value) (g : Nat → Option Nat) (hk : ws[k]? = some (h, .inr (0, [.int (mc), .ref ar, .int (nI n)]))) (hv : ws[kl]? = some (v, .inr (1, vs))) (hne : k ≠ kl) (hka : ws[ka]? = some (ar, .inl (ct 2, 10, .inr (.inr (.inr (.inr (g))))))) (hn : n < 10) (h0 : 0 < n) (hk3 : k ≠ ka) : jM l yJx4a65c_add_72be8 (Cond.code yJx4a65c_add_72be8 cJx4a65c_add_72be8 4 (Option.none : Option Jvm.ClassFile.FieldType) :: GW) (rM 0 0 0 0) D ct sa [.ref h, .ref v, .ref ar, .int (nI n)] (ws) (dK none ((ws.set ka (ar, .inl (ct 2, 10, .inr (.inr (.inr (.inr (va_up g n (some v)))))))).set k (h, .inr (0, [.int (mc), .ref ar, .int (nI (n + 1))])))) 0 0 := by
  refine jMX.plain (jBody (own := RJx4a65c) (by decide) rfl rfl (Nat.le_of_ble_eq_true rfl) ?_)
  intro X C E T0
  refine j_lv (lv1 := [(0, .ref _), (1, .ref _), (2, .ref _), (3, .int _)]) rfl ?_
  refine j_iload_n (i := 3) C dJx4a65c_add_72be8_0 rfl 3 rfl ?_
  refine j_aload_n (i := 2) C dJx4a65c_add_72be8_1 rfl 2 rfl ?_
  refine j_alen (v := nI 10) C (ka) 2 hka rfl rfl dJx4a65c_add_72be8_2 ?_
  refine j_icmp_ne C 11 dJx4a65c_add_72be8_3 (by decide) (fun c3 => ?_) (fun c3 => by exact absurd c3 (nI_ne (by omega) (by omega) (by omega)))
  refine j_aload_n (i := 2) C dJx4a65c_add_72be8_11 rfl 2 rfl ?_
  refine j_iload_n (i := 3) C dJx4a65c_add_72be8_12 rfl 3 rfl ?_
  refine j_aload_n (i := 1) C dJx4a65c_add_72be8_13 rfl 1 rfl ?_
  refine j_astqO (ws2 := ws.set ka (ar, .inl (ct 2, 10, .inr (.inr (.inr (.inr (va_up g n (some v)))))))) C nw676 (ka) kl hka hv (n) rfl hn (by decide) rfl dJx4a65c_add_72be8_14 ?_
  refine j_aload_n (i := 0) C dJx4a65c_add_72be8_15 rfl 0 rfl ?_
  refine j_iload_n (i := 3) C dJx4a65c_add_72be8_16 rfl 3 rfl ?_
  refine j_iconst (v := nI 1) C dJx4a65c_add_72be8_17 (by decide) ?_
  refine j_iadd C dJx4a65c_add_72be8_18 ?_
  refine j_put (Cn := RJx4a65c) (T := TJx4a65c) (N := 3) (ci := 0) (ws2 := ((ws.set ka (ar, .inl (ct 2, 10, .inr (.inr (.inr (.inr (va_up g n (some v)))))))).set k (h, .inr (0, [.int (mc), .ref ar, .int (nI (n + 1))])))) C iJx4a65c tyJx4a65c tyJx4a65c_ok nmJx4a65c rfl (k) ((set_ne (Ne.symm hk3)).trans hk) 2 (by decide) gw65 rfl rfl rfl rfl rfl (Nat.le_of_ble_eq_true rfl) (by rw [← nI_add]; rfl) dJx4a65c_add_72be8_19 ?_
  exact j_return C E dJx4a65c_add_72be8_22 (Nat.le_of_ble_eq_true rfl) (Nat.le_of_ble_eq_true rfl) (⟨rfl, rfl⟩)
set_option maxRecDepth 100000 in
set_option maxHeartbeats 4000000 in
theorem kJx4a65c_add_9ea2d_0 (l : Launch) (D : va_G) (ct : Nat → ClassId) (sa : Nat → Nat) (ws : va_W) (k h kl v : Nat) (mc : Int32) (vs : List Value) (hk : ws[k]? = some (h, .inr (0, [.int (mc), .ref (sa 0), .int (nI 0)]))) (hv : ws[kl]? = some (v, .inr (1, vs))) (hne : k ≠ kl) : jM l yJx4a65c_add_9ea2d (Cond.code yJx4a65c_add_9ea2d cJx4a65c_add_9ea2d 2 (Option.some Jvm.ClassFile.FieldType.boolean) :: GW) (rM 4 1 10 84) D ct sa [.ref h, .ref v] (ws) (fun r w => ∃ q : Nat, r = some (.int (nI 1)) ∧ w = (ws.set k (h, .inr (0, [.int (mc + nI 1), .ref q, .int (nI 1)])) ++ [(q, .inl (ct 2, 10, .inr (.inr (.inr (.inr (va_up (fun _ => none) 0 (some v)))))))])) 1 10 := by
  refine jMX.plain (jBody (own := RJx4a65c) (by decide) rfl rfl (Nat.le_of_ble_eq_true rfl) ?_)
  intro X C E T0
  refine j_lv (lv1 := [(0, .ref _), (1, .ref _)]) rfl ?_
  refine j_aload_n (i := 0) C dJx4a65c_add_9ea2d_0 rfl 0 rfl ?_
  refine j_dup C dJx4a65c_add_9ea2d_1 rfl ?_
  refine j_getS (Cn := RJx4a65c) (T := TJx4a65c) (N := 3) (ci := 0) C iJx4a65c rfl (k) hk 0 (by decide) gw67 gwSF rfl dJx4a65c_add_9ea2d_2 ?_
  refine j_iconst (v := nI 1) C dJx4a65c_add_9ea2d_5 (by decide) ?_
  refine j_iadd C dJx4a65c_add_9ea2d_6 ?_
  refine j_putS (Cn := RJx4a65c) (T := TJx4a65c) (N := 3) (ci := 0) (ws2 := (ws.set k (h, .inr (0, [.int (mc + nI 1), .ref (sa 0), .int (nI 0)])))) C iJx4a65c tyJx4a65c tyJx4a65c_ok nmJx4a65c rfl (k) hk 0 (by decide) gw67 gwSF rfl rfl rfl rfl (Nat.le_of_ble_eq_true rfl) rfl dJx4a65c_add_9ea2d_7 ?_
  refine j_aload_n (i := 0) C dJx4a65c_add_9ea2d_10 rfl 0 rfl ?_
  refine j_aload_n (i := 1) C dJx4a65c_add_9ea2d_11 rfl 1 rfl ?_
  refine j_aload_n (i := 0) C dJx4a65c_add_9ea2d_12 rfl 0 rfl ?_
  refine j_get (Cn := RJx4a65c) (T := TJx4a65c) (N := 3) (ci := 0) C iJx4a65c rfl (k) (set_eq hk) 1 (by decide) gw64 rfl rfl dJx4a65c_add_9ea2d_13 ?_
  refine j_aload_n (i := 0) C dJx4a65c_add_9ea2d_16 rfl 0 rfl ?_
  refine j_get (Cn := RJx4a65c) (T := TJx4a65c) (N := 3) (ci := 0) C iJx4a65c rfl (k) (set_eq hk) 2 (by decide) gw65 rfl rfl dJx4a65c_add_9ea2d_17 ?_
  refine j_callV (nargs := 3) (As := [_, _, _]) (Cn := RJx4a65c) C (k) (set_eq hk) rfl rfl gw550 gw552 gw16 gw24 (kJx4a65c_add_72be8_0 l D ct sa _ k h kl v (mc + nI 1) vs (set_eq hk) ((set_ne hne).trans hv) hne) gw553 (by decide +kernel) rfl dJx4a65c_add_9ea2d_20 ⟨Nat.le_of_ble_eq_true rfl, Nat.le_of_ble_eq_true rfl⟩ ⟨Nat.le_of_ble_eq_true rfl, Nat.le_of_ble_eq_true rfl⟩ (Nat.le_of_ble_eq_true rfl) (fun r w hk2 => ?_)
  obtain ⟨q, rfl, rfl⟩ := hk2
  refine j_st (st1 := []) rfl ?_
  refine j_ws (ws1 := (ws.set k (h, .inr (0, [.int (mc + nI 1), .ref q, .int (nI 1)])) ++ [(q, .inl (ct 2, 10, .inr (.inr (.inr (.inr (va_up (fun _ => none) 0 (some v)))))))])) (by rw [set_set]) ?_
  refine j_iconst (v := nI 1) C dJx4a65c_add_9ea2d_23 (by decide) ?_
  exact j_ireturn C E (by first | exact nr_b | rfl) dJx4a65c_add_9ea2d_24 (Nat.le_of_ble_eq_true rfl) (Nat.le_of_ble_eq_true rfl) (⟨q, rfl, rfl⟩)
set_option maxRecDepth 100000 in
set_option maxHeartbeats 4000000 in
theorem kJx4a65c_add_9ea2d_1 (l : Launch) (D : va_G) (ct : Nat → ClassId) (sa : Nat → Nat) (ws : va_W) (k h kl v ka ar n : Nat) (mc : Int32) (vs : List Value) (g : Nat → Option Nat) (hk : ws[k]? = some (h, .inr (0, [.int (mc), .ref ar, .int (nI n)]))) (hv : ws[kl]? = some (v, .inr (1, vs))) (hne : k ≠ kl) (hka : ws[ka]? = some (ar, .inl (ct 2, 10, .inr (.inr (.inr (.inr (g))))))) (hn : n < 10) (h0 : 0 < n) (hk3 : k ≠ ka) : jM l yJx4a65c_add_9ea2d (Cond.code yJx4a65c_add_9ea2d cJx4a65c_add_9ea2d 2 (Option.some Jvm.ClassFile.FieldType.boolean) :: GW) (rM 4 0 0 84) D ct sa [.ref h, .ref v] (ws) (dK (some (.int (nI 1))) ((ws.set ka (ar, .inl (ct 2, 10, .inr (.inr (.inr (.inr (va_up g n (some v)))))))).set k (h, .inr (0, [.int (mc + nI 1), .ref ar, .int (nI (n + 1))])))) 0 0 := by
  refine jMX.plain (jBody (own := RJx4a65c) (by decide) rfl rfl (Nat.le_of_ble_eq_true rfl) ?_)
  intro X C E T0
  refine j_lv (lv1 := [(0, .ref _), (1, .ref _)]) rfl ?_
  refine j_aload_n (i := 0) C dJx4a65c_add_9ea2d_0 rfl 0 rfl ?_
  refine j_dup C dJx4a65c_add_9ea2d_1 rfl ?_
  refine j_getS (Cn := RJx4a65c) (T := TJx4a65c) (N := 3) (ci := 0) C iJx4a65c rfl (k) hk 0 (by decide) gw67 gwSF rfl dJx4a65c_add_9ea2d_2 ?_
  refine j_iconst (v := nI 1) C dJx4a65c_add_9ea2d_5 (by decide) ?_
  refine j_iadd C dJx4a65c_add_9ea2d_6 ?_
  refine j_putS (Cn := RJx4a65c) (T := TJx4a65c) (N := 3) (ci := 0) (ws2 := (ws.set k (h, .inr (0, [.int (mc + nI 1), .ref ar, .int (nI n)])))) C iJx4a65c tyJx4a65c tyJx4a65c_ok nmJx4a65c rfl (k) hk 0 (by decide) gw67 gwSF rfl rfl rfl rfl (Nat.le_of_ble_eq_true rfl) rfl dJx4a65c_add_9ea2d_7 ?_
  refine j_aload_n (i := 0) C dJx4a65c_add_9ea2d_10 rfl 0 rfl ?_
  refine j_aload_n (i := 1) C dJx4a65c_add_9ea2d_11 rfl 1 rfl ?_
  refine j_aload_n (i := 0) C dJx4a65c_add_9ea2d_12 rfl 0 rfl ?_
  refine j_get (Cn := RJx4a65c) (T := TJx4a65c) (N := 3) (ci := 0) C iJx4a65c rfl (k) (set_eq hk) 1 (by decide) gw64 rfl rfl dJx4a65c_add_9ea2d_13 ?_
  refine j_aload_n (i := 0) C dJx4a65c_add_9ea2d_16 rfl 0 rfl ?_
  refine j_get (Cn := RJx4a65c) (T := TJx4a65c) (N := 3) (ci := 0) C iJx4a65c rfl (k) (set_eq hk) 2 (by decide) gw65 rfl rfl dJx4a65c_add_9ea2d_17 ?_
  refine j_callV (nargs := 3) (As := [_, _, _]) (Cn := RJx4a65c) C (k) (set_eq hk) rfl rfl gw550 gw552 gw16 gw24 (kJx4a65c_add_72be8_1 l D ct sa _ k h kl v ka ar n (mc + nI 1) vs g (set_eq hk) ((set_ne hne).trans hv) hne ((set_ne hk3).trans hka) hn h0 hk3) gw553 (by decide +kernel) rfl dJx4a65c_add_9ea2d_20 ⟨Nat.le_of_ble_eq_true rfl, Nat.le_of_ble_eq_true rfl⟩ ⟨Nat.le_of_ble_eq_true rfl, Nat.le_of_ble_eq_true rfl⟩ (Nat.le_of_ble_eq_true rfl) (dkv ?_)
  refine j_ws (ws1 := ((ws.set ka (ar, .inl (ct 2, 10, .inr (.inr (.inr (.inr (va_up g n (some v)))))))).set k (h, .inr (0, [.int (mc + nI 1), .ref ar, .int (nI (n + 1))])))) (by rw [List.set_comm _ _ hk3, set_set]) ?_
  refine j_iconst (v := nI 1) C dJx4a65c_add_9ea2d_23 (by decide) ?_
  exact j_ireturn C E (by first | exact nr_b | rfl) dJx4a65c_add_9ea2d_24 (Nat.le_of_ble_eq_true rfl) (Nat.le_of_ble_eq_true rfl) (⟨rfl, rfl⟩)
