set_option maxRecDepth 100000 in
set_option maxHeartbeats 600000 in
theorem kX3_init (l : Launch) (D : va_G) (ct : Nat → ClassId) (sa : Nat → Nat) (base : va_W) (h : Nat) : jM l yX3_init (Cond.code yX3_init cX3_init 2 (Option.none : Option Jvm.ClassFile.FieldType) :: GW) (rM 4 15 170 80) D ct sa [.ref h] (base ++ ((h, .inr (4, [.null, .null, .null, .null, .int (nI 0), .int (nI 0)])) :: [])) (fun r w => ∃ ad : Nat → Nat, ad 0 = h ∧ r = none ∧ w = base ++ WX ct sa ad (nI 0) φ00 σ00) 15 170 := by
  refine jMX.plain (jBodyN (own := RX3) (by decide) rfl rfl (Nat.le_of_ble_eq_true rfl) ?_)
  intro X N0 C E T0
  refine j_lv (lv1 := [(0, .ref _)]) rfl ?_
  refine j_aload_n (i := 0) C dX3_init_0 rfl 0 rfl ?_
  refine j_objInit C gw47 gw48 gw49 ⟨Nat.le_of_ble_eq_true rfl, Nat.le_of_ble_eq_true rfl⟩ dX3_init_1 ?_
  refine j_aload_n (i := 0) C dX3_init_4 rfl 0 rfl ?_
  refine j_new (Cn := RJx4a65c) (T := TJx4a65c) (N := 3) (ci := 0) (fs := [.int (nI 0), .null, .int (nI 0)]) C iJx4a65c tyJx4a65c tyJx4a65c_ok gw50 gw51 gw24 rfl (fun j hj => by match j, hj with | 0, _ => rfl | 1, _ => rfl | 2, _ => rfl) (Nat.le_of_ble_eq_true rfl) (Nat.le_of_ble_eq_true rfl) dX3_init_5 (fun qa => ?_)
  refine j_ws (ws1 := base ++ ((h, .inr (4, [.null, .null, .null, .null, .int (nI 0), .int (nI 0)])) :: (qa, .inr (0, [.int (nI 0), .null, .int (nI 0)])) :: [])) (by rw [th_app]; rfl) ?_
  refine j_dup C dX3_init_8 rfl ?_
  refine j_callI (nargs := 0) (As := []) C gw52 gw53 gw24 rfl (kJx4a65c_init_da8c8 l D ct sa _ (base.length + 1 + 0) qa (th_at rfl)) gw54 (by decide +kernel) rfl dX3_init_9 ⟨Nat.le_of_ble_eq_true rfl, Nat.le_of_ble_eq_true rfl⟩ ⟨Nat.le_of_ble_eq_true rfl, Nat.le_of_ble_eq_true rfl⟩ (Nat.le_of_ble_eq_true rfl) (dkv ?_)
  refine j_ws (ws1 := base ++ ((h, .inr (4, [.null, .null, .null, .null, .int (nI 0), .int (nI 0)])) :: (qa, .inr (0, [.int (nI 0), .ref (sa 0), .int (nI 0)])) :: [])) (by rw [th_set]; rfl) ?_
  refine j_putF (Cn := RX3) (T := TX3) (N := 6) (ci := 4) (ws2 := base ++ ((h, .inr (4, [.ref qa, .null, .null, .null, .int (nI 0), .int (nI 0)])) :: (qa, .inr (0, [.int (nI 0), .ref (sa 0), .int (nI 0)])) :: [])) C N0 iX3 tyX3 tyX3_ok nmX3 rfl (base.length) th_at0 0 (by decide) gw138 rfl rfl rfl rfl rfl rfl (Nat.le_of_ble_eq_true rfl) th_set0 dX3_init_12 ?_
  refine j_aload_n (i := 0) C dX3_init_15 rfl 0 rfl ?_
  refine j_iconst (v := nI 3) C dX3_init_16 (by decide) ?_
  refine j_newqR C gw76 (N := 3) rfl (by decide) (Nat.le_of_ble_eq_true rfl) (Nat.le_of_ble_eq_true rfl) dX3_init_17 (fun qb => ?_)
  refine j_ws (ws1 := base ++ ((h, .inr (4, [.ref qa, .null, .null, .null, .int (nI 0), .int (nI 0)])) :: (qa, .inr (0, [.int (nI 0), .ref (sa 0), .int (nI 0)])) :: (qb, .inl (ct 1, 3, .inr (.inr (.inr (.inr (fun _ => none)))))) :: [])) (by rw [th_app]; rfl) ?_
  refine j_putF (Cn := RX3) (T := TX3) (N := 6) (ci := 4) (ws2 := base ++ ((h, .inr (4, [.ref qa, .ref qb, .null, .null, .int (nI 0), .int (nI 0)])) :: (qa, .inr (0, [.int (nI 0), .ref (sa 0), .int (nI 0)])) :: (qb, .inl (ct 1, 3, .inr (.inr (.inr (.inr (fun _ => none)))))) :: [])) C N0 iX3 tyX3 tyX3_ok nmX3 rfl (base.length) th_at0 1 (by decide) gw139 rfl rfl rfl rfl rfl rfl (Nat.le_of_ble_eq_true rfl) th_set0 dX3_init_20 ?_
  refine j_iconst (v := nI 0) C dX3_init_23 (by decide) ?_
  refine j_istore_n (lv' := [(1, .int _), (0, .ref _)]) C dX3_init_24 rfl (by decide) rfl ?_
  refine j_iload_n (i := 1) C dX3_init_25 rfl 0 rfl ?_
  refine j_aload_n (i := 0) C dX3_init_26 rfl 1 rfl ?_
  refine j_get (Cn := RX3) (T := TX3) (N := 6) (ci := 4) C iX3 rfl (base.length) th_at0 1 (by decide) gw139 rfl rfl dX3_init_27 ?_
  refine j_alen (v := nI 3) C (base.length + 1 + 1) 1 (th_at rfl) rfl rfl dX3_init_30 ?_
  refine j_icmp_ge C 53 dX3_init_31 (by decide) (fun c31 => by exact absurd c31 (by decide)) (fun c31 => ?_)
  refine j_aload_n (i := 0) C dX3_init_34 rfl 1 rfl ?_
  refine j_get (Cn := RX3) (T := TX3) (N := 6) (ci := 4) C iX3 rfl (base.length) th_at0 1 (by decide) gw139 rfl rfl dX3_init_35 ?_
  refine j_iload_n (i := 1) C dX3_init_38 rfl 0 rfl ?_
  refine j_new (Cn := RX1) (T := TX1) (N := 3) (ci := 2) (fs := [.int (nI 0), .int (nI 0), .int (nI 0)]) C iX1 tyX1 tyX1_ok gw76 gw78 gw25 rfl (fun j hj => by match j, hj with | 0, _ => rfl | 1, _ => rfl | 2, _ => rfl) (Nat.le_of_ble_eq_true rfl) (Nat.le_of_ble_eq_true rfl) dX3_init_39 (fun r0 => ?_)
  refine j_ws (ws1 := base ++ ((h, .inr (4, [.ref qa, .ref qb, .null, .null, .int (nI 0), .int (nI 0)])) :: (qa, .inr (0, [.int (nI 0), .ref (sa 0), .int (nI 0)])) :: (qb, .inl (ct 1, 3, .inr (.inr (.inr (.inr (fun _ => none)))))) :: (r0, .inr (2, [.int (nI 0), .int (nI 0), .int (nI 0)])) :: [])) (by rw [th_app]; rfl) ?_
  refine j_dup C dX3_init_42 rfl ?_
  refine j_callIN (nargs := 0) (As := []) C nw79 gw80 gw25 rfl (kX1_init l D ct sa _ (base.length + 1 + 2) r0 (th_at rfl)) gw81 (by decide +kernel) rfl dX3_init_43 ⟨Nat.le_of_ble_eq_true rfl, Nat.le_of_ble_eq_true rfl⟩ ⟨Nat.le_of_ble_eq_true rfl, Nat.le_of_ble_eq_true rfl⟩ (Nat.le_of_ble_eq_true rfl) (dkv ?_)
  refine j_ws (ws1 := base ++ ((h, .inr (4, [.ref qa, .ref qb, .null, .null, .int (nI 0), .int (nI 0)])) :: (qa, .inr (0, [.int (nI 0), .ref (sa 0), .int (nI 0)])) :: (qb, .inl (ct 1, 3, .inr (.inr (.inr (.inr (fun _ => none)))))) :: rkX r0 :: [])) (by rw [th_set]; rfl) ?_
  refine j_astqR (ws2 := base ++ ((h, .inr (4, [.ref qa, .ref qb, .null, .null, .int (nI 0), .int (nI 0)])) :: (qa, .inr (0, [.int (nI 0), .ref (sa 0), .int (nI 0)])) :: (qb, .inl (ct 1, 3, .inr (.inr (.inr (.inr (va_up (fun _ => none) 0 (some r0))))))) :: rkX r0 :: [])) C (base.length + 1 + 1) (base.length + 1 + 2) (th_at rfl) (th_at rfl) 0 rfl (by decide) (by decide) (by rw [th_set]; rfl) dX3_init_46 ?_
  refine j_iinc (v := nI 1) (z := 0) (lv' := [(1, .int _), (0, .ref _)]) C dX3_init_47 rfl (by decide) (by decide) rfl ?_
  refine j_goto C 25 dX3_init_50 (by decide) ?_
  refine j_iload_n (i := 1) C dX3_init_25 rfl 0 rfl ?_
  refine j_aload_n (i := 0) C dX3_init_26 rfl 1 rfl ?_
  refine j_get (Cn := RX3) (T := TX3) (N := 6) (ci := 4) C iX3 rfl (base.length) th_at0 1 (by decide) gw139 rfl rfl dX3_init_27 ?_
  refine j_alen (v := nI 3) C (base.length + 1 + 1) 1 (th_at rfl) rfl rfl dX3_init_30 ?_
  refine j_icmp_ge C 53 dX3_init_31 (by decide) (fun c31 => by exact absurd c31 (by decide)) (fun c31 => ?_)
  refine j_aload_n (i := 0) C dX3_init_34 rfl 1 rfl ?_
  refine j_get (Cn := RX3) (T := TX3) (N := 6) (ci := 4) C iX3 rfl (base.length) th_at0 1 (by decide) gw139 rfl rfl dX3_init_35 ?_
  refine j_iload_n (i := 1) C dX3_init_38 rfl 0 rfl ?_
  refine j_new (Cn := RX1) (T := TX1) (N := 3) (ci := 2) (fs := [.int (nI 0), .int (nI 0), .int (nI 0)]) C iX1 tyX1 tyX1_ok gw76 gw78 gw25 rfl (fun j hj => by match j, hj with | 0, _ => rfl | 1, _ => rfl | 2, _ => rfl) (Nat.le_of_ble_eq_true rfl) (Nat.le_of_ble_eq_true rfl) dX3_init_39 (fun r1 => ?_)
  refine j_ws (ws1 := base ++ ((h, .inr (4, [.ref qa, .ref qb, .null, .null, .int (nI 0), .int (nI 0)])) :: (qa, .inr (0, [.int (nI 0), .ref (sa 0), .int (nI 0)])) :: (qb, .inl (ct 1, 3, .inr (.inr (.inr (.inr (va_up (fun _ => none) 0 (some r0))))))) :: rkX r0 :: (r1, .inr (2, [.int (nI 0), .int (nI 0), .int (nI 0)])) :: [])) (by rw [th_app]; rfl) ?_
  refine j_dup C dX3_init_42 rfl ?_
  refine j_callIN (nargs := 0) (As := []) C nw79 gw80 gw25 rfl (kX1_init l D ct sa _ (base.length + 1 + 3) r1 (th_at rfl)) gw81 (by decide +kernel) rfl dX3_init_43 ⟨Nat.le_of_ble_eq_true rfl, Nat.le_of_ble_eq_true rfl⟩ ⟨Nat.le_of_ble_eq_true rfl, Nat.le_of_ble_eq_true rfl⟩ (Nat.le_of_ble_eq_true rfl) (dkv ?_)
  refine j_ws (ws1 := base ++ ((h, .inr (4, [.ref qa, .ref qb, .null, .null, .int (nI 0), .int (nI 0)])) :: (qa, .inr (0, [.int (nI 0), .ref (sa 0), .int (nI 0)])) :: (qb, .inl (ct 1, 3, .inr (.inr (.inr (.inr (va_up (fun _ => none) 0 (some r0))))))) :: rkX r0 :: rkX r1 :: [])) (by rw [th_set]; rfl) ?_
  refine j_astqR (ws2 := base ++ ((h, .inr (4, [.ref qa, .ref qb, .null, .null, .int (nI 0), .int (nI 0)])) :: (qa, .inr (0, [.int (nI 0), .ref (sa 0), .int (nI 0)])) :: (qb, .inl (ct 1, 3, .inr (.inr (.inr (.inr (va_up (va_up (fun _ => none) 0 (some r0)) 1 (some r1))))))) :: rkX r0 :: rkX r1 :: [])) C (base.length + 1 + 1) (base.length + 1 + 3) (th_at rfl) (th_at rfl) 1 rfl (by decide) (by decide) (by rw [th_set]; rfl) dX3_init_46 ?_
  refine j_iinc (v := nI 2) (z := 0) (lv' := [(1, .int _), (0, .ref _)]) C dX3_init_47 rfl (by decide) (by decide) rfl ?_
  refine j_goto C 25 dX3_init_50 (by decide) ?_
  refine j_iload_n (i := 1) C dX3_init_25 rfl 0 rfl ?_
  refine j_aload_n (i := 0) C dX3_init_26 rfl 1 rfl ?_
  refine j_get (Cn := RX3) (T := TX3) (N := 6) (ci := 4) C iX3 rfl (base.length) th_at0 1 (by decide) gw139 rfl rfl dX3_init_27 ?_
  refine j_alen (v := nI 3) C (base.length + 1 + 1) 1 (th_at rfl) rfl rfl dX3_init_30 ?_
  refine j_icmp_ge C 53 dX3_init_31 (by decide) (fun c31 => by exact absurd c31 (by decide)) (fun c31 => ?_)
  refine j_aload_n (i := 0) C dX3_init_34 rfl 1 rfl ?_
  refine j_get (Cn := RX3) (T := TX3) (N := 6) (ci := 4) C iX3 rfl (base.length) th_at0 1 (by decide) gw139 rfl rfl dX3_init_35 ?_
  refine j_iload_n (i := 1) C dX3_init_38 rfl 0 rfl ?_
  refine j_new (Cn := RX1) (T := TX1) (N := 3) (ci := 2) (fs := [.int (nI 0), .int (nI 0), .int (nI 0)]) C iX1 tyX1 tyX1_ok gw76 gw78 gw25 rfl (fun j hj => by match j, hj with | 0, _ => rfl | 1, _ => rfl | 2, _ => rfl) (Nat.le_of_ble_eq_true rfl) (Nat.le_of_ble_eq_true rfl) dX3_init_39 (fun r2 => ?_)
  refine j_ws (ws1 := base ++ ((h, .inr (4, [.ref qa, .ref qb, .null, .null, .int (nI 0), .int (nI 0)])) :: (qa, .inr (0, [.int (nI 0), .ref (sa 0), .int (nI 0)])) :: (qb, .inl (ct 1, 3, .inr (.inr (.inr (.inr (va_up (va_up (fun _ => none) 0 (some r0)) 1 (some r1))))))) :: rkX r0 :: rkX r1 :: (r2, .inr (2, [.int (nI 0), .int (nI 0), .int (nI 0)])) :: [])) (by rw [th_app]; rfl) ?_
  refine j_dup C dX3_init_42 rfl ?_
  refine j_callIN (nargs := 0) (As := []) C nw79 gw80 gw25 rfl (kX1_init l D ct sa _ (base.length + 1 + 4) r2 (th_at rfl)) gw81 (by decide +kernel) rfl dX3_init_43 ⟨Nat.le_of_ble_eq_true rfl, Nat.le_of_ble_eq_true rfl⟩ ⟨Nat.le_of_ble_eq_true rfl, Nat.le_of_ble_eq_true rfl⟩ (Nat.le_of_ble_eq_true rfl) (dkv ?_)
  refine j_ws (ws1 := base ++ ((h, .inr (4, [.ref qa, .ref qb, .null, .null, .int (nI 0), .int (nI 0)])) :: (qa, .inr (0, [.int (nI 0), .ref (sa 0), .int (nI 0)])) :: (qb, .inl (ct 1, 3, .inr (.inr (.inr (.inr (va_up (va_up (fun _ => none) 0 (some r0)) 1 (some r1))))))) :: rkX r0 :: rkX r1 :: rkX r2 :: [])) (by rw [th_set]; rfl) ?_
  refine j_astqR (ws2 := base ++ ((h, .inr (4, [.ref qa, .ref qb, .null, .null, .int (nI 0), .int (nI 0)])) :: (qa, .inr (0, [.int (nI 0), .ref (sa 0), .int (nI 0)])) :: (qb, .inl (ct 1, 3, .inr (.inr (.inr (.inr (va_up (va_up (va_up (fun _ => none) 0 (some r0)) 1 (some r1)) 2 (some r2))))))) :: rkX r0 :: rkX r1 :: rkX r2 :: [])) C (base.length + 1 + 1) (base.length + 1 + 4) (th_at rfl) (th_at rfl) 2 rfl (by decide) (by decide) (by rw [th_set]; rfl) dX3_init_46 ?_
  refine j_iinc (v := nI 3) (z := 0) (lv' := [(1, .int _), (0, .ref _)]) C dX3_init_47 rfl (by decide) (by decide) rfl ?_
  refine j_goto C 25 dX3_init_50 (by decide) ?_
  refine j_iload_n (i := 1) C dX3_init_25 rfl 0 rfl ?_
  refine j_aload_n (i := 0) C dX3_init_26 rfl 1 rfl ?_
  refine j_get (Cn := RX3) (T := TX3) (N := 6) (ci := 4) C iX3 rfl (base.length) th_at0 1 (by decide) gw139 rfl rfl dX3_init_27 ?_
  refine j_alen (v := nI 3) C (base.length + 1 + 1) 1 (th_at rfl) rfl rfl dX3_init_30 ?_
  refine j_icmp_ge C 53 dX3_init_31 (by decide) (fun c31 => ?_) (fun c31 => by exact absurd (by decide) c31)
  refine j_aload_n (i := 0) C dX3_init_53 rfl 1 rfl ?_
  refine j_new (Cn := RX2) (T := TX2) (N := 1) (ci := 3) (fs := [.null]) C iX2 tyX2 tyX2_ok gw96 gw97 gw26 rfl (fun j hj => by match j, hj with | 0, _ => rfl) (Nat.le_of_ble_eq_true rfl) (Nat.le_of_ble_eq_true rfl) dX3_init_54 (fun th => ?_)
  refine j_ws (ws1 := base ++ ((h, .inr (4, [.ref qa, .ref qb, .null, .null, .int (nI 0), .int (nI 0)])) :: (qa, .inr (0, [.int (nI 0), .ref (sa 0), .int (nI 0)])) :: (qb, .inl (ct 1, 3, .inr (.inr (.inr (.inr (va_up (va_up (va_up (fun _ => none) 0 (some r0)) 1 (some r1)) 2 (some r2))))))) :: rkX r0 :: rkX r1 :: rkX r2 :: (th, .inr (3, [.null])) :: [])) (by rw [th_app]; rfl) ?_
  refine j_dup C dX3_init_57 rfl ?_
  refine j_callI (nargs := 0) (As := []) C gw98 gw99 gw26 rfl (kX2_init l D ct sa _ (base.length + 1 + 5) th (th_at rfl)) gw100 (by decide +kernel) rfl dX3_init_58 ⟨Nat.le_of_ble_eq_true rfl, Nat.le_of_ble_eq_true rfl⟩ ⟨Nat.le_of_ble_eq_true rfl, Nat.le_of_ble_eq_true rfl⟩ (Nat.le_of_ble_eq_true rfl) (fun r w hk => ?_)
  obtain ⟨tt, rw, rfl, rfl⟩ := hk
  refine j_st (st1 := .ref th :: .ref h :: []) rfl ?_
  refine j_ws (ws1 := base ++ ((h, .inr (4, [.ref qa, .ref qb, .null, .null, .int (nI 0), .int (nI 0)])) :: (qa, .inr (0, [.int (nI 0), .ref (sa 0), .int (nI 0)])) :: (qb, .inl (ct 1, 3, .inr (.inr (.inr (.inr (va_up (va_up (va_up (fun _ => none) 0 (some r0)) 1 (some r1)) 2 (some r2))))))) :: rkX r0 :: rkX r1 :: rkX r2 :: (th, .inr (3, [.ref tt])) :: (tt, .inl (ct 3, 5, .inr (.inr (.inr (.inr (fun i => if i < 5 then some (rw i) else none)))))) :: (TR ct rw (tbl 5 0) ++ []))) (by rw [th_set]; exact (th_app).trans rfl) ?_
  refine j_putF (Cn := RX3) (T := TX3) (N := 6) (ci := 4) (ws2 := base ++ ((h, .inr (4, [.ref qa, .ref qb, .ref th, .null, .int (nI 0), .int (nI 0)])) :: (qa, .inr (0, [.int (nI 0), .ref (sa 0), .int (nI 0)])) :: (qb, .inl (ct 1, 3, .inr (.inr (.inr (.inr (va_up (va_up (va_up (fun _ => none) 0 (some r0)) 1 (some r1)) 2 (some r2))))))) :: rkX r0 :: rkX r1 :: rkX r2 :: (th, .inr (3, [.ref tt])) :: (tt, .inl (ct 3, 5, .inr (.inr (.inr (.inr (fun i => if i < 5 then some (rw i) else none)))))) :: (TR ct rw (tbl 5 0) ++ []))) C N0 iX3 tyX3 tyX3_ok nmX3 rfl (base.length) th_at0 2 (by decide) gw140 rfl rfl rfl rfl rfl rfl (Nat.le_of_ble_eq_true rfl) th_set0 dX3_init_61 ?_
  refine j_aload_n (i := 0) C dX3_init_64 rfl 1 rfl ?_
  refine j_new (Cn := RX0) (T := TX0) (N := 6) (ci := 1) (fs := [.null, .null, .int (nI 0), .int (nI 0), .int (nI 0), .int (nI 0)]) C iX0 tyX0 tyX0_ok gw109 gw110 gw27 rfl (fun j hj => by match j, hj with | 0, _ => rfl | 1, _ => rfl | 2, _ => rfl | 3, _ => rfl | 4, _ => rfl | 5, _ => rfl) (Nat.le_of_ble_eq_true rfl) (Nat.le_of_ble_eq_true rfl) dX3_init_65 (fun lk => ?_)
  refine j_ws (ws1 := base ++ ((h, .inr (4, [.ref qa, .ref qb, .ref th, .null, .int (nI 0), .int (nI 0)])) :: (qa, .inr (0, [.int (nI 0), .ref (sa 0), .int (nI 0)])) :: (qb, .inl (ct 1, 3, .inr (.inr (.inr (.inr (va_up (va_up (va_up (fun _ => none) 0 (some r0)) 1 (some r1)) 2 (some r2))))))) :: rkX r0 :: rkX r1 :: rkX r2 :: (th, .inr (3, [.ref tt])) :: (tt, .inl (ct 3, 5, .inr (.inr (.inr (.inr (fun i => if i < 5 then some (rw i) else none)))))) :: (TR ct rw (tbl 5 0) ++ [(lk, .inr (1, [.null, .null, .int (nI 0), .int (nI 0), .int (nI 0), .int (nI 0)]))]))) (th_app.trans rfl) ?_
  refine j_dup C dX3_init_68 rfl ?_
  refine j_iconst (v := nI 0) C dX3_init_69 (by decide) ?_
  refine j_callI (nargs := 1) (As := [_]) C gw111 gw112 gw27 rfl (kX0_init l D ct sa _ (base.length + 1 + 12) lk (nI 0) (th_at rfl)) gw113 (by decide +kernel) rfl dX3_init_70 ⟨Nat.le_of_ble_eq_true rfl, Nat.le_of_ble_eq_true rfl⟩ ⟨Nat.le_of_ble_eq_true rfl, Nat.le_of_ble_eq_true rfl⟩ (Nat.le_of_ble_eq_true rfl) (fun r w hk => ?_)
  obtain ⟨la, lb, rfl, rfl⟩ := hk
  refine j_st (st1 := .ref lk :: .ref h :: []) rfl ?_
  refine j_ws (ws1 := base ++ ((h, .inr (4, [.ref qa, .ref qb, .ref th, .null, .int (nI 0), .int (nI 0)])) :: (qa, .inr (0, [.int (nI 0), .ref (sa 0), .int (nI 0)])) :: (qb, .inl (ct 1, 3, .inr (.inr (.inr (.inr (va_up (va_up (va_up (fun _ => none) 0 (some r0)) 1 (some r1)) 2 (some r2))))))) :: rkX r0 :: rkX r1 :: rkX r2 :: (th, .inr (3, [.ref tt])) :: (tt, .inl (ct 3, 5, .inr (.inr (.inr (.inr (fun i => if i < 5 then some (rw i) else none)))))) :: (TR ct rw (tbl 5 0) ++ [(lk, .inr (1, [.ref la, .ref lb, .int (nI 0), .int (-1), .int (nI 1), .int (nI 0)])), (la, .inl (ct 0, 4, .inl (fun _ => nI 0))), (lb, .inl (ct 0, 24, .inl (fun _ => nI 0)))]))) (by rw [th_set]; exact (th_app).trans rfl) ?_
  refine j_putF (Cn := RX3) (T := TX3) (N := 6) (ci := 4) (ws2 := base ++ ((h, .inr (4, [.ref qa, .ref qb, .ref th, .ref lk, .int (nI 0), .int (nI 0)])) :: (qa, .inr (0, [.int (nI 0), .ref (sa 0), .int (nI 0)])) :: (qb, .inl (ct 1, 3, .inr (.inr (.inr (.inr (va_up (va_up (va_up (fun _ => none) 0 (some r0)) 1 (some r1)) 2 (some r2))))))) :: rkX r0 :: rkX r1 :: rkX r2 :: (th, .inr (3, [.ref tt])) :: (tt, .inl (ct 3, 5, .inr (.inr (.inr (.inr (fun i => if i < 5 then some (rw i) else none)))))) :: (TR ct rw (tbl 5 0) ++ [(lk, .inr (1, [.ref la, .ref lb, .int (nI 0), .int (-1), .int (nI 1), .int (nI 0)])), (la, .inl (ct 0, 4, .inl (fun _ => nI 0))), (lb, .inl (ct 0, 24, .inl (fun _ => nI 0)))]))) C N0 iX3 tyX3 tyX3_ok nmX3 rfl (base.length) th_at0 3 (by decide) gw141 rfl rfl rfl rfl rfl rfl (Nat.le_of_ble_eq_true rfl) th_set0 dX3_init_73 ?_
  refine j_aload_n (i := 0) C dX3_init_76 rfl 1 rfl ?_
  refine j_iconst (v := nI 0) C dX3_init_77 (by decide) ?_
  refine j_put (Cn := RX3) (T := TX3) (N := 6) (ci := 4) (ws2 := base ++ ((h, .inr (4, [.ref qa, .ref qb, .ref th, .ref lk, .int (nI 0), .int (nI 0)])) :: (qa, .inr (0, [.int (nI 0), .ref (sa 0), .int (nI 0)])) :: (qb, .inl (ct 1, 3, .inr (.inr (.inr (.inr (va_up (va_up (va_up (fun _ => none) 0 (some r0)) 1 (some r1)) 2 (some r2))))))) :: rkX r0 :: rkX r1 :: rkX r2 :: (th, .inr (3, [.ref tt])) :: (tt, .inl (ct 3, 5, .inr (.inr (.inr (.inr (fun i => if i < 5 then some (rw i) else none)))))) :: (TR ct rw (tbl 5 0) ++ [(lk, .inr (1, [.ref la, .ref lb, .int (nI 0), .int (-1), .int (nI 1), .int (nI 0)])), (la, .inl (ct 0, 4, .inl (fun _ => nI 0))), (lb, .inl (ct 0, 24, .inl (fun _ => nI 0)))]))) C iX3 tyX3 tyX3_ok nmX3 rfl (base.length) th_at0 4 (by decide) gw142 rfl rfl rfl rfl rfl (Nat.le_of_ble_eq_true rfl) th_set0 dX3_init_78 ?_
  refine j_aload_n (i := 0) C dX3_init_81 rfl 1 rfl ?_
  refine j_iconst (v := nI 0) C dX3_init_82 (by decide) ?_
  refine j_put (Cn := RX3) (T := TX3) (N := 6) (ci := 4) (ws2 := base ++ ((h, .inr (4, [.ref qa, .ref qb, .ref th, .ref lk, .int (nI 0), .int (nI 0)])) :: (qa, .inr (0, [.int (nI 0), .ref (sa 0), .int (nI 0)])) :: (qb, .inl (ct 1, 3, .inr (.inr (.inr (.inr (va_up (va_up (va_up (fun _ => none) 0 (some r0)) 1 (some r1)) 2 (some r2))))))) :: rkX r0 :: rkX r1 :: rkX r2 :: (th, .inr (3, [.ref tt])) :: (tt, .inl (ct 3, 5, .inr (.inr (.inr (.inr (fun i => if i < 5 then some (rw i) else none)))))) :: (TR ct rw (tbl 5 0) ++ [(lk, .inr (1, [.ref la, .ref lb, .int (nI 0), .int (-1), .int (nI 1), .int (nI 0)])), (la, .inl (ct 0, 4, .inl (fun _ => nI 0))), (lb, .inl (ct 0, 24, .inl (fun _ => nI 0)))]))) C iX3 tyX3 tyX3_ok nmX3 rfl (base.length) th_at0 5 (by decide) gw143 rfl rfl rfl rfl rfl (Nat.le_of_ble_eq_true rfl) th_set0 dX3_init_83 ?_
  exact j_return C E dX3_init_86 (Nat.le_of_ble_eq_true rfl) (Nat.le_of_ble_eq_true rfl) (⟨ad0 [h, qa, 0, qb, r0, r1, r2, th, tt, rw 0, rw 1, rw 2, rw 3, rw 4, lk, la, lb], rfl, rfl, init_w ct sa base h qa qb r0 r1 r2 th tt lk la lb rw⟩)
