set_option maxRecDepth 100000 in
set_option maxHeartbeats 600000 in
theorem kL_lock (l : Launch) (htr : l.stackTraces = false) (D : va_G) (ct : Nat → ClassId) (sa : Nat → Nat) (ad : Nat → Nat) (mcn : Int32) (φ : LD) (σ : St) (qo : Nat) (g : Nat → Int64) (wr : va_W) (x : Int32) (hi : Inv1 σ) : jM l yL_lock (Cond.codeWith yL_lock cL_lock 4 (Option.some Jvm.ClassFile.FieldType.int) [((0 : Nat), (9 : Nat), (12 : Nat), (13 : Nat)), ((0 : Nat), (9 : Nat), (15 : Nat), (15 : Nat))] :: GW) (rM 8 5 50 131) D ct sa [.ref (ad 0), .int x, .ref qo] (WX ct sa ad mcn φ σ ++ (oC ct qo g :: wr)) (kLw ct sa ad qo wr (f_lock σ x)) 5 50 := by
  refine jMX.plain (jBodyH (own := RL) (by decide) rfl rfl (Nat.le_of_ble_eq_true rfl) ?_)
  intro X C E T0
  refine j_lv (lv1 := [(0, .ref _), (1, .int _), (2, .ref _)]) rfl ?_
  refine j_aload_n (i := 2) C dL_lock_0 rfl 2 rfl ?_
  refine j_iconst (v := nI 0) C dL_lock_1 (by decide) ?_
  refine j_aload_n (i := 0) C dL_lock_2 rfl 0 rfl ?_
  refine j_iload_n (i := 1) C dL_lock_3 rfl 1 rfl ?_
  refine j_callVX (nargs := 1) (As := [_]) (Cn := RX3) C (0) rfl rfl rfl gw405 gw406 gw407 gw42 (kX3_lock l htr D ct sa ad mcn φ σ (oC ct qo g :: wr) x hi) gw408 (by decide +kernel) rfl dL_lock_4 ⟨Nat.le_of_ble_eq_true rfl, Nat.le_of_ble_eq_true rfl⟩ ⟨Nat.le_of_ble_eq_true rfl, Nat.le_of_ble_eq_true rfl⟩ (Nat.le_of_ble_eq_true rfl) (fun En hx => ?_) (fun r w hk => ?_)
  · rcases hx with ⟨i, hL, hf⟩
    match i, hL with
    | 0, hL =>
      obtain rfl : IAE = En := Option.some.inj hL
      refine jt_catch C T0 [] (0, 9, 12, 13) [(0, 9, 15, 15)] rfl (fun _ h => absurd h List.not_mem_nil) (by decide) (by decide) gw403 nw414 (fun q => ?_)
      refine j_astore_n (lv' := [(3, .ref _), (0, .ref _), (1, .int _), (2, .ref _)]) C dL_lock_12 rfl (by decide) rfl ?_
      refine j_iconst (v := nI 1) C dL_lock_13 (by decide) ?_
      exact j_ireturn C E rfl dL_lock_14 (Nat.le_of_ble_eq_true rfl) (Nat.le_of_ble_eq_true rfl) (kle hf (by decide) er_lock)
    | 1, hL =>
      obtain rfl : ISE = En := Option.some.inj hL
      refine jt_catch C T0 [(0, 9, 12, 13)] (0, 9, 15, 15) [] rfl (List.forall_mem_cons.mpr ⟨⟨by decide, IAE, gw403, by decide⟩, fun _ h => absurd h List.not_mem_nil⟩) (by decide) (by decide) gw404 nw430 (fun q => ?_)
      refine j_astore_n (lv' := [(3, .ref _), (0, .ref _), (1, .int _), (2, .ref _)]) C dL_lock_15 rfl (by decide) rfl ?_
      refine j_iconst (v := nI 2) C dL_lock_16 (by decide) ?_
      exact j_ireturn C E rfl dL_lock_17 (Nat.le_of_ble_eq_true rfl) (Nat.le_of_ble_eq_true rfl) (kle hf (by decide) er_lock)
    | n + 2, hL => exact absurd (List.getElem?_eq_some_iff.mp hL).1 (by show ¬ n + 2 < 2; omega)
  obtain ⟨h0, rfl, ad2, mcn2, ha, rfl⟩ := hk
  refine j_st (st1 := .int (f_lock σ x).2.1 :: .int (nI 0) :: .ref qo :: []) rfl ?_
  refine j_i2l C dL_lock_7 rfl ?_
  refine j_last (ws2 := _) C ((WX ct sa ad2 mcn2 φ (f_lock σ x).2.2).length) th_at0 (0) rfl (by decide) (by decide) th_set0 dL_lock_8 ?_
  refine j_goto C 18 dL_lock_9 (by decide) ?_
  refine j_iconst (v := nI 0) C dL_lock_18 (by decide) ?_
  exact j_ireturn C E rfl dL_lock_19 (Nat.le_of_ble_eq_true rfl) (Nat.le_of_ble_eq_true rfl) (klr h0 ha rfl rfl)
set_option maxRecDepth 100000 in
set_option maxHeartbeats 600000 in
theorem kL_turn (l : Launch) (htr : l.stackTraces = false) (D : va_G) (ct : Nat → ClassId) (sa : Nat → Nat) (ad : Nat → Nat) (mcn : Int32) (φ : LD) (σ : St) (qo : Nat) (g : Nat → Int64) (wr : va_W) (x y z : Int32) (hi : Inv1 σ) : jM l yL_turn (Cond.codeWith yL_turn cL_turn 6 (Option.some Jvm.ClassFile.FieldType.int) [((0 : Nat), (12 : Nat), (15 : Nat), (21 : Nat)), ((0 : Nat), (12 : Nat), (19 : Nat), (13 : Nat))] :: GW) (rM 8 3 18 136) D ct sa [.ref (ad 0), .int x, .int y, .int z, .ref qo] (WX ct sa ad mcn φ σ ++ (oC ct qo g :: wr)) (kLw ct sa ad qo wr (f_turn σ x y z)) 3 18 := by
  refine jMX.plain (jBodyH (own := RL) (by decide) rfl rfl (Nat.le_of_ble_eq_true rfl) ?_)
  intro X C E T0
  refine j_lv (lv1 := [(0, .ref _), (1, .int _), (2, .int _), (3, .int _), (4, .ref _)]) rfl ?_
  refine j_aload C dL_turn_0 4 rfl ?_
  refine j_iconst (v := nI 0) C dL_turn_2 (by decide) ?_
  refine j_aload_n (i := 0) C dL_turn_3 rfl 0 rfl ?_
  refine j_iload_n (i := 1) C dL_turn_4 rfl 1 rfl ?_
  refine j_iload_n (i := 2) C dL_turn_5 rfl 2 rfl ?_
  refine j_iload_n (i := 3) C dL_turn_6 rfl 3 rfl ?_
  refine j_callVX (nargs := 3) (As := [_, _, _]) (Cn := RX3) C (0) rfl rfl rfl gw504 gw505 gw506 gw42 (kX3_turn l htr D ct sa ad mcn φ σ (oC ct qo g :: wr) x y z hi) gw507 (by decide +kernel) rfl dL_turn_7 ⟨Nat.le_of_ble_eq_true rfl, Nat.le_of_ble_eq_true rfl⟩ ⟨Nat.le_of_ble_eq_true rfl, Nat.le_of_ble_eq_true rfl⟩ (Nat.le_of_ble_eq_true rfl) (fun En hx => ?_) (fun r w hk => ?_)
  · rcases hx with ⟨i, hL, hf⟩
    match i, hL with
    | 0, hL =>
      obtain rfl : IOO = En := Option.some.inj hL
      refine jt_catch C T0 [] (0, 12, 15, 21) [(0, 12, 19, 13)] rfl (fun _ h => absurd h List.not_mem_nil) (by decide) (by decide) gw503 nw195 (fun q => ?_)
      refine j_astore (lv' := [(5, .ref _), (0, .ref _), (1, .int _), (2, .int _), (3, .int _), (4, .ref _)]) C dL_turn_15 (by decide) rfl ?_
      refine j_iconst (v := nI 1) C dL_turn_17 (by decide) ?_
      exact j_ireturn C E rfl dL_turn_18 (Nat.le_of_ble_eq_true rfl) (Nat.le_of_ble_eq_true rfl) (kle hf (by decide) er_turn)
    | 1, hL =>
      obtain rfl : IAE = En := Option.some.inj hL
      refine jt_catch C T0 [(0, 12, 15, 21)] (0, 12, 19, 13) [] rfl (List.forall_mem_cons.mpr ⟨⟨by decide, IOO, gw503, by decide⟩, fun _ h => absurd h List.not_mem_nil⟩) (by decide) (by decide) gw403 nw414 (fun q => ?_)
      refine j_astore (lv' := [(5, .ref _), (0, .ref _), (1, .int _), (2, .int _), (3, .int _), (4, .ref _)]) C dL_turn_19 (by decide) rfl ?_
      refine j_iconst (v := nI 2) C dL_turn_21 (by decide) ?_
      exact j_ireturn C E rfl dL_turn_22 (Nat.le_of_ble_eq_true rfl) (Nat.le_of_ble_eq_true rfl) (kle hf (by decide) er_turn)
    | n + 2, hL => exact absurd (List.getElem?_eq_some_iff.mp hL).1 (by show ¬ n + 2 < 2; omega)
  obtain ⟨h0, rfl, rfl⟩ := hk
  refine j_st (st1 := .int (f_turn σ x y z).2.1 :: .int (nI 0) :: .ref qo :: []) rfl ?_
  refine j_i2l C dL_turn_10 rfl ?_
  refine j_last (ws2 := _) C ((WX ct sa ad mcn φ (f_turn σ x y z).2.2).length) th_at0 (0) rfl (by decide) (by decide) th_set0 dL_turn_11 ?_
  refine j_goto C 23 dL_turn_12 (by decide) ?_
  refine j_iconst (v := nI 0) C dL_turn_23 (by decide) ?_
  exact j_ireturn C E rfl dL_turn_24 (Nat.le_of_ble_eq_true rfl) (Nat.le_of_ble_eq_true rfl) (klr h0 rfl rfl rfl)
set_option maxRecDepth 100000 in
set_option maxHeartbeats 600000 in
theorem kL_open (l : Launch) (htr : l.stackTraces = false) (D : va_G) (ct : Nat → ClassId) (sa : Nat → Nat) (ad : Nat → Nat) (mcn : Int32) (φ : LD) (σ : St) (qo : Nat) (g : Nat → Int64) (wr : va_W) (x : Int32) (hi : Inv1 σ) : jM l yL_open (Cond.codeWith yL_open cL_open 4 (Option.some Jvm.ClassFile.FieldType.int) [((0 : Nat), (16 : Nat), (19 : Nat), (21 : Nat))] :: GW) (rM 8 3 18 133) D ct sa [.ref (ad 0), .int x, .ref qo] (WX ct sa ad mcn φ σ ++ (oC ct qo g :: wr)) (kLw ct sa ad qo wr (f_open σ x)) 3 18 := by
  refine jMX.plain (jBodyH (own := RL) (by decide) rfl rfl (Nat.le_of_ble_eq_true rfl) ?_)
  intro X C E T0
  refine j_lv (lv1 := [(0, .ref _), (1, .int _), (2, .ref _)]) rfl ?_
  refine j_aload_n (i := 2) C dL_open_0 rfl 2 rfl ?_
  refine j_iconst (v := nI 0) C dL_open_1 (by decide) ?_
  refine j_aload_n (i := 0) C dL_open_2 rfl 0 rfl ?_
  refine j_iload_n (i := 1) C dL_open_3 rfl 1 rfl ?_
  refine j_callVX (nargs := 1) (As := [_]) (Cn := RX3) C (0) rfl rfl rfl gw526 gw527 gw528 gw42 (kX3_open l htr D ct sa ad mcn φ σ (oC ct qo g :: wr) x hi) gw529 (by decide +kernel) rfl dL_open_4 ⟨Nat.le_of_ble_eq_true rfl, Nat.le_of_ble_eq_true rfl⟩ ⟨Nat.le_of_ble_eq_true rfl, Nat.le_of_ble_eq_true rfl⟩ (Nat.le_of_ble_eq_true rfl) (fun En hx => ?_) (fun r w hk => ?_)
  · rcases hx with ⟨i, hL, hf⟩
    match i, hL with
    | 0, hL =>
      obtain rfl : IOO = En := Option.some.inj hL
      refine jt_catch C T0 [] (0, 16, 19, 21) [] rfl (fun _ h => absurd h List.not_mem_nil) (by decide) (by decide) gw503 nw195 (fun q => ?_)
      refine j_astore_n (lv' := [(3, .ref _), (0, .ref _), (1, .int _), (2, .ref _)]) C dL_open_19 rfl (by decide) rfl ?_
      refine j_iconst (v := nI 1) C dL_open_20 (by decide) ?_
      exact j_ireturn C E rfl dL_open_21 (Nat.le_of_ble_eq_true rfl) (Nat.le_of_ble_eq_true rfl) (kle hf (by decide) er_open)
    | n + 1, hL => exact absurd (List.getElem?_eq_some_iff.mp hL).1 (by show ¬ n + 1 < 1; omega)
  obtain ⟨h0, rfl, rfl⟩ := hk
  refine j_st (st1 := .int (f_open σ x).2.1 :: .int (nI 0) :: .ref qo :: []) rfl ?_
  refine j_if_eq C 14 dL_open_7 (by decide) (fun c7 => ?_) (fun c7 => ?_)
  · refine j_lconst C dL_open_14 rfl ?_
    refine j_last (ws2 := _) C ((WX ct sa ad mcn φ (f_open σ x).2.2).length) th_at0 (0) rfl (by decide) (by decide) th_set0 dL_open_15 ?_
    refine j_goto C 22 dL_open_16 (by decide) ?_
    refine j_iconst (v := nI 0) C dL_open_22 (by decide) ?_
    exact j_ireturn C E rfl dL_open_23 (Nat.le_of_ble_eq_true rfl) (Nat.le_of_ble_eq_true rfl) (by first | exact klr h0 rfl (l01_0 c7) rfl | exact klr h0 rfl (l01_1 v01_open c7) rfl)
  · refine j_lconst C dL_open_10 rfl ?_
    refine j_goto C 15 dL_open_11 (by decide) ?_
    refine j_last (ws2 := _) C ((WX ct sa ad mcn φ (f_open σ x).2.2).length) th_at0 (0) rfl (by decide) (by decide) th_set0 dL_open_15 ?_
    refine j_goto C 22 dL_open_16 (by decide) ?_
    refine j_iconst (v := nI 0) C dL_open_22 (by decide) ?_
    exact j_ireturn C E rfl dL_open_23 (Nat.le_of_ble_eq_true rfl) (Nat.le_of_ble_eq_true rfl) (by first | exact klr h0 rfl (l01_0 c7) rfl | exact klr h0 rfl (l01_1 v01_open c7) rfl)
set_option maxRecDepth 100000 in
set_option maxHeartbeats 600000 in
theorem kL_shut (l : Launch) (htr : l.stackTraces = false) (D : va_G) (ct : Nat → ClassId) (sa : Nat → Nat) (ad : Nat → Nat) (mcn : Int32) (φ : LD) (σ : St) (qo : Nat) (g : Nat → Int64) (wr : va_W) (x : Int32) (hi : Inv1 σ) : jM l yL_shut (Cond.codeWith yL_shut cL_shut 4 (Option.some Jvm.ClassFile.FieldType.int) [((0 : Nat), (9 : Nat), (12 : Nat), (21 : Nat)), ((0 : Nat), (9 : Nat), (15 : Nat), (15 : Nat))] :: GW) (rM 8 3 18 133) D ct sa [.ref (ad 0), .int x, .ref qo] (WX ct sa ad mcn φ σ ++ (oC ct qo g :: wr)) (kLw ct sa ad qo wr (f_shut σ x)) 3 18 := by
  refine jMX.plain (jBodyH (own := RL) (by decide) rfl rfl (Nat.le_of_ble_eq_true rfl) ?_)
  intro X C E T0
  refine j_lv (lv1 := [(0, .ref _), (1, .int _), (2, .ref _)]) rfl ?_
  refine j_aload_n (i := 2) C dL_shut_0 rfl 2 rfl ?_
  refine j_iconst (v := nI 0) C dL_shut_1 (by decide) ?_
  refine j_aload_n (i := 0) C dL_shut_2 rfl 0 rfl ?_
  refine j_iload_n (i := 1) C dL_shut_3 rfl 1 rfl ?_
  refine j_callVX (nargs := 1) (As := [_]) (Cn := RX3) C (0) rfl rfl rfl gw533 gw534 gw535 gw42 (kX3_shut l htr D ct sa ad mcn φ σ (oC ct qo g :: wr) x hi) gw536 (by decide +kernel) rfl dL_shut_4 ⟨Nat.le_of_ble_eq_true rfl, Nat.le_of_ble_eq_true rfl⟩ ⟨Nat.le_of_ble_eq_true rfl, Nat.le_of_ble_eq_true rfl⟩ (Nat.le_of_ble_eq_true rfl) (fun En hx => ?_) (fun r w hk => ?_)
  · rcases hx with ⟨i, hL, hf⟩
    match i, hL with
    | 0, hL =>
      obtain rfl : IOO = En := Option.some.inj hL
      refine jt_catch C T0 [] (0, 9, 12, 21) [(0, 9, 15, 15)] rfl (fun _ h => absurd h List.not_mem_nil) (by decide) (by decide) gw503 nw195 (fun q => ?_)
      refine j_astore_n (lv' := [(3, .ref _), (0, .ref _), (1, .int _), (2, .ref _)]) C dL_shut_12 rfl (by decide) rfl ?_
      refine j_iconst (v := nI 1) C dL_shut_13 (by decide) ?_
      exact j_ireturn C E rfl dL_shut_14 (Nat.le_of_ble_eq_true rfl) (Nat.le_of_ble_eq_true rfl) (kle hf (by decide) er_shut)
    | 1, hL =>
      obtain rfl : ISE = En := Option.some.inj hL
      refine jt_catch C T0 [(0, 9, 12, 21)] (0, 9, 15, 15) [] rfl (List.forall_mem_cons.mpr ⟨⟨by decide, IOO, gw503, by decide⟩, fun _ h => absurd h List.not_mem_nil⟩) (by decide) (by decide) gw404 nw430 (fun q => ?_)
      refine j_astore_n (lv' := [(3, .ref _), (0, .ref _), (1, .int _), (2, .ref _)]) C dL_shut_15 rfl (by decide) rfl ?_
      refine j_iconst (v := nI 2) C dL_shut_16 (by decide) ?_
      exact j_ireturn C E rfl dL_shut_17 (Nat.le_of_ble_eq_true rfl) (Nat.le_of_ble_eq_true rfl) (kle hf (by decide) er_shut)
    | n + 2, hL => exact absurd (List.getElem?_eq_some_iff.mp hL).1 (by show ¬ n + 2 < 2; omega)
  obtain ⟨h0, rfl, rfl⟩ := hk
  refine j_st (st1 := .int (f_shut σ x).2.1 :: .int (nI 0) :: .ref qo :: []) rfl ?_
  refine j_i2l C dL_shut_7 rfl ?_
  refine j_last (ws2 := _) C ((WX ct sa ad mcn φ (f_shut σ x).2.2).length) th_at0 (0) rfl (by decide) (by decide) th_set0 dL_shut_8 ?_
  refine j_goto C 18 dL_shut_9 (by decide) ?_
  refine j_iconst (v := nI 0) C dL_shut_18 (by decide) ?_
  exact j_ireturn C E rfl dL_shut_19 (Nat.le_of_ble_eq_true rfl) (Nat.le_of_ble_eq_true rfl) (klr h0 rfl rfl rfl)
set_option maxRecDepth 100000 in
set_option maxHeartbeats 600000 in
theorem kL_rename (l : Launch) (htr : l.stackTraces = false) (D : va_G) (ct : Nat → ClassId) (sa : Nat → Nat) (ad : Nat → Nat) (mcn : Int32) (φ : LD) (σ : St) (qo : Nat) (g : Nat → Int64) (wr : va_W) (x y : Int32) (hi : Inv1 σ) : jM l yL_rename (Cond.codeWith yL_rename cL_rename 5 (Option.some Jvm.ClassFile.FieldType.int) [((0 : Nat), (10 : Nat), (13 : Nat), (21 : Nat)), ((0 : Nat), (10 : Nat), (17 : Nat), (13 : Nat)), ((0 : Nat), (10 : Nat), (21 : Nat), (15 : Nat))] :: GW) (rM 8 3 18 135) D ct sa [.ref (ad 0), .int x, .int y, .ref qo] (WX ct sa ad mcn φ σ ++ (oC ct qo g :: wr)) (kLw ct sa ad qo wr (f_rename σ x y)) 3 18 := by
  refine jMX.plain (jBodyH (own := RL) (by decide) rfl rfl (Nat.le_of_ble_eq_true rfl) ?_)
  intro X C E T0
  refine j_lv (lv1 := [(0, .ref _), (1, .int _), (2, .int _), (3, .ref _)]) rfl ?_
  refine j_aload_n (i := 3) C dL_rename_0 rfl 3 rfl ?_
  refine j_iconst (v := nI 0) C dL_rename_1 (by decide) ?_
  refine j_aload_n (i := 0) C dL_rename_2 rfl 0 rfl ?_
  refine j_iload_n (i := 1) C dL_rename_3 rfl 1 rfl ?_
  refine j_iload_n (i := 2) C dL_rename_4 rfl 2 rfl ?_
  refine j_callVX (nargs := 2) (As := [_, _]) (Cn := RX3) C (0) rfl rfl rfl gw548 gw549 gw550 gw42 (kX3_rename l htr D ct sa ad mcn φ σ (oC ct qo g :: wr) x y hi) gw551 (by decide +kernel) rfl dL_rename_5 ⟨Nat.le_of_ble_eq_true rfl, Nat.le_of_ble_eq_true rfl⟩ ⟨Nat.le_of_ble_eq_true rfl, Nat.le_of_ble_eq_true rfl⟩ (Nat.le_of_ble_eq_true rfl) (fun En hx => ?_) (fun r w hk => ?_)
  · rcases hx with ⟨i, hL, hf⟩
    match i, hL with
    | 0, hL =>
      obtain rfl : IOO = En := Option.some.inj hL
      refine jt_catch C T0 [] (0, 10, 13, 21) [(0, 10, 17, 13), (0, 10, 21, 15)] rfl (fun _ h => absurd h List.not_mem_nil) (by decide) (by decide) gw503 nw195 (fun q => ?_)
      refine j_astore (lv' := [(4, .ref _), (0, .ref _), (1, .int _), (2, .int _), (3, .ref _)]) C dL_rename_13 (by decide) rfl ?_
      refine j_iconst (v := nI 1) C dL_rename_15 (by decide) ?_
      exact j_ireturn C E rfl dL_rename_16 (Nat.le_of_ble_eq_true rfl) (Nat.le_of_ble_eq_true rfl) (kle hf (by decide) er_rename)
    | 1, hL =>
      obtain rfl : IAE = En := Option.some.inj hL
      refine jt_catch C T0 [(0, 10, 13, 21)] (0, 10, 17, 13) [(0, 10, 21, 15)] rfl (List.forall_mem_cons.mpr ⟨⟨by decide, IOO, gw503, by decide⟩, fun _ h => absurd h List.not_mem_nil⟩) (by decide) (by decide) gw403 nw414 (fun q => ?_)
      refine j_astore (lv' := [(4, .ref _), (0, .ref _), (1, .int _), (2, .int _), (3, .ref _)]) C dL_rename_17 (by decide) rfl ?_
      refine j_iconst (v := nI 2) C dL_rename_19 (by decide) ?_
      exact j_ireturn C E rfl dL_rename_20 (Nat.le_of_ble_eq_true rfl) (Nat.le_of_ble_eq_true rfl) (kle hf (by decide) er_rename)
    | 2, hL =>
      obtain rfl : ISE = En := Option.some.inj hL
      refine jt_catch C T0 [(0, 10, 13, 21), (0, 10, 17, 13)] (0, 10, 21, 15) [] rfl (List.forall_mem_cons.mpr ⟨⟨by decide, IOO, gw503, by decide⟩, List.forall_mem_cons.mpr ⟨⟨by decide, IAE, gw403, by decide⟩, fun _ h => absurd h List.not_mem_nil⟩⟩) (by decide) (by decide) gw404 nw430 (fun q => ?_)
      refine j_astore (lv' := [(4, .ref _), (0, .ref _), (1, .int _), (2, .int _), (3, .ref _)]) C dL_rename_21 (by decide) rfl ?_
      refine j_iconst (v := nI 3) C dL_rename_23 (by decide) ?_
      exact j_ireturn C E rfl dL_rename_24 (Nat.le_of_ble_eq_true rfl) (Nat.le_of_ble_eq_true rfl) (kle hf (by decide) er_rename)
    | n + 3, hL => exact absurd (List.getElem?_eq_some_iff.mp hL).1 (by show ¬ n + 3 < 3; omega)
  obtain ⟨h0, rfl, rfl⟩ := hk
  refine j_st (st1 := .int (f_rename σ x y).2.1 :: .int (nI 0) :: .ref qo :: []) rfl ?_
  refine j_i2l C dL_rename_8 rfl ?_
  refine j_last (ws2 := _) C ((WX ct sa ad mcn φ (f_rename σ x y).2.2).length) th_at0 (0) rfl (by decide) (by decide) th_set0 dL_rename_9 ?_
  refine j_goto C 25 dL_rename_10 (by decide) ?_
  refine j_iconst (v := nI 0) C dL_rename_25 (by decide) ?_
  exact j_ireturn C E rfl dL_rename_26 (Nat.le_of_ble_eq_true rfl) (Nat.le_of_ble_eq_true rfl) (klr h0 rfl rfl rfl)
set_option maxRecDepth 100000 in
set_option maxHeartbeats 600000 in
theorem kL_lose (l : Launch) (htr : l.stackTraces = false) (D : va_G) (ct : Nat → ClassId) (sa : Nat → Nat) (ad : Nat → Nat) (mcn : Int32) (φ : LD) (σ : St) (qo : Nat) (g : Nat → Int64) (wr : va_W) (x y : Int32) (hi : Inv1 σ) (hb : b01 y) : jM l yL_lose (Cond.codeWith yL_lose cL_lose 5 (Option.some Jvm.ClassFile.FieldType.int) [((0 : Nat), (17 : Nat), (20 : Nat), (21 : Nat))] :: GW) (rM 8 3 18 135) D ct sa [.ref (ad 0), .int x, .int y, .ref qo] (WX ct sa ad mcn φ σ ++ (oC ct qo g :: wr)) (kLw ct sa ad qo wr (f_lose σ x y)) 3 18 := by
  refine jMX.plain (jBodyH (own := RL) (by decide) rfl rfl (Nat.le_of_ble_eq_true rfl) ?_)
  intro X C E T0
  refine j_lv (lv1 := [(0, .ref _), (1, .int _), (2, .int _), (3, .ref _)]) rfl ?_
  refine j_aload_n (i := 3) C dL_lose_0 rfl 3 rfl ?_
  refine j_iconst (v := nI 0) C dL_lose_1 (by decide) ?_
  refine j_aload_n (i := 0) C dL_lose_2 rfl 0 rfl ?_
  refine j_iload_n (i := 1) C dL_lose_3 rfl 1 rfl ?_
  refine j_iload_n (i := 2) C dL_lose_4 rfl 2 rfl ?_
  refine j_callVX (nargs := 2) (As := [_, _]) (Cn := RX3) C (0) rfl rfl rfl gw555 gw556 gw557 gw42 (kX3_lose l htr D ct sa ad mcn φ σ (oC ct qo g :: wr) x y hi hb) gw558 (by decide +kernel) rfl dL_lose_5 ⟨Nat.le_of_ble_eq_true rfl, Nat.le_of_ble_eq_true rfl⟩ ⟨Nat.le_of_ble_eq_true rfl, Nat.le_of_ble_eq_true rfl⟩ (Nat.le_of_ble_eq_true rfl) (fun En hx => ?_) (fun r w hk => ?_)
  · rcases hx with ⟨i, hL, hf⟩
    match i, hL with
    | 0, hL =>
      obtain rfl : IOO = En := Option.some.inj hL
      refine jt_catch C T0 [] (0, 17, 20, 21) [] rfl (fun _ h => absurd h List.not_mem_nil) (by decide) (by decide) gw503 nw195 (fun q => ?_)
      refine j_astore (lv' := [(4, .ref _), (0, .ref _), (1, .int _), (2, .int _), (3, .ref _)]) C dL_lose_20 (by decide) rfl ?_
      refine j_iconst (v := nI 1) C dL_lose_22 (by decide) ?_
      exact j_ireturn C E rfl dL_lose_23 (Nat.le_of_ble_eq_true rfl) (Nat.le_of_ble_eq_true rfl) (kle hf (by decide) er_lose)
    | n + 1, hL => exact absurd (List.getElem?_eq_some_iff.mp hL).1 (by show ¬ n + 1 < 1; omega)
  obtain ⟨h0, rfl, rfl⟩ := hk
  refine j_st (st1 := .int (f_lose σ x y).2.1 :: .int (nI 0) :: .ref qo :: []) rfl ?_
  refine j_if_eq C 15 dL_lose_8 (by decide) (fun c8 => ?_) (fun c8 => ?_)
  · refine j_lconst C dL_lose_15 rfl ?_
    refine j_last (ws2 := _) C ((WX ct sa ad mcn φ (f_lose σ x y).2.2).length) th_at0 (0) rfl (by decide) (by decide) th_set0 dL_lose_16 ?_
    refine j_goto C 24 dL_lose_17 (by decide) ?_
    refine j_iconst (v := nI 0) C dL_lose_24 (by decide) ?_
    exact j_ireturn C E rfl dL_lose_25 (Nat.le_of_ble_eq_true rfl) (Nat.le_of_ble_eq_true rfl) (by first | exact klr h0 rfl (l01_0 c8) rfl | exact klr h0 rfl (l01_1 v01_lose c8) rfl)
  · refine j_lconst C dL_lose_11 rfl ?_
    refine j_goto C 16 dL_lose_12 (by decide) ?_
    refine j_last (ws2 := _) C ((WX ct sa ad mcn φ (f_lose σ x y).2.2).length) th_at0 (0) rfl (by decide) (by decide) th_set0 dL_lose_16 ?_
    refine j_goto C 24 dL_lose_17 (by decide) ?_
    refine j_iconst (v := nI 0) C dL_lose_24 (by decide) ?_
    exact j_ireturn C E rfl dL_lose_25 (Nat.le_of_ble_eq_true rfl) (Nat.le_of_ble_eq_true rfl) (by first | exact klr h0 rfl (l01_0 c8) rfl | exact klr h0 rfl (l01_1 v01_lose c8) rfl)
set_option maxRecDepth 100000 in
set_option maxHeartbeats 600000 in
theorem kL_setPlaces (l : Launch) (htr : l.stackTraces = false) (D : va_G) (ct : Nat → ClassId) (sa : Nat → Nat) (ad : Nat → Nat) (mcn : Int32) (φ : LD) (σ : St) (qo : Nat) (g : Nat → Int64) (wr : va_W) (x y : Int32) (hi : Inv1 σ) : jM l yL_setPlaces (Cond.codeWith yL_setPlaces cL_setPlaces 5 (Option.some Jvm.ClassFile.FieldType.int) [((0 : Nat), (10 : Nat), (13 : Nat), (21 : Nat)), ((0 : Nat), (10 : Nat), (17 : Nat), (13 : Nat)), ((0 : Nat), (10 : Nat), (21 : Nat), (15 : Nat))] :: GW) (rM 8 3 18 135) D ct sa [.ref (ad 0), .int x, .int y, .ref qo] (WX ct sa ad mcn φ σ ++ (oC ct qo g :: wr)) (kLw ct sa ad qo wr (f_setPlaces σ x y)) 3 18 := by
  refine jMX.plain (jBodyH (own := RL) (by decide) rfl rfl (Nat.le_of_ble_eq_true rfl) ?_)
  intro X C E T0
  refine j_lv (lv1 := [(0, .ref _), (1, .int _), (2, .int _), (3, .ref _)]) rfl ?_
  refine j_aload_n (i := 3) C dL_setPlaces_0 rfl 3 rfl ?_
  refine j_iconst (v := nI 0) C dL_setPlaces_1 (by decide) ?_
  refine j_aload_n (i := 0) C dL_setPlaces_2 rfl 0 rfl ?_
  refine j_iload_n (i := 1) C dL_setPlaces_3 rfl 1 rfl ?_
  refine j_iload_n (i := 2) C dL_setPlaces_4 rfl 2 rfl ?_
  refine j_callVX (nargs := 2) (As := [_, _]) (Cn := RX3) C (0) rfl rfl rfl gw562 gw563 gw564 gw42 (kX3_setPlaces l htr D ct sa ad mcn φ σ (oC ct qo g :: wr) x y hi) gw565 (by decide +kernel) rfl dL_setPlaces_5 ⟨Nat.le_of_ble_eq_true rfl, Nat.le_of_ble_eq_true rfl⟩ ⟨Nat.le_of_ble_eq_true rfl, Nat.le_of_ble_eq_true rfl⟩ (Nat.le_of_ble_eq_true rfl) (fun En hx => ?_) (fun r w hk => ?_)
  · rcases hx with ⟨i, hL, hf⟩
    match i, hL with
    | 0, hL =>
      obtain rfl : IOO = En := Option.some.inj hL
      refine jt_catch C T0 [] (0, 10, 13, 21) [(0, 10, 17, 13), (0, 10, 21, 15)] rfl (fun _ h => absurd h List.not_mem_nil) (by decide) (by decide) gw503 nw195 (fun q => ?_)
      refine j_astore (lv' := [(4, .ref _), (0, .ref _), (1, .int _), (2, .int _), (3, .ref _)]) C dL_setPlaces_13 (by decide) rfl ?_
      refine j_iconst (v := nI 1) C dL_setPlaces_15 (by decide) ?_
      exact j_ireturn C E rfl dL_setPlaces_16 (Nat.le_of_ble_eq_true rfl) (Nat.le_of_ble_eq_true rfl) (kle hf (by decide) er_setPlaces)
    | 1, hL =>
      obtain rfl : IAE = En := Option.some.inj hL
      refine jt_catch C T0 [(0, 10, 13, 21)] (0, 10, 17, 13) [(0, 10, 21, 15)] rfl (List.forall_mem_cons.mpr ⟨⟨by decide, IOO, gw503, by decide⟩, fun _ h => absurd h List.not_mem_nil⟩) (by decide) (by decide) gw403 nw414 (fun q => ?_)
      refine j_astore (lv' := [(4, .ref _), (0, .ref _), (1, .int _), (2, .int _), (3, .ref _)]) C dL_setPlaces_17 (by decide) rfl ?_
      refine j_iconst (v := nI 2) C dL_setPlaces_19 (by decide) ?_
      exact j_ireturn C E rfl dL_setPlaces_20 (Nat.le_of_ble_eq_true rfl) (Nat.le_of_ble_eq_true rfl) (kle hf (by decide) er_setPlaces)
    | 2, hL =>
      obtain rfl : ISE = En := Option.some.inj hL
      refine jt_catch C T0 [(0, 10, 13, 21), (0, 10, 17, 13)] (0, 10, 21, 15) [] rfl (List.forall_mem_cons.mpr ⟨⟨by decide, IOO, gw503, by decide⟩, List.forall_mem_cons.mpr ⟨⟨by decide, IAE, gw403, by decide⟩, fun _ h => absurd h List.not_mem_nil⟩⟩) (by decide) (by decide) gw404 nw430 (fun q => ?_)
      refine j_astore (lv' := [(4, .ref _), (0, .ref _), (1, .int _), (2, .int _), (3, .ref _)]) C dL_setPlaces_21 (by decide) rfl ?_
      refine j_iconst (v := nI 3) C dL_setPlaces_23 (by decide) ?_
      exact j_ireturn C E rfl dL_setPlaces_24 (Nat.le_of_ble_eq_true rfl) (Nat.le_of_ble_eq_true rfl) (kle hf (by decide) er_setPlaces)
    | n + 3, hL => exact absurd (List.getElem?_eq_some_iff.mp hL).1 (by show ¬ n + 3 < 3; omega)
  obtain ⟨h0, rfl, rfl⟩ := hk
  refine j_st (st1 := .int (f_setPlaces σ x y).2.1 :: .int (nI 0) :: .ref qo :: []) rfl ?_
  refine j_i2l C dL_setPlaces_8 rfl ?_
  refine j_last (ws2 := _) C ((WX ct sa ad mcn φ (f_setPlaces σ x y).2.2).length) th_at0 (0) rfl (by decide) (by decide) th_set0 dL_setPlaces_9 ?_
  refine j_goto C 25 dL_setPlaces_10 (by decide) ?_
  refine j_iconst (v := nI 0) C dL_setPlaces_25 (by decide) ?_
  exact j_ireturn C E rfl dL_setPlaces_26 (Nat.le_of_ble_eq_true rfl) (Nat.le_of_ble_eq_true rfl) (klr h0 rfl rfl rfl)
set_option maxRecDepth 100000 in
set_option maxHeartbeats 600000 in
theorem kL_setHours (l : Launch) (htr : l.stackTraces = false) (D : va_G) (ct : Nat → ClassId) (sa : Nat → Nat) (ad : Nat → Nat) (mcn : Int32) (φ : LD) (σ : St) (qo : Nat) (g : Nat → Int64) (wr : va_W) (x y z : Int32) (hi : Inv1 σ) : jM l yL_setHours (Cond.codeWith yL_setHours cL_setHours 6 (Option.some Jvm.ClassFile.FieldType.int) [((0 : Nat), (12 : Nat), (15 : Nat), (21 : Nat)), ((0 : Nat), (12 : Nat), (19 : Nat), (13 : Nat))] :: GW) (rM 8 3 18 136) D ct sa [.ref (ad 0), .int x, .int y, .int z, .ref qo] (WX ct sa ad mcn φ σ ++ (oC ct qo g :: wr)) (kLw ct sa ad qo wr (f_setHours σ x y z)) 3 18 := by
  refine jMX.plain (jBodyH (own := RL) (by decide) rfl rfl (Nat.le_of_ble_eq_true rfl) ?_)
  intro X C E T0
  refine j_lv (lv1 := [(0, .ref _), (1, .int _), (2, .int _), (3, .int _), (4, .ref _)]) rfl ?_
  refine j_aload C dL_setHours_0 4 rfl ?_
  refine j_iconst (v := nI 0) C dL_setHours_2 (by decide) ?_
  refine j_aload_n (i := 0) C dL_setHours_3 rfl 0 rfl ?_
  refine j_iload_n (i := 1) C dL_setHours_4 rfl 1 rfl ?_
  refine j_iload_n (i := 2) C dL_setHours_5 rfl 2 rfl ?_
  refine j_iload_n (i := 3) C dL_setHours_6 rfl 3 rfl ?_
  refine j_callVX (nargs := 3) (As := [_, _, _]) (Cn := RX3) C (0) rfl rfl rfl gw571 gw572 gw573 gw42 (kX3_setHours l htr D ct sa ad mcn φ σ (oC ct qo g :: wr) x y z hi) gw574 (by decide +kernel) rfl dL_setHours_7 ⟨Nat.le_of_ble_eq_true rfl, Nat.le_of_ble_eq_true rfl⟩ ⟨Nat.le_of_ble_eq_true rfl, Nat.le_of_ble_eq_true rfl⟩ (Nat.le_of_ble_eq_true rfl) (fun En hx => ?_) (fun r w hk => ?_)
  · rcases hx with ⟨i, hL, hf⟩
    match i, hL with
    | 0, hL =>
      obtain rfl : IOO = En := Option.some.inj hL
      refine jt_catch C T0 [] (0, 12, 15, 21) [(0, 12, 19, 13)] rfl (fun _ h => absurd h List.not_mem_nil) (by decide) (by decide) gw503 nw195 (fun q => ?_)
      refine j_astore (lv' := [(5, .ref _), (0, .ref _), (1, .int _), (2, .int _), (3, .int _), (4, .ref _)]) C dL_setHours_15 (by decide) rfl ?_
      refine j_iconst (v := nI 1) C dL_setHours_17 (by decide) ?_
      exact j_ireturn C E rfl dL_setHours_18 (Nat.le_of_ble_eq_true rfl) (Nat.le_of_ble_eq_true rfl) (kle hf (by decide) er_setHours)
    | 1, hL =>
      obtain rfl : IAE = En := Option.some.inj hL
      refine jt_catch C T0 [(0, 12, 15, 21)] (0, 12, 19, 13) [] rfl (List.forall_mem_cons.mpr ⟨⟨by decide, IOO, gw503, by decide⟩, fun _ h => absurd h List.not_mem_nil⟩) (by decide) (by decide) gw403 nw414 (fun q => ?_)
      refine j_astore (lv' := [(5, .ref _), (0, .ref _), (1, .int _), (2, .int _), (3, .int _), (4, .ref _)]) C dL_setHours_19 (by decide) rfl ?_
      refine j_iconst (v := nI 2) C dL_setHours_21 (by decide) ?_
      exact j_ireturn C E rfl dL_setHours_22 (Nat.le_of_ble_eq_true rfl) (Nat.le_of_ble_eq_true rfl) (kle hf (by decide) er_setHours)
    | n + 2, hL => exact absurd (List.getElem?_eq_some_iff.mp hL).1 (by show ¬ n + 2 < 2; omega)
  obtain ⟨h0, rfl, rfl⟩ := hk
  refine j_st (st1 := .int (f_setHours σ x y z).2.1 :: .int (nI 0) :: .ref qo :: []) rfl ?_
  refine j_i2l C dL_setHours_10 rfl ?_
  refine j_last (ws2 := _) C ((WX ct sa ad mcn φ (f_setHours σ x y z).2.2).length) th_at0 (0) rfl (by decide) (by decide) th_set0 dL_setHours_11 ?_
  refine j_goto C 23 dL_setHours_12 (by decide) ?_
  refine j_iconst (v := nI 0) C dL_setHours_23 (by decide) ?_
  exact j_ireturn C E rfl dL_setHours_24 (Nat.le_of_ble_eq_true rfl) (Nat.le_of_ble_eq_true rfl) (klr h0 rfl rfl rfl)
set_option maxRecDepth 100000 in
set_option maxHeartbeats 600000 in
theorem kL_put (l : Launch) (htr : l.stackTraces = false) (D : va_G) (ct : Nat → ClassId) (sa : Nat → Nat) (ad : Nat → Nat) (mcn : Int32) (φ : LD) (σ : St) (qo : Nat) (g : Nat → Int64) (wr : va_W) (x y : Int32) (hi : Inv1 σ) : jM l yL_put (Cond.codeWith yL_put cL_put 5 (Option.some Jvm.ClassFile.FieldType.int) [((0 : Nat), (10 : Nat), (13 : Nat), (21 : Nat)), ((0 : Nat), (10 : Nat), (17 : Nat), (15 : Nat))] :: GW) (rM 8 3 18 135) D ct sa [.ref (ad 0), .int x, .int y, .ref qo] (WX ct sa ad mcn φ σ ++ (oC ct qo g :: wr)) (kLw ct sa ad qo wr (f_put σ x y)) 3 18 := by
  refine jMX.plain (jBodyH (own := RL) (by decide) rfl rfl (Nat.le_of_ble_eq_true rfl) ?_)
  intro X C E T0
  refine j_lv (lv1 := [(0, .ref _), (1, .int _), (2, .int _), (3, .ref _)]) rfl ?_
  refine j_aload_n (i := 3) C dL_put_0 rfl 3 rfl ?_
  refine j_iconst (v := nI 0) C dL_put_1 (by decide) ?_
  refine j_aload_n (i := 0) C dL_put_2 rfl 0 rfl ?_
  refine j_iload_n (i := 1) C dL_put_3 rfl 1 rfl ?_
  refine j_iload_n (i := 2) C dL_put_4 rfl 2 rfl ?_
  refine j_callVX (nargs := 2) (As := [_, _]) (Cn := RX3) C (0) rfl rfl rfl gw579 gw580 gw581 gw42 (kX3_put l htr D ct sa ad mcn φ σ (oC ct qo g :: wr) x y hi) gw582 (by decide +kernel) rfl dL_put_5 ⟨Nat.le_of_ble_eq_true rfl, Nat.le_of_ble_eq_true rfl⟩ ⟨Nat.le_of_ble_eq_true rfl, Nat.le_of_ble_eq_true rfl⟩ (Nat.le_of_ble_eq_true rfl) (fun En hx => ?_) (fun r w hk => ?_)
  · rcases hx with ⟨i, hL, hf⟩
    match i, hL with
    | 0, hL =>
      obtain rfl : IOO = En := Option.some.inj hL
      refine jt_catch C T0 [] (0, 10, 13, 21) [(0, 10, 17, 15)] rfl (fun _ h => absurd h List.not_mem_nil) (by decide) (by decide) gw503 nw195 (fun q => ?_)
      refine j_astore (lv' := [(4, .ref _), (0, .ref _), (1, .int _), (2, .int _), (3, .ref _)]) C dL_put_13 (by decide) rfl ?_
      refine j_iconst (v := nI 1) C dL_put_15 (by decide) ?_
      exact j_ireturn C E rfl dL_put_16 (Nat.le_of_ble_eq_true rfl) (Nat.le_of_ble_eq_true rfl) (kle hf (by decide) er_put)
    | 1, hL =>
      obtain rfl : ISE = En := Option.some.inj hL
      refine jt_catch C T0 [(0, 10, 13, 21)] (0, 10, 17, 15) [] rfl (List.forall_mem_cons.mpr ⟨⟨by decide, IOO, gw503, by decide⟩, fun _ h => absurd h List.not_mem_nil⟩) (by decide) (by decide) gw404 nw430 (fun q => ?_)
      refine j_astore (lv' := [(4, .ref _), (0, .ref _), (1, .int _), (2, .int _), (3, .ref _)]) C dL_put_17 (by decide) rfl ?_
      refine j_iconst (v := nI 2) C dL_put_19 (by decide) ?_
      exact j_ireturn C E rfl dL_put_20 (Nat.le_of_ble_eq_true rfl) (Nat.le_of_ble_eq_true rfl) (kle hf (by decide) er_put)
    | n + 2, hL => exact absurd (List.getElem?_eq_some_iff.mp hL).1 (by show ¬ n + 2 < 2; omega)
  obtain ⟨h0, rfl, rfl⟩ := hk
  refine j_st (st1 := .int (f_put σ x y).2.1 :: .int (nI 0) :: .ref qo :: []) rfl ?_
  refine j_i2l C dL_put_8 rfl ?_
  refine j_last (ws2 := _) C ((WX ct sa ad mcn φ (f_put σ x y).2.2).length) th_at0 (0) rfl (by decide) (by decide) th_set0 dL_put_9 ?_
  refine j_goto C 21 dL_put_10 (by decide) ?_
  refine j_iconst (v := nI 0) C dL_put_21 (by decide) ?_
  exact j_ireturn C E rfl dL_put_22 (Nat.le_of_ble_eq_true rfl) (Nat.le_of_ble_eq_true rfl) (klr h0 rfl rfl rfl)
set_option maxRecDepth 100000 in
set_option maxHeartbeats 600000 in
theorem kL_told (l : Launch) (htr : l.stackTraces = false) (D : va_G) (ct : Nat → ClassId) (sa : Nat → Nat) (ad : Nat → Nat) (mcn : Int32) (φ : LD) (σ : St) (qo : Nat) (g : Nat → Int64) (wr : va_W) (x y : Int32) (hi : Inv1 σ) : jM l yL_told (Cond.codeWith yL_told cL_told 5 (Option.some Jvm.ClassFile.FieldType.int) [((0 : Nat), (10 : Nat), (13 : Nat), (21 : Nat))] :: GW) (rM 8 3 18 134) D ct sa [.ref (ad 0), .int x, .int y, .ref qo] (WX ct sa ad mcn φ σ ++ (oC ct qo g :: wr)) (kLw ct sa ad qo wr (f_told σ x y)) 3 18 := by
  refine jMX.plain (jBodyH (own := RL) (by decide) rfl rfl (Nat.le_of_ble_eq_true rfl) ?_)
  intro X C E T0
  refine j_lv (lv1 := [(0, .ref _), (1, .int _), (2, .int _), (3, .ref _)]) rfl ?_
  refine j_aload_n (i := 3) C dL_told_0 rfl 3 rfl ?_
  refine j_iconst (v := nI 0) C dL_told_1 (by decide) ?_
  refine j_aload_n (i := 0) C dL_told_2 rfl 0 rfl ?_
  refine j_iload_n (i := 1) C dL_told_3 rfl 1 rfl ?_
  refine j_iload_n (i := 2) C dL_told_4 rfl 2 rfl ?_
  refine j_callVX (nargs := 2) (As := [_, _]) (Cn := RX3) C (0) rfl rfl rfl gw591 gw373 gw374 gw42 (kX3_told l htr D ct sa ad mcn φ σ (oC ct qo g :: wr) x y hi) gw375 (by decide +kernel) rfl dL_told_5 ⟨Nat.le_of_ble_eq_true rfl, Nat.le_of_ble_eq_true rfl⟩ ⟨Nat.le_of_ble_eq_true rfl, Nat.le_of_ble_eq_true rfl⟩ (Nat.le_of_ble_eq_true rfl) (fun En hx => ?_) (fun r w hk => ?_)
  · rcases hx with ⟨i, hL, hf⟩
    match i, hL with
    | 0, hL =>
      obtain rfl : IOO = En := Option.some.inj hL
      refine jt_catch C T0 [] (0, 10, 13, 21) [] rfl (fun _ h => absurd h List.not_mem_nil) (by decide) (by decide) gw503 nw195 (fun q => ?_)
      refine j_astore (lv' := [(4, .ref _), (0, .ref _), (1, .int _), (2, .int _), (3, .ref _)]) C dL_told_13 (by decide) rfl ?_
      refine j_iconst (v := nI 1) C dL_told_15 (by decide) ?_
      exact j_ireturn C E rfl dL_told_16 (Nat.le_of_ble_eq_true rfl) (Nat.le_of_ble_eq_true rfl) (kle hf (by decide) (fun _ => rd_told))
    | n + 1, hL => exact absurd (List.getElem?_eq_some_iff.mp hL).1 (by show ¬ n + 1 < 1; omega)
  obtain ⟨h0, rfl, rfl⟩ := hk
  refine j_st (st1 := .int (f_told σ x y).2.1 :: .int (nI 0) :: .ref qo :: []) rfl ?_
  refine j_i2l C dL_told_8 rfl ?_
  refine j_last (ws2 := _) C ((WX ct sa ad mcn φ σ).length) th_at0 (0) rfl (by decide) (by decide) th_set0 dL_told_9 ?_
  refine j_goto C 17 dL_told_10 (by decide) ?_
  refine j_iconst (v := nI 0) C dL_told_17 (by decide) ?_
  exact j_ireturn C E rfl dL_told_18 (Nat.le_of_ble_eq_true rfl) (Nat.le_of_ble_eq_true rfl) (klr h0 rfl rfl rd_told.symm)
set_option maxRecDepth 100000 in
set_option maxHeartbeats 600000 in
theorem kL_wear (l : Launch) (htr : l.stackTraces = false) (D : va_G) (ct : Nat → ClassId) (sa : Nat → Nat) (ad : Nat → Nat) (mcn : Int32) (φ : LD) (σ : St) (qo : Nat) (g : Nat → Int64) (wr : va_W) (x y z : Int32) (hi : Inv1 σ) : jM l yL_wear (Cond.codeWith yL_wear cL_wear 6 (Option.some Jvm.ClassFile.FieldType.int) [((0 : Nat), (12 : Nat), (15 : Nat), (21 : Nat))] :: GW) (rM 8 3 18 135) D ct sa [.ref (ad 0), .int x, .int y, .int z, .ref qo] (WX ct sa ad mcn φ σ ++ (oC ct qo g :: wr)) (kLw ct sa ad qo wr (f_wear σ x y z)) 3 18 := by
  refine jMX.plain (jBodyH (own := RL) (by decide) rfl rfl (Nat.le_of_ble_eq_true rfl) ?_)
  intro X C E T0
  refine j_lv (lv1 := [(0, .ref _), (1, .int _), (2, .int _), (3, .int _), (4, .ref _)]) rfl ?_
  refine j_aload C dL_wear_0 4 rfl ?_
  refine j_iconst (v := nI 0) C dL_wear_2 (by decide) ?_
  refine j_aload_n (i := 0) C dL_wear_3 rfl 0 rfl ?_
  refine j_iload_n (i := 1) C dL_wear_4 rfl 1 rfl ?_
  refine j_iload_n (i := 2) C dL_wear_5 rfl 2 rfl ?_
  refine j_iload_n (i := 3) C dL_wear_6 rfl 3 rfl ?_
  refine j_callVX (nargs := 3) (As := [_, _, _]) (Cn := RX3) C (0) rfl rfl rfl gw595 gw389 gw390 gw42 (kX3_wear l htr D ct sa ad mcn φ σ (oC ct qo g :: wr) x y z hi) gw391 (by decide +kernel) rfl dL_wear_7 ⟨Nat.le_of_ble_eq_true rfl, Nat.le_of_ble_eq_true rfl⟩ ⟨Nat.le_of_ble_eq_true rfl, Nat.le_of_ble_eq_true rfl⟩ (Nat.le_of_ble_eq_true rfl) (fun En hx => ?_) (fun r w hk => ?_)
  · rcases hx with ⟨i, hL, hf⟩
    match i, hL with
    | 0, hL =>
      obtain rfl : IOO = En := Option.some.inj hL
      refine jt_catch C T0 [] (0, 12, 15, 21) [] rfl (fun _ h => absurd h List.not_mem_nil) (by decide) (by decide) gw503 nw195 (fun q => ?_)
      refine j_astore (lv' := [(5, .ref _), (0, .ref _), (1, .int _), (2, .int _), (3, .int _), (4, .ref _)]) C dL_wear_15 (by decide) rfl ?_
      refine j_iconst (v := nI 1) C dL_wear_17 (by decide) ?_
      exact j_ireturn C E rfl dL_wear_18 (Nat.le_of_ble_eq_true rfl) (Nat.le_of_ble_eq_true rfl) (kle hf (by decide) (fun _ => rd_wear))
    | n + 1, hL => exact absurd (List.getElem?_eq_some_iff.mp hL).1 (by show ¬ n + 1 < 1; omega)
  obtain ⟨h0, rfl, rfl⟩ := hk
  refine j_st (st1 := .int (f_wear σ x y z).2.1 :: .int (nI 0) :: .ref qo :: []) rfl ?_
  refine j_i2l C dL_wear_10 rfl ?_
  refine j_last (ws2 := _) C ((WX ct sa ad mcn φ σ).length) th_at0 (0) rfl (by decide) (by decide) th_set0 dL_wear_11 ?_
  refine j_goto C 19 dL_wear_12 (by decide) ?_
  refine j_iconst (v := nI 0) C dL_wear_19 (by decide) ?_
  exact j_ireturn C E rfl dL_wear_20 (Nat.le_of_ble_eq_true rfl) (Nat.le_of_ble_eq_true rfl) (klr h0 rfl rfl rd_wear.symm)
set_option maxRecDepth 100000 in
set_option maxHeartbeats 600000 in
theorem kL_rack (l : Launch) (htr : l.stackTraces = false) (D : va_G) (ct : Nat → ClassId) (sa : Nat → Nat) (ad : Nat → Nat) (mcn : Int32) (φ : LD) (σ : St) (qo : Nat) (g : Nat → Int64) (wr : va_W) (x y : Int32) (hi : Inv1 σ) : jM l yL_rack (Cond.codeWith yL_rack cL_rack 5 (Option.some Jvm.ClassFile.FieldType.int) [((0 : Nat), (10 : Nat), (13 : Nat), (21 : Nat))] :: GW) (rM 8 3 18 134) D ct sa [.ref (ad 0), .int x, .int y, .ref qo] (WX ct sa ad mcn φ σ ++ (oC ct qo g :: wr)) (kLw ct sa ad qo wr (f_rack σ x y)) 3 18 := by
  refine jMX.plain (jBodyH (own := RL) (by decide) rfl rfl (Nat.le_of_ble_eq_true rfl) ?_)
  intro X C E T0
  refine j_lv (lv1 := [(0, .ref _), (1, .int _), (2, .int _), (3, .ref _)]) rfl ?_
  refine j_aload_n (i := 3) C dL_rack_0 rfl 3 rfl ?_
  refine j_iconst (v := nI 0) C dL_rack_1 (by decide) ?_
  refine j_aload_n (i := 0) C dL_rack_2 rfl 0 rfl ?_
  refine j_iload_n (i := 1) C dL_rack_3 rfl 1 rfl ?_
  refine j_iload_n (i := 2) C dL_rack_4 rfl 2 rfl ?_
  refine j_callVX (nargs := 2) (As := [_, _]) (Cn := RX3) C (0) rfl rfl rfl gw599 gw347 gw348 gw42 (kX3_rack l htr D ct sa ad mcn φ σ (oC ct qo g :: wr) x y hi) gw349 (by decide +kernel) rfl dL_rack_5 ⟨Nat.le_of_ble_eq_true rfl, Nat.le_of_ble_eq_true rfl⟩ ⟨Nat.le_of_ble_eq_true rfl, Nat.le_of_ble_eq_true rfl⟩ (Nat.le_of_ble_eq_true rfl) (fun En hx => ?_) (fun r w hk => ?_)
  · rcases hx with ⟨i, hL, hf⟩
    match i, hL with
    | 0, hL =>
      obtain rfl : IOO = En := Option.some.inj hL
      refine jt_catch C T0 [] (0, 10, 13, 21) [] rfl (fun _ h => absurd h List.not_mem_nil) (by decide) (by decide) gw503 nw195 (fun q => ?_)
      refine j_astore (lv' := [(4, .ref _), (0, .ref _), (1, .int _), (2, .int _), (3, .ref _)]) C dL_rack_13 (by decide) rfl ?_
      refine j_iconst (v := nI 1) C dL_rack_15 (by decide) ?_
      exact j_ireturn C E rfl dL_rack_16 (Nat.le_of_ble_eq_true rfl) (Nat.le_of_ble_eq_true rfl) (kle hf (by decide) (fun _ => rd_rack))
    | n + 1, hL => exact absurd (List.getElem?_eq_some_iff.mp hL).1 (by show ¬ n + 1 < 1; omega)
  obtain ⟨h0, rfl, rfl⟩ := hk
  refine j_st (st1 := .int (f_rack σ x y).2.1 :: .int (nI 0) :: .ref qo :: []) rfl ?_
  refine j_i2l C dL_rack_8 rfl ?_
  refine j_last (ws2 := _) C ((WX ct sa ad mcn φ σ).length) th_at0 (0) rfl (by decide) (by decide) th_set0 dL_rack_9 ?_
  refine j_goto C 17 dL_rack_10 (by decide) ?_
  refine j_iconst (v := nI 0) C dL_rack_17 (by decide) ?_
  exact j_ireturn C E rfl dL_rack_18 (Nat.le_of_ble_eq_true rfl) (Nat.le_of_ble_eq_true rfl) (klr h0 rfl rfl rd_rack.symm)
set_option maxRecDepth 100000 in
set_option maxHeartbeats 600000 in
theorem kL_count (l : Launch) (htr : l.stackTraces = false) (D : va_G) (ct : Nat → ClassId) (sa : Nat → Nat) (ad : Nat → Nat) (mcn : Int32) (φ : LD) (σ : St) (qo : Nat) (g : Nat → Int64) (wr : va_W) (x : Int32) (hi : Inv1 σ) : jM l yL_count (Cond.codeWith yL_count cL_count 4 (Option.some Jvm.ClassFile.FieldType.int) [((0 : Nat), (9 : Nat), (12 : Nat), (21 : Nat))] :: GW) (rM 7 1 6 128) D ct sa [.ref (ad 0), .int x, .ref qo] (WX ct sa ad mcn φ σ ++ (oC ct qo g :: wr)) (kLw ct sa ad qo wr (f_count σ x)) 1 6 := by
  refine jMX.plain (jBodyH (own := RL) (by decide) rfl rfl (Nat.le_of_ble_eq_true rfl) ?_)
  intro X C E T0
  refine j_lv (lv1 := [(0, .ref _), (1, .int _), (2, .ref _)]) rfl ?_
  refine j_aload_n (i := 2) C dL_count_0 rfl 2 rfl ?_
  refine j_iconst (v := nI 0) C dL_count_1 (by decide) ?_
  refine j_aload_n (i := 0) C dL_count_2 rfl 0 rfl ?_
  refine j_iload_n (i := 1) C dL_count_3 rfl 1 rfl ?_
  refine j_callVX (nargs := 1) (As := [_]) (Cn := RX3) C (0) rfl rfl rfl gw603 gw326 gw327 gw42 (kX3_count l htr D ct sa ad mcn φ σ (oC ct qo g :: wr) x hi) gw328 (by decide +kernel) rfl dL_count_4 ⟨Nat.le_of_ble_eq_true rfl, Nat.le_of_ble_eq_true rfl⟩ ⟨Nat.le_of_ble_eq_true rfl, Nat.le_of_ble_eq_true rfl⟩ (Nat.le_of_ble_eq_true rfl) (fun En hx => ?_) (fun r w hk => ?_)
  · rcases hx with ⟨i, hL, hf⟩
    match i, hL with
    | 0, hL =>
      obtain rfl : IOO = En := Option.some.inj hL
      refine jt_catch C T0 [] (0, 9, 12, 21) [] rfl (fun _ h => absurd h List.not_mem_nil) (by decide) (by decide) gw503 nw195 (fun q => ?_)
      refine j_astore_n (lv' := [(3, .ref _), (0, .ref _), (1, .int _), (2, .ref _)]) C dL_count_12 rfl (by decide) rfl ?_
      refine j_iconst (v := nI 1) C dL_count_13 (by decide) ?_
      exact j_ireturn C E rfl dL_count_14 (Nat.le_of_ble_eq_true rfl) (Nat.le_of_ble_eq_true rfl) (kle hf (by decide) (fun _ => rd_count))
    | n + 1, hL => exact absurd (List.getElem?_eq_some_iff.mp hL).1 (by show ¬ n + 1 < 1; omega)
  obtain ⟨h0, rfl, rfl⟩ := hk
  refine j_st (st1 := .int (f_count σ x).2.1 :: .int (nI 0) :: .ref qo :: []) rfl ?_
  refine j_i2l C dL_count_7 rfl ?_
  refine j_last (ws2 := _) C ((WX ct sa ad mcn φ σ).length) th_at0 (0) rfl (by decide) (by decide) th_set0 dL_count_8 ?_
  refine j_goto C 15 dL_count_9 (by decide) ?_
  refine j_iconst (v := nI 0) C dL_count_15 (by decide) ?_
  exact j_ireturn C E rfl dL_count_16 (Nat.le_of_ble_eq_true rfl) (Nat.le_of_ble_eq_true rfl) (klr h0 rfl rfl rd_count.symm)
set_option maxRecDepth 100000 in
set_option maxHeartbeats 600000 in
theorem kL_apart (l : Launch) (htr : l.stackTraces = false) (D : va_G) (ct : Nat → ClassId) (sa : Nat → Nat) (ad : Nat → Nat) (mcn : Int32) (φ : LD) (σ : St) (qo : Nat) (g : Nat → Int64) (wr : va_W) (x y : Int32) (hi : Inv1 σ) : jM l yL_apart (Cond.codeWith yL_apart cL_apart 5 (Option.some Jvm.ClassFile.FieldType.int) [((0 : Nat), (10 : Nat), (13 : Nat), (13 : Nat))] :: GW) (rM 8 2 12 134) D ct sa [.ref (ad 0), .int x, .int y, .ref qo] (WX ct sa ad mcn φ σ ++ (oC ct qo g :: wr)) (kLw ct sa ad qo wr (f_apart σ x y)) 2 12 := by
  refine jMX.plain (jBodyH (own := RL) (by decide) rfl rfl (Nat.le_of_ble_eq_true rfl) ?_)
  intro X C E T0
  refine j_lv (lv1 := [(0, .ref _), (1, .int _), (2, .int _), (3, .ref _)]) rfl ?_
  refine j_aload_n (i := 3) C dL_apart_0 rfl 3 rfl ?_
  refine j_iconst (v := nI 0) C dL_apart_1 (by decide) ?_
  refine j_aload_n (i := 0) C dL_apart_2 rfl 0 rfl ?_
  refine j_iload_n (i := 1) C dL_apart_3 rfl 1 rfl ?_
  refine j_iload_n (i := 2) C dL_apart_4 rfl 2 rfl ?_
  refine j_callVX (nargs := 2) (As := [_, _]) (Cn := RX3) C (0) rfl rfl rfl gw607 gw608 gw609 gw42 (kX3_apart l htr D ct sa ad mcn φ σ (oC ct qo g :: wr) x y hi) gw610 (by decide +kernel) rfl dL_apart_5 ⟨Nat.le_of_ble_eq_true rfl, Nat.le_of_ble_eq_true rfl⟩ ⟨Nat.le_of_ble_eq_true rfl, Nat.le_of_ble_eq_true rfl⟩ (Nat.le_of_ble_eq_true rfl) (fun En hx => ?_) (fun r w hk => ?_)
  · rcases hx with ⟨i, hL, hf⟩
    match i, hL with
    | 0, hL =>
      obtain rfl : IAE = En := Option.some.inj hL
      refine jt_catch C T0 [] (0, 10, 13, 13) [] rfl (fun _ h => absurd h List.not_mem_nil) (by decide) (by decide) gw403 nw414 (fun q => ?_)
      refine j_astore (lv' := [(4, .ref _), (0, .ref _), (1, .int _), (2, .int _), (3, .ref _)]) C dL_apart_13 (by decide) rfl ?_
      refine j_iconst (v := nI 1) C dL_apart_15 (by decide) ?_
      exact j_ireturn C E rfl dL_apart_16 (Nat.le_of_ble_eq_true rfl) (Nat.le_of_ble_eq_true rfl) (kle hf (by decide) (fun _ => rd_apart))
    | n + 1, hL => exact absurd (List.getElem?_eq_some_iff.mp hL).1 (by show ¬ n + 1 < 1; omega)
  obtain ⟨h0, rfl, rfl⟩ := hk
  refine j_st (st1 := .int (f_apart σ x y).2.1 :: .int (nI 0) :: .ref qo :: []) rfl ?_
  refine j_i2l C dL_apart_8 rfl ?_
  refine j_last (ws2 := _) C ((WX ct sa ad mcn φ σ).length) th_at0 (0) rfl (by decide) (by decide) th_set0 dL_apart_9 ?_
  refine j_goto C 17 dL_apart_10 (by decide) ?_
  refine j_iconst (v := nI 0) C dL_apart_17 (by decide) ?_
  exact j_ireturn C E rfl dL_apart_18 (Nat.le_of_ble_eq_true rfl) (Nat.le_of_ble_eq_true rfl) (klr h0 rfl rfl rd_apart.symm)
set_option maxRecDepth 100000 in
set_option maxHeartbeats 600000 in
theorem kL_trial (l : Launch) (htr : l.stackTraces = false) (D : va_G) (ct : Nat → ClassId) (sa : Nat → Nat) (ad : Nat → Nat) (mcn : Int32) (φ : LD) (σ : St) (qo : Nat) (g : Nat → Int64) (wr : va_W) (x y : Int32) (hi : Inv1 σ) : jM l yL_trial (Cond.codeWith yL_trial cL_trial 5 (Option.some Jvm.ClassFile.FieldType.int) [((0 : Nat), (10 : Nat), (13 : Nat), (21 : Nat)), ((0 : Nat), (10 : Nat), (17 : Nat), (13 : Nat))] :: GW) (rM 8 2 12 145) D ct sa [.ref (ad 0), .int x, .int y, .ref qo] (WX ct sa ad mcn φ σ ++ (oC ct qo g :: wr)) (kLw ct sa ad qo wr (f_trial σ x y)) 2 12 := by
  refine jMX.plain (jBodyH (own := RL) (by decide) rfl rfl (Nat.le_of_ble_eq_true rfl) ?_)
  intro X C E T0
  refine j_lv (lv1 := [(0, .ref _), (1, .int _), (2, .int _), (3, .ref _)]) rfl ?_
  refine j_aload_n (i := 3) C dL_trial_0 rfl 3 rfl ?_
  refine j_iconst (v := nI 0) C dL_trial_1 (by decide) ?_
  refine j_aload_n (i := 0) C dL_trial_2 rfl 0 rfl ?_
  refine j_iload_n (i := 1) C dL_trial_3 rfl 1 rfl ?_
  refine j_iload_n (i := 2) C dL_trial_4 rfl 2 rfl ?_
  refine j_callVX (nargs := 2) (As := [_, _]) (Cn := RX3) C (0) rfl rfl rfl gw615 gw616 gw617 gw42 (kX3_trial l htr D ct sa ad mcn φ σ (oC ct qo g :: wr) x y hi) gw618 (by decide +kernel) rfl dL_trial_5 ⟨Nat.le_of_ble_eq_true rfl, Nat.le_of_ble_eq_true rfl⟩ ⟨Nat.le_of_ble_eq_true rfl, Nat.le_of_ble_eq_true rfl⟩ (Nat.le_of_ble_eq_true rfl) (fun En hx => ?_) (fun r w hk => ?_)
  · rcases hx with ⟨i, hL, hf⟩
    match i, hL with
    | 0, hL =>
      obtain rfl : IOO = En := Option.some.inj hL
      refine jt_catch C T0 [] (0, 10, 13, 21) [(0, 10, 17, 13)] rfl (fun _ h => absurd h List.not_mem_nil) (by decide) (by decide) gw503 nw195 (fun q => ?_)
      refine j_astore (lv' := [(4, .ref _), (0, .ref _), (1, .int _), (2, .int _), (3, .ref _)]) C dL_trial_13 (by decide) rfl ?_
      refine j_iconst (v := nI 1) C dL_trial_15 (by decide) ?_
      exact j_ireturn C E rfl dL_trial_16 (Nat.le_of_ble_eq_true rfl) (Nat.le_of_ble_eq_true rfl) (kle hf (by decide) (fun _ => rd_trial))
    | 1, hL =>
      obtain rfl : IAE = En := Option.some.inj hL
      refine jt_catch C T0 [(0, 10, 13, 21)] (0, 10, 17, 13) [] rfl (List.forall_mem_cons.mpr ⟨⟨by decide, IOO, gw503, by decide⟩, fun _ h => absurd h List.not_mem_nil⟩) (by decide) (by decide) gw403 nw414 (fun q => ?_)
      refine j_astore (lv' := [(4, .ref _), (0, .ref _), (1, .int _), (2, .int _), (3, .ref _)]) C dL_trial_17 (by decide) rfl ?_
      refine j_iconst (v := nI 2) C dL_trial_19 (by decide) ?_
      exact j_ireturn C E rfl dL_trial_20 (Nat.le_of_ble_eq_true rfl) (Nat.le_of_ble_eq_true rfl) (kle hf (by decide) (fun _ => rd_trial))
    | n + 2, hL => exact absurd (List.getElem?_eq_some_iff.mp hL).1 (by show ¬ n + 2 < 2; omega)
  obtain ⟨h0, rfl, rfl⟩ := hk
  refine j_st (st1 := .int (f_trial σ x y).2.1 :: .int (nI 0) :: .ref qo :: []) rfl ?_
  refine j_i2l C dL_trial_8 rfl ?_
  refine j_last (ws2 := _) C ((WX ct sa ad mcn φ σ).length) th_at0 (0) rfl (by decide) (by decide) th_set0 dL_trial_9 ?_
  refine j_goto C 21 dL_trial_10 (by decide) ?_
  refine j_iconst (v := nI 0) C dL_trial_21 (by decide) ?_
  exact j_ireturn C E rfl dL_trial_22 (Nat.le_of_ble_eq_true rfl) (Nat.le_of_ble_eq_true rfl) (klr h0 rfl rfl rd_trial.symm)
set_option maxRecDepth 100000 in
set_option maxHeartbeats 600000 in
theorem kL_safe (l : Launch) (htr : l.stackTraces = false) (D : va_G) (ct : Nat → ClassId) (sa : Nat → Nat) (ad : Nat → Nat) (mcn : Int32) (φ : LD) (σ : St) (qo : Nat) (g : Nat → Int64) (wr : va_W) (x : Int32) (hi : Inv1 σ) : jM l yL_safe (Cond.codeWith yL_safe cL_safe 4 (Option.some Jvm.ClassFile.FieldType.int) [((0 : Nat), (9 : Nat), (12 : Nat), (21 : Nat))] :: GW) (rM 8 1 6 144) D ct sa [.ref (ad 0), .int x, .ref qo] (WX ct sa ad mcn φ σ ++ (oC ct qo g :: wr)) (kLw ct sa ad qo wr (f_safe σ x)) 1 6 := by
  refine jMX.plain (jBodyH (own := RL) (by decide) rfl rfl (Nat.le_of_ble_eq_true rfl) ?_)
  intro X C E T0
  refine j_lv (lv1 := [(0, .ref _), (1, .int _), (2, .ref _)]) rfl ?_
  refine j_aload_n (i := 2) C dL_safe_0 rfl 2 rfl ?_
  refine j_iconst (v := nI 0) C dL_safe_1 (by decide) ?_
  refine j_aload_n (i := 0) C dL_safe_2 rfl 0 rfl ?_
  refine j_iload_n (i := 1) C dL_safe_3 rfl 1 rfl ?_
  refine j_callVX (nargs := 1) (As := [_]) (Cn := RX3) C (0) rfl rfl rfl gw622 gw186 gw187 gw42 (kX3_safe l htr D ct sa ad mcn φ σ (oC ct qo g :: wr) x hi) gw188 (by decide +kernel) rfl dL_safe_4 ⟨Nat.le_of_ble_eq_true rfl, Nat.le_of_ble_eq_true rfl⟩ ⟨Nat.le_of_ble_eq_true rfl, Nat.le_of_ble_eq_true rfl⟩ (Nat.le_of_ble_eq_true rfl) (fun En hx => ?_) (fun r w hk => ?_)
  · rcases hx with ⟨i, hL, hf⟩
    match i, hL with
    | 0, hL =>
      obtain rfl : IOO = En := Option.some.inj hL
      refine jt_catch C T0 [] (0, 9, 12, 21) [] rfl (fun _ h => absurd h List.not_mem_nil) (by decide) (by decide) gw503 nw195 (fun q => ?_)
      refine j_astore_n (lv' := [(3, .ref _), (0, .ref _), (1, .int _), (2, .ref _)]) C dL_safe_12 rfl (by decide) rfl ?_
      refine j_iconst (v := nI 1) C dL_safe_13 (by decide) ?_
      exact j_ireturn C E rfl dL_safe_14 (Nat.le_of_ble_eq_true rfl) (Nat.le_of_ble_eq_true rfl) (kle hf (by decide) (fun _ => rd_safe))
    | n + 1, hL => exact absurd (List.getElem?_eq_some_iff.mp hL).1 (by show ¬ n + 1 < 1; omega)
  obtain ⟨h0, rfl, rfl⟩ := hk
  refine j_st (st1 := .int (f_safe σ x).2.1 :: .int (nI 0) :: .ref qo :: []) rfl ?_
  refine j_i2l C dL_safe_7 rfl ?_
  refine j_last (ws2 := _) C ((WX ct sa ad mcn φ σ).length) th_at0 (0) rfl (by decide) (by decide) th_set0 dL_safe_8 ?_
  refine j_goto C 15 dL_safe_9 (by decide) ?_
  refine j_iconst (v := nI 0) C dL_safe_15 (by decide) ?_
  exact j_ireturn C E rfl dL_safe_16 (Nat.le_of_ble_eq_true rfl) (Nat.le_of_ble_eq_true rfl) (klr h0 rfl rfl rd_safe.symm)
set_option maxRecDepth 100000 in
set_option maxHeartbeats 600000 in
theorem kL_pass (l : Launch) (htr : l.stackTraces = false) (D : va_G) (ct : Nat → ClassId) (sa : Nat → Nat) (ad : Nat → Nat) (mcn : Int32) (φ : LD) (σ : St) (qo : Nat) (g : Nat → Int64) (wr : va_W) (x : Int32) (hi : Inv1 σ) : jM l yL_pass (Cond.codeWith yL_pass cL_pass 4 (Option.some Jvm.ClassFile.FieldType.int) [((0 : Nat), (9 : Nat), (12 : Nat), (13 : Nat))] :: GW) (rM 8 1 6 134) D ct sa [.ref (ad 0), .int x, .ref qo] (WX ct sa ad mcn φ σ ++ (oC ct qo g :: wr)) (kLw ct sa ad qo wr (f_pass σ x)) 1 6 := by
  refine jMX.plain (jBodyH (own := RL) (by decide) rfl rfl (Nat.le_of_ble_eq_true rfl) ?_)
  intro X C E T0
  refine j_lv (lv1 := [(0, .ref _), (1, .int _), (2, .ref _)]) rfl ?_
  refine j_aload_n (i := 2) C dL_pass_0 rfl 2 rfl ?_
  refine j_iconst (v := nI 0) C dL_pass_1 (by decide) ?_
  refine j_aload_n (i := 0) C dL_pass_2 rfl 0 rfl ?_
  refine j_iload_n (i := 1) C dL_pass_3 rfl 1 rfl ?_
  refine j_callVX (nargs := 1) (As := [_]) (Cn := RX3) C (0) rfl rfl rfl gw626 gw627 gw628 gw42 (kX3_pass l htr D ct sa ad mcn φ σ (oC ct qo g :: wr) x hi) gw629 (by decide +kernel) rfl dL_pass_4 ⟨Nat.le_of_ble_eq_true rfl, Nat.le_of_ble_eq_true rfl⟩ ⟨Nat.le_of_ble_eq_true rfl, Nat.le_of_ble_eq_true rfl⟩ (Nat.le_of_ble_eq_true rfl) (fun En hx => ?_) (fun r w hk => ?_)
  · rcases hx with ⟨i, hL, hf⟩
    match i, hL with
    | 0, hL =>
      obtain rfl : IAE = En := Option.some.inj hL
      refine jt_catch C T0 [] (0, 9, 12, 13) [] rfl (fun _ h => absurd h List.not_mem_nil) (by decide) (by decide) gw403 nw414 (fun q => ?_)
      refine j_astore_n (lv' := [(3, .ref _), (0, .ref _), (1, .int _), (2, .ref _)]) C dL_pass_12 rfl (by decide) rfl ?_
      refine j_iconst (v := nI 1) C dL_pass_13 (by decide) ?_
      exact j_ireturn C E rfl dL_pass_14 (Nat.le_of_ble_eq_true rfl) (Nat.le_of_ble_eq_true rfl) (kle hf (by decide) er_pass)
    | n + 1, hL => exact absurd (List.getElem?_eq_some_iff.mp hL).1 (by show ¬ n + 1 < 1; omega)
  obtain ⟨h0, rfl, rfl⟩ := hk
  refine j_st (st1 := .int (f_pass σ x).2.1 :: .int (nI 0) :: .ref qo :: []) rfl ?_
  refine j_i2l C dL_pass_7 rfl ?_
  refine j_last (ws2 := _) C ((WX ct sa ad mcn φ (f_pass σ x).2.2).length) th_at0 (0) rfl (by decide) (by decide) th_set0 dL_pass_8 ?_
  refine j_goto C 15 dL_pass_9 (by decide) ?_
  refine j_iconst (v := nI 0) C dL_pass_15 (by decide) ?_
  exact j_ireturn C E rfl dL_pass_16 (Nat.le_of_ble_eq_true rfl) (Nat.le_of_ble_eq_true rfl) (klr h0 rfl rfl rfl)
set_option maxRecDepth 100000 in
set_option maxHeartbeats 600000 in
theorem kL_foresee (l : Launch) (htr : l.stackTraces = false) (D : va_G) (ct : Nat → ClassId) (sa : Nat → Nat) (ad : Nat → Nat) (mcn : Int32) (φ : LD) (σ : St) (qo : Nat) (g : Nat → Int64) (wr : va_W) (x y : Int32) (hi : Inv1 σ) : jM l yL_foresee (Cond.codeWith yL_foresee cL_foresee 5 (Option.some Jvm.ClassFile.FieldType.int) [((0 : Nat), (10 : Nat), (13 : Nat), (13 : Nat)), ((0 : Nat), (10 : Nat), (17 : Nat), (21 : Nat))] :: GW) (rM 8 2 12 145) D ct sa [.ref (ad 0), .int x, .int y, .ref qo] (WX ct sa ad mcn φ σ ++ (oC ct qo g :: wr)) (kLw ct sa ad qo wr (f_foresee σ x y)) 2 12 := by
  refine jMX.plain (jBodyH (own := RL) (by decide) rfl rfl (Nat.le_of_ble_eq_true rfl) ?_)
  intro X C E T0
  refine j_lv (lv1 := [(0, .ref _), (1, .int _), (2, .int _), (3, .ref _)]) rfl ?_
  refine j_aload_n (i := 3) C dL_foresee_0 rfl 3 rfl ?_
  refine j_iconst (v := nI 0) C dL_foresee_1 (by decide) ?_
  refine j_aload_n (i := 0) C dL_foresee_2 rfl 0 rfl ?_
  refine j_iload_n (i := 1) C dL_foresee_3 rfl 1 rfl ?_
  refine j_iload_n (i := 2) C dL_foresee_4 rfl 2 rfl ?_
  refine j_callVX (nargs := 2) (As := [_, _]) (Cn := RX3) C (0) rfl rfl rfl gw655 gw656 gw657 gw42 (kX3_foresee l htr D ct sa ad mcn φ σ (oC ct qo g :: wr) x y hi) gw658 (by decide +kernel) rfl dL_foresee_5 ⟨Nat.le_of_ble_eq_true rfl, Nat.le_of_ble_eq_true rfl⟩ ⟨Nat.le_of_ble_eq_true rfl, Nat.le_of_ble_eq_true rfl⟩ (Nat.le_of_ble_eq_true rfl) (fun En hx => ?_) (fun r w hk => ?_)
  · rcases hx with ⟨i, hL, hf⟩
    match i, hL with
    | 0, hL =>
      obtain rfl : IAE = En := Option.some.inj hL
      refine jt_catch C T0 [] (0, 10, 13, 13) [(0, 10, 17, 21)] rfl (fun _ h => absurd h List.not_mem_nil) (by decide) (by decide) gw403 nw414 (fun q => ?_)
      refine j_astore (lv' := [(4, .ref _), (0, .ref _), (1, .int _), (2, .int _), (3, .ref _)]) C dL_foresee_13 (by decide) rfl ?_
      refine j_iconst (v := nI 1) C dL_foresee_15 (by decide) ?_
      exact j_ireturn C E rfl dL_foresee_16 (Nat.le_of_ble_eq_true rfl) (Nat.le_of_ble_eq_true rfl) (kle hf (by decide) (fun _ => rd_foresee))
    | 1, hL =>
      obtain rfl : IOO = En := Option.some.inj hL
      refine jt_catch C T0 [(0, 10, 13, 13)] (0, 10, 17, 21) [] rfl (List.forall_mem_cons.mpr ⟨⟨by decide, IAE, gw403, by decide⟩, fun _ h => absurd h List.not_mem_nil⟩) (by decide) (by decide) gw503 nw195 (fun q => ?_)
      refine j_astore (lv' := [(4, .ref _), (0, .ref _), (1, .int _), (2, .int _), (3, .ref _)]) C dL_foresee_17 (by decide) rfl ?_
      refine j_iconst (v := nI 2) C dL_foresee_19 (by decide) ?_
      exact j_ireturn C E rfl dL_foresee_20 (Nat.le_of_ble_eq_true rfl) (Nat.le_of_ble_eq_true rfl) (kle hf (by decide) (fun _ => rd_foresee))
    | n + 2, hL => exact absurd (List.getElem?_eq_some_iff.mp hL).1 (by show ¬ n + 2 < 2; omega)
  obtain ⟨h0, rfl, φ2, rfl⟩ := hk
  refine j_st (st1 := .int (f_foresee σ x y).2.1 :: .int (nI 0) :: .ref qo :: []) rfl ?_
  refine j_i2l C dL_foresee_8 rfl ?_
  refine j_last (ws2 := _) C ((WX ct sa ad mcn φ2 (f_foresee σ x y).2.2).length) th_at0 (0) rfl (by decide) (by decide) th_set0 dL_foresee_9 ?_
  refine j_goto C 21 dL_foresee_10 (by decide) ?_
  refine j_iconst (v := nI 0) C dL_foresee_21 (by decide) ?_
  exact j_ireturn C E rfl dL_foresee_22 (Nat.le_of_ble_eq_true rfl) (Nat.le_of_ble_eq_true rfl) (klr h0 rfl rfl rfl)
set_option maxRecDepth 100000 in
set_option maxHeartbeats 600000 in
theorem kL_until (l : Launch) (htr : l.stackTraces = false) (D : va_G) (ct : Nat → ClassId) (sa : Nat → Nat) (ad : Nat → Nat) (mcn : Int32) (φ : LD) (σ : St) (qo : Nat) (g : Nat → Int64) (wr : va_W) (x : Int32) (hi : Inv1 σ) : jM l yL_until (Cond.codeWith yL_until cL_until 4 (Option.some Jvm.ClassFile.FieldType.int) [((0 : Nat), (9 : Nat), (12 : Nat), (21 : Nat))] :: GW) (rM 8 1 6 134) D ct sa [.ref (ad 0), .int x, .ref qo] (WX ct sa ad mcn φ σ ++ (oC ct qo g :: wr)) (kLw ct sa ad qo wr (f_until σ x)) 1 6 := by
  refine jMX.plain (jBodyH (own := RL) (by decide) rfl rfl (Nat.le_of_ble_eq_true rfl) ?_)
  intro X C E T0
  refine j_lv (lv1 := [(0, .ref _), (1, .int _), (2, .ref _)]) rfl ?_
  refine j_aload_n (i := 2) C dL_until_0 rfl 2 rfl ?_
  refine j_iconst (v := nI 0) C dL_until_1 (by decide) ?_
  refine j_aload_n (i := 0) C dL_until_2 rfl 0 rfl ?_
  refine j_iload_n (i := 1) C dL_until_3 rfl 1 rfl ?_
  refine j_callVX (nargs := 1) (As := [_]) (Cn := RX3) C (0) rfl rfl rfl gw667 gw668 gw669 gw42 (kX3_until l htr D ct sa ad mcn φ σ (oC ct qo g :: wr) x hi) gw670 (by decide +kernel) rfl dL_until_4 ⟨Nat.le_of_ble_eq_true rfl, Nat.le_of_ble_eq_true rfl⟩ ⟨Nat.le_of_ble_eq_true rfl, Nat.le_of_ble_eq_true rfl⟩ (Nat.le_of_ble_eq_true rfl) (fun En hx => ?_) (fun r w hk => ?_)
  · rcases hx with ⟨i, hL, hf⟩
    match i, hL with
    | 0, hL =>
      obtain rfl : IOO = En := Option.some.inj hL
      refine jt_catch C T0 [] (0, 9, 12, 21) [] rfl (fun _ h => absurd h List.not_mem_nil) (by decide) (by decide) gw503 nw195 (fun q => ?_)
      refine j_astore_n (lv' := [(3, .ref _), (0, .ref _), (1, .int _), (2, .ref _)]) C dL_until_12 rfl (by decide) rfl ?_
      refine j_iconst (v := nI 1) C dL_until_13 (by decide) ?_
      exact j_ireturn C E rfl dL_until_14 (Nat.le_of_ble_eq_true rfl) (Nat.le_of_ble_eq_true rfl) (kle hf (by decide) (fun _ => rd_until))
    | n + 1, hL => exact absurd (List.getElem?_eq_some_iff.mp hL).1 (by show ¬ n + 1 < 1; omega)
  obtain ⟨h0, rfl, rfl⟩ := hk
  refine j_st (st1 := .int (f_until σ x).2.1 :: .int (nI 0) :: .ref qo :: []) rfl ?_
  refine j_i2l C dL_until_7 rfl ?_
  refine j_last (ws2 := _) C ((WX ct sa ad mcn φ σ).length) th_at0 (0) rfl (by decide) (by decide) th_set0 dL_until_8 ?_
  refine j_goto C 15 dL_until_9 (by decide) ?_
  refine j_iconst (v := nI 0) C dL_until_15 (by decide) ?_
  exact j_ireturn C E rfl dL_until_16 (Nat.le_of_ble_eq_true rfl) (Nat.le_of_ble_eq_true rfl) (klr h0 rfl rfl rd_until.symm)
