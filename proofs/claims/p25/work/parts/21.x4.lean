set_option maxRecDepth 100000 in
set_option maxHeartbeats 4000000 in
theorem kX3_isRack (l : Launch) (D : va_G) (ct : Nat → ClassId) (sa : Nat → Nat) (ad : Nat → Nat) (ws : va_W) (H T : Int32) (K : Nat → Int32) (x : Int32) (hX : XB ct ad ws H T K) : jM l yX3_isRack (Cond.code yX3_isRack cX3_isRack 2 (Option.some Jvm.ClassFile.FieldType.boolean) :: GW) (rM 0 0 0 0) D ct sa [.ref (ad 0), .int x] (ws) (dK (some (.int (b2i (okI 3 x)))) ws) 0 0 := by
  refine jMX.plain (jBody (own := RX3) (by decide) rfl rfl (Nat.le_of_ble_eq_true rfl) ?_)
  intro X C E T0
  refine j_lv (lv1 := [(0, .ref _), (1, .int _)]) rfl ?_
  refine j_iload_n (i := 1) C dX3_isRack_0 rfl 1 rfl ?_
  refine j_if_lt C 17 dX3_isRack_1 (by decide) (fun c1 => ?_) (fun c1 => ?_)
  · refine j_iconst (v := nI 0) C dX3_isRack_17 (by decide) ?_
    exact j_ireturn C E (by first | exact nr_b | rfl) dX3_isRack_18 (Nat.le_of_ble_eq_true rfl) (Nat.le_of_ble_eq_true rfl) (⟨congrArg (fun z => some (Value.int z)) (by first | exact (b2i_y ⟨ile_of c1, ilt_of c10⟩).symm | exact (b2i_n (fun z => inlt z.1 c1)).symm | exact (b2i_n (fun z => inle z.2 c10)).symm), rfl⟩)
  · refine j_iload_n (i := 1) C dX3_isRack_4 rfl 1 rfl ?_
    refine j_aload_n (i := 0) C dX3_isRack_5 rfl 0 rfl ?_
    refine j_get (Cn := RX3) (T := TX3) (N := 6) (ci := 4) C iX3 rfl (0) hX.1 1 (by decide) gw139 rfl rfl dX3_isRack_6 ?_
    refine j_alen (v := nI 3) C (2) 1 hX.2.1 rfl rfl dX3_isRack_9 ?_
    refine j_icmp_ge C 17 dX3_isRack_10 (by decide) (fun c10 => ?_) (fun c10 => ?_)
    · refine j_iconst (v := nI 0) C dX3_isRack_17 (by decide) ?_
      exact j_ireturn C E (by first | exact nr_b | rfl) dX3_isRack_18 (Nat.le_of_ble_eq_true rfl) (Nat.le_of_ble_eq_true rfl) (⟨congrArg (fun z => some (Value.int z)) (by first | exact (b2i_y ⟨ile_of c1, ilt_of c10⟩).symm | exact (b2i_n (fun z => inlt z.1 c1)).symm | exact (b2i_n (fun z => inle z.2 c10)).symm), rfl⟩)
    · refine j_iconst (v := nI 1) C dX3_isRack_13 (by decide) ?_
      refine j_goto C 18 dX3_isRack_14 (by decide) ?_
      exact j_ireturn C E (by first | exact nr_b | rfl) dX3_isRack_18 (Nat.le_of_ble_eq_true rfl) (Nat.le_of_ble_eq_true rfl) (⟨congrArg (fun z => some (Value.int z)) (by first | exact (b2i_y ⟨ile_of c1, ilt_of c10⟩).symm | exact (b2i_n (fun z => inlt z.1 c1)).symm | exact (b2i_n (fun z => inle z.2 c10)).symm), rfl⟩)
set_option maxRecDepth 100000 in
set_option maxHeartbeats 4000000 in
theorem kX3_lockAt (l : Launch) (htr : l.stackTraces = false) (D : va_G) (ct : Nat → ClassId) (sa : Nat → Nat) (ad : Nat → Nat) (mcn : Int32) (φ : LD) (σ : St) (wr : va_W) (x : Int32) (hn9 : sN σ ≤ 8) : jMX l yX3_lockAt (Cond.code yX3_lockAt cX3_lockAt 2 (Option.some (Jvm.ClassFile.FieldType.object "LetterLocks$Lock")) :: GW) (rM 6 1 6 90) D ct sa [.ref (ad 0), .int x] (WX ct sa ad mcn φ σ ++ wr) (kA (okI (sN σ) x) (WX ct sa ad mcn φ σ ++ wr) (some (.ref (ad (20 + 3 * ix x))))) (kxA (¬ okI (sN σ) x) IOO) 1 6 := by
  refine jBody (own := RX3) (by decide) rfl rfl (Nat.le_of_ble_eq_true rfl) ?_
  intro X C E T0
  refine j_lv (lv1 := [(0, .ref _), (1, .int _)]) rfl ?_
  refine j_iload_n (i := 1) C dX3_lockAt_0 rfl 1 rfl ?_
  refine j_if_lt C 15 dX3_lockAt_1 (by decide) (fun c1 => ?_) (fun c1 => ?_)
  · exact j_throwS C E T0 htr (cls := IOO) (text := "no such lock") (names := EXN) rfl (by decide +kernel) exn_fit gw169 gw39 (by decide) at_IOO ok_IOO dX3_lockAt_15 dX3_lockAt_18 dX3_lockAt_19 dX3_lockAt_21 dX3_lockAt_24 (by decide) (Nat.le_of_ble_eq_true rfl) (Nat.le_of_ble_eq_true rfl) (Nat.le_of_ble_eq_true rfl) rfl ⟨by first | exact fun z => inlt z.1 c1 | exact fun z => absurd z.2 c12, rfl⟩ (Nat.le_of_ble_eq_true rfl) (Nat.le_of_ble_eq_true rfl)
  · refine j_iload_n (i := 1) C dX3_lockAt_4 rfl 1 rfl ?_
    refine j_aload_n (i := 0) C dX3_lockAt_5 rfl 0 rfl ?_
    refine j_get (Cn := RX3) (T := TX3) (N := 6) (ci := 4) C iX3 rfl (0) rfl 0 (by decide) gw138 rfl rfl dX3_lockAt_6 ?_
    refine j_callV (nargs := 0) (As := []) (Cn := RJx4a65c) C (1) wx_li rfl rfl gw165 gw166 gw167 gw24 (kJx4a65c_size_8abf5 l D ct sa _ 1 (ad 1) mcn _ (sN σ) wx_li) gw168 (by decide +kernel) rfl dX3_lockAt_9 ⟨Nat.le_of_ble_eq_true rfl, Nat.le_of_ble_eq_true rfl⟩ ⟨Nat.le_of_ble_eq_true rfl, Nat.le_of_ble_eq_true rfl⟩ (Nat.le_of_ble_eq_true rfl) (dki ?_)
    refine j_icmp_lt C 25 dX3_lockAt_12 (by decide) (fun c12 => ?_) (fun c12 => ?_)
    · have hl : okI (sN σ) x := ⟨ile_of c1, c12⟩
      obtain ⟨hn0, hj, ex⟩ := okI_pos (by omega) hl
      refine j_aload_n (i := 0) C dX3_lockAt_25 rfl 0 rfl ?_
      refine j_get (Cn := RX3) (T := TX3) (N := 6) (ci := 4) C iX3 rfl (0) rfl 0 (by decide) gw138 rfl rfl dX3_lockAt_26 ?_
      refine j_iload_n (i := 1) C dX3_lockAt_29 rfl 1 rfl ?_
      refine j_callV (nargs := 1) (As := [_]) (Cn := RJx4a65c) C (1) (wx_li1 (by omega)) rfl rfl gw237 gw238 gw239 gw24 (kJx4a65c_get_915e3 l D ct sa _ 1 (16 + 3 * sN σ) (ad 1) (ad 2) mcn (sN σ) 10 _ _ (ix x) (ad (20 + 3 * (ix x))) (wx_li1 (by omega)) (wx_ar (by omega)) ex hj (by omega) (by decide) (if_pos hj)) gw240 (by decide +kernel) rfl dX3_lockAt_30 ⟨Nat.le_of_ble_eq_true rfl, Nat.le_of_ble_eq_true rfl⟩ ⟨Nat.le_of_ble_eq_true rfl, Nat.le_of_ble_eq_true rfl⟩ (Nat.le_of_ble_eq_true rfl) (dkr ?_)
      refine j_castE C (16 + 3 * ix x) (wx_l hj).1 rfl rfl gw109 dX3_lockAt_33 ?_
      exact j_areturn C E (Or.inl ⟨_, rfl⟩) dX3_lockAt_36 (Nat.le_of_ble_eq_true rfl) (Nat.le_of_ble_eq_true rfl) (⟨hl, rfl, rfl⟩)
    · exact j_throwS C E T0 htr (cls := IOO) (text := "no such lock") (names := EXN) rfl (by decide +kernel) exn_fit gw169 gw39 (by decide) at_IOO ok_IOO dX3_lockAt_15 dX3_lockAt_18 dX3_lockAt_19 dX3_lockAt_21 dX3_lockAt_24 (by decide) (Nat.le_of_ble_eq_true rfl) (Nat.le_of_ble_eq_true rfl) (Nat.le_of_ble_eq_true rfl) rfl ⟨by first | exact fun z => inlt z.1 c1 | exact fun z => absurd z.2 c12, rfl⟩ (Nat.le_of_ble_eq_true rfl) (Nat.le_of_ble_eq_true rfl)
set_option maxRecDepth 100000 in
set_option maxHeartbeats 4000000 in
theorem kX3_rackAt (l : Launch) (htr : l.stackTraces = false) (D : va_G) (ct : Nat → ClassId) (sa : Nat → Nat) (ad : Nat → Nat) (ws : va_W) (H T : Int32) (K : Nat → Int32) (x : Int32) (hX : XB ct ad ws H T K) : jMX l yX3_rackAt (Cond.code yX3_rackAt cX3_rackAt 2 (Option.some (Jvm.ClassFile.FieldType.object "LetterLocks$Rack")) :: GW) (rM 6 1 6 90) D ct sa [.ref (ad 0), .int x] (ws) (kA (okI 3 x) ws (some (.ref (ad (4 + ix x))))) (kxA (¬ okI 3 x) IOO) 1 6 := by
  refine jBody (own := RX3) (by decide) rfl rfl (Nat.le_of_ble_eq_true rfl) ?_
  intro X C E T0
  refine j_lv (lv1 := [(0, .ref _), (1, .int _)]) rfl ?_
  refine j_aload_n (i := 0) C dX3_rackAt_0 rfl 0 rfl ?_
  refine j_iload_n (i := 1) C dX3_rackAt_1 rfl 1 rfl ?_
  refine j_callV (nargs := 1) (As := [_]) (Cn := RX3) C (0) hX.1 rfl rfl gw334 gw336 gw4 gw21 (kX3_isRack l D ct sa ad ws H T K x hX) gw337 (by decide +kernel) rfl dX3_rackAt_2 ⟨Nat.le_of_ble_eq_true rfl, Nat.le_of_ble_eq_true rfl⟩ ⟨Nat.le_of_ble_eq_true rfl, Nat.le_of_ble_eq_true rfl⟩ (Nat.le_of_ble_eq_true rfl) (dki ?_)
  refine j_if_ne C 18 dX3_rackAt_5 (by decide) (fun c5 => ?_) (fun c5 => ?_)
  · obtain ⟨hr, er⟩ := okI_ix (b2i_t c5) (by decide)
    refine j_aload_n (i := 0) C dX3_rackAt_18 rfl 0 rfl ?_
    refine j_get (Cn := RX3) (T := TX3) (N := 6) (ci := 4) C iX3 rfl (0) hX.1 1 (by decide) gw139 rfl rfl dX3_rackAt_19 ?_
    refine j_iload_n (i := 1) C dX3_rackAt_22 rfl 1 rfl ?_
    refine j_aald C (2) 1 hX.2.1 rfl rfl (ix x) er hr (by decide) (if_pos hr) dX3_rackAt_23 ?_
    exact j_areturn C E (Or.inl ⟨_, rfl⟩) dX3_rackAt_24 (Nat.le_of_ble_eq_true rfl) (Nat.le_of_ble_eq_true rfl) (⟨b2i_t c5, rfl, rfl⟩)
  · exact j_throwS C E T0 htr (cls := IOO) (text := "no such rack") (names := EXN) rfl (by decide +kernel) exn_fit gw169 gw39 (by decide) at_IOO ok_IOO dX3_rackAt_8 dX3_rackAt_11 dX3_rackAt_12 dX3_rackAt_14 dX3_rackAt_17 (by decide) (Nat.le_of_ble_eq_true rfl) (Nat.le_of_ble_eq_true rfl) (Nat.le_of_ble_eq_true rfl) rfl ⟨b2i_f c5, rfl⟩ (Nat.le_of_ble_eq_true rfl) (Nat.le_of_ble_eq_true rfl)
set_option maxRecDepth 100000 in
set_option maxHeartbeats 4000000 in
theorem kX3_requireRing (l : Launch) (htr : l.stackTraces = false) (D : va_G) (ct : Nat → ClassId) (sa : Nat → Nat) (ws : va_W) (x : Int32) : jMX l yX3_requireRing (Cond.code yX3_requireRing cX3_requireRing 1 (Option.none : Option Jvm.ClassFile.FieldType) :: GW) (rM 6 1 6 90) D ct sa [.int x] (ws) (kA (okI 4 x) ws none) (kxA (¬ okI 4 x) IOO) 1 6 := by
  refine jBody (own := RX3) (by decide) rfl rfl (Nat.le_of_ble_eq_true rfl) ?_
  intro X C E T0
  refine j_lv (lv1 := [(0, .int _)]) rfl ?_
  refine j_iload_n (i := 0) C dX3_requireRing_0 rfl 0 rfl ?_
  refine j_callS (nargs := 1) (As := [_]) C gw254 gw255 gw21 (kX3_isRing l D ct sa ws x) gw256 (by decide +kernel) rfl dX3_requireRing_1 ⟨Nat.le_of_ble_eq_true rfl, Nat.le_of_ble_eq_true rfl⟩ ⟨Nat.le_of_ble_eq_true rfl, Nat.le_of_ble_eq_true rfl⟩ (Nat.le_of_ble_eq_true rfl) (dki ?_)
  refine j_if_ne C 17 dX3_requireRing_4 (by decide) (fun c4 => ?_) (fun c4 => ?_)
  · exact j_return C E dX3_requireRing_17 (Nat.le_of_ble_eq_true rfl) (Nat.le_of_ble_eq_true rfl) (⟨b2i_t c4, rfl, rfl⟩)
  · exact j_throwS C E T0 htr (cls := IOO) (text := "no such ring") (names := EXN) rfl (by decide +kernel) exn_fit gw169 gw39 (by decide) at_IOO ok_IOO dX3_requireRing_7 dX3_requireRing_10 dX3_requireRing_11 dX3_requireRing_13 dX3_requireRing_16 (by decide) (Nat.le_of_ble_eq_true rfl) (Nat.le_of_ble_eq_true rfl) (Nat.le_of_ble_eq_true rfl) rfl ⟨b2i_f c4, rfl⟩ (Nat.le_of_ble_eq_true rfl) (Nat.le_of_ble_eq_true rfl)
set_option maxRecDepth 100000 in
set_option maxHeartbeats 4000000 in
theorem kX3_requireWord (l : Launch) (htr : l.stackTraces = false) (D : va_G) (ct : Nat → ClassId) (sa : Nat → Nat) (ws : va_W) (x : Int32) : jMX l yX3_requireWord (Cond.code yX3_requireWord cX3_requireWord 1 (Option.none : Option Jvm.ClassFile.FieldType) :: GW) (rM 6 1 6 90) D ct sa [.int x] (ws) (kA (okI 1296 x) ws none) (kxA (¬ okI 1296 x) IAE) 1 6 := by
  refine jBody (own := RX3) (by decide) rfl rfl (Nat.le_of_ble_eq_true rfl) ?_
  intro X C E T0
  refine j_lv (lv1 := [(0, .int _)]) rfl ?_
  refine j_iload_n (i := 0) C dX3_requireWord_0 rfl 0 rfl ?_
  refine j_if_lt C 11 dX3_requireWord_1 (by decide) (fun c1 => ?_) (fun c1 => ?_)
  · exact j_throwS C E T0 htr (cls := IAE) (text := "no such word") (names := EXN) rfl (by decide +kernel) exn_fit gw261 gw33 (by decide) at_IAE ok_IAE dX3_requireWord_11 dX3_requireWord_14 dX3_requireWord_15 dX3_requireWord_17 dX3_requireWord_20 (by decide) (Nat.le_of_ble_eq_true rfl) (Nat.le_of_ble_eq_true rfl) (Nat.le_of_ble_eq_true rfl) rfl ⟨by first | exact fun z => inlt z.1 c1 | exact fun z => absurd z.2 c8, rfl⟩ (Nat.le_of_ble_eq_true rfl) (Nat.le_of_ble_eq_true rfl)
  · refine j_iload_n (i := 0) C dX3_requireWord_4 rfl 0 rfl ?_
    refine j_sipush (v := nI 1296) C dX3_requireWord_5 (by decide) ?_
    refine j_icmp_lt C 21 dX3_requireWord_8 (by decide) (fun c8 => ?_) (fun c8 => ?_)
    · exact j_return C E dX3_requireWord_21 (Nat.le_of_ble_eq_true rfl) (Nat.le_of_ble_eq_true rfl) (⟨⟨ile_of c1, c8⟩, rfl, rfl⟩)
    · exact j_throwS C E T0 htr (cls := IAE) (text := "no such word") (names := EXN) rfl (by decide +kernel) exn_fit gw261 gw33 (by decide) at_IAE ok_IAE dX3_requireWord_11 dX3_requireWord_14 dX3_requireWord_15 dX3_requireWord_17 dX3_requireWord_20 (by decide) (Nat.le_of_ble_eq_true rfl) (Nat.le_of_ble_eq_true rfl) (Nat.le_of_ble_eq_true rfl) rfl ⟨by first | exact fun z => inlt z.1 c1 | exact fun z => absurd z.2 c8, rfl⟩ (Nat.le_of_ble_eq_true rfl) (Nat.le_of_ble_eq_true rfl)
set_option maxRecDepth 100000 in
set_option maxHeartbeats 4000000 in
theorem kX3_requireHours (l : Launch) (htr : l.stackTraces = false) (D : va_G) (ct : Nat → ClassId) (sa : Nat → Nat) (ws : va_W) (x : Int32) : jMX l yX3_requireHours (Cond.code yX3_requireHours cX3_requireHours 1 (Option.none : Option Jvm.ClassFile.FieldType) :: GW) (rM 6 1 6 90) D ct sa [.int x] (ws) (kA (nI 1 ≤ x ∧ x ≤ nI 99) ws none) (kxA (¬ (nI 1 ≤ x ∧ x ≤ nI 99)) IAE) 1 6 := by
  refine jBody (own := RX3) (by decide) rfl rfl (Nat.le_of_ble_eq_true rfl) ?_
  intro X C E T0
  refine j_lv (lv1 := [(0, .int _)]) rfl ?_
  refine j_iload_n (i := 0) C dX3_requireHours_0 rfl 0 rfl ?_
  refine j_iconst (v := nI 1) C dX3_requireHours_1 (by decide) ?_
  refine j_icmp_lt C 11 dX3_requireHours_2 (by decide) (fun c2 => ?_) (fun c2 => ?_)
  · exact j_throwS C E T0 htr (cls := IAE) (text := "hours are 1 to 99") (names := EXN) rfl (by decide +kernel) exn_fit gw261 gw33 (by decide) at_IAE ok_IAE dX3_requireHours_11 dX3_requireHours_14 dX3_requireHours_15 dX3_requireHours_17 dX3_requireHours_20 (by decide) (Nat.le_of_ble_eq_true rfl) (Nat.le_of_ble_eq_true rfl) (Nat.le_of_ble_eq_true rfl) rfl ⟨by first | exact fun z => inlt z.1 c2 | exact fun z => c8 z.2, rfl⟩ (Nat.le_of_ble_eq_true rfl) (Nat.le_of_ble_eq_true rfl)
  · refine j_iload_n (i := 0) C dX3_requireHours_5 rfl 0 rfl ?_
    refine j_bipush (v := nI 99) C dX3_requireHours_6 (by decide) ?_
    refine j_icmp_le C 21 dX3_requireHours_8 (by decide) (fun c8 => ?_) (fun c8 => ?_)
    · exact j_return C E dX3_requireHours_21 (Nat.le_of_ble_eq_true rfl) (Nat.le_of_ble_eq_true rfl) (⟨⟨ile_of c2, c8⟩, rfl, rfl⟩)
    · exact j_throwS C E T0 htr (cls := IAE) (text := "hours are 1 to 99") (names := EXN) rfl (by decide +kernel) exn_fit gw261 gw33 (by decide) at_IAE ok_IAE dX3_requireHours_11 dX3_requireHours_14 dX3_requireHours_15 dX3_requireHours_17 dX3_requireHours_20 (by decide) (Nat.le_of_ble_eq_true rfl) (Nat.le_of_ble_eq_true rfl) (Nat.le_of_ble_eq_true rfl) rfl ⟨by first | exact fun z => inlt z.1 c2 | exact fun z => c8 z.2, rfl⟩ (Nat.le_of_ble_eq_true rfl) (Nat.le_of_ble_eq_true rfl)
set_option maxRecDepth 100000 in
set_option maxHeartbeats 4000000 in
theorem kX3_requireOpen (l : Launch) (htr : l.stackTraces = false) (D : va_G) (ct : Nat → ClassId) (sa : Nat → Nat) (ws : va_W) (k h a b : Nat) (lt wr : Nat → Int32) (w rk op lo : Int32) (hk : Lk ct ws k h a b lt wr w rk op lo) : jMX l yX3_requireOpen (Cond.code yX3_requireOpen cX3_requireOpen 1 (Option.none : Option Jvm.ClassFile.FieldType) :: GW) (rM 6 1 6 90) D ct sa [.ref h] (ws) (kA (¬ op = 0) ws none) (kxA (¬ ¬ op = 0) ISE) 1 6 := by
  refine jBody (own := RX3) (by decide) rfl rfl (Nat.le_of_ble_eq_true rfl) ?_
  intro X C E T0
  refine j_lv (lv1 := [(0, .ref _)]) rfl ?_
  refine j_aload_n (i := 0) C dX3_requireOpen_0 rfl 0 rfl ?_
  refine j_getN (Cn := RX0) (T := TX0) (N := 6) (ci := 1) C iX0 rfl (k) hk.1 4 (by decide) nw122 rfl rfl dX3_requireOpen_1 ?_
  refine j_if_ne C 17 dX3_requireOpen_4 (by decide) (fun c4 => ?_) (fun c4 => ?_)
  · exact j_return C E dX3_requireOpen_17 (Nat.le_of_ble_eq_true rfl) (Nat.le_of_ble_eq_true rfl) (⟨c4, rfl, rfl⟩)
  · exact j_throwS C E T0 htr (cls := ISE) (text := "the lock is shut") (names := EXN) rfl (by decide +kernel) exn_fit gw530 gw34 (by decide) at_ISE ok_ISE dX3_requireOpen_7 dX3_requireOpen_10 dX3_requireOpen_11 dX3_requireOpen_13 dX3_requireOpen_16 (by decide) (Nat.le_of_ble_eq_true rfl) (Nat.le_of_ble_eq_true rfl) (Nat.le_of_ble_eq_true rfl) rfl ⟨fun z => z c4, rfl⟩ (Nat.le_of_ble_eq_true rfl) (Nat.le_of_ble_eq_true rfl)
set_option maxRecDepth 100000 in
set_option maxHeartbeats 4000000 in
theorem kX3_locksIn (l : Launch) (D : va_G) (ct : Nat → ClassId) (sa : Nat → Nat) (ad : Nat → Nat) (mcn : Int32) (φ : LD) (σ : St) (wr : va_W) (y : Int32) (hn9 : sN σ ≤ 8) : jM l yX3_locksIn (Cond.code yX3_locksIn cX3_locksIn 4 (Option.some Jvm.ClassFile.FieldType.int) :: GW) (rM 3 0 0 64) D ct sa [.ref (ad 0), .int y] (WX ct sa ad mcn φ σ ++ wr) (dK (some (.int (inF σ y))) (WX ct sa ad mcn φ σ ++ wr)) 0 0 := by
  refine jMX.plain (jBody (own := RX3) (by decide) rfl rfl (Nat.le_of_ble_eq_true rfl) ?_)
  intro X C E T0
  refine j_lv (lv1 := [(0, .ref _), (1, .int _)]) rfl ?_
  refine j_iconst (v := nI 0) C dX3_locksIn_0 (by decide) ?_
  refine j_istore_n (lv' := [(2, .int _), (0, .ref _), (1, .int _)]) C dX3_locksIn_1 rfl (by decide) rfl ?_
  refine j_iconst (v := nI 0) C dX3_locksIn_2 (by decide) ?_
  refine j_istore_n (lv' := [(3, .int _), (2, .int _), (0, .ref _), (1, .int _)]) C dX3_locksIn_3 rfl (by decide) rfl ?_
  have L4 : ∀ (d i : Nat) (x2 : Int32) (x3 : Int32), i + d = sN σ → x2 = sumF (fun i => b2i (sR σ (8 * i + 2) = y)) i → x3 = nI i → J X (WX ct sa ad mcn φ σ ++ wr) (0) (0) 4 [(0, .ref (ad 0)), (1, .int y), (2, .int x2), (3, .int x3)] [] := by
    intro d
    induction d with
    | zero =>
      intro i x2 x3 hd e_x2 e_x3 
      subst e_x2
      subst e_x3
      have hi9 : i = sN σ := by omega
      rw [hi9]
      refine j_iload_n (i := 3) C dX3_locksIn_4 rfl 3 rfl ?_
      refine j_aload_n (i := 0) C dX3_locksIn_5 rfl 0 rfl ?_
      refine j_get (Cn := RX3) (T := TX3) (N := 6) (ci := 4) C iX3 rfl (0) rfl 0 (by decide) gw138 rfl rfl dX3_locksIn_6 ?_
      refine j_callV (nargs := 0) (As := []) (Cn := RJx4a65c) C (1) wx_li rfl rfl gw165 gw166 gw167 gw24 (kJx4a65c_size_8abf5 l D ct sa _ 1 (ad 1) mcn _ (sN σ) wx_li) gw168 (by decide +kernel) rfl dX3_locksIn_9 ⟨Nat.le_of_ble_eq_true rfl, Nat.le_of_ble_eq_true rfl⟩ ⟨Nat.le_of_ble_eq_true rfl, Nat.le_of_ble_eq_true rfl⟩ (Nat.le_of_ble_eq_true rfl) (dki ?_)
      refine j_icmp_ge C 42 dX3_locksIn_12 (by decide) (fun c12 => ?_) (fun c12 => by first | exact absurd c12 (nI_ge (b := sN σ) (by omega) (by omega)) | exact (c12 (nI_le (Nat.le_refl (sN σ)) (by omega))).elim)
      refine j_iload_n (i := 2) C dX3_locksIn_42 rfl 2 rfl ?_
      exact j_ireturn C E rfl dX3_locksIn_43 (Nat.le_of_ble_eq_true rfl) (Nat.le_of_ble_eq_true rfl) (⟨rfl, rfl⟩)
    | succ d ih =>
      intro i x2 x3 hd e_x2 e_x3 
      subst e_x2
      subst e_x3
      have hj : i < sN σ := by omega
      refine j_iload_n (i := 3) C dX3_locksIn_4 rfl 3 rfl ?_
      refine j_aload_n (i := 0) C dX3_locksIn_5 rfl 0 rfl ?_
      refine j_get (Cn := RX3) (T := TX3) (N := 6) (ci := 4) C iX3 rfl (0) rfl 0 (by decide) gw138 rfl rfl dX3_locksIn_6 ?_
      refine j_callV (nargs := 0) (As := []) (Cn := RJx4a65c) C (1) wx_li rfl rfl gw165 gw166 gw167 gw24 (kJx4a65c_size_8abf5 l D ct sa _ 1 (ad 1) mcn _ (sN σ) wx_li) gw168 (by decide +kernel) rfl dX3_locksIn_9 ⟨Nat.le_of_ble_eq_true rfl, Nat.le_of_ble_eq_true rfl⟩ ⟨Nat.le_of_ble_eq_true rfl, Nat.le_of_ble_eq_true rfl⟩ (Nat.le_of_ble_eq_true rfl) (dki ?_)
      refine j_icmp_ge C 42 dX3_locksIn_12 (by decide) (fun c12 => by first | exact absurd c12 (nI_ge (b := sN σ) (by omega) (by omega)) | exact (c12 (nI_le (Nat.le_refl (sN σ)) (by omega))).elim) (fun c12 => ?_)
      refine j_aload_n (i := 0) C dX3_locksIn_15 rfl 0 rfl ?_
      refine j_get (Cn := RX3) (T := TX3) (N := 6) (ci := 4) C iX3 rfl (0) rfl 0 (by decide) gw138 rfl rfl dX3_locksIn_16 ?_
      refine j_iload_n (i := 3) C dX3_locksIn_19 rfl 3 rfl ?_
      refine j_callV (nargs := 1) (As := [_]) (Cn := RJx4a65c) C (1) (wx_li1 (by omega)) rfl rfl gw237 gw238 gw239 gw24 (kJx4a65c_get_915e3 l D ct sa _ 1 (16 + 3 * sN σ) (ad 1) (ad 2) mcn (sN σ) 10 _ _ i (ad (20 + 3 * i)) (wx_li1 (by omega)) (wx_ar (by omega)) rfl hj (by omega) (by decide) (if_pos hj)) gw240 (by decide +kernel) rfl dX3_locksIn_20 ⟨Nat.le_of_ble_eq_true rfl, Nat.le_of_ble_eq_true rfl⟩ ⟨Nat.le_of_ble_eq_true rfl, Nat.le_of_ble_eq_true rfl⟩ (Nat.le_of_ble_eq_true rfl) (dkr ?_)
      refine j_castE C (16 + 3 * i) (wx_l hj).1 rfl rfl gw109 dX3_locksIn_23 ?_
      refine j_getN (Cn := RX0) (T := TX0) (N := 6) (ci := 1) C iX0 rfl (16 + 3 * i) (wx_l hj).1 3 (by decide) nw120 rfl rfl dX3_locksIn_26 ?_
      refine j_iload_n (i := 1) C dX3_locksIn_29 rfl 1 rfl ?_
      refine j_icmp_ne C 36 dX3_locksIn_30 (by decide) (fun c30 => ?_) (fun c30 => ?_)
      · refine j_iinc (z := 3) (lv' := [(3, .int _), (0, .ref _), (1, .int _), (2, .int _)]) C dX3_locksIn_36 rfl rfl (by decide) rfl ?_
        refine j_goto C 4 dX3_locksIn_39 (by decide) ?_
        exact j_lvs [1, 2, 3, 0] rfl (ih (i + 1) _ _ (by omega) (by first | exact congrArg (fun z => sumF (fun i => b2i (sR σ (8 * i + 2) = y)) i + z) (b2i_y c30).symm | exact (i_add0 _).symm.trans (congrArg (fun z => sumF (fun i => b2i (sR σ (8 * i + 2) = y)) i + z) (b2i_n c30).symm)) (nI_1 i))
      · refine j_iinc (z := 2) (lv' := [(2, .int _), (0, .ref _), (1, .int _), (3, .int _)]) C dX3_locksIn_33 rfl rfl (by decide) rfl ?_
        refine j_iinc (z := 3) (lv' := [(3, .int _), (2, .int _), (0, .ref _), (1, .int _)]) C dX3_locksIn_36 rfl rfl (by decide) rfl ?_
        refine j_goto C 4 dX3_locksIn_39 (by decide) ?_
        exact j_lvs [2, 3, 1, 0] rfl (ih (i + 1) _ _ (by omega) (by first | exact congrArg (fun z => sumF (fun i => b2i (sR σ (8 * i + 2) = y)) i + z) (b2i_y c30).symm | exact (i_add0 _).symm.trans (congrArg (fun z => sumF (fun i => b2i (sR σ (8 * i + 2) = y)) i + z) (b2i_n c30).symm)) (nI_1 i))
  exact j_lvs [2, 3, 1, 0] rfl (L4 (sN σ) (0) _ _ (by omega) (rfl) (rfl))
set_option maxRecDepth 100000 in
set_option maxHeartbeats 4000000 in
theorem kX3_openLocksIn (l : Launch) (D : va_G) (ct : Nat → ClassId) (sa : Nat → Nat) (ad : Nat → Nat) (mcn : Int32) (φ : LD) (σ : St) (wr : va_W) (y : Int32) (hn9 : sN σ ≤ 8) : jM l yX3_openLocksIn (Cond.code yX3_openLocksIn cX3_openLocksIn 5 (Option.some Jvm.ClassFile.FieldType.int) :: GW) (rM 3 0 0 64) D ct sa [.ref (ad 0), .int y] (WX ct sa ad mcn φ σ ++ wr) (dK (some (.int (sumF (fun i => b2i (¬ sR σ (8 * i + 1) = 0 ∧ sR σ (8 * i + 2) = y)) (sN σ)))) (WX ct sa ad mcn φ σ ++ wr)) 0 0 := by
  refine jMX.plain (jBody (own := RX3) (by decide) rfl rfl (Nat.le_of_ble_eq_true rfl) ?_)
  intro X C E T0
  refine j_lv (lv1 := [(0, .ref _), (1, .int _)]) rfl ?_
  refine j_iconst (v := nI 0) C dX3_openLocksIn_0 (by decide) ?_
  refine j_istore_n (lv' := [(2, .int _), (0, .ref _), (1, .int _)]) C dX3_openLocksIn_1 rfl (by decide) rfl ?_
  refine j_iconst (v := nI 0) C dX3_openLocksIn_2 (by decide) ?_
  refine j_istore_n (lv' := [(3, .int _), (2, .int _), (0, .ref _), (1, .int _)]) C dX3_openLocksIn_3 rfl (by decide) rfl ?_
  have L4 : ∀ (d i : Nat) (x2 : Int32) (x3 : Int32), i + d = sN σ → x2 = sumF (fun i => b2i (¬ sR σ (8 * i + 1) = 0 ∧ sR σ (8 * i + 2) = y)) i → x3 = nI i → J X (WX ct sa ad mcn φ σ ++ wr) (0) (0) 4 [(0, .ref (ad 0)), (1, .int y), (2, .int x2), (3, .int x3)] [] := by
    intro d
    induction d with
    | zero =>
      intro i x2 x3 hd e_x2 e_x3 
      subst e_x2
      subst e_x3
      have hi9 : i = sN σ := by omega
      rw [hi9]
      refine j_iload_n (i := 3) C dX3_openLocksIn_4 rfl 3 rfl ?_
      refine j_aload_n (i := 0) C dX3_openLocksIn_5 rfl 0 rfl ?_
      refine j_get (Cn := RX3) (T := TX3) (N := 6) (ci := 4) C iX3 rfl (0) rfl 0 (by decide) gw138 rfl rfl dX3_openLocksIn_6 ?_
      refine j_callV (nargs := 0) (As := []) (Cn := RJx4a65c) C (1) wx_li rfl rfl gw165 gw166 gw167 gw24 (kJx4a65c_size_8abf5 l D ct sa _ 1 (ad 1) mcn _ (sN σ) wx_li) gw168 (by decide +kernel) rfl dX3_openLocksIn_9 ⟨Nat.le_of_ble_eq_true rfl, Nat.le_of_ble_eq_true rfl⟩ ⟨Nat.le_of_ble_eq_true rfl, Nat.le_of_ble_eq_true rfl⟩ (Nat.le_of_ble_eq_true rfl) (dki ?_)
      refine j_icmp_ge C 54 dX3_openLocksIn_12 (by decide) (fun c12 => ?_) (fun c12 => by first | exact absurd c12 (nI_ge (b := sN σ) (by omega) (by omega)) | exact (c12 (nI_le (Nat.le_refl (sN σ)) (by omega))).elim)
      refine j_iload_n (i := 2) C dX3_openLocksIn_54 rfl 2 rfl ?_
      exact j_ireturn C E rfl dX3_openLocksIn_55 (Nat.le_of_ble_eq_true rfl) (Nat.le_of_ble_eq_true rfl) (⟨rfl, rfl⟩)
    | succ d ih =>
      intro i x2 x3 hd e_x2 e_x3 
      subst e_x2
      subst e_x3
      have hj : i < sN σ := by omega
      refine j_iload_n (i := 3) C dX3_openLocksIn_4 rfl 3 rfl ?_
      refine j_aload_n (i := 0) C dX3_openLocksIn_5 rfl 0 rfl ?_
      refine j_get (Cn := RX3) (T := TX3) (N := 6) (ci := 4) C iX3 rfl (0) rfl 0 (by decide) gw138 rfl rfl dX3_openLocksIn_6 ?_
      refine j_callV (nargs := 0) (As := []) (Cn := RJx4a65c) C (1) wx_li rfl rfl gw165 gw166 gw167 gw24 (kJx4a65c_size_8abf5 l D ct sa _ 1 (ad 1) mcn _ (sN σ) wx_li) gw168 (by decide +kernel) rfl dX3_openLocksIn_9 ⟨Nat.le_of_ble_eq_true rfl, Nat.le_of_ble_eq_true rfl⟩ ⟨Nat.le_of_ble_eq_true rfl, Nat.le_of_ble_eq_true rfl⟩ (Nat.le_of_ble_eq_true rfl) (dki ?_)
      refine j_icmp_ge C 54 dX3_openLocksIn_12 (by decide) (fun c12 => by first | exact absurd c12 (nI_ge (b := sN σ) (by omega) (by omega)) | exact (c12 (nI_le (Nat.le_refl (sN σ)) (by omega))).elim) (fun c12 => ?_)
      refine j_aload_n (i := 0) C dX3_openLocksIn_15 rfl 0 rfl ?_
      refine j_get (Cn := RX3) (T := TX3) (N := 6) (ci := 4) C iX3 rfl (0) rfl 0 (by decide) gw138 rfl rfl dX3_openLocksIn_16 ?_
      refine j_iload_n (i := 3) C dX3_openLocksIn_19 rfl 3 rfl ?_
      refine j_callV (nargs := 1) (As := [_]) (Cn := RJx4a65c) C (1) (wx_li1 (by omega)) rfl rfl gw237 gw238 gw239 gw24 (kJx4a65c_get_915e3 l D ct sa _ 1 (16 + 3 * sN σ) (ad 1) (ad 2) mcn (sN σ) 10 _ _ i (ad (20 + 3 * i)) (wx_li1 (by omega)) (wx_ar (by omega)) rfl hj (by omega) (by decide) (if_pos hj)) gw240 (by decide +kernel) rfl dX3_openLocksIn_20 ⟨Nat.le_of_ble_eq_true rfl, Nat.le_of_ble_eq_true rfl⟩ ⟨Nat.le_of_ble_eq_true rfl, Nat.le_of_ble_eq_true rfl⟩ (Nat.le_of_ble_eq_true rfl) (dkr ?_)
      refine j_castE C (16 + 3 * i) (wx_l hj).1 rfl rfl gw109 dX3_openLocksIn_23 ?_
      refine j_astore (lv' := [(4, .ref _), (0, .ref _), (1, .int _), (2, .int _), (3, .int _)]) C dX3_openLocksIn_26 (by decide) rfl ?_
      refine j_aload C dX3_openLocksIn_28 0 rfl ?_
      refine j_getN (Cn := RX0) (T := TX0) (N := 6) (ci := 1) C iX0 rfl (16 + 3 * i) (wx_l hj).1 4 (by decide) nw122 rfl rfl dX3_openLocksIn_30 ?_
      refine j_if_eq C 48 dX3_openLocksIn_33 (by decide) (fun c33 => ?_) (fun c33 => ?_)
      · refine j_iinc (z := 4) (lv' := [(3, .int _), (4, .ref _), (0, .ref _), (1, .int _), (2, .int _)]) C dX3_openLocksIn_48 rfl rfl (by decide) rfl ?_
        refine j_goto C 4 dX3_openLocksIn_51 (by decide) ?_
        exact j_lvs [2, 3, 4, 0] rfl (ih (i + 1) _ _ (by omega) (by first | exact congrArg (fun z => sumF (fun i => b2i (¬ sR σ (8 * i + 1) = 0 ∧ sR σ (8 * i + 2) = y)) i + z) (b2i_y ⟨c33, c42⟩).symm | exact (i_add0 _).symm.trans (congrArg (fun z => sumF (fun i => b2i (¬ sR σ (8 * i + 1) = 0 ∧ sR σ (8 * i + 2) = y)) i + z) (b2i_n (not_and_of_not_left _ (not_not_intro c33))).symm) | exact (i_add0 _).symm.trans (congrArg (fun z => sumF (fun i => b2i (¬ sR σ (8 * i + 1) = 0 ∧ sR σ (8 * i + 2) = y)) i + z) (b2i_n (not_and_of_not_right _ c42)).symm)) (nI_1 i))
      · refine j_aload C dX3_openLocksIn_36 0 rfl ?_
        refine j_getN (Cn := RX0) (T := TX0) (N := 6) (ci := 1) C iX0 rfl (16 + 3 * i) (wx_l hj).1 3 (by decide) nw120 rfl rfl dX3_openLocksIn_38 ?_
        refine j_iload_n (i := 1) C dX3_openLocksIn_41 rfl 2 rfl ?_
        refine j_icmp_ne C 48 dX3_openLocksIn_42 (by decide) (fun c42 => ?_) (fun c42 => ?_)
        · refine j_iinc (z := 4) (lv' := [(3, .int _), (4, .ref _), (0, .ref _), (1, .int _), (2, .int _)]) C dX3_openLocksIn_48 rfl rfl (by decide) rfl ?_
          refine j_goto C 4 dX3_openLocksIn_51 (by decide) ?_
          exact j_lvs [2, 3, 4, 0] rfl (ih (i + 1) _ _ (by omega) (by first | exact congrArg (fun z => sumF (fun i => b2i (¬ sR σ (8 * i + 1) = 0 ∧ sR σ (8 * i + 2) = y)) i + z) (b2i_y ⟨c33, c42⟩).symm | exact (i_add0 _).symm.trans (congrArg (fun z => sumF (fun i => b2i (¬ sR σ (8 * i + 1) = 0 ∧ sR σ (8 * i + 2) = y)) i + z) (b2i_n (not_and_of_not_left _ (not_not_intro c33))).symm) | exact (i_add0 _).symm.trans (congrArg (fun z => sumF (fun i => b2i (¬ sR σ (8 * i + 1) = 0 ∧ sR σ (8 * i + 2) = y)) i + z) (b2i_n (not_and_of_not_right _ c42)).symm)) (nI_1 i))
        · refine j_iinc (z := 3) (lv' := [(2, .int _), (4, .ref _), (0, .ref _), (1, .int _), (3, .int _)]) C dX3_openLocksIn_45 rfl rfl (by decide) rfl ?_
          refine j_iinc (z := 4) (lv' := [(3, .int _), (2, .int _), (4, .ref _), (0, .ref _), (1, .int _)]) C dX3_openLocksIn_48 rfl rfl (by decide) rfl ?_
          refine j_goto C 4 dX3_openLocksIn_51 (by decide) ?_
          exact j_lvs [3, 4, 1, 0] rfl (ih (i + 1) _ _ (by omega) (by first | exact congrArg (fun z => sumF (fun i => b2i (¬ sR σ (8 * i + 1) = 0 ∧ sR σ (8 * i + 2) = y)) i + z) (b2i_y ⟨c33, c42⟩).symm | exact (i_add0 _).symm.trans (congrArg (fun z => sumF (fun i => b2i (¬ sR σ (8 * i + 1) = 0 ∧ sR σ (8 * i + 2) = y)) i + z) (b2i_n (not_and_of_not_left _ (not_not_intro c33))).symm) | exact (i_add0 _).symm.trans (congrArg (fun z => sumF (fun i => b2i (¬ sR σ (8 * i + 1) = 0 ∧ sR σ (8 * i + 2) = y)) i + z) (b2i_n (not_and_of_not_right _ c42)).symm)) (nI_1 i))
  exact j_lvs [2, 3, 1, 0] rfl (L4 (sN σ) (0) _ _ (by omega) (rfl) (rfl))
set_option maxRecDepth 100000 in
set_option maxHeartbeats 4000000 in
theorem kX3_openLocks (l : Launch) (D : va_G) (ct : Nat → ClassId) (sa : Nat → Nat) (ad : Nat → Nat) (mcn : Int32) (φ : LD) (σ : St) (wr : va_W) (hn9 : sN σ ≤ 8) : jM l yX3_openLocks (Cond.code yX3_openLocks cX3_openLocks 3 (Option.some Jvm.ClassFile.FieldType.int) :: GW) (rM 3 0 0 64) D ct sa [.ref (ad 0)] (WX ct sa ad mcn φ σ ++ wr) (dK (some (.int (sumF (fun i => b2i (¬ sR σ (8 * i + 1) = 0)) (sN σ)))) (WX ct sa ad mcn φ σ ++ wr)) 0 0 := by
  refine jMX.plain (jBody (own := RX3) (by decide) rfl rfl (Nat.le_of_ble_eq_true rfl) ?_)
  intro X C E T0
  refine j_lv (lv1 := [(0, .ref _)]) rfl ?_
  refine j_iconst (v := nI 0) C dX3_openLocks_0 (by decide) ?_
  refine j_istore_n (lv' := [(1, .int _), (0, .ref _)]) C dX3_openLocks_1 rfl (by decide) rfl ?_
  refine j_iconst (v := nI 0) C dX3_openLocks_2 (by decide) ?_
  refine j_istore_n (lv' := [(2, .int _), (1, .int _), (0, .ref _)]) C dX3_openLocks_3 rfl (by decide) rfl ?_
  have L4 : ∀ (d i : Nat) (x1 : Int32) (x2 : Int32), i + d = sN σ → x1 = sumF (fun i => b2i (¬ sR σ (8 * i + 1) = 0)) i → x2 = nI i → J X (WX ct sa ad mcn φ σ ++ wr) (0) (0) 4 [(0, .ref (ad 0)), (1, .int x1), (2, .int x2)] [] := by
    intro d
    induction d with
    | zero =>
      intro i x1 x2 hd e_x1 e_x2 
      subst e_x1
      subst e_x2
      have hi9 : i = sN σ := by omega
      rw [hi9]
      refine j_iload_n (i := 2) C dX3_openLocks_4 rfl 2 rfl ?_
      refine j_aload_n (i := 0) C dX3_openLocks_5 rfl 0 rfl ?_
      refine j_get (Cn := RX3) (T := TX3) (N := 6) (ci := 4) C iX3 rfl (0) rfl 0 (by decide) gw138 rfl rfl dX3_openLocks_6 ?_
      refine j_callV (nargs := 0) (As := []) (Cn := RJx4a65c) C (1) wx_li rfl rfl gw165 gw166 gw167 gw24 (kJx4a65c_size_8abf5 l D ct sa _ 1 (ad 1) mcn _ (sN σ) wx_li) gw168 (by decide +kernel) rfl dX3_openLocks_9 ⟨Nat.le_of_ble_eq_true rfl, Nat.le_of_ble_eq_true rfl⟩ ⟨Nat.le_of_ble_eq_true rfl, Nat.le_of_ble_eq_true rfl⟩ (Nat.le_of_ble_eq_true rfl) (dki ?_)
      refine j_icmp_ge C 41 dX3_openLocks_12 (by decide) (fun c12 => ?_) (fun c12 => by first | exact absurd c12 (nI_ge (b := sN σ) (by omega) (by omega)) | exact (c12 (nI_le (Nat.le_refl (sN σ)) (by omega))).elim)
      refine j_iload_n (i := 1) C dX3_openLocks_41 rfl 1 rfl ?_
      exact j_ireturn C E rfl dX3_openLocks_42 (Nat.le_of_ble_eq_true rfl) (Nat.le_of_ble_eq_true rfl) (⟨rfl, rfl⟩)
    | succ d ih =>
      intro i x1 x2 hd e_x1 e_x2 
      subst e_x1
      subst e_x2
      have hj : i < sN σ := by omega
      refine j_iload_n (i := 2) C dX3_openLocks_4 rfl 2 rfl ?_
      refine j_aload_n (i := 0) C dX3_openLocks_5 rfl 0 rfl ?_
      refine j_get (Cn := RX3) (T := TX3) (N := 6) (ci := 4) C iX3 rfl (0) rfl 0 (by decide) gw138 rfl rfl dX3_openLocks_6 ?_
      refine j_callV (nargs := 0) (As := []) (Cn := RJx4a65c) C (1) wx_li rfl rfl gw165 gw166 gw167 gw24 (kJx4a65c_size_8abf5 l D ct sa _ 1 (ad 1) mcn _ (sN σ) wx_li) gw168 (by decide +kernel) rfl dX3_openLocks_9 ⟨Nat.le_of_ble_eq_true rfl, Nat.le_of_ble_eq_true rfl⟩ ⟨Nat.le_of_ble_eq_true rfl, Nat.le_of_ble_eq_true rfl⟩ (Nat.le_of_ble_eq_true rfl) (dki ?_)
      refine j_icmp_ge C 41 dX3_openLocks_12 (by decide) (fun c12 => by first | exact absurd c12 (nI_ge (b := sN σ) (by omega) (by omega)) | exact (c12 (nI_le (Nat.le_refl (sN σ)) (by omega))).elim) (fun c12 => ?_)
      refine j_aload_n (i := 0) C dX3_openLocks_15 rfl 0 rfl ?_
      refine j_get (Cn := RX3) (T := TX3) (N := 6) (ci := 4) C iX3 rfl (0) rfl 0 (by decide) gw138 rfl rfl dX3_openLocks_16 ?_
      refine j_iload_n (i := 2) C dX3_openLocks_19 rfl 2 rfl ?_
      refine j_callV (nargs := 1) (As := [_]) (Cn := RJx4a65c) C (1) (wx_li1 (by omega)) rfl rfl gw237 gw238 gw239 gw24 (kJx4a65c_get_915e3 l D ct sa _ 1 (16 + 3 * sN σ) (ad 1) (ad 2) mcn (sN σ) 10 _ _ i (ad (20 + 3 * i)) (wx_li1 (by omega)) (wx_ar (by omega)) rfl hj (by omega) (by decide) (if_pos hj)) gw240 (by decide +kernel) rfl dX3_openLocks_20 ⟨Nat.le_of_ble_eq_true rfl, Nat.le_of_ble_eq_true rfl⟩ ⟨Nat.le_of_ble_eq_true rfl, Nat.le_of_ble_eq_true rfl⟩ (Nat.le_of_ble_eq_true rfl) (dkr ?_)
      refine j_castE C (16 + 3 * i) (wx_l hj).1 rfl rfl gw109 dX3_openLocks_23 ?_
      refine j_getN (Cn := RX0) (T := TX0) (N := 6) (ci := 1) C iX0 rfl (16 + 3 * i) (wx_l hj).1 4 (by decide) nw122 rfl rfl dX3_openLocks_26 ?_
      refine j_if_eq C 35 dX3_openLocks_29 (by decide) (fun c29 => ?_) (fun c29 => ?_)
      · refine j_iinc (z := 2) (lv' := [(2, .int _), (0, .ref _), (1, .int _)]) C dX3_openLocks_35 rfl rfl (by decide) rfl ?_
        refine j_goto C 4 dX3_openLocks_38 (by decide) ?_
        exact j_lvs [1, 2, 0] rfl (ih (i + 1) _ _ (by omega) (by first | exact congrArg (fun z => sumF (fun i => b2i (¬ sR σ (8 * i + 1) = 0)) i + z) (b2i_y c29).symm | exact (i_add0 _).symm.trans (congrArg (fun z => sumF (fun i => b2i (¬ sR σ (8 * i + 1) = 0)) i + z) (b2i_n (fun z => z c29)).symm)) (nI_1 i))
      · refine j_iinc (z := 1) (lv' := [(1, .int _), (0, .ref _), (2, .int _)]) C dX3_openLocks_32 rfl rfl (by decide) rfl ?_
        refine j_iinc (z := 2) (lv' := [(2, .int _), (1, .int _), (0, .ref _)]) C dX3_openLocks_35 rfl rfl (by decide) rfl ?_
        refine j_goto C 4 dX3_openLocks_38 (by decide) ?_
        exact j_lvs [2, 1, 0] rfl (ih (i + 1) _ _ (by omega) (by first | exact congrArg (fun z => sumF (fun i => b2i (¬ sR σ (8 * i + 1) = 0)) i + z) (b2i_y c29).symm | exact (i_add0 _).symm.trans (congrArg (fun z => sumF (fun i => b2i (¬ sR σ (8 * i + 1) = 0)) i + z) (b2i_n (fun z => z c29)).symm)) (nI_1 i))
  exact j_lvs [2, 1, 0] rfl (L4 (sN σ) (0) _ _ (by omega) (rfl) (rfl))
set_option maxRecDepth 100000 in
set_option maxHeartbeats 4000000 in
theorem kX3_lostWords (l : Launch) (D : va_G) (ct : Nat → ClassId) (sa : Nat → Nat) (ad : Nat → Nat) (mcn : Int32) (φ : LD) (σ : St) (wr : va_W) (hn9 : sN σ ≤ 8) : jM l yX3_lostWords (Cond.code yX3_lostWords cX3_lostWords 3 (Option.some Jvm.ClassFile.FieldType.int) :: GW) (rM 3 0 0 64) D ct sa [.ref (ad 0)] (WX ct sa ad mcn φ σ ++ wr) (dK (some (.int (sumF (fun i => b2i (¬ sR σ (8 * i + 3) = 0)) (sN σ)))) (WX ct sa ad mcn φ σ ++ wr)) 0 0 := by
  refine jMX.plain (jBody (own := RX3) (by decide) rfl rfl (Nat.le_of_ble_eq_true rfl) ?_)
  intro X C E T0
  refine j_lv (lv1 := [(0, .ref _)]) rfl ?_
  refine j_iconst (v := nI 0) C dX3_lostWords_0 (by decide) ?_
  refine j_istore_n (lv' := [(1, .int _), (0, .ref _)]) C dX3_lostWords_1 rfl (by decide) rfl ?_
  refine j_iconst (v := nI 0) C dX3_lostWords_2 (by decide) ?_
  refine j_istore_n (lv' := [(2, .int _), (1, .int _), (0, .ref _)]) C dX3_lostWords_3 rfl (by decide) rfl ?_
  have L4 : ∀ (d i : Nat) (x1 : Int32) (x2 : Int32), i + d = sN σ → x1 = sumF (fun i => b2i (¬ sR σ (8 * i + 3) = 0)) i → x2 = nI i → J X (WX ct sa ad mcn φ σ ++ wr) (0) (0) 4 [(0, .ref (ad 0)), (1, .int x1), (2, .int x2)] [] := by
    intro d
    induction d with
    | zero =>
      intro i x1 x2 hd e_x1 e_x2 
      subst e_x1
      subst e_x2
      have hi9 : i = sN σ := by omega
      rw [hi9]
      refine j_iload_n (i := 2) C dX3_lostWords_4 rfl 2 rfl ?_
      refine j_aload_n (i := 0) C dX3_lostWords_5 rfl 0 rfl ?_
      refine j_get (Cn := RX3) (T := TX3) (N := 6) (ci := 4) C iX3 rfl (0) rfl 0 (by decide) gw138 rfl rfl dX3_lostWords_6 ?_
      refine j_callV (nargs := 0) (As := []) (Cn := RJx4a65c) C (1) wx_li rfl rfl gw165 gw166 gw167 gw24 (kJx4a65c_size_8abf5 l D ct sa _ 1 (ad 1) mcn _ (sN σ) wx_li) gw168 (by decide +kernel) rfl dX3_lostWords_9 ⟨Nat.le_of_ble_eq_true rfl, Nat.le_of_ble_eq_true rfl⟩ ⟨Nat.le_of_ble_eq_true rfl, Nat.le_of_ble_eq_true rfl⟩ (Nat.le_of_ble_eq_true rfl) (dki ?_)
      refine j_icmp_ge C 41 dX3_lostWords_12 (by decide) (fun c12 => ?_) (fun c12 => by first | exact absurd c12 (nI_ge (b := sN σ) (by omega) (by omega)) | exact (c12 (nI_le (Nat.le_refl (sN σ)) (by omega))).elim)
      refine j_iload_n (i := 1) C dX3_lostWords_41 rfl 1 rfl ?_
      exact j_ireturn C E rfl dX3_lostWords_42 (Nat.le_of_ble_eq_true rfl) (Nat.le_of_ble_eq_true rfl) (⟨rfl, rfl⟩)
    | succ d ih =>
      intro i x1 x2 hd e_x1 e_x2 
      subst e_x1
      subst e_x2
      have hj : i < sN σ := by omega
      refine j_iload_n (i := 2) C dX3_lostWords_4 rfl 2 rfl ?_
      refine j_aload_n (i := 0) C dX3_lostWords_5 rfl 0 rfl ?_
      refine j_get (Cn := RX3) (T := TX3) (N := 6) (ci := 4) C iX3 rfl (0) rfl 0 (by decide) gw138 rfl rfl dX3_lostWords_6 ?_
      refine j_callV (nargs := 0) (As := []) (Cn := RJx4a65c) C (1) wx_li rfl rfl gw165 gw166 gw167 gw24 (kJx4a65c_size_8abf5 l D ct sa _ 1 (ad 1) mcn _ (sN σ) wx_li) gw168 (by decide +kernel) rfl dX3_lostWords_9 ⟨Nat.le_of_ble_eq_true rfl, Nat.le_of_ble_eq_true rfl⟩ ⟨Nat.le_of_ble_eq_true rfl, Nat.le_of_ble_eq_true rfl⟩ (Nat.le_of_ble_eq_true rfl) (dki ?_)
      refine j_icmp_ge C 41 dX3_lostWords_12 (by decide) (fun c12 => by first | exact absurd c12 (nI_ge (b := sN σ) (by omega) (by omega)) | exact (c12 (nI_le (Nat.le_refl (sN σ)) (by omega))).elim) (fun c12 => ?_)
      refine j_aload_n (i := 0) C dX3_lostWords_15 rfl 0 rfl ?_
      refine j_get (Cn := RX3) (T := TX3) (N := 6) (ci := 4) C iX3 rfl (0) rfl 0 (by decide) gw138 rfl rfl dX3_lostWords_16 ?_
      refine j_iload_n (i := 2) C dX3_lostWords_19 rfl 2 rfl ?_
      refine j_callV (nargs := 1) (As := [_]) (Cn := RJx4a65c) C (1) (wx_li1 (by omega)) rfl rfl gw237 gw238 gw239 gw24 (kJx4a65c_get_915e3 l D ct sa _ 1 (16 + 3 * sN σ) (ad 1) (ad 2) mcn (sN σ) 10 _ _ i (ad (20 + 3 * i)) (wx_li1 (by omega)) (wx_ar (by omega)) rfl hj (by omega) (by decide) (if_pos hj)) gw240 (by decide +kernel) rfl dX3_lostWords_20 ⟨Nat.le_of_ble_eq_true rfl, Nat.le_of_ble_eq_true rfl⟩ ⟨Nat.le_of_ble_eq_true rfl, Nat.le_of_ble_eq_true rfl⟩ (Nat.le_of_ble_eq_true rfl) (dkr ?_)
      refine j_castE C (16 + 3 * i) (wx_l hj).1 rfl rfl gw109 dX3_lostWords_23 ?_
      refine j_getN (Cn := RX0) (T := TX0) (N := 6) (ci := 1) C iX0 rfl (16 + 3 * i) (wx_l hj).1 5 (by decide) nw124 rfl rfl dX3_lostWords_26 ?_
      refine j_if_eq C 35 dX3_lostWords_29 (by decide) (fun c29 => ?_) (fun c29 => ?_)
      · refine j_iinc (z := 2) (lv' := [(2, .int _), (0, .ref _), (1, .int _)]) C dX3_lostWords_35 rfl rfl (by decide) rfl ?_
        refine j_goto C 4 dX3_lostWords_38 (by decide) ?_
        exact j_lvs [1, 2, 0] rfl (ih (i + 1) _ _ (by omega) (by first | exact congrArg (fun z => sumF (fun i => b2i (¬ sR σ (8 * i + 3) = 0)) i + z) (b2i_y c29).symm | exact (i_add0 _).symm.trans (congrArg (fun z => sumF (fun i => b2i (¬ sR σ (8 * i + 3) = 0)) i + z) (b2i_n (fun z => z c29)).symm)) (nI_1 i))
      · refine j_iinc (z := 1) (lv' := [(1, .int _), (0, .ref _), (2, .int _)]) C dX3_lostWords_32 rfl rfl (by decide) rfl ?_
        refine j_iinc (z := 2) (lv' := [(2, .int _), (1, .int _), (0, .ref _)]) C dX3_lostWords_35 rfl rfl (by decide) rfl ?_
        refine j_goto C 4 dX3_lostWords_38 (by decide) ?_
        exact j_lvs [2, 1, 0] rfl (ih (i + 1) _ _ (by omega) (by first | exact congrArg (fun z => sumF (fun i => b2i (¬ sR σ (8 * i + 3) = 0)) i + z) (b2i_y c29).symm | exact (i_add0 _).symm.trans (congrArg (fun z => sumF (fun i => b2i (¬ sR σ (8 * i + 3) = 0)) i + z) (b2i_n (fun z => z c29)).symm)) (nI_1 i))
  exact j_lvs [2, 1, 0] rfl (L4 (sN σ) (0) _ _ (by omega) (rfl) (rfl))
set_option maxRecDepth 100000 in
set_option maxHeartbeats 4000000 in
theorem kX3_allWear (l : Launch) (D : va_G) (ct : Nat → ClassId) (sa : Nat → Nat) (ad : Nat → Nat) (mcn : Int32) (φ : LD) (σ : St) (wr : va_W) (hn9 : sN σ ≤ 8) : jM l yX3_allWear (Cond.code yX3_allWear cX3_allWear 3 (Option.some Jvm.ClassFile.FieldType.int) :: GW) (rM 3 0 0 64) D ct sa [.ref (ad 0)] (WX ct sa ad mcn φ σ ++ wr) (dK (some (.int (sumF (fun i => sumF (lW σ i) 24) (sN σ)))) (WX ct sa ad mcn φ σ ++ wr)) 0 0 := by
  refine jMX.plain (jBody (own := RX3) (by decide) rfl rfl (Nat.le_of_ble_eq_true rfl) ?_)
  intro X C E T0
  refine j_lv (lv1 := [(0, .ref _)]) rfl ?_
  refine j_iconst (v := nI 0) C dX3_allWear_0 (by decide) ?_
  refine j_istore_n (lv' := [(1, .int _), (0, .ref _)]) C dX3_allWear_1 rfl (by decide) rfl ?_
  refine j_iconst (v := nI 0) C dX3_allWear_2 (by decide) ?_
  refine j_istore_n (lv' := [(2, .int _), (1, .int _), (0, .ref _)]) C dX3_allWear_3 rfl (by decide) rfl ?_
  have L4 : ∀ (d i : Nat) (x1 : Int32) (x2 : Int32), i + d = sN σ → x1 = sumF (fun i => sumF (lW σ i) 24) i → x2 = nI i → J X (WX ct sa ad mcn φ σ ++ wr) (0) (0) 4 [(0, .ref (ad 0)), (1, .int x1), (2, .int x2)] [] := by
    intro d
    induction d with
    | zero =>
      intro i x1 x2 hd e_x1 e_x2 
      subst e_x1
      subst e_x2
      have hi9 : i = sN σ := by omega
      rw [hi9]
      refine j_iload_n (i := 2) C dX3_allWear_4 rfl 2 rfl ?_
      refine j_aload_n (i := 0) C dX3_allWear_5 rfl 0 rfl ?_
      refine j_get (Cn := RX3) (T := TX3) (N := 6) (ci := 4) C iX3 rfl (0) rfl 0 (by decide) gw138 rfl rfl dX3_allWear_6 ?_
      refine j_callV (nargs := 0) (As := []) (Cn := RJx4a65c) C (1) wx_li rfl rfl gw165 gw166 gw167 gw24 (kJx4a65c_size_8abf5 l D ct sa _ 1 (ad 1) mcn _ (sN σ) wx_li) gw168 (by decide +kernel) rfl dX3_allWear_9 ⟨Nat.le_of_ble_eq_true rfl, Nat.le_of_ble_eq_true rfl⟩ ⟨Nat.le_of_ble_eq_true rfl, Nat.le_of_ble_eq_true rfl⟩ (Nat.le_of_ble_eq_true rfl) (dki ?_)
      refine j_icmp_ge C 38 dX3_allWear_12 (by decide) (fun c12 => ?_) (fun c12 => by first | exact absurd c12 (nI_ge (b := sN σ) (by omega) (by omega)) | exact (c12 (nI_le (Nat.le_refl (sN σ)) (by omega))).elim)
      refine j_iload_n (i := 1) C dX3_allWear_38 rfl 1 rfl ?_
      exact j_ireturn C E rfl dX3_allWear_39 (Nat.le_of_ble_eq_true rfl) (Nat.le_of_ble_eq_true rfl) (⟨rfl, rfl⟩)
    | succ d ih =>
      intro i x1 x2 hd e_x1 e_x2 
      subst e_x1
      subst e_x2
      have hj : i < sN σ := by omega
      refine j_iload_n (i := 2) C dX3_allWear_4 rfl 2 rfl ?_
      refine j_aload_n (i := 0) C dX3_allWear_5 rfl 0 rfl ?_
      refine j_get (Cn := RX3) (T := TX3) (N := 6) (ci := 4) C iX3 rfl (0) rfl 0 (by decide) gw138 rfl rfl dX3_allWear_6 ?_
      refine j_callV (nargs := 0) (As := []) (Cn := RJx4a65c) C (1) wx_li rfl rfl gw165 gw166 gw167 gw24 (kJx4a65c_size_8abf5 l D ct sa _ 1 (ad 1) mcn _ (sN σ) wx_li) gw168 (by decide +kernel) rfl dX3_allWear_9 ⟨Nat.le_of_ble_eq_true rfl, Nat.le_of_ble_eq_true rfl⟩ ⟨Nat.le_of_ble_eq_true rfl, Nat.le_of_ble_eq_true rfl⟩ (Nat.le_of_ble_eq_true rfl) (dki ?_)
      refine j_icmp_ge C 38 dX3_allWear_12 (by decide) (fun c12 => by first | exact absurd c12 (nI_ge (b := sN σ) (by omega) (by omega)) | exact (c12 (nI_le (Nat.le_refl (sN σ)) (by omega))).elim) (fun c12 => ?_)
      refine j_iload_n (i := 1) C dX3_allWear_15 rfl 1 rfl ?_
      refine j_aload_n (i := 0) C dX3_allWear_16 rfl 0 rfl ?_
      refine j_get (Cn := RX3) (T := TX3) (N := 6) (ci := 4) C iX3 rfl (0) rfl 0 (by decide) gw138 rfl rfl dX3_allWear_17 ?_
      refine j_iload_n (i := 2) C dX3_allWear_20 rfl 2 rfl ?_
      refine j_callV (nargs := 1) (As := [_]) (Cn := RJx4a65c) C (1) (wx_li1 (by omega)) rfl rfl gw237 gw238 gw239 gw24 (kJx4a65c_get_915e3 l D ct sa _ 1 (16 + 3 * sN σ) (ad 1) (ad 2) mcn (sN σ) 10 _ _ i (ad (20 + 3 * i)) (wx_li1 (by omega)) (wx_ar (by omega)) rfl hj (by omega) (by decide) (if_pos hj)) gw240 (by decide +kernel) rfl dX3_allWear_21 ⟨Nat.le_of_ble_eq_true rfl, Nat.le_of_ble_eq_true rfl⟩ ⟨Nat.le_of_ble_eq_true rfl, Nat.le_of_ble_eq_true rfl⟩ (Nat.le_of_ble_eq_true rfl) (dkr ?_)
      refine j_castE C (16 + 3 * i) (wx_l hj).1 rfl rfl gw109 dX3_allWear_24 ?_
      refine j_callV (nargs := 0) (As := []) (Cn := RX0) C (16 + 3 * i) (wx_l hj).1 rfl rfl gw367 gw368 gw369 gw27 (kX0_allWears l D ct sa _ (16 + 3 * i) _ _ _ _ _ _ _ _ _ (wx_l hj)) gw370 (by decide +kernel) rfl dX3_allWear_27 ⟨Nat.le_of_ble_eq_true rfl, Nat.le_of_ble_eq_true rfl⟩ ⟨Nat.le_of_ble_eq_true rfl, Nat.le_of_ble_eq_true rfl⟩ (Nat.le_of_ble_eq_true rfl) (dki ?_)
      refine j_iadd C dX3_allWear_30 ?_
      refine j_istore_n (lv' := [(1, .int _), (0, .ref _), (2, .int _)]) C dX3_allWear_31 rfl (by decide) rfl ?_
      refine j_iinc (z := 2) (lv' := [(2, .int _), (1, .int _), (0, .ref _)]) C dX3_allWear_32 rfl rfl (by decide) rfl ?_
      refine j_goto C 4 dX3_allWear_35 (by decide) ?_
      exact j_lvs [2, 1, 0] rfl (ih (i + 1) _ _ (by omega) (rfl) (nI_1 i))
  exact j_lvs [2, 1, 0] rfl (L4 (sN σ) (0) _ _ (by omega) (rfl) (rfl))
set_option maxRecDepth 100000 in
set_option maxHeartbeats 4000000 in
theorem kX3_locksInRacks (l : Launch) (D : va_G) (ct : Nat → ClassId) (sa : Nat → Nat) (ad : Nat → Nat) (mcn : Int32) (φ : LD) (σ : St) (wr : va_W) (hn9 : sN σ ≤ 8) : jM l yX3_locksInRacks (Cond.code yX3_locksInRacks cX3_locksInRacks 1 (Option.some Jvm.ClassFile.FieldType.int) :: GW) (rM 4 0 0 87) D ct sa [.ref (ad 0)] (WX ct sa ad mcn φ σ ++ wr) (dK (some (.int (nI (sN σ) - inF σ (-1)))) (WX ct sa ad mcn φ σ ++ wr)) 0 0 := by
  refine jMX.plain (jBody (own := RX3) (by decide) rfl rfl (Nat.le_of_ble_eq_true rfl) ?_)
  intro X C E T0
  refine j_lv (lv1 := [(0, .ref _)]) rfl ?_
  refine j_aload_n (i := 0) C dX3_locksInRacks_0 rfl 0 rfl ?_
  refine j_get (Cn := RX3) (T := TX3) (N := 6) (ci := 4) C iX3 rfl (0) rfl 0 (by decide) gw138 rfl rfl dX3_locksInRacks_1 ?_
  refine j_callV (nargs := 0) (As := []) (Cn := RJx4a65c) C (1) wx_li rfl rfl gw165 gw166 gw167 gw24 (kJx4a65c_size_8abf5 l D ct sa _ 1 (ad 1) mcn _ (sN σ) wx_li) gw168 (by decide +kernel) rfl dX3_locksInRacks_4 ⟨Nat.le_of_ble_eq_true rfl, Nat.le_of_ble_eq_true rfl⟩ ⟨Nat.le_of_ble_eq_true rfl, Nat.le_of_ble_eq_true rfl⟩ (Nat.le_of_ble_eq_true rfl) (dki ?_)
  refine j_aload_n (i := 0) C dX3_locksInRacks_7 rfl 0 rfl ?_
  refine j_iconst (v := (-1)) C dX3_locksInRacks_8 (by decide) ?_
  refine j_callV (nargs := 1) (As := [_]) (Cn := RX3) C (0) rfl rfl rfl gw339 gw341 gw5 gw21 (kX3_locksIn l D ct sa ad mcn φ σ wr (-1) hn9) gw342 (by decide +kernel) rfl dX3_locksInRacks_9 ⟨Nat.le_of_ble_eq_true rfl, Nat.le_of_ble_eq_true rfl⟩ ⟨Nat.le_of_ble_eq_true rfl, Nat.le_of_ble_eq_true rfl⟩ (Nat.le_of_ble_eq_true rfl) (dki ?_)
  refine j_isub C dX3_locksInRacks_12 ?_
  exact j_ireturn C E rfl dX3_locksInRacks_13 (Nat.le_of_ble_eq_true rfl) (Nat.le_of_ble_eq_true rfl) (⟨rfl, rfl⟩)
set_option maxRecDepth 100000 in
set_option maxHeartbeats 4000000 in
theorem kX3_takesAnother (l : Launch) (D : va_G) (ct : Nat → ClassId) (sa : Nat → Nat) (ad : Nat → Nat) (mcn : Int32) (φ : LD) (σ : St) (wr : va_W) (y : Int32) (hn9 : sN σ ≤ 8) : jM l yX3_takesAnother (Cond.code yX3_takesAnother cX3_takesAnother 2 (Option.some Jvm.ClassFile.FieldType.boolean) :: GW) (rM 4 0 0 87) D ct sa [.ref (ad 0), .int y] (WX ct sa ad mcn φ σ ++ wr) (dK (some (.int (b2i (okI 3 y ∧ opR σ (sH σ) (ix y) ∧ inF σ y < sK σ (3 * ix y + 0))))) (WX ct sa ad mcn φ σ ++ wr)) 0 0 := by
  refine jMX.plain (jBody (own := RX3) (by decide) rfl rfl (Nat.le_of_ble_eq_true rfl) ?_)
  intro X C E T0
  refine j_lv (lv1 := [(0, .ref _), (1, .int _)]) rfl ?_
  refine j_aload_n (i := 0) C dX3_takesAnother_0 rfl 0 rfl ?_
  refine j_iload_n (i := 1) C dX3_takesAnother_1 rfl 1 rfl ?_
  refine j_callV (nargs := 1) (As := [_]) (Cn := RX3) C (0) rfl rfl rfl gw334 gw336 gw4 gw21 (kX3_isRack l D ct sa ad _ _ _ _ y wx_xb) gw337 (by decide +kernel) rfl dX3_takesAnother_2 ⟨Nat.le_of_ble_eq_true rfl, Nat.le_of_ble_eq_true rfl⟩ ⟨Nat.le_of_ble_eq_true rfl, Nat.le_of_ble_eq_true rfl⟩ (Nat.le_of_ble_eq_true rfl) (dki ?_)
  refine j_if_eq C 45 dX3_takesAnother_5 (by decide) (fun c5 => ?_) (fun c5 => ?_)
  · refine j_iconst (v := nI 0) C dX3_takesAnother_45 (by decide) ?_
    exact j_ireturn C E (by first | exact nr_b | rfl) dX3_takesAnother_46 (Nat.le_of_ble_eq_true rfl) (Nat.le_of_ble_eq_true rfl) (⟨congrArg (fun z => some (Value.int z)) (by first | exact (b2i_n (fun z => b2i_f c5 z.1)).symm | exact (b2i_n (fun z => b2i_f c21 z.2.1)).symm | exact (b2i_n (fun z => inle z.2.2 c38)).symm | exact (b2i_y ⟨b2i_t c5, b2i_t c21, ilt_of c38⟩).symm), rfl⟩)
  · obtain ⟨hr, er⟩ := okI_ix (b2i_t c5) (by decide)
    refine j_aload_n (i := 0) C dX3_takesAnother_8 rfl 0 rfl ?_
    refine j_get (Cn := RX3) (T := TX3) (N := 6) (ci := 4) C iX3 rfl (0) rfl 1 (by decide) gw139 rfl rfl dX3_takesAnother_9 ?_
    refine j_iload_n (i := 1) C dX3_takesAnother_12 rfl 1 rfl ?_
    refine j_aald C (2) 1 rfl rfl rfl (ix y) er hr (by decide) (if_pos hr) dX3_takesAnother_13 ?_
    refine j_aload_n (i := 0) C dX3_takesAnother_14 rfl 0 rfl ?_
    refine j_get (Cn := RX3) (T := TX3) (N := 6) (ci := 4) C iX3 rfl (0) rfl 4 (by decide) gw142 rfl rfl dX3_takesAnother_15 ?_
    refine j_callV (nargs := 1) (As := [_]) (Cn := RX1) C (3 + ix y) (wx_rk hr) rfl rfl gw343 gw344 gw345 gw25 (kX1_isOpenIn l D ct sa _ (3 + ix y) _ _ _ _ _ (wx_rk hr)) gw346 (by decide +kernel) rfl dX3_takesAnother_18 ⟨Nat.le_of_ble_eq_true rfl, Nat.le_of_ble_eq_true rfl⟩ ⟨Nat.le_of_ble_eq_true rfl, Nat.le_of_ble_eq_true rfl⟩ (Nat.le_of_ble_eq_true rfl) (dki ?_)
    refine j_if_eq C 45 dX3_takesAnother_21 (by decide) (fun c21 => ?_) (fun c21 => ?_)
    · refine j_iconst (v := nI 0) C dX3_takesAnother_45 (by decide) ?_
      exact j_ireturn C E (by first | exact nr_b | rfl) dX3_takesAnother_46 (Nat.le_of_ble_eq_true rfl) (Nat.le_of_ble_eq_true rfl) (⟨congrArg (fun z => some (Value.int z)) (by first | exact (b2i_n (fun z => b2i_f c5 z.1)).symm | exact (b2i_n (fun z => b2i_f c21 z.2.1)).symm | exact (b2i_n (fun z => inle z.2.2 c38)).symm | exact (b2i_y ⟨b2i_t c5, b2i_t c21, ilt_of c38⟩).symm), rfl⟩)
    · refine j_aload_n (i := 0) C dX3_takesAnother_24 rfl 0 rfl ?_
      refine j_iload_n (i := 1) C dX3_takesAnother_25 rfl 1 rfl ?_
      refine j_callV (nargs := 1) (As := [_]) (Cn := RX3) C (0) rfl rfl rfl gw339 gw341 gw5 gw21 (kX3_locksIn l D ct sa ad mcn φ σ wr y hn9) gw342 (by decide +kernel) rfl dX3_takesAnother_26 ⟨Nat.le_of_ble_eq_true rfl, Nat.le_of_ble_eq_true rfl⟩ ⟨Nat.le_of_ble_eq_true rfl, Nat.le_of_ble_eq_true rfl⟩ (Nat.le_of_ble_eq_true rfl) (dki ?_)
      refine j_aload_n (i := 0) C dX3_takesAnother_29 rfl 0 rfl ?_
      refine j_get (Cn := RX3) (T := TX3) (N := 6) (ci := 4) C iX3 rfl (0) rfl 1 (by decide) gw139 rfl rfl dX3_takesAnother_30 ?_
      refine j_iload_n (i := 1) C dX3_takesAnother_33 rfl 1 rfl ?_
      refine j_aald C (2) 1 rfl rfl rfl (ix y) er hr (by decide) (if_pos hr) dX3_takesAnother_34 ?_
      refine j_getN (Cn := RX1) (T := TX1) (N := 3) (ci := 2) C iX1 rfl (3 + ix y) (wx_rk hr) 0 (by decide) nw84 rfl rfl dX3_takesAnother_35 ?_
      refine j_icmp_ge C 45 dX3_takesAnother_38 (by decide) (fun c38 => ?_) (fun c38 => ?_)
      · refine j_iconst (v := nI 0) C dX3_takesAnother_45 (by decide) ?_
        exact j_ireturn C E (by first | exact nr_b | rfl) dX3_takesAnother_46 (Nat.le_of_ble_eq_true rfl) (Nat.le_of_ble_eq_true rfl) (⟨congrArg (fun z => some (Value.int z)) (by first | exact (b2i_n (fun z => b2i_f c5 z.1)).symm | exact (b2i_n (fun z => b2i_f c21 z.2.1)).symm | exact (b2i_n (fun z => inle z.2.2 c38)).symm | exact (b2i_y ⟨b2i_t c5, b2i_t c21, ilt_of c38⟩).symm), rfl⟩)
      · refine j_iconst (v := nI 1) C dX3_takesAnother_41 (by decide) ?_
        refine j_goto C 46 dX3_takesAnother_42 (by decide) ?_
        exact j_ireturn C E (by first | exact nr_b | rfl) dX3_takesAnother_46 (Nat.le_of_ble_eq_true rfl) (Nat.le_of_ble_eq_true rfl) (⟨congrArg (fun z => some (Value.int z)) (by first | exact (b2i_n (fun z => b2i_f c5 z.1)).symm | exact (b2i_n (fun z => b2i_f c21 z.2.1)).symm | exact (b2i_n (fun z => inle z.2.2 c38)).symm | exact (b2i_y ⟨b2i_t c5, b2i_t c21, ilt_of c38⟩).symm), rfl⟩)
set_option maxRecDepth 100000 in
set_option maxHeartbeats 4000000 in
theorem kX3_isInClosedRack (l : Launch) (D : va_G) (ct : Nat → ClassId) (sa : Nat → Nat) (ad : Nat → Nat) (ws : va_W) (k h a b : Nat) (lt wr : Nat → Int32) (w rk op lo : Int32) (H T : Int32) (K : Nat → Int32) (x : Int32) (hk : Lk ct ws k h a b lt wr w rk op lo) (hX : XB ct ad ws H T K) : jM l yX3_isInClosedRack (Cond.code yX3_isInClosedRack cX3_isInClosedRack 3 (Option.some Jvm.ClassFile.FieldType.boolean) :: GW) (rM 1 0 0 22) D ct sa [.ref (ad 0), .ref h, .int x] (ws) (dK (some (.int (b2i (okI 3 rk ∧ ¬ opP (irm x (nI 24)) (K (3 * ix rk + 1)) (K (3 * ix rk + 2)))))) ws) 0 0 := by
  refine jMX.plain (jBody (own := RX3) (by decide) rfl rfl (Nat.le_of_ble_eq_true rfl) ?_)
  intro X C E T0
  refine j_lv (lv1 := [(0, .ref _), (1, .ref _), (2, .int _)]) rfl ?_
  refine j_aload_n (i := 0) C dX3_isInClosedRack_0 rfl 0 rfl ?_
  refine j_aload_n (i := 1) C dX3_isInClosedRack_1 rfl 1 rfl ?_
  refine j_getN (Cn := RX0) (T := TX0) (N := 6) (ci := 1) C iX0 rfl (k) hk.1 3 (by decide) nw120 rfl rfl dX3_isInClosedRack_2 ?_
  refine j_callV (nargs := 1) (As := [_]) (Cn := RX3) C (0) hX.1 rfl rfl gw334 gw336 gw4 gw21 (kX3_isRack l D ct sa ad ws H T K rk hX) gw337 (by decide +kernel) rfl dX3_isInClosedRack_5 ⟨Nat.le_of_ble_eq_true rfl, Nat.le_of_ble_eq_true rfl⟩ ⟨Nat.le_of_ble_eq_true rfl, Nat.le_of_ble_eq_true rfl⟩ (Nat.le_of_ble_eq_true rfl) (dki ?_)
  refine j_if_eq C 31 dX3_isInClosedRack_8 (by decide) (fun c8 => ?_) (fun c8 => ?_)
  · refine j_iconst (v := nI 0) C dX3_isInClosedRack_31 (by decide) ?_
    exact j_ireturn C E (by first | exact nr_b | rfl) dX3_isInClosedRack_32 (Nat.le_of_ble_eq_true rfl) (Nat.le_of_ble_eq_true rfl) (⟨congrArg (fun z => some (Value.int z)) (by first | exact (b2i_n (fun z => b2i_f c8 z.1)).symm | exact (b2i_n (fun z => z.2 (b2i_t c24))).symm | exact (b2i_y ⟨b2i_t c8, b2i_f c24⟩).symm), rfl⟩)
  · obtain ⟨hr, er⟩ := okI_ix (b2i_t c8) (by decide)
    refine j_aload_n (i := 0) C dX3_isInClosedRack_11 rfl 0 rfl ?_
    refine j_get (Cn := RX3) (T := TX3) (N := 6) (ci := 4) C iX3 rfl (0) hX.1 1 (by decide) gw139 rfl rfl dX3_isInClosedRack_12 ?_
    refine j_aload_n (i := 1) C dX3_isInClosedRack_15 rfl 1 rfl ?_
    refine j_getN (Cn := RX0) (T := TX0) (N := 6) (ci := 1) C iX0 rfl (k) hk.1 3 (by decide) nw120 rfl rfl dX3_isInClosedRack_16 ?_
    refine j_aald C (2) 1 hX.2.1 rfl rfl (ix rk) er hr (by decide) (if_pos hr) dX3_isInClosedRack_19 ?_
    refine j_iload_n (i := 2) C dX3_isInClosedRack_20 rfl 2 rfl ?_
    refine j_callV (nargs := 1) (As := [_]) (Cn := RX1) C (3 + ix rk) (hX.2.2 _ hr) rfl rfl gw343 gw344 gw345 gw25 (kX1_isOpenIn l D ct sa _ (3 + ix rk) _ _ _ _ _ (hX.2.2 _ hr)) gw346 (by decide +kernel) rfl dX3_isInClosedRack_21 ⟨Nat.le_of_ble_eq_true rfl, Nat.le_of_ble_eq_true rfl⟩ ⟨Nat.le_of_ble_eq_true rfl, Nat.le_of_ble_eq_true rfl⟩ (Nat.le_of_ble_eq_true rfl) (dki ?_)
    refine j_if_ne C 31 dX3_isInClosedRack_24 (by decide) (fun c24 => ?_) (fun c24 => ?_)
    · refine j_iconst (v := nI 0) C dX3_isInClosedRack_31 (by decide) ?_
      exact j_ireturn C E (by first | exact nr_b | rfl) dX3_isInClosedRack_32 (Nat.le_of_ble_eq_true rfl) (Nat.le_of_ble_eq_true rfl) (⟨congrArg (fun z => some (Value.int z)) (by first | exact (b2i_n (fun z => b2i_f c8 z.1)).symm | exact (b2i_n (fun z => z.2 (b2i_t c24))).symm | exact (b2i_y ⟨b2i_t c8, b2i_f c24⟩).symm), rfl⟩)
    · refine j_iconst (v := nI 1) C dX3_isInClosedRack_27 (by decide) ?_
      refine j_goto C 32 dX3_isInClosedRack_28 (by decide) ?_
      exact j_ireturn C E (by first | exact nr_b | rfl) dX3_isInClosedRack_32 (Nat.le_of_ble_eq_true rfl) (Nat.le_of_ble_eq_true rfl) (⟨congrArg (fun z => some (Value.int z)) (by first | exact (b2i_n (fun z => b2i_f c8 z.1)).symm | exact (b2i_n (fun z => z.2 (b2i_t c24))).symm | exact (b2i_y ⟨b2i_t c8, b2i_f c24⟩).symm), rfl⟩)
set_option maxRecDepth 100000 in
set_option maxHeartbeats 4000000 in
theorem kX3_letHourGoBy (l : Launch) (D : va_G) (ct : Nat → ClassId) (sa : Nat → Nat) (ad : Nat → Nat) (ws : va_W) (k h a b : Nat) (lt wr : Nat → Int32) (w rk op lo : Int32) (H T : Int32) (K : Nat → Int32) (x : Int32) (hk : Lk ct ws k h a b lt wr w rk op lo) (hX : XB ct ad ws H T K) (h6 : 6 ≤ k) (hl : ∀ r, r < 4 → okI 6 (lt r)) (hw : okI 1296 w) : jM l yX3_letHourGoBy (Cond.code yX3_letHourGoBy cX3_letHourGoBy 3 (Option.some Jvm.ClassFile.FieldType.boolean) :: GW) (rM 3 0 0 65) D ct sa [.ref (ad 0), .ref h, .int x] (ws) (dK (some (.int (b2i (¬ op = 0 ∧ okI 3 rk ∧ ¬ opP (irm x (nI 24)) (K (3 * ix rk + 1)) (K (3 * ix rk + 2)))))) (if ¬ op = 0 ∧ okI 3 rk ∧ ¬ opP (irm x (nI 24)) (K (3 * ix rk + 1)) (K (3 * ix rk + 2)) then (((ws.set (k + 2) (b, .inl (ct 0, 24, .inl (wLL lt w rk op wr 4)))).set (k + 1) (a, .inl (ct 0, 4, .inl (clL lt 4)))).set k (h, .inr (1, [.ref a, .ref b, .int w, .int rk, .int (nI 0), .int lo]))) else (ws.set (k + 2) (b, .inl (ct 0, 24, .inl (wLL lt w rk op wr 4)))))) 0 0 := by
  refine jMX.plain (jBody (own := RX3) (by decide) rfl rfl (Nat.le_of_ble_eq_true rfl) ?_)
  intro X C E T0
  refine j_lv (lv1 := [(0, .ref _), (1, .ref _), (2, .int _)]) rfl ?_
  refine j_aload_n (i := 1) C dX3_letHourGoBy_0 rfl 1 rfl ?_
  refine j_callV (nargs := 0) (As := []) (Cn := RX0) C (k) hk.1 rfl rfl gw422 gw423 gw424 gw27 (kX0_wearByAnHour l D ct sa ws k h a b lt wr w rk op lo hk hl hw) gw425 (by decide +kernel) rfl dX3_letHourGoBy_1 ⟨Nat.le_of_ble_eq_true rfl, Nat.le_of_ble_eq_true rfl⟩ ⟨Nat.le_of_ble_eq_true rfl, Nat.le_of_ble_eq_true rfl⟩ (Nat.le_of_ble_eq_true rfl) (dkv ?_)
  refine j_aload_n (i := 1) C dX3_letHourGoBy_4 rfl 1 rfl ?_
  refine j_getN (Cn := RX0) (T := TX0) (N := 6) (ci := 1) C iX0 rfl (k) ((set_ne (by omega)).trans hk.1) 4 (by decide) nw122 rfl rfl dX3_letHourGoBy_5 ?_
  refine j_if_eq C 20 dX3_letHourGoBy_8 (by decide) (fun c8 => ?_) (fun c8 => ?_)
  · refine j_iconst (v := nI 0) C dX3_letHourGoBy_20 (by decide) ?_
    exact j_ireturn C E (by first | exact nr_b | rfl) dX3_letHourGoBy_21 (Nat.le_of_ble_eq_true rfl) (Nat.le_of_ble_eq_true rfl) (by first | exact ⟨congrArg (fun z => some (Value.int z)) (b2i_n (not_and_of_not_left _ (not_not_intro c8))).symm, (if_neg (not_and_of_not_left _ (not_not_intro c8))).symm⟩ | exact ⟨congrArg (fun z => some (Value.int z)) (b2i_n (not_and_of_not_right _ (b2i_f c17))).symm, (if_neg (not_and_of_not_right _ (b2i_f c17))).symm⟩)
  · refine j_aload_n (i := 0) C dX3_letHourGoBy_11 rfl 0 rfl ?_
    refine j_aload_n (i := 1) C dX3_letHourGoBy_12 rfl 1 rfl ?_
    refine j_iload_n (i := 2) C dX3_letHourGoBy_13 rfl 2 rfl ?_
    refine j_callV (nargs := 2) (As := [_, _]) (Cn := RX3) C (0) (hX.set (by omega)).1 rfl rfl gw432 gw434 gw15 gw21 (kX3_isInClosedRack l D ct sa ad _ k h a b lt _ w rk op lo H T K x ⟨(set_ne (by omega)).trans hk.1, (set_ne (by omega)).trans hk.2.1, set_eq hk.2.2⟩ (hX.set (by omega))) gw435 (by decide +kernel) rfl dX3_letHourGoBy_14 ⟨Nat.le_of_ble_eq_true rfl, Nat.le_of_ble_eq_true rfl⟩ ⟨Nat.le_of_ble_eq_true rfl, Nat.le_of_ble_eq_true rfl⟩ (Nat.le_of_ble_eq_true rfl) (dki ?_)
    refine j_if_ne C 22 dX3_letHourGoBy_17 (by decide) (fun c17 => ?_) (fun c17 => ?_)
    · refine j_aload_n (i := 1) C dX3_letHourGoBy_22 rfl 1 rfl ?_
      refine j_callV (nargs := 0) (As := []) (Cn := RX0) C (k) ((set_ne (by omega)).trans hk.1) rfl rfl gw436 gw437 gw438 gw27 (kX0_close l D ct sa _ k h a b lt _ w rk op lo ⟨(set_ne (by omega)).trans hk.1, (set_ne (by omega)).trans hk.2.1, set_eq hk.2.2⟩) gw439 (by decide +kernel) rfl dX3_letHourGoBy_23 ⟨Nat.le_of_ble_eq_true rfl, Nat.le_of_ble_eq_true rfl⟩ ⟨Nat.le_of_ble_eq_true rfl, Nat.le_of_ble_eq_true rfl⟩ (Nat.le_of_ble_eq_true rfl) (dkv ?_)
      refine j_iconst (v := nI 1) C dX3_letHourGoBy_26 (by decide) ?_
      exact j_ireturn C E (by first | exact nr_b | rfl) dX3_letHourGoBy_27 (Nat.le_of_ble_eq_true rfl) (Nat.le_of_ble_eq_true rfl) (⟨congrArg (fun z => some (Value.int z)) (b2i_y ⟨c8, b2i_t c17⟩).symm, (if_pos ⟨c8, b2i_t c17⟩).symm⟩)
    · refine j_iconst (v := nI 0) C dX3_letHourGoBy_20 (by decide) ?_
      exact j_ireturn C E (by first | exact nr_b | rfl) dX3_letHourGoBy_21 (Nat.le_of_ble_eq_true rfl) (Nat.le_of_ble_eq_true rfl) (by first | exact ⟨congrArg (fun z => some (Value.int z)) (b2i_n (not_and_of_not_left _ (not_not_intro c8))).symm, (if_neg (not_and_of_not_left _ (not_not_intro c8))).symm⟩ | exact ⟨congrArg (fun z => some (Value.int z)) (b2i_n (not_and_of_not_right _ (b2i_f c17))).symm, (if_neg (not_and_of_not_right _ (b2i_f c17))).symm⟩)
