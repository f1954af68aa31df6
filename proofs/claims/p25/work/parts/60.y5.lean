theorem j_astoreN {X : Ctx} {l : Launch} {D : va_G} {ct : Nat → ClassId} {sa : Nat → Nat} {cc : ByteArray} {nL1 : Nat} {own : String} {R0 : Room} {ws : va_W} {k n pc : Nat} {lv lv' : List (Nat × Value)} {st : List Value} (C : jC X l D ct sa cc nL1 own R0) {i : Nat} (d : decode cc pc = .ok (.astore i, 2)) (hn : i < nL1) (hl2 : (i, Value.null) :: lv.filter (fun q => !(q.1 == i) && !(q.1 + 1 == i && q.2.category == 2)) = lv') (kk : J X ws k n (pc + 2) lv' st) : J X ws k n pc lv (.null :: st) := by
  obtain ⟨p, l0, e, R, s, m, args, below, meth, c, D0, ct0, sa0, A, nL, Q⟩ := X
  obtain ⟨hx, hb, hml, ho, hts, hK, hA, hlk, hEX, rfl, rfl, rfl, rfl, rfl, rfl⟩ := C
  intro H locs ls hP hD hS hl
  exact lv_astoreN hx hb d hl hn hl2 (fun ls1 h1 => kk H locs ls1 hP hD hS h1)
set_option maxRecDepth 100000 in
set_option maxHeartbeats 2000000 in
theorem kL_act (l : Launch) (htr : l.stackTraces = false) (D : va_G) (ct : Nat → ClassId) (sa : Nat → Nat) (sd ad : Nat → Nat) (mcn : Int32) (φ : LD) (σ : St) (x : Int32) (h : Nat) (hi : InvL h σ) (hh : h < 2 ^ 20) : jM l yL_act (Cond.code yL_act cL_act 18 (Option.some Jvm.ClassFile.FieldType.boolean) :: GW) (rM 8 20 120 160) D ct sa [.ref (ad 0), .ref (sd 0), .int x] (SWs ct sd σ ++ WX ct sa ad mcn φ σ) (kAc ct sa sd ad φ h) 20 120 := by
  refine jMX.plain (jBody (own := RL) (by decide) rfl rfl (Nat.le_of_ble_eq_true rfl) ?_)
  have h8 := hi.1.1.1
  intro X C E T0
  refine j_lv (lv1 := [(0, .ref _), (1, .ref _), (2, .int _)]) rfl ?_
  refine j_aload_n (i := 1) C dL_act_0 rfl 1 rfl ?_
  refine j_get (Cn := RX5) (T := TX5) (N := 4) (ci := 6) C iX5 rfl (0) rfl 2 (by decide) gw658 rfl rfl dL_act_1 ?_
  refine j_alen (v := nI (sN σ)) C (1) 4 rfl rfl rfl dL_act_4 ?_
  refine j_istore_n (lv' := [(3, .int _), (0, .ref _), (1, .ref _), (2, .int _)]) C dL_act_5 rfl (by decide) rfl ?_
  refine j_iload_n (i := 3) C dL_act_6 rfl 0 rfl ?_
  refine j_if_ne C 14 dL_act_7 (by decide) (fun c7 => ?_) (fun c7 => ?_)
  · have hn0 : 0 < sN σ := Nat.pos_of_ne_zero (fun z => c7 (by rw [z]; rfl))
    refine j_iload_n (i := 2) C dL_act_14 rfl 3 rfl ?_
    refine j_iload_n (i := 3) C dL_act_15 rfl 0 rfl ?_
    refine j_callS (nargs := 2) (As := [_, _]) C gw475 gw476 gw20 (kL_below l D ct sa _ _ _ (sN σ) rfl hn0 (by omega)) gw477 (by decide +kernel) rfl dL_act_16 ⟨Nat.le_of_ble_eq_true rfl, Nat.le_of_ble_eq_true rfl⟩ ⟨Nat.le_of_ble_eq_true rfl, Nat.le_of_ble_eq_true rfl⟩ (Nat.le_of_ble_eq_true rfl) (fun r w hk => ?_)
    obtain ⟨k, h_k, rfl, rfl⟩ := hk
    refine j_st (st1 := .int (nI k) :: _) rfl ?_
    refine j_istore (lv' := [(4, .int _), (3, .int _), (0, .ref _), (1, .ref _), (2, .int _)]) C dL_act_19 (by decide) rfl ?_
    refine j_iload_n (i := 3) C dL_act_21 rfl 1 rfl ?_
    refine j_if_ne C 29 dL_act_22 (by decide) (fun c22 => ?_) (fun c22 => by exact absurd c22 c7)
    refine j_aload_n (i := 1) C dL_act_29 rfl 3 rfl ?_
    refine j_get (Cn := RX5) (T := TX5) (N := 4) (ci := 6) C iX5 rfl (0) rfl 2 (by decide) gw658 rfl rfl dL_act_30 ?_
    refine j_iload C dL_act_33 0 rfl ?_
    refine j_aald C (1) 4 rfl rfl rfl (k) rfl h_k (by omega) (if_pos h_k) dL_act_35 ?_
    refine j_astore (lv' := [(5, .ref _), (4, .int _), (3, .int _), (0, .ref _), (1, .ref _), (2, .int _)]) C dL_act_36 (by decide) rfl ?_
    refine j_iload_n (i := 2) C dL_act_38 rfl 5 rfl ?_
    refine j_iconst (v := nI 2) C dL_act_39 (by decide) ?_
    refine j_ishr C dL_act_40 (fun z40 => ?_)
    refine j_iconst (v := nI 3) C dL_act_41 (by decide) ?_
    refine j_callS (nargs := 2) (As := [_, _]) C gw475 gw476 gw20 (kL_below l D ct sa _ _ _ 3 rfl (by decide) (by decide)) gw477 (by decide +kernel) rfl dL_act_42 ⟨Nat.le_of_ble_eq_true rfl, Nat.le_of_ble_eq_true rfl⟩ ⟨Nat.le_of_ble_eq_true rfl, Nat.le_of_ble_eq_true rfl⟩ (Nat.le_of_ble_eq_true rfl) (fun r w hk => ?_)
    obtain ⟨rr, h_rr, rfl, rfl⟩ := hk
    refine j_st (st1 := .int (nI rr) :: _) rfl ?_
    refine j_istore (lv' := [(6, .int _), (5, .ref _), (4, .int _), (3, .int _), (0, .ref _), (1, .ref _), (2, .int _)]) C dL_act_45 (by decide) rfl ?_
    refine j_iload_n (i := 2) C dL_act_47 rfl 6 rfl ?_
    refine j_bipush (v := nI 9) C dL_act_48 (by decide) ?_
    refine j_ishr C dL_act_50 (fun z50 => ?_)
    refine j_bipush (v := nI 20) C dL_act_51 (by decide) ?_
    refine j_callS (nargs := 2) (As := [_, _]) C gw475 gw476 gw20 (kL_below l D ct sa _ _ _ 20 rfl (by decide) (by decide)) gw477 (by decide +kernel) rfl dL_act_53 ⟨Nat.le_of_ble_eq_true rfl, Nat.le_of_ble_eq_true rfl⟩ ⟨Nat.le_of_ble_eq_true rfl, Nat.le_of_ble_eq_true rfl⟩ (Nat.le_of_ble_eq_true rfl) (fun r w hk => ?_)
    obtain ⟨sw, h_sw, rfl, rfl⟩ := hk
    refine j_st (st1 := .int (nI sw) :: _) rfl ?_
    match sw, h_sw with
    | 0, _ =>
      refine j_tsIn (tgt := 128) C dL_act_56 (by decide) (by decide) rfl (by decide) ?_
      exact j_lvs [4, 5, 6, 3] rfl (kA_lock htr C E hh hi )
    | 1, _ =>
      refine j_tsIn (tgt := 128) C dL_act_56 (by decide) (by decide) rfl (by decide) ?_
      exact j_lvs [4, 5, 6, 3] rfl (kA_lock htr C E hh hi )
    | 2, _ =>
      refine j_tsIn (tgt := 231) C dL_act_56 (by decide) (by decide) rfl (by decide) ?_
      exact j_lvs [4, 5, 6, 3, 2, 1] rfl (kA_turn htr C E hh hi h_k)
    | 3, _ =>
      refine j_tsIn (tgt := 231) C dL_act_56 (by decide) (by decide) rfl (by decide) ?_
      exact j_lvs [4, 5, 6, 3, 2, 1] rfl (kA_turn htr C E hh hi h_k)
    | 4, _ =>
      refine j_tsIn (tgt := 231) C dL_act_56 (by decide) (by decide) rfl (by decide) ?_
      exact j_lvs [4, 5, 6, 3, 2, 1] rfl (kA_turn htr C E hh hi h_k)
    | 5, _ =>
      refine j_tsIn (tgt := 334) C dL_act_56 (by decide) (by decide) rfl (by decide) ?_
      exact j_lvs [4, 5, 6, 3, 2, 1] rfl (kA_open htr C E hh hi h_k)
    | 6, _ =>
      refine j_tsIn (tgt := 334) C dL_act_56 (by decide) (by decide) rfl (by decide) ?_
      exact j_lvs [4, 5, 6, 3, 2, 1] rfl (kA_open htr C E hh hi h_k)
    | 7, _ =>
      refine j_tsIn (tgt := 493) C dL_act_56 (by decide) (by decide) rfl (by decide) ?_
      exact j_lvs [4, 5, 6, 3, 2, 1] rfl (kA_shut htr C E hh hi h_k)
    | 8, _ =>
      refine j_tsIn (tgt := 493) C dL_act_56 (by decide) (by decide) rfl (by decide) ?_
      exact j_lvs [4, 5, 6, 3, 2, 1] rfl (kA_shut htr C E hh hi h_k)
    | 9, _ =>
      refine j_tsIn (tgt := 535) C dL_act_56 (by decide) (by decide) rfl (by decide) ?_
      exact j_lvs [4, 5, 6, 3, 2, 1] rfl (kA_rename htr C E hh hi h_k)
    | 10, _ =>
      refine j_tsIn (tgt := 607) C dL_act_56 (by decide) (by decide) rfl (by decide) ?_
      exact j_lvs [4, 5, 6, 3, 2, 1] rfl (kA_lose htr C E hh hi h_k)
    | 11, _ =>
      refine j_tsIn (tgt := 662) C dL_act_56 (by decide) (by decide) rfl (by decide) ?_
      exact j_lvs [4, 5, 6, 3, 0] rfl (kA_places htr C E hh hi h_rr)
    | 12, _ =>
      refine j_tsIn (tgt := 756) C dL_act_56 (by decide) (by decide) rfl (by decide) ?_
      exact j_lvs [4, 5, 6, 3, 0] rfl (kA_hours htr C E hh hi h_rr)
    | 13, _ =>
      refine j_tsIn (tgt := 756) C dL_act_56 (by decide) (by decide) rfl (by decide) ?_
      exact j_lvs [4, 5, 6, 3, 0] rfl (kA_hours htr C E hh hi h_rr)
    | 14, _ =>
      refine j_tsOut (tgt := 859) C dL_act_56 (Or.inr (by decide)) (by decide) ?_
      exact j_lvs [4, 5, 6, 3, 2, 1, 0] rfl (kA_put htr C E hh hi h_k h_rr)
    | 15, _ =>
      refine j_tsOut (tgt := 859) C dL_act_56 (Or.inr (by decide)) (by decide) ?_
      exact j_lvs [4, 5, 6, 3, 2, 1, 0] rfl (kA_put htr C E hh hi h_k h_rr)
    | 16, _ =>
      refine j_tsOut (tgt := 859) C dL_act_56 (Or.inr (by decide)) (by decide) ?_
      exact j_lvs [4, 5, 6, 3, 2, 1, 0] rfl (kA_put htr C E hh hi h_k h_rr)
    | 17, _ =>
      refine j_tsOut (tgt := 859) C dL_act_56 (Or.inr (by decide)) (by decide) ?_
      exact j_lvs [4, 5, 6, 3, 2, 1, 0] rfl (kA_put htr C E hh hi h_k h_rr)
    | 18, _ =>
      refine j_tsOut (tgt := 859) C dL_act_56 (Or.inr (by decide)) (by decide) ?_
      exact j_lvs [4, 5, 6, 3, 2, 1, 0] rfl (kA_put htr C E hh hi h_k h_rr)
    | 19, _ =>
      refine j_tsOut (tgt := 859) C dL_act_56 (Or.inr (by decide)) (by decide) ?_
      exact j_lvs [4, 5, 6, 3, 2, 1, 0] rfl (kA_put htr C E hh hi h_k h_rr)
    | v + 20, hq => exact absurd hq (by omega)
  · have hz : sN σ = 0 := Nat.eq_zero_of_not_pos (fun z => nI_ne0 z (by omega) c7)
    refine j_iconst (v := nI 0) C dL_act_10 (by decide) ?_
    refine j_goto C 19 dL_act_11 (by decide) ?_
    refine j_istore (lv' := [(4, .int _), (3, .int _), (0, .ref _), (1, .ref _), (2, .int _)]) C dL_act_19 (by decide) rfl ?_
    refine j_iload_n (i := 3) C dL_act_21 rfl 1 rfl ?_
    refine j_if_ne C 29 dL_act_22 (by decide) (fun c22 => by exact absurd c7 c22) (fun c22 => ?_)
    refine j_null C dL_act_25 ?_
    refine j_goto C 36 dL_act_26 (by decide) ?_
    refine j_astoreN (lv' := [(5, .null), (4, .int _), (3, .int _), (0, .ref _), (1, .ref _), (2, .int _)]) C dL_act_36 (by decide) rfl ?_
    refine j_iload_n (i := 2) C dL_act_38 rfl 5 rfl ?_
    refine j_iconst (v := nI 2) C dL_act_39 (by decide) ?_
    refine j_ishr C dL_act_40 (fun z40 => ?_)
    refine j_iconst (v := nI 3) C dL_act_41 (by decide) ?_
    refine j_callS (nargs := 2) (As := [_, _]) C gw475 gw476 gw20 (kL_below l D ct sa _ _ _ 3 rfl (by decide) (by decide)) gw477 (by decide +kernel) rfl dL_act_42 ⟨Nat.le_of_ble_eq_true rfl, Nat.le_of_ble_eq_true rfl⟩ ⟨Nat.le_of_ble_eq_true rfl, Nat.le_of_ble_eq_true rfl⟩ (Nat.le_of_ble_eq_true rfl) (fun r w hk => ?_)
    obtain ⟨rr, h_rr, rfl, rfl⟩ := hk
    refine j_st (st1 := .int (nI rr) :: _) rfl ?_
    refine j_istore (lv' := [(6, .int _), (5, .null), (4, .int _), (3, .int _), (0, .ref _), (1, .ref _), (2, .int _)]) C dL_act_45 (by decide) rfl ?_
    refine j_iload_n (i := 2) C dL_act_47 rfl 6 rfl ?_
    refine j_bipush (v := nI 9) C dL_act_48 (by decide) ?_
    refine j_ishr C dL_act_50 (fun z50 => ?_)
    refine j_bipush (v := nI 20) C dL_act_51 (by decide) ?_
    refine j_callS (nargs := 2) (As := [_, _]) C gw475 gw476 gw20 (kL_below l D ct sa _ _ _ 20 rfl (by decide) (by decide)) gw477 (by decide +kernel) rfl dL_act_53 ⟨Nat.le_of_ble_eq_true rfl, Nat.le_of_ble_eq_true rfl⟩ ⟨Nat.le_of_ble_eq_true rfl, Nat.le_of_ble_eq_true rfl⟩ (Nat.le_of_ble_eq_true rfl) (fun r w hk => ?_)
    obtain ⟨sw, h_sw, rfl, rfl⟩ := hk
    refine j_st (st1 := .int (nI sw) :: _) rfl ?_
    match sw, h_sw with
    | 0, _ =>
      refine j_tsIn (tgt := 128) C dL_act_56 (by decide) (by decide) rfl (by decide) ?_
      exact j_lvs [4, 5, 6, 3] rfl (kA_lock htr C E hh hi )
    | 1, _ =>
      refine j_tsIn (tgt := 128) C dL_act_56 (by decide) (by decide) rfl (by decide) ?_
      exact j_lvs [4, 5, 6, 3] rfl (kA_lock htr C E hh hi )
    | 2, _ =>
      refine j_tsIn (tgt := 231) C dL_act_56 (by decide) (by decide) rfl (by decide) ?_
      refine j_iload_n (i := 3) C dL_act_231 rfl 3 rfl ?_
      refine j_if_ne C 237 dL_act_232 (by decide) (fun c232 => by exact absurd (by rw [hz]; rfl) c232) (fun c232 => ?_)
      refine j_iconst (v := nI 1) C dL_act_235 (by decide) ?_
      exact j_ireturn C E (by first | exact nr_b | rfl) dL_act_236 (Nat.le_of_ble_eq_true rfl) (Nat.le_of_ble_eq_true rfl) (⟨sd, ad, mcn, σ, rfl, hi, rfl, rfl, rfl⟩)
    | 3, _ =>
      refine j_tsIn (tgt := 231) C dL_act_56 (by decide) (by decide) rfl (by decide) ?_
      refine j_iload_n (i := 3) C dL_act_231 rfl 3 rfl ?_
      refine j_if_ne C 237 dL_act_232 (by decide) (fun c232 => by exact absurd (by rw [hz]; rfl) c232) (fun c232 => ?_)
      refine j_iconst (v := nI 1) C dL_act_235 (by decide) ?_
      exact j_ireturn C E (by first | exact nr_b | rfl) dL_act_236 (Nat.le_of_ble_eq_true rfl) (Nat.le_of_ble_eq_true rfl) (⟨sd, ad, mcn, σ, rfl, hi, rfl, rfl, rfl⟩)
    | 4, _ =>
      refine j_tsIn (tgt := 231) C dL_act_56 (by decide) (by decide) rfl (by decide) ?_
      refine j_iload_n (i := 3) C dL_act_231 rfl 3 rfl ?_
      refine j_if_ne C 237 dL_act_232 (by decide) (fun c232 => by exact absurd (by rw [hz]; rfl) c232) (fun c232 => ?_)
      refine j_iconst (v := nI 1) C dL_act_235 (by decide) ?_
      exact j_ireturn C E (by first | exact nr_b | rfl) dL_act_236 (Nat.le_of_ble_eq_true rfl) (Nat.le_of_ble_eq_true rfl) (⟨sd, ad, mcn, σ, rfl, hi, rfl, rfl, rfl⟩)
    | 5, _ =>
      refine j_tsIn (tgt := 334) C dL_act_56 (by decide) (by decide) rfl (by decide) ?_
      refine j_iload_n (i := 3) C dL_act_334 rfl 3 rfl ?_
      refine j_if_ne C 340 dL_act_335 (by decide) (fun c335 => by exact absurd (by rw [hz]; rfl) c335) (fun c335 => ?_)
      refine j_iconst (v := nI 1) C dL_act_338 (by decide) ?_
      exact j_ireturn C E (by first | exact nr_b | rfl) dL_act_339 (Nat.le_of_ble_eq_true rfl) (Nat.le_of_ble_eq_true rfl) (⟨sd, ad, mcn, σ, rfl, hi, rfl, rfl, rfl⟩)
    | 6, _ =>
      refine j_tsIn (tgt := 334) C dL_act_56 (by decide) (by decide) rfl (by decide) ?_
      refine j_iload_n (i := 3) C dL_act_334 rfl 3 rfl ?_
      refine j_if_ne C 340 dL_act_335 (by decide) (fun c335 => by exact absurd (by rw [hz]; rfl) c335) (fun c335 => ?_)
      refine j_iconst (v := nI 1) C dL_act_338 (by decide) ?_
      exact j_ireturn C E (by first | exact nr_b | rfl) dL_act_339 (Nat.le_of_ble_eq_true rfl) (Nat.le_of_ble_eq_true rfl) (⟨sd, ad, mcn, σ, rfl, hi, rfl, rfl, rfl⟩)
    | 7, _ =>
      refine j_tsIn (tgt := 493) C dL_act_56 (by decide) (by decide) rfl (by decide) ?_
      refine j_iload_n (i := 3) C dL_act_493 rfl 3 rfl ?_
      refine j_if_eq C 505 dL_act_494 (by decide) (fun c494 => ?_) (fun c494 => by exact absurd (by rw [hz]; rfl) c494)
      refine j_iconst (v := nI 1) C dL_act_505 (by decide) ?_
      exact j_ireturn C E (by first | exact nr_b | rfl) dL_act_506 (Nat.le_of_ble_eq_true rfl) (Nat.le_of_ble_eq_true rfl) (⟨sd, ad, mcn, σ, rfl, hi, rfl, rfl, rfl⟩)
    | 8, _ =>
      refine j_tsIn (tgt := 493) C dL_act_56 (by decide) (by decide) rfl (by decide) ?_
      refine j_iload_n (i := 3) C dL_act_493 rfl 3 rfl ?_
      refine j_if_eq C 505 dL_act_494 (by decide) (fun c494 => ?_) (fun c494 => by exact absurd (by rw [hz]; rfl) c494)
      refine j_iconst (v := nI 1) C dL_act_505 (by decide) ?_
      exact j_ireturn C E (by first | exact nr_b | rfl) dL_act_506 (Nat.le_of_ble_eq_true rfl) (Nat.le_of_ble_eq_true rfl) (⟨sd, ad, mcn, σ, rfl, hi, rfl, rfl, rfl⟩)
    | 9, _ =>
      refine j_tsIn (tgt := 535) C dL_act_56 (by decide) (by decide) rfl (by decide) ?_
      refine j_iload_n (i := 3) C dL_act_535 rfl 3 rfl ?_
      refine j_if_eq C 547 dL_act_536 (by decide) (fun c536 => ?_) (fun c536 => by exact absurd (by rw [hz]; rfl) c536)
      refine j_iconst (v := nI 1) C dL_act_547 (by decide) ?_
      exact j_ireturn C E (by first | exact nr_b | rfl) dL_act_548 (Nat.le_of_ble_eq_true rfl) (Nat.le_of_ble_eq_true rfl) (⟨sd, ad, mcn, σ, rfl, hi, rfl, rfl, rfl⟩)
    | 10, _ =>
      refine j_tsIn (tgt := 607) C dL_act_56 (by decide) (by decide) rfl (by decide) ?_
      refine j_iload_n (i := 3) C dL_act_607 rfl 3 rfl ?_
      refine j_if_ne C 613 dL_act_608 (by decide) (fun c608 => by exact absurd (by rw [hz]; rfl) c608) (fun c608 => ?_)
      refine j_iconst (v := nI 1) C dL_act_611 (by decide) ?_
      exact j_ireturn C E (by first | exact nr_b | rfl) dL_act_612 (Nat.le_of_ble_eq_true rfl) (Nat.le_of_ble_eq_true rfl) (⟨sd, ad, mcn, σ, rfl, hi, rfl, rfl, rfl⟩)
    | 11, _ =>
      refine j_tsIn (tgt := 662) C dL_act_56 (by decide) (by decide) rfl (by decide) ?_
      exact j_lvs [4, 5, 6, 3, 0] rfl (kA_places htr C E hh hi h_rr)
    | 12, _ =>
      refine j_tsIn (tgt := 756) C dL_act_56 (by decide) (by decide) rfl (by decide) ?_
      exact j_lvs [4, 5, 6, 3, 0] rfl (kA_hours htr C E hh hi h_rr)
    | 13, _ =>
      refine j_tsIn (tgt := 756) C dL_act_56 (by decide) (by decide) rfl (by decide) ?_
      exact j_lvs [4, 5, 6, 3, 0] rfl (kA_hours htr C E hh hi h_rr)
    | 14, _ =>
      refine j_tsOut (tgt := 859) C dL_act_56 (Or.inr (by decide)) (by decide) ?_
      refine j_iload_n (i := 3) C dL_act_859 rfl 3 rfl ?_
      refine j_if_ne C 865 dL_act_860 (by decide) (fun c860 => by exact absurd (by rw [hz]; rfl) c860) (fun c860 => ?_)
      refine j_iconst (v := nI 1) C dL_act_863 (by decide) ?_
      exact j_ireturn C E (by first | exact nr_b | rfl) dL_act_864 (Nat.le_of_ble_eq_true rfl) (Nat.le_of_ble_eq_true rfl) (⟨sd, ad, mcn, σ, rfl, hi, rfl, rfl, rfl⟩)
    | 15, _ =>
      refine j_tsOut (tgt := 859) C dL_act_56 (Or.inr (by decide)) (by decide) ?_
      refine j_iload_n (i := 3) C dL_act_859 rfl 3 rfl ?_
      refine j_if_ne C 865 dL_act_860 (by decide) (fun c860 => by exact absurd (by rw [hz]; rfl) c860) (fun c860 => ?_)
      refine j_iconst (v := nI 1) C dL_act_863 (by decide) ?_
      exact j_ireturn C E (by first | exact nr_b | rfl) dL_act_864 (Nat.le_of_ble_eq_true rfl) (Nat.le_of_ble_eq_true rfl) (⟨sd, ad, mcn, σ, rfl, hi, rfl, rfl, rfl⟩)
    | 16, _ =>
      refine j_tsOut (tgt := 859) C dL_act_56 (Or.inr (by decide)) (by decide) ?_
      refine j_iload_n (i := 3) C dL_act_859 rfl 3 rfl ?_
      refine j_if_ne C 865 dL_act_860 (by decide) (fun c860 => by exact absurd (by rw [hz]; rfl) c860) (fun c860 => ?_)
      refine j_iconst (v := nI 1) C dL_act_863 (by decide) ?_
      exact j_ireturn C E (by first | exact nr_b | rfl) dL_act_864 (Nat.le_of_ble_eq_true rfl) (Nat.le_of_ble_eq_true rfl) (⟨sd, ad, mcn, σ, rfl, hi, rfl, rfl, rfl⟩)
    | 17, _ =>
      refine j_tsOut (tgt := 859) C dL_act_56 (Or.inr (by decide)) (by decide) ?_
      refine j_iload_n (i := 3) C dL_act_859 rfl 3 rfl ?_
      refine j_if_ne C 865 dL_act_860 (by decide) (fun c860 => by exact absurd (by rw [hz]; rfl) c860) (fun c860 => ?_)
      refine j_iconst (v := nI 1) C dL_act_863 (by decide) ?_
      exact j_ireturn C E (by first | exact nr_b | rfl) dL_act_864 (Nat.le_of_ble_eq_true rfl) (Nat.le_of_ble_eq_true rfl) (⟨sd, ad, mcn, σ, rfl, hi, rfl, rfl, rfl⟩)
    | 18, _ =>
      refine j_tsOut (tgt := 859) C dL_act_56 (Or.inr (by decide)) (by decide) ?_
      refine j_iload_n (i := 3) C dL_act_859 rfl 3 rfl ?_
      refine j_if_ne C 865 dL_act_860 (by decide) (fun c860 => by exact absurd (by rw [hz]; rfl) c860) (fun c860 => ?_)
      refine j_iconst (v := nI 1) C dL_act_863 (by decide) ?_
      exact j_ireturn C E (by first | exact nr_b | rfl) dL_act_864 (Nat.le_of_ble_eq_true rfl) (Nat.le_of_ble_eq_true rfl) (⟨sd, ad, mcn, σ, rfl, hi, rfl, rfl, rfl⟩)
    | 19, _ =>
      refine j_tsOut (tgt := 859) C dL_act_56 (Or.inr (by decide)) (by decide) ?_
      refine j_iload_n (i := 3) C dL_act_859 rfl 3 rfl ?_
      refine j_if_ne C 865 dL_act_860 (by decide) (fun c860 => by exact absurd (by rw [hz]; rfl) c860) (fun c860 => ?_)
      refine j_iconst (v := nI 1) C dL_act_863 (by decide) ?_
      exact j_ireturn C E (by first | exact nr_b | rfl) dL_act_864 (Nat.le_of_ble_eq_true rfl) (Nat.le_of_ble_eq_true rfl) (⟨sd, ad, mcn, σ, rfl, hi, rfl, rfl, rfl⟩)
    | v + 20, hq => exact absurd hq (by omega)
abbrev RB : Room := rM 9 860 5100 200
abbrev kBc (ct : Nat → ClassId) (sa : Nat → Nat) (a0 : Nat) (φ : LD) : Option Value → va_W → Prop := fun r w => ∃ (sd' ad' : Nat → Nat) (mcn' : Int32) (σ' : St) (h : Nat), r = some (.ref (sd' 0)) ∧ h ≤ 40 ∧ InvL h σ' ∧ ad' 0 = a0 ∧ w = SWs ct sd' σ' ++ WX ct sa ad' mcn' φ σ'
theorem ps_v {σ : St} : f_pass σ (nI 1) = (nI 0, hrC σ, hrS σ) := by
  rw [f_pass, if_pos ⟨by decide, by decide⟩, show ix (nI 1) = 1 from ixk (by decide)]
  show (nI 0, nI 0 + hrC σ, hrS σ) = _
  rw [show nI 0 + hrC σ = hrC σ from Int32.zero_add _]
abbrev sd0 (l : List Nat) : Nat → Nat := fun i => l.getD i 0
theorem il_0 : InvL 0 σ00 := ⟨inv1_0, rfl, fun r hr => by
  match r, hr with
  | 0, _ => exact ⟨by decide, by decide, by decide, by decide⟩
  | 1, _ => exact ⟨by decide, by decide, by decide, by decide⟩
  | 2, _ => exact ⟨by decide, by decide, by decide, by decide⟩⟩
theorem r0_e (r : Nat) (hr : r < 3) : upd (upd (upd (fun _ => nI 0) 0 (nI 4)) 1 (nI 0)) 2 (nI 24) = rkr (sK σ00) r := by
  funext i
  show _ = if i < 3 then K0F (3 * r + i) else nI 0
  by_cases c : i < 3
  · rw [if_pos c]
    match r, hr, i, c with
    | 0, _, 0, _ => rfl
    | 0, _, 1, _ => rfl
    | 0, _, 2, _ => rfl
    | 1, _, 0, _ => rfl
    | 1, _, 1, _ => rfl
    | 1, _, 2, _ => rfl
    | 2, _, 0, _ => rfl
    | 2, _, 1, _ => rfl
    | 2, _, 2, _ => rfl
  · rw [if_neg c, pk_un (by omega), pk_un (by omega), pk_un (by omega)]
theorem sd0_w {ct : Nat → ClassId} (s q1 q2 r0 r1 r2 : Nat) : (s, (Sum.inr (6, [Value.int (nI 0), .int (nI 0), .ref q1, .ref q2]) : va_E)) :: (arR (ct 4) q1 0 (fun _ => none) :: arR (ct 3) q2 3 (va_up (va_up (va_up (fun _ => none) 0 (some r0)) 1 (some r1)) 2 (some r2)) :: arI ct r0 3 (upd (upd (upd (fun _ => nI 0) 0 (nI 4)) 1 (nI 0)) 2 (nI 24)) :: arI ct r1 3 (upd (upd (upd (fun _ => nI 0) 0 (nI 4)) 1 (nI 0)) 2 (nI 24)) :: arI ct r2 3 (upd (upd (upd (fun _ => nI 0) 0 (nI 4)) 1 (nI 0)) 2 (nI 24)) :: []) = SWs ct (sd0 [s, q1, q2, r0, r1, r2]) σ00 := by
  have e1 : (fun _ => none) = rfs 0 (fun i => sd0 [s, q1, q2, r0, r1, r2] (10 + 8 * i)) := rfs_0
  have e3 : va_up (va_up (va_up (fun _ => none) 0 (some r0)) 1 (some r1)) 2 (some r2) = rfs 3 (fun i => sd0 [s, q1, q2, r0, r1, r2] (3 + i)) := by
    funext i
    match i with
    | 0 => rfl
    | 1 => rfl
    | 2 => rfl
    | n + 3 => exact (if_neg (by omega)).symm
  show _ = [(s, .inr (6, [.int (nI 0), .int (nI 0), .ref q1, .ref q2])), arR (ct 4) q1 0 (rfs 0 (fun i => sd0 [s, q1, q2, r0, r1, r2] (10 + 8 * i))), arR (ct 3) q2 3 (rfs 3 (fun i => sd0 [s, q1, q2, r0, r1, r2] (3 + i))), arI ct r0 3 (rkr (sK σ00) 0), arI ct r1 3 (rkr (sK σ00) 1), arI ct r2 3 (rkr (sK σ00) 2)] ++ []
  rw [← r0_e 0 (by decide), ← r0_e 1 (by decide), ← r0_e 2 (by decide), ← e1, ← e3]
  rfl
set_option maxRecDepth 100000 in
set_option maxHeartbeats 1000000 in
theorem kB_loop {X : Ctx} {l : Launch} {D : va_G} {ct : Nat → ClassId} {sa : Nat → Nat} (htr : l.stackTraces = false) (C : jC X l D ct sa cL_build 4 RL RB) {ws0 : va_W} {a0 : Nat} {φ : LD} (E : jE X ws0 (kBc ct sa a0 φ) (fun _ => False) 860 5100 (Option.some (Jvm.ClassFile.FieldType.object "LetterLocksLaw$Sim"))) : ∀ (d k s0 : Nat) (sd ad : Nat → Nat) (mcn : Int32) (σ : St) (h : Nat), k + d = 40 → InvL h σ → h ≤ k → sd 0 = s0 → ad 0 = a0 → J X (SWs ct sd σ ++ WX ct sa ad mcn φ σ) (6 + 21 * k) (16 + 126 * k) 10 [(0, .ref a0), (1, .ref (scB sa)), (2, .ref s0), (3, .int (nI k))] [] := by
  intro d
  induction d with
  | zero =>
    intro k s0 sd ad mcn σ h hd hi hh hs ha
    have hk : k = 40 := by omega
    subst hk
    subst hs
    subst ha
    refine j_iload_n (i := 3) C dL_build_10 rfl 3 rfl ?_
    refine j_bipush (v := nI 40) C dL_build_11 (by decide) ?_
    refine j_icmp_ge C 97 dL_build_13 (by decide) (fun c13 => ?_) (fun c13 => by first | exact absurd c13 (by decide) | exact absurd c13 (nI_ge (by omega) (by omega)) | exact absurd (nI_le (by omega) (by omega)) c13 | exact absurd c13 (nI_nlt (by omega) (by omega)) | exact absurd (nI_lt (by omega) (by omega)) c13 | exact absurd c13 (nI_nle0 (by omega) (by omega)))
    refine j_aload_n (i := 2) C dL_build_97 rfl 2 rfl ?_
    exact j_areturn C E (Or.inl ⟨_, rfl⟩) dL_build_98 (Nat.le_of_ble_eq_true rfl) (Nat.le_of_ble_eq_true rfl) (⟨sd, ad, mcn, σ, h, rfl, by omega, hi, rfl, rfl⟩)
  | succ d ih =>
    intro k s0 sd ad mcn σ h hd hi hh hs ha
    have h8 := hi.1.1.1
    subst hs
    subst ha
    refine j_iload_n (i := 3) C dL_build_10 rfl 3 rfl ?_
    refine j_bipush (v := nI 40) C dL_build_11 (by decide) ?_
    refine j_icmp_ge C 97 dL_build_13 (by decide) (fun c13 => by first | exact absurd c13 (by decide) | exact absurd c13 (nI_ge (by omega) (by omega)) | exact absurd (nI_le (by omega) (by omega)) c13 | exact absurd c13 (nI_nlt (by omega) (by omega)) | exact absurd (nI_lt (by omega) (by omega)) c13 | exact absurd c13 (nI_nle0 (by omega) (by omega))) (fun c13 => ?_)
    refine j_aload_n (i := 0) C dL_build_16 rfl 0 rfl ?_
    refine j_aload_n (i := 2) C dL_build_17 rfl 2 rfl ?_
    refine j_aload_n (i := 1) C dL_build_18 rfl 1 rfl ?_
    refine j_iload_n (i := 3) C dL_build_19 rfl 3 rfl ?_
    refine j_bipush (v := nI 16) C dL_build_20 (by decide) ?_
    refine j_irem C dL_build_22 (by decide) ?_
    refine j_st (st1 := .int (nI (k % 16)) :: _) (congrArg (fun z => Value.int z :: _) (pk_rem (by omega) (by decide) (by decide))) ?_
    refine j_callS (nargs := 2) (As := [_, _]) C gw479 gw480 gw20 (kL_cell l D ct sa _ _ (k % 16) rfl (by omega)) gw481 (by decide +kernel) rfl dL_build_23 ⟨Nat.le_of_ble_eq_true rfl, Nat.le_of_ble_eq_true rfl⟩ ⟨by show 6 + 21 * k + 0 ≤ 860; omega, by show 16 + 126 * k + 0 ≤ 5100; omega⟩ (Nat.le_of_ble_eq_true rfl) (fun r w hk => ?_)
    obtain ⟨v, rfl, rfl⟩ := hk
    refine j_st (st1 := .int v :: _) rfl ?_
    refine j_iload_n (i := 3) C dL_build_26 rfl 3 rfl ?_
    refine j_bipush (v := nI 16) C dL_build_27 (by decide) ?_
    refine j_idiv C dL_build_29 (by decide) ?_
    refine j_iconst (v := nI 4) C dL_build_30 (by decide) ?_
    refine j_imul C dL_build_31 ?_
    refine j_ishr C dL_build_32 (fun z32 => ?_)
    refine j_sipush (v := nI 313) C dL_build_33 (by decide) ?_
    refine j_iload_n (i := 3) C dL_build_36 rfl 3 rfl ?_
    refine j_imul C dL_build_37 ?_
    refine j_iadd C dL_build_38 ?_
    refine jn_e 56 (if nI 6 ≤ nI k then nI 0 else nI 512 * (nI k - nI k / nI 2 * nI 2)) (fun kk => ?_) ?_
    · refine j_iload_n (i := 3) C dL_build_39 rfl 3 rfl ?_
      refine j_bipush (v := nI 6) C dL_build_40 (by decide) ?_
      refine j_icmp_ge C 55 dL_build_42 (by decide) (fun c42 => ?_) (fun c42 => ?_)
      · refine j_iconst (v := nI 0) C dL_build_55 (by decide) ?_
        exact j_st (st1 := .int (if nI 6 ≤ nI k then nI 0 else nI 512 * (nI k - nI k / nI 2 * nI 2)) :: _) (congrArg (fun z => Value.int z :: _) (by first | exact (if_pos c42).symm | exact (if_neg c42).symm)) kk
      · refine j_sipush (v := nI 512) C dL_build_45 (by decide) ?_
        refine j_iload_n (i := 3) C dL_build_48 rfl 3 rfl ?_
        refine j_iconst (v := nI 2) C dL_build_49 (by decide) ?_
        refine j_irem C dL_build_50 (by decide) ?_
        refine j_imul C dL_build_51 ?_
        refine j_goto C 56 dL_build_52 (by decide) ?_
        exact j_st (st1 := .int (if nI 6 ≤ nI k then nI 0 else nI 512 * (nI k - nI k / nI 2 * nI 2)) :: _) (congrArg (fun z => Value.int z :: _) (by first | exact (if_pos c42).symm | exact (if_neg c42).symm)) kk
    · refine j_iadd C dL_build_56 ?_
      refine j_callS (nargs := 3) (As := [_, _, _]) C gw484 gw485 gw20 (kL_act l htr D ct sa sd ad mcn φ σ _ h hi (by omega)) gw486 (by decide +kernel) rfl dL_build_57 ⟨Nat.le_of_ble_eq_true rfl, Nat.le_of_ble_eq_true rfl⟩ ⟨by show 6 + 21 * k + 20 ≤ 860; omega, by show 16 + 126 * k + 120 ≤ 5100; omega⟩ (Nat.le_of_ble_eq_true rfl) (fun r w hk => ?_)
      obtain ⟨sd2, ad2, mcn2, σ2, rfl, hi2, hs2, ha2, rfl⟩ := hk
      refine j_st (st1 := .int (nI 1) :: []) rfl ?_
      rw [← hs2, ← ha2]
      refine j_if_ne C 65 dL_build_60 (by decide) (fun c60 => ?_) (fun c60 => by exact absurd c60 (by decide))
      refine j_iload_n (i := 3) C dL_build_65 rfl 3 rfl ?_
      refine j_bipush (v := nI 9) C dL_build_66 (by decide) ?_
      refine j_icmp_le C 91 dL_build_68 (by decide) (fun c68 => ?_) (fun c68 => ?_)
      · refine j_iinc (v := nI (k + 1)) (z := 3) (lv' := [(3, .int _), (0, .ref _), (1, .ref _), (2, .ref _)]) C dL_build_91 rfl (nI_1 k) (by decide) rfl ?_
        refine j_goto C 10 dL_build_94 (by decide) ?_
        exact j_lvs [1, 2, 3, 0] rfl (by rw [ha2]; exact j_widen (k1 := 6 + 21 * (k + 1)) (n1 := 16 + 126 * (k + 1)) (by omega) (by omega) (ih (k + 1) _ sd2 ad2 mcn2 σ2 h (by omega) hi2 (by omega) rfl ha2))
      · refine j_iload_n (i := 3) C dL_build_71 rfl 3 rfl ?_
        refine j_iconst (v := nI 3) C dL_build_72 (by decide) ?_
        refine j_irem C dL_build_73 (by decide) ?_
        refine j_if_ne C 91 dL_build_74 (by decide) (fun c74 => ?_) (fun c74 => ?_)
        · refine j_iinc (v := nI (k + 1)) (z := 3) (lv' := [(3, .int _), (0, .ref _), (1, .ref _), (2, .ref _)]) C dL_build_91 rfl (nI_1 k) (by decide) rfl ?_
          refine j_goto C 10 dL_build_94 (by decide) ?_
          exact j_lvs [1, 2, 3, 0] rfl (by rw [ha2]; exact j_widen (k1 := 6 + 21 * (k + 1)) (n1 := 16 + 126 * (k + 1)) (by omega) (by omega) (ih (k + 1) _ sd2 ad2 mcn2 σ2 h (by omega) hi2 (by omega) rfl ha2))
        · refine j_aload_n (i := 0) C dL_build_77 rfl 0 rfl ?_
          refine j_iconst (v := nI 1) C dL_build_78 (by decide) ?_
          have ef := @ps_v σ2
          refine j_sw (A := SWs ct sd2 (σ2)) (B := WX ct sa ad2 mcn2 φ (σ2)) ?_
          refine j_callVX (nargs := 1) (As := [_]) (Cn := RX3) C (0) rfl rfl rfl gw410 gw411 gw412 gw21 (kX3_pass l htr D ct sa ad2 mcn2 φ (σ2) (SWs ct sd2 (σ2)) (nI 1) hi2.1) gw413 (by decide +kernel) rfl dL_build_79 ⟨Nat.le_of_ble_eq_true rfl, Nat.le_of_ble_eq_true rfl⟩ ⟨by show 6 + 21 * k + 20 + 1 ≤ 860; omega, by show 16 + 126 * k + 120 + 6 ≤ 5100; omega⟩ (Nat.le_of_ble_eq_true rfl) (fun En hx => (kx_no hx (congrArg (fun f => f.1) ef) (by decide)).elim) (fun r w hk => ?_)
          obtain ⟨-, rfl, rfl⟩ := hk
          refine j_st (st1 := .int (hrC σ2) :: _) (by rw [ef]; rfl) ?_
          refine j_ws (ws1 := WX ct sa ad2 mcn2 φ (hrS σ2) ++ SWs ct sd2 (σ2)) (by rw [ef]) ?_
          refine j_sw (A := WX ct sa ad2 mcn2 φ (hrS σ2)) (B := SWs ct sd2 (σ2)) ?_
          refine j_aload_n (i := 2) C dL_build_82 rfl 2 rfl ?_
          refine j_callV (nargs := 0) (As := []) (Cn := RX5) C (0) rfl rfl rfl gw440 gw441 gw442 gw28 (kX5_pass l D ct sa sd2 σ2 (WX ct sa ad2 mcn2 φ (hrS σ2)) h hi2.1 hi2.2.1 (by omega) (ok_K hi2.2.2)) gw443 (by decide +kernel) rfl dL_build_83 ⟨Nat.le_of_ble_eq_true rfl, Nat.le_of_ble_eq_true rfl⟩ ⟨by show 6 + 21 * k + 20 + 1 + 0 ≤ 860; omega, by show 16 + 126 * k + 120 + 6 + 0 ≤ 5100; omega⟩ (Nat.le_of_ble_eq_true rfl) (dki ?_)
          refine j_icmp_eq C 91 dL_build_86 (by decide) (fun c86 => ?_) (fun c86 => by exact absurd rfl c86)
          refine j_iinc (v := nI (k + 1)) (z := 3) (lv' := [(3, .int _), (0, .ref _), (1, .ref _), (2, .ref _)]) C dL_build_91 rfl (nI_1 k) (by decide) rfl ?_
          refine j_goto C 10 dL_build_94 (by decide) ?_
          exact j_lvs [1, 2, 3, 0] rfl (by rw [ha2]; exact ih (k + 1) _ sd2 ad2 mcn2 (hrS σ2) (h + 1) (by omega) (il_hr hi2) (by omega) rfl ha2)
set_option maxRecDepth 100000 in
set_option maxHeartbeats 2000000 in
theorem kL_build (l : Launch) (htr : l.stackTraces = false) (D : va_G) (ct : Nat → ClassId) (sa : Nat → Nat) (ad : Nat → Nat) (mcn : Int32) (φ : LD) : jM l yL_build (Cond.code yL_build cL_build 4 (Option.some (Jvm.ClassFile.FieldType.object "LetterLocksLaw$Sim")) :: GW) (rM 9 860 5100 200) D ct sa [.ref (ad 0), .ref (scB sa)] (WX ct sa ad mcn φ σ00) (kBc ct sa (ad 0) φ) 860 5100 := by
  refine jMX.plain (jBody (own := RL) (by decide) rfl rfl (Nat.le_of_ble_eq_true rfl) ?_)
  intro X C E T0
  refine j_lv (lv1 := [(0, .ref _), (1, .ref _)]) rfl ?_
  refine j_new (Cn := RX5) (T := TX5) (N := 4) (ci := 6) (fs := [.int (nI 0), .int (nI 0), .null, .null]) C iX5 tyX5 tyX5_ok gw646 gw647 gw28 rfl (fun j hj => by match j, hj with | 0, _ => rfl | 1, _ => rfl | 2, _ => rfl | 3, _ => rfl) (Nat.le_of_ble_eq_true rfl) (Nat.le_of_ble_eq_true rfl) dL_build_0 (fun s => ?_)
  refine j_dup C dL_build_3 rfl ?_
  refine j_callIN (nargs := 0) (As := []) C nw648 gw649 gw28 rfl (kX5_init l D ct sa _ (WX ct sa ad mcn φ σ00).length s gA) gw650 (by decide +kernel) rfl dL_build_4 ⟨Nat.le_of_ble_eq_true rfl, Nat.le_of_ble_eq_true rfl⟩ ⟨Nat.le_of_ble_eq_true rfl, Nat.le_of_ble_eq_true rfl⟩ (Nat.le_of_ble_eq_true rfl) (fun r w hk => ?_)
  obtain ⟨q1, q2, r0, r1, r2, rfl, rfl⟩ := hk
  refine j_st (st1 := .ref s :: []) rfl ?_
  refine j_ws (ws1 := WX ct sa ad mcn φ σ00 ++ SWs ct (sd0 [s, q1, q2, r0, r1, r2]) σ00) (by rw [sA, List.append_assoc]; exact congrArg (fun w => WX ct sa ad mcn φ σ00 ++ w) (sd0_w s q1 q2 r0 r1 r2)) ?_
  refine j_sw ?_
  refine j_astore_n (lv' := [(2, .ref _), (0, .ref _), (1, .ref _)]) C dL_build_7 rfl (by decide) rfl ?_
  refine j_iconst (v := nI 0) C dL_build_8 (by decide) ?_
  refine j_istore_n (lv' := [(3, .int _), (2, .ref _), (0, .ref _), (1, .ref _)]) C dL_build_9 rfl (by decide) rfl ?_
  exact j_lvs [2, 3, 1, 0] rfl (kB_loop htr C E 40 0 _ (sd0 [s, q1, q2, r0, r1, r2]) ad mcn σ00 0 (by omega) il_0 (Nat.le_refl 0) rfl rfl)
