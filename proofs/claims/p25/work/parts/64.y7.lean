set_option maxRecDepth 100000 in
set_option maxHeartbeats 1000000 in
theorem law_loop {X : Ctx} {l : Launch} {D : va_G} {ct : Nat → ClassId} {sa : Nat → Nat} (htr : l.stackTraces = false) (C : jC X l D ct sa cL_law 27 RL rmL) {φ : LD} (hend : ∀ (w : va_W) (k n : Nat) (lv : List (Nat × Value)), k ≤ 718837 → n ≤ 6944958 → J X w k n 820 lv [.int (nI 1)]) : ∀ (d t : Nat) (sd ad : Nat → Nat) (mcn : Int32) (σ : St) (h : Nat), t + d = 40 → InvL h σ → h ≤ 40 + t → J X (SWs ct sd σ ++ WX ct sa ad mcn φ σ) (900 + 1130 * t) (6000 + 7200 * t) 22 [(0, .ref (scB sa)), (1, .ref (ad 0)), (2, .ref (sd 0)), (3, .int (nI t))] [] := by
  intro d
  induction d with
  | zero =>
    intro t sd ad mcn σ h hd hi hh
    have ht : t = 40 := by omega
    subst ht
    refine j_iload_n (i := 3) C dL_law_22 rfl 3 rfl ?_
    refine j_bipush (v := nI 40) C dL_law_23 (by decide) ?_
    refine j_icmp_ge C 815 dL_law_25 (by decide) (fun c25 => ?_) (fun c25 => by first | exact absurd c25 (by decide) | exact absurd c25 (nI_ge (by omega) (by omega)) | exact absurd (nI_le (by omega) (by omega)) c25 | exact absurd c25 (nI_nlt (by omega) (by omega)) | exact absurd (nI_lt (by omega) (by omega)) c25 | exact absurd c25 (nI_nle0 (by omega) (by omega)))
    refine j_aload_n (i := 2) C dL_law_815 rfl 2 rfl ?_
    refine j_aload_n (i := 1) C dL_law_816 rfl 1 rfl ?_
    refine j_callV (nargs := 1) (As := [_]) (Cn := RX5) C (0) rfl rfl rfl gw453 gw454 gw455 gw28 (kX5_isSame l htr D ct sa sd ad mcn φ σ h hi (by omega)) gw456 (by decide +kernel) rfl dL_law_817 ⟨Nat.le_of_ble_eq_true rfl, Nat.le_of_ble_eq_true rfl⟩ ⟨by show (_ : Nat) ≤ 718837; omega, by show (_ : Nat) ≤ 6944958; omega⟩ (Nat.le_of_ble_eq_true rfl) (fun r w hk => ?_)
    obtain rfl := hk
    refine j_st (st1 := .int (nI 1) :: []) rfl ?_
    exact hend _ _ _ _ (by omega) (by omega)
  | succ d ih =>
    intro t sd ad mcn σ h hd hi hh
    refine j_iload_n (i := 3) C dL_law_22 rfl 3 rfl ?_
    refine j_bipush (v := nI 40) C dL_law_23 (by decide) ?_
    refine j_icmp_ge C 815 dL_law_25 (by decide) (fun c25 => by first | exact absurd c25 (by decide) | exact absurd c25 (nI_ge (by omega) (by omega)) | exact absurd (nI_le (by omega) (by omega)) c25 | exact absurd c25 (nI_nlt (by omega) (by omega)) | exact absurd (nI_lt (by omega) (by omega)) c25 | exact absurd c25 (nI_nle0 (by omega) (by omega))) (fun c25 => ?_)
    refine j_aload_n (i := 0) C dL_law_28 rfl 0 rfl ?_
    refine j_iload_n (i := 3) C dL_law_29 rfl 3 rfl ?_
    refine j_bipush (v := nI 16) C dL_law_30 (by decide) ?_
    refine j_irem C dL_law_32 (by decide) ?_
    refine j_st (st1 := .int (nI (t % 16)) :: _) (congrArg (fun z => Value.int z :: _) (pk_rem (by omega) (by decide) (by decide))) ?_
    refine j_callS (nargs := 2) (As := [_, _]) C gw479 gw480 gw20 (kL_cell l D ct sa _ _ (t % 16) rfl (by omega)) gw481 (by decide +kernel) rfl dL_law_33 ⟨Nat.le_of_ble_eq_true rfl, Nat.le_of_ble_eq_true rfl⟩ ⟨by show (_ : Nat) ≤ 718837; omega, by show (_ : Nat) ≤ 6944958; omega⟩ (Nat.le_of_ble_eq_true rfl) (fun r w hk => ?_)
    obtain ⟨v, rfl, rfl⟩ := hk
    refine j_st (st1 := .int v :: _) rfl ?_
    refine j_iload_n (i := 3) C dL_law_36 rfl 3 rfl ?_
    refine j_bipush (v := nI 16) C dL_law_37 (by decide) ?_
    refine j_idiv C dL_law_39 (by decide) ?_
    refine j_iconst (v := nI 3) C dL_law_40 (by decide) ?_
    refine j_imul C dL_law_41 ?_
    refine j_ishr C dL_law_42 (fun z42 => ?_)
    refine j_sipush (v := nI 313) C dL_law_43 (by decide) ?_
    refine j_iload_n (i := 3) C dL_law_46 rfl 3 rfl ?_
    refine j_imul C dL_law_47 ?_
    refine j_iadd C dL_law_48 ?_
    refine j_istore (lv' := [(4, .int _), (0, .ref _), (1, .ref _), (2, .ref _), (3, .int _)]) C dL_law_49 (by decide) rfl ?_
    refine j_aload_n (i := 1) C dL_law_51 rfl 2 rfl ?_
    refine j_aload_n (i := 2) C dL_law_52 rfl 3 rfl ?_
    refine j_iload C dL_law_53 0 rfl ?_
    refine j_callS (nargs := 3) (As := [_, _, _]) C gw484 gw485 gw20 (kL_act l htr D ct sa sd ad mcn φ σ _ h hi (by omega)) gw486 (by decide +kernel) rfl dL_law_55 ⟨Nat.le_of_ble_eq_true rfl, Nat.le_of_ble_eq_true rfl⟩ ⟨by show (_ : Nat) ≤ 718837; omega, by show (_ : Nat) ≤ 6944958; omega⟩ (Nat.le_of_ble_eq_true rfl) (fun r w hk => ?_)
    obtain ⟨sd2, ad2, mcn2, σ2, rfl, hi2, hs2, ha2, rfl⟩ := hk
    refine j_st (st1 := .int (nI 1) :: []) rfl ?_
    rw [← hs2, ← ha2]
    refine j_if_ne C 63 dL_law_58 (by decide) (fun c58 => ?_) (fun c58 => by exact absurd c58 (by decide))
    refine j_lvs [1, 2, 3, 4, 0] rfl (kIt htr C hi2 (by omega) (by omega) (by omega) (by omega) (by omega) (by omega) (fun σ3 h3 hi3 hle => ?_))
    refine j_iinc (v := nI (t + 1)) (z := 3) (lv' := [(3, .int _), (0, .ref _), (1, .ref _), (2, .ref _)]) C dL_law_809 rfl (nI_1 t) (by decide) rfl ?_
    refine j_goto C 22 dL_law_812 (by decide) ?_
    exact j_lvs [1, 2, 3, 0] rfl (j_widen (k1 := 900 + 1130 * (t + 1)) (n1 := 6000 + 7200 * (t + 1)) (by omega) (by omega) (ih (t + 1) sd2 ad2 mcn2 σ3 h3 (by omega) hi3 (by omega)))
set_option maxRecDepth 100000 in
set_option maxHeartbeats 1000000 in
theorem law_body {X : Ctx} {l : Launch} {D : va_G} {ct : Nat → ClassId} {sa : Nat → Nat} (htr : l.stackTraces = false) (C : jC X l D ct sa cL_law 27 RL rmL) (hend : ∀ (w : va_W) (k n : Nat) (lv : List (Nat × Value)), k ≤ 718837 → n ≤ 6944958 → J X w k n 820 lv [.int (nI 1)]) : J X [] 0 0 0 [(0, .ref (scB sa))] [] := by
  refine j_new (Cn := RX3) (T := TX3) (N := 6) (ci := 4) (fs := [.null, .null, .null, .null, .int (nI 0), .int (nI 0)]) C iX3 tyX3 tyX3_ok gw42 gw43 gw21 rfl (fun j hj => by match j, hj with | 0, _ => rfl | 1, _ => rfl | 2, _ => rfl | 3, _ => rfl | 4, _ => rfl | 5, _ => rfl) (Nat.le_of_ble_eq_true rfl) (Nat.le_of_ble_eq_true rfl) dL_law_0 (fun hx1 => ?_)
  refine j_dup C dL_law_3 rfl ?_
  refine j_callI (nargs := 0) (As := []) C gw44 gw45 gw21 rfl (kX3_init l D ct sa [] hx1) gw46 (by decide +kernel) rfl dL_law_4 ⟨Nat.le_of_ble_eq_true rfl, Nat.le_of_ble_eq_true rfl⟩ ⟨Nat.le_of_ble_eq_true rfl, Nat.le_of_ble_eq_true rfl⟩ (Nat.le_of_ble_eq_true rfl) (fun r w hk => ?_)
  obtain ⟨ad, ha, rfl, rfl⟩ := hk
  subst ha
  refine j_st (st1 := .ref (ad 0) :: []) rfl ?_
  refine j_ws (ws1 := WX ct sa ad (nI 0) φ00 σ00) rfl ?_
  refine j_astore_n (lv' := [(1, .ref _), (0, .ref _)]) C dL_law_7 rfl (by decide) rfl ?_
  refine j_aload_n (i := 1) C dL_law_8 rfl 0 rfl ?_
  refine j_aload_n (i := 0) C dL_law_9 rfl 1 rfl ?_
  refine j_callS (nargs := 2) (As := [_, _]) C gw643 gw644 gw20 (kL_build l htr D ct sa ad (nI 0) φ00) gw645 (by decide +kernel) rfl dL_law_10 ⟨Nat.le_of_ble_eq_true rfl, Nat.le_of_ble_eq_true rfl⟩ ⟨Nat.le_of_ble_eq_true rfl, Nat.le_of_ble_eq_true rfl⟩ (Nat.le_of_ble_eq_true rfl) (fun r w hk => ?_)
  obtain ⟨sd2, ad2, mcn2, σ2, h2, rfl, hle, hi2, ha2, rfl⟩ := hk
  refine j_st (st1 := .ref (sd2 0) :: []) rfl ?_
  rw [← ha2]
  refine j_astore_n (lv' := [(2, .ref _), (1, .ref _), (0, .ref _)]) C dL_law_13 rfl (by decide) rfl ?_
  refine j_aload_n (i := 2) C dL_law_14 rfl 0 rfl ?_
  refine j_ifnn C 20 dL_law_15 (by decide) ?_
  refine j_iconst (v := nI 0) C dL_law_20 (by decide) ?_
  refine j_istore_n (lv' := [(3, .int _), (2, .ref _), (1, .ref _), (0, .ref _)]) C dL_law_21 rfl (by decide) rfl ?_
  exact j_lvs [3, 2, 1, 0] rfl (j_widen (by omega) (by omega) (law_loop htr C hend 40 0 sd2 ad2 mcn2 σ2 h2 (by omega) hi2 (by omega)))
