theorem lp_out {L t : Nat} (h : L < 4 * t + 4) (hL : L ≤ 2048 ∧ 4 * t ≤ L) : nI L - nI 4 < nI (4 * t) := by
  rw [Int32.lt_iff_toInt_lt, pk_sub_toInt (by omega) (by omega), nI_toInt (by omega)]
  omega
theorem lp_in {L t : Nat} (h : 4 * t + 4 ≤ L) (hL : L ≤ 2048) : ¬ nI L - nI 4 < nI (4 * t) := by
  rw [Int32.lt_iff_toInt_lt, pk_sub_toInt (by omega) (by omega), nI_toInt (by omega)]
  omega
theorem sw_b0 {A R : va_W} {x : Nat × va_E} : (A ++ [x]) ++ R = A ++ (x :: R) := by simp only [List.append_assoc, List.cons_append, List.nil_append]
set_option maxRecDepth 100000 in
set_option maxHeartbeats 800000 in
theorem law_loop {X : Ctx} {l : Launch} {D : va_G} {ct : Nat → ClassId} {sa : Nat → Nat} (htr : l.stackTraces = false) (C : jC X l D ct sa cL_law 9 "LetterLocksLaw" rmL) {b L : Nat} {xs : Nat → Int32} (SC : jScr X b L xs) (hL : L ≤ 2048) (a : Nat → Nat) (qo h0 : Nat)
    (hend : ∀ (w : va_W) (k n : Nat) (lv : List (Nat × Value)), k ≤ 601024 → n ≤ 7293034 → J X w k n 1489 lv [.int (nI 1)]) :
    ∀ (d t : Nat) (ad : Nat → Nat) (mcn thr : Int32) (φ : LD) (σ : St) (g : Nat → Int64), t + d = L / 4 → Inv1 σ → ad 0 = h0 → J X (WX ct sa ad mcn φ σ ++ (oC ct qo g :: WM ct a thr σ)) (21 + 800 * t) (449 + 4800 * t) 23 (lvL b h0 (a 0) qo (nI (4 * t))) [] := by
  intro d
  induction d with
  | zero =>
    intro t ad mcn thr φ σ g hd hi ha
    refine j_iload C dL_law_23 4 rfl ?_
    refine j_aload_n (i := 0) C dL_law_25 rfl 0 rfl ?_
    refine j_slen C SC dL_law_26 ?_
    refine j_iconst (v := nI 4) C dL_law_27 (by decide) ?_
    refine j_isub C dL_law_28 ?_
    refine j_icmp_gt C 1488 dL_law_29 (by decide) (fun c29 => ?_) (fun c29 => absurd (lp_out (L := L) (t := t) (by omega) (by omega)) c29)
    refine j_iconst (v := nI 1) C dL_law_1488 (by decide) ?_
    exact hend _ _ _ _ (by omega) (by omega)
  | succ d ih =>
    intro t ad mcn thr φ σ g hd hi ha
    have ht : 4 * t + 4 ≤ L := by omega
    subst ha
    have cont : ∀ (ad' : Nat → Nat) (mcn' thr' : Int32) (φ' : LD) (σ' : St) (g' : Nat → Int64), Inv1 σ' → ad' 0 = ad 0 → J X (WX ct sa ad' mcn' φ' σ' ++ (oC ct qo g' :: WM ct a thr' σ')) (21 + 800 * t + 800) (449 + 4800 * t + 4800) 1482 (lvL b (ad 0) (a 0) qo (nI (4 * t))) [] := by
      intro ad' mcn' thr' φ' σ' g' hi' ha'
      refine j_iinc (v := nI (4 * (t + 1))) (z := 4) (lv' := [(4, .int _), (0, .ref _), (1, .ref _), (2, .ref _), (3, .ref _)]) C dL_law_1482 rfl (nI_add (4 * t) 4) (by decide) rfl ?_
      refine j_goto C 23 dL_law_1485 (by decide) ?_
      exact j_lvs [1, 2, 3, 4, 0] rfl (ih (t + 1) ad' mcn' thr' φ' σ' g' (by omega) hi' ha')
    refine j_iload C dL_law_23 4 rfl ?_
    refine j_aload_n (i := 0) C dL_law_25 rfl 0 rfl ?_
    refine j_slen C SC dL_law_26 ?_
    refine j_iconst (v := nI 4) C dL_law_27 (by decide) ?_
    refine j_isub C dL_law_28 ?_
    refine j_icmp_gt C 1488 dL_law_29 (by decide) (fun c29 => absurd c29 (lp_in ht (by omega))) (fun c29 => ?_)
    refine j_aload_n (i := 0) C dL_law_32 rfl 0 rfl ?_
    refine j_iload C dL_law_33 4 rfl ?_
    refine j_sld C SC (4 * t) rfl (by omega) hL dL_law_35 ?_
    refine j_bipush (v := nI 31) C dL_law_36 (by decide) ?_
    refine j_iand C dL_law_38 ?_
    obtain ⟨j, hj, ej⟩ := pk_andE (xs (4 * t)) (m := nI 31) 5 (by decide)
    refine j_st (st1 := .int (nI j) :: []) (by rw [ej]) ?_
    match j, hj with
    | 0, _ =>
      refine j_tsIn (tgt := 140) C dL_law_39 (by decide) (by decide) rfl (by decide) ?_
      exact kLaw_lock htr C SC hL t ht ad a mcn thr φ σ qo g hi _ _ (by omega) (by omega) cont
    | 1, _ =>
      refine j_tsIn (tgt := 196) C dL_law_39 (by decide) (by decide) rfl (by decide) ?_
      exact kLaw_turn htr C SC hL t ht ad a mcn thr φ σ qo g hi _ _ (by omega) (by omega) cont
    | 2, _ =>
      refine j_tsIn (tgt := 276) C dL_law_39 (by decide) (by decide) rfl (by decide) ?_
      exact kLaw_open htr C SC hL t ht ad a mcn thr φ σ qo g hi _ _ (by omega) (by omega) cont
    | 3, _ =>
      refine j_tsIn (tgt := 339) C dL_law_39 (by decide) (by decide) rfl (by decide) ?_
      exact kLaw_shut htr C SC hL t ht ad a mcn thr φ σ qo g hi _ _ (by omega) (by omega) cont
    | 4, _ =>
      refine j_tsIn (tgt := 395) C dL_law_39 (by decide) (by decide) rfl (by decide) ?_
      exact kLaw_rename htr C SC hL t ht ad a mcn thr φ σ qo g hi _ _ (by omega) (by omega) cont
    | 5, _ =>
      refine j_tsIn (tgt := 463) C dL_law_39 (by decide) (by decide) rfl (by decide) ?_
      exact kLaw_lose htr C SC hL t ht ad a mcn thr φ σ qo g hi _ _ (by omega) (by omega) cont
    | 6, _ =>
      refine j_tsIn (tgt := 554) C dL_law_39 (by decide) (by decide) rfl (by decide) ?_
      exact kLaw_setPlaces htr C SC hL t ht ad a mcn thr φ σ qo g hi _ _ (by omega) (by omega) cont
    | 7, _ =>
      refine j_tsIn (tgt := 622) C dL_law_39 (by decide) (by decide) rfl (by decide) ?_
      exact kLaw_setHours htr C SC hL t ht ad a mcn thr φ σ qo g hi _ _ (by omega) (by omega) cont
    | 8, _ =>
      refine j_tsIn (tgt := 702) C dL_law_39 (by decide) (by decide) rfl (by decide) ?_
      exact kLaw_put htr C SC hL t ht ad a mcn thr φ σ qo g hi _ _ (by omega) (by omega) cont
    | 9, _ =>
      refine j_tsIn (tgt := 770) C dL_law_39 (by decide) (by decide) rfl (by decide) ?_
      exact kLaw_told htr C SC hL t ht ad a mcn thr φ σ qo g hi _ _ (by omega) (by omega) cont
    | 10, _ =>
      refine j_tsIn (tgt := 838) C dL_law_39 (by decide) (by decide) rfl (by decide) ?_
      exact kLaw_wear htr C SC hL t ht ad a mcn thr φ σ qo g hi _ _ (by omega) (by omega) cont
    | 11, _ =>
      refine j_tsIn (tgt := 918) C dL_law_39 (by decide) (by decide) rfl (by decide) ?_
      exact kLaw_rack htr C SC hL t ht ad a mcn thr φ σ qo g hi _ _ (by omega) (by omega) cont
    | 12, _ =>
      refine j_tsIn (tgt := 986) C dL_law_39 (by decide) (by decide) rfl (by decide) ?_
      exact kLaw_count htr C SC hL t ht ad a mcn thr φ σ qo g hi _ _ (by omega) (by omega) cont
    | 13, _ =>
      refine j_tsIn (tgt := 1042) C dL_law_39 (by decide) (by decide) rfl (by decide) ?_
      exact kLaw_apart htr C SC hL t ht ad a mcn thr φ σ qo g hi _ _ (by omega) (by omega) cont
    | 14, _ =>
      refine j_tsIn (tgt := 1110) C dL_law_39 (by decide) (by decide) rfl (by decide) ?_
      exact kLaw_trial htr C SC hL t ht ad a mcn thr φ σ qo g hi _ _ (by omega) (by omega) cont
    | 15, _ =>
      refine j_tsIn (tgt := 1178) C dL_law_39 (by decide) (by decide) rfl (by decide) ?_
      exact kLaw_safe htr C SC hL t ht ad a mcn thr φ σ qo g hi _ _ (by omega) (by omega) cont
    | 16, _ =>
      refine j_tsIn (tgt := 1234) C dL_law_39 (by decide) (by decide) rfl (by decide) ?_
      exact kLaw_pass htr C SC hL t ht ad a mcn thr φ σ qo g hi _ _ (by omega) (by omega) cont
    | 17, _ =>
      refine j_tsIn (tgt := 1290) C dL_law_39 (by decide) (by decide) rfl (by decide) ?_
      exact kLaw_foresee htr C SC hL t ht ad a mcn thr φ σ qo g hi _ _ (by omega) (by omega) cont
    | 18, _ =>
      refine j_tsIn (tgt := 1358) C dL_law_39 (by decide) (by decide) rfl (by decide) ?_
      exact kLaw_until htr C SC hL t ht ad a mcn thr φ σ qo g hi _ _ (by omega) (by omega) cont
    | 19, _ =>
      refine j_tsIn (tgt := 1414) C dL_law_39 (by decide) (by decide) rfl (by decide) ?_
      exact kLaw_weakest htr C SC hL t ht ad a mcn thr φ σ qo g hi _ _ (by omega) (by omega) cont
    | 20, _ =>
      refine j_tsIn (tgt := 1427) C dL_law_39 (by decide) (by decide) rfl (by decide) ?_
      exact kLaw_mean htr C SC hL t ht ad a mcn thr φ σ qo g hi _ _ (by omega) (by omega) cont
    | 21, _ =>
      refine j_tsIn (tgt := 1468) C dL_law_39 (by decide) (by decide) rfl (by decide) ?_
      exact kLaw_digest htr C SC hL t ht ad a mcn thr φ σ qo g hi _ _ (by omega) (by omega) cont
    | j + 22, hj =>
      refine j_tsOut (tgt := 1482) C dL_law_39 (Or.inr (by rw [nI_toInt (by omega)]; omega)) (by decide) ?_
      exact j_widen (by omega) (by omega) (cont ad mcn thr φ σ g hi rfl)
set_option maxRecDepth 100000 in
set_option maxHeartbeats 800000 in
theorem law_body {X : Ctx} {l : Launch} {D : va_G} {ct : Nat → ClassId} {sa : Nat → Nat} (htr : l.stackTraces = false) (C : jC X l D ct sa cL_law 9 "LetterLocksLaw" rmL) {b L : Nat} {xs : Nat → Int32} (SC : jScr X b L xs) (hL : L ≤ 2048)
    (hend : ∀ (w : va_W) (k n : Nat) (lv : List (Nat × Value)), k ≤ 601024 → n ≤ 7293034 → J X w k n 1489 lv [.int (nI 1)]) : J X [] 0 0 0 [(0, .ref b)] [] := by
  refine j_new (Cn := RX3) (T := TX3) (N := 6) (ci := 4) (fs := [.null, .null, .null, .null, .int (nI 0), .int (nI 0)]) C iX3 tyX3 tyX3_ok gw62 gw63 gw42 rfl (fun j hj => by match j, hj with | 0, _ => rfl | 1, _ => rfl | 2, _ => rfl | 3, _ => rfl | 4, _ => rfl | 5, _ => rfl) (Nat.le_of_ble_eq_true rfl) (Nat.le_of_ble_eq_true rfl) dL_law_0 (fun hx1 => ?_)
  refine j_dup C dL_law_3 rfl ?_
  refine j_callI (nargs := 0) (As := []) C gw64 gw65 gw42 rfl (kX3_init l D ct sa [] hx1) gw66 (by decide +kernel) rfl dL_law_4 ⟨Nat.le_of_ble_eq_true rfl, Nat.le_of_ble_eq_true rfl⟩ ⟨Nat.le_of_ble_eq_true rfl, Nat.le_of_ble_eq_true rfl⟩ (Nat.le_of_ble_eq_true rfl) (fun r w hk => ?_)
  obtain ⟨ad, ha, rfl, rfl⟩ := hk
  refine j_st (st1 := .ref hx1 :: []) rfl ?_
  refine j_ws (ws1 := WX ct sa ad (nI 0) φ00 σ00) rfl ?_
  refine j_astore_n (lv' := [(1, .ref _), (0, .ref _)]) C dL_law_7 rfl (by decide) rfl ?_
  refine j_new (Cn := RX4) (T := TX4) (N := 7) (ci := 5) (fs := [.int (nI 0), .int (nI 0), .int (nI 0), .int (nI 0), .null, .null, .null]) C iX4 tyX4 tyX4_ok gw671 gw672 gw49 rfl (fun j hj => by match j, hj with | 0, _ => rfl | 1, _ => rfl | 2, _ => rfl | 3, _ => rfl | 4, _ => rfl | 5, _ => rfl | 6, _ => rfl) (Nat.le_of_ble_eq_true rfl) (Nat.le_of_ble_eq_true rfl) dL_law_8 (fun hm1 => ?_)
  refine j_dup C dL_law_11 rfl ?_
  refine j_callI (nargs := 0) (As := []) C gw673 gw674 gw49 rfl (kX4_init l D ct sa (WX ct sa ad (nI 0) φ00 σ00) hm1) gw675 (by decide +kernel) rfl dL_law_12 ⟨Nat.le_of_ble_eq_true rfl, Nat.le_of_ble_eq_true rfl⟩ ⟨Nat.le_of_ble_eq_true rfl, Nat.le_of_ble_eq_true rfl⟩ (Nat.le_of_ble_eq_true rfl) (fun r w hk => ?_)
  obtain ⟨a, hm, rfl, rfl⟩ := hk
  refine j_st (st1 := .ref hm1 :: []) rfl ?_
  refine j_astore_n (lv' := [(2, .ref _), (1, .ref _), (0, .ref _)]) C dL_law_15 rfl (by decide) rfl ?_
  refine j_iconst (v := nI 1) C dL_law_16 (by decide) ?_
  refine j_newaL (N := 1) C rfl (by decide) (Nat.le_of_ble_eq_true rfl) (Nat.le_of_ble_eq_true rfl) dL_law_17 (fun qo => ?_)
  refine j_swap (a := WX ct sa ad (nI 0) φ00 σ00) (b := WM ct a (nI 0) σ00) (c0 := [_]) rfl ?_
  refine j_ws (ws1 := WX ct sa ad (nI 0) φ00 σ00 ++ (oC ct qo (fun _ => 0) :: WM ct a (nI 0) σ00)) sw_b0 ?_
  refine j_astore_n (lv' := [(3, .ref _), (2, .ref _), (1, .ref _), (0, .ref _)]) C dL_law_19 rfl (by decide) rfl ?_
  subst hm
  refine j_iconst (v := nI 0) C dL_law_20 (by decide) ?_
  refine j_istore (lv' := [(4, .int _), (3, .ref _), (2, .ref _), (1, .ref _), (0, .ref _)]) C dL_law_21 (by decide) rfl ?_
  exact j_lvs [4, 3, 2, 1, 0] rfl (law_loop htr C SC hL a qo hx1 hend (L / 4) 0 ad (nI 0) (nI 0) φ00 σ00 (fun _ => 0) (by omega) inv1_0 ha)
