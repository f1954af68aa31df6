set_option maxRecDepth 100000 in
set_option maxHeartbeats 1000000 in
theorem kL_below (l : Launch) (D : va_G) (ct : Nat → ClassId) (sa : Nat → Nat) (ws : va_W) (x y : Int32) (N : Nat) (hy : y = nI N) (h0 : 0 < N) (hN : N < 2 ^ 31) : jM l yL_below (Cond.code yL_below cL_below 2 (Option.some Jvm.ClassFile.FieldType.int) :: GW) (rM 0 0 0 0) D ct sa [.int x, .int y] (ws) (fun r w => ∃ j, j < N ∧ r = some (.int (nI j)) ∧ w = ws) 0 0 := by
  refine jMX.plain (jBody (own := RL) (by decide) rfl rfl (Nat.le_of_ble_eq_true rfl) ?_)
  intro X C E T0
  refine j_lv (lv1 := [(0, .int _), (1, .int _)]) rfl ?_
  refine j_iload_n (i := 0) C dL_below_0 rfl 0 rfl ?_
  refine j_ldc C gw478 dL_below_1 ?_
  refine j_iand C dL_below_3 ?_
  refine j_iload_n (i := 1) C dL_below_4 rfl 1 rfl ?_
  refine j_irem C dL_below_5 (by rw [hy]; exact nI_ne0 h0 hN) ?_
  exact j_ireturn C E rfl dL_below_6 (Nat.le_of_ble_eq_true rfl) (Nat.le_of_ble_eq_true rfl) (⟨_, Nat.mod_lt _ h0, congrArg (fun z => some (Value.int z)) (by rw [hy, pk_and x 31 (by decide)]; exact pk_rem (Nat.mod_lt _ (by decide)) h0 hN), rfl⟩)
set_option maxRecDepth 100000 in
set_option maxHeartbeats 1000000 in
theorem kL_cell (l : Launch) (D : va_G) (ct : Nat → ClassId) (sa : Nat → Nat) (ws : va_W) (x : Int32) (k0 : Nat) (hx : x = nI k0) (hk : k0 < 2 ^ 20) : jM l yL_cell (Cond.code yL_cell cL_cell 2 (Option.some Jvm.ClassFile.FieldType.int) :: GW) (rM 0 0 0 0) D ct sa [.ref (scB sa), .int x] (ws) (fun r w => ∃ v : Int32, r = some (.int v) ∧ w = ws) 0 0 := by
  refine jMX.plain (jBody (own := RL) (by decide) rfl rfl (Nat.le_of_ble_eq_true rfl) ?_)
  intro X C E T0
  refine j_lv (lv1 := [(0, .ref _), (1, .int _)]) rfl ?_
  refine j_iload_n (i := 1) C dL_cell_0 rfl 1 rfl ?_
  refine j_aload_n (i := 0) C dL_cell_1 rfl 0 rfl ?_
  refine j_sclen C dL_cell_2 (fun hL => ?_)
  refine j_icmp_ge C 12 dL_cell_3 (by decide) (fun c3 => ?_) (fun c3 => ?_)
  · refine j_ldc C gw482 dL_cell_12 ?_
    refine j_iload_n (i := 1) C dL_cell_14 rfl 1 rfl ?_
    refine j_iconst (v := nI 3) C dL_cell_15 (by decide) ?_
    refine j_iadd C dL_cell_16 ?_
    refine j_imul C dL_cell_17 ?_
    exact j_ireturn C E rfl dL_cell_18 (Nat.le_of_ble_eq_true rfl) (Nat.le_of_ble_eq_true rfl) (⟨_, rfl, rfl⟩)
  · refine j_aload_n (i := 0) C dL_cell_6 rfl 0 rfl ?_
    refine j_iload_n (i := 1) C dL_cell_7 rfl 1 rfl ?_
    refine j_scd C k0 hx (by rw [hx] at c3; exact Nat.lt_of_not_le (fun z => c3 (nI_le z (by omega)))) dL_cell_8 (fun z8 => ?_)
    refine j_goto C 18 dL_cell_9 (by decide) ?_
    exact j_ireturn C E rfl dL_cell_18 (Nat.le_of_ble_eq_true rfl) (Nat.le_of_ble_eq_true rfl) (⟨_, rfl, rfl⟩)
set_option maxRecDepth 100000 in
set_option maxHeartbeats 1000000 in
theorem kL_letters (l : Launch) (D : va_G) (ct : Nat → ClassId) (sa : Nat → Nat) (ws : va_W) (x : Int32) (hx : okI 1296 x) : jM l yL_letters (Cond.code yL_letters cL_letters 1 (Option.some (Jvm.ClassFile.FieldType.array Jvm.ClassFile.FieldType.int)) :: GW) (rM 0 1 4 0) D ct sa [.int x] (ws) (fun r w => ∃ q : Nat, r = some (.ref q) ∧ w = ws ++ [arI ct q 4 (cut 4 (ltF x))]) 1 4 := by
  refine jMX.plain (jBody (own := RL) (by decide) rfl rfl (Nat.le_of_ble_eq_true rfl) ?_)
  intro X C E T0
  refine j_lv (lv1 := [(0, .int _)]) rfl ?_
  refine j_iconst (v := nI 4) C dL_letters_0 (by decide) ?_
  refine j_newaI C rfl (by decide) (Nat.le_of_ble_eq_true rfl) (Nat.le_of_ble_eq_true rfl) dL_letters_1 (fun q => ?_)
  refine j_dup C dL_letters_3 rfl ?_
  refine j_iconst (v := nI 0) C dL_letters_4 (by decide) ?_
  refine j_iload_n (i := 0) C dL_letters_5 rfl 0 rfl ?_
  refine j_sipush (v := nI 216) C dL_letters_6 (by decide) ?_
  refine j_idiv C dL_letters_9 (by decide) ?_
  refine j_iast (ws2 := ws ++ [arI ct q 4 (upd (fun _ => nI 0) 0 (x / nI 216))]) C (ws.length) gA (0) rfl (by decide) (by decide) sA dL_letters_10 ?_
  refine j_dup C dL_letters_11 rfl ?_
  refine j_iconst (v := nI 1) C dL_letters_12 (by decide) ?_
  refine j_iload_n (i := 0) C dL_letters_13 rfl 0 rfl ?_
  refine j_bipush (v := nI 36) C dL_letters_14 (by decide) ?_
  refine j_idiv C dL_letters_16 (by decide) ?_
  refine j_bipush (v := nI 6) C dL_letters_17 (by decide) ?_
  refine j_irem C dL_letters_19 (by decide) ?_
  refine j_iast (ws2 := ws ++ [arI ct q 4 (upd (upd (fun _ => nI 0) 0 (x / nI 216)) 1 (irm (x / nI 36) (nI 6)))]) C (ws.length) gA (1) rfl (by decide) (by decide) sA dL_letters_20 ?_
  refine j_dup C dL_letters_21 rfl ?_
  refine j_iconst (v := nI 2) C dL_letters_22 (by decide) ?_
  refine j_iload_n (i := 0) C dL_letters_23 rfl 0 rfl ?_
  refine j_bipush (v := nI 6) C dL_letters_24 (by decide) ?_
  refine j_idiv C dL_letters_26 (by decide) ?_
  refine j_bipush (v := nI 6) C dL_letters_27 (by decide) ?_
  refine j_irem C dL_letters_29 (by decide) ?_
  refine j_iast (ws2 := ws ++ [arI ct q 4 (upd (upd (upd (fun _ => nI 0) 0 (x / nI 216)) 1 (irm (x / nI 36) (nI 6))) 2 (irm (x / nI 6) (nI 6)))]) C (ws.length) gA (2) rfl (by decide) (by decide) sA dL_letters_30 ?_
  refine j_dup C dL_letters_31 rfl ?_
  refine j_iconst (v := nI 3) C dL_letters_32 (by decide) ?_
  refine j_iload_n (i := 0) C dL_letters_33 rfl 0 rfl ?_
  refine j_bipush (v := nI 6) C dL_letters_34 (by decide) ?_
  refine j_irem C dL_letters_36 (by decide) ?_
  refine j_iast (ws2 := ws ++ [arI ct q 4 (upd (upd (upd (upd (fun _ => nI 0) 0 (x / nI 216)) 1 (irm (x / nI 36) (nI 6))) 2 (irm (x / nI 6) (nI 6))) 3 (irm x (nI 6)))]) C (ws.length) gA (3) rfl (by decide) (by decide) sA dL_letters_37 ?_
  refine j_cong (g := cut 4 (ltF x)) (q0 := ws.length) gA (fun i h => lt_up hx i h) ?_
  refine j_ws (ws1 := ws ++ [arI ct q 4 (cut 4 (ltF x))]) sA ?_
  exact j_areturn C E (Or.inr ⟨_, rfl⟩) dL_letters_38 (Nat.le_of_ble_eq_true rfl) (Nat.le_of_ble_eq_true rfl) (⟨q, rfl, rfl⟩)
set_option maxRecDepth 100000 in
set_option maxHeartbeats 1000000 in
theorem kL_word (l : Launch) (D : va_G) (ct : Nat → ClassId) (sa : Nat → Nat) (ws : va_W) (k a : Nat) (g : Nat → Int32) (hk : ws[k]? = some (arI ct a 4 g)) (hg : okL g) : jM l yL_word (Cond.code yL_word cL_word 1 (Option.some Jvm.ClassFile.FieldType.int) :: GW) (rM 0 0 0 0) D ct sa [.ref a] (ws) (dK (some (.int (stF g 4))) ws) 0 0 := by
  refine jMX.plain (jBody (own := RL) (by decide) rfl rfl (Nat.le_of_ble_eq_true rfl) ?_)
  intro X C E T0
  refine j_lv (lv1 := [(0, .ref _)]) rfl ?_
  refine j_sipush (v := nI 216) C dL_word_0 (by decide) ?_
  refine j_aload_n (i := 0) C dL_word_3 rfl 0 rfl ?_
  refine j_iconst (v := nI 0) C dL_word_4 (by decide) ?_
  refine j_iald C (k) hk (0) rfl (by decide) (by decide) dL_word_5 ?_
  refine j_imul C dL_word_6 ?_
  refine j_bipush (v := nI 36) C dL_word_7 (by decide) ?_
  refine j_aload_n (i := 0) C dL_word_9 rfl 0 rfl ?_
  refine j_iconst (v := nI 1) C dL_word_10 (by decide) ?_
  refine j_iald C (k) hk (1) rfl (by decide) (by decide) dL_word_11 ?_
  refine j_imul C dL_word_12 ?_
  refine j_iadd C dL_word_13 ?_
  refine j_bipush (v := nI 6) C dL_word_14 (by decide) ?_
  refine j_aload_n (i := 0) C dL_word_16 rfl 0 rfl ?_
  refine j_iconst (v := nI 2) C dL_word_17 (by decide) ?_
  refine j_iald C (k) hk (2) rfl (by decide) (by decide) dL_word_18 ?_
  refine j_imul C dL_word_19 ?_
  refine j_iadd C dL_word_20 ?_
  refine j_aload_n (i := 0) C dL_word_21 rfl 0 rfl ?_
  refine j_iconst (v := nI 3) C dL_word_22 (by decide) ?_
  refine j_iald C (k) hk (3) rfl (by decide) (by decide) dL_word_23 ?_
  refine j_iadd C dL_word_24 ?_
  exact j_ireturn C E rfl dL_word_25 (Nat.le_of_ble_eq_true rfl) (Nat.le_of_ble_eq_true rfl) (⟨congrArg (fun z => some (Value.int z)) (wd_st hg), rfl⟩)
set_option maxRecDepth 100000 in
set_option maxHeartbeats 1000000 in
theorem kL_far (l : Launch) (D : va_G) (ct : Nat → ClassId) (sa : Nat → Nat) (ws : va_W) (x y : Int32) (a b : Nat) (hx : x = nI a) (hy : y = nI b) (ha : a < 6) (hb : b < 6) : jM l yL_far (Cond.code yL_far cL_far 3 (Option.some Jvm.ClassFile.FieldType.int) :: GW) (rM 0 0 0 0) D ct sa [.int x, .int y] (ws) (dK (some (.int (farF x y))) ws) 0 0 := by
  refine jMX.plain (jBody (own := RL) (by decide) rfl rfl (Nat.le_of_ble_eq_true rfl) ?_)
  intro X C E T0
  refine j_lv (lv1 := [(0, .int _), (1, .int _)]) rfl ?_
  subst hx
  subst hy
  have h3 := fa_3 a ha b hb
  refine j_iconst (v := nI 0) C dL_far_0 (by decide) ?_
  refine j_istore_n (lv' := [(2, .int _), (0, .int _), (1, .int _)]) C dL_far_1 rfl (by decide) rfl ?_
  have L2 : ∀ (d i : Nat) (x2 : Int32), i + d = farN a b → x2 = nI i → J X (ws) (0) (0) 2 [(0, .int (nI a)), (1, .int (nI b)), (2, .int x2)] [] := by
    intro d
    induction d with
    | zero =>
      intro i x2 hd e_x2 
      subst e_x2
      have hi9 : i = farN a b := by omega
      subst hi9
      refine j_iload_n (i := 0) C dL_far_2 rfl 0 rfl ?_
      refine j_iload_n (i := 2) C dL_far_3 rfl 2 rfl ?_
      refine j_iadd C dL_far_4 ?_
      refine j_bipush (v := nI 6) C dL_far_5 (by decide) ?_
      refine j_irem C dL_far_7 (by decide) ?_
      refine j_st (st1 := .int (nI ((a + farN a b) % 6)) :: _) (by rw [nI_add]; exact congrArg (fun z => Value.int z :: _) (pk_rem (by omega) (by decide) (by decide))) ?_
      refine j_iload_n (i := 1) C dL_far_8 rfl 1 rfl ?_
      refine j_icmp_eq C 28 dL_far_9 (by decide) (fun c9 => ?_) (fun c9 => ?_)
      · refine j_iload_n (i := 2) C dL_far_28 rfl 2 rfl ?_
        exact j_ireturn C E rfl dL_far_29 (Nat.le_of_ble_eq_true rfl) (Nat.le_of_ble_eq_true rfl) (⟨congrArg (fun z => some (Value.int z)) ((fa_n a ha b hb).symm), rfl⟩)
      · refine j_iload_n (i := 1) C dL_far_12 rfl 1 rfl ?_
        refine j_iload_n (i := 2) C dL_far_13 rfl 2 rfl ?_
        refine j_iadd C dL_far_14 ?_
        refine j_bipush (v := nI 6) C dL_far_15 (by decide) ?_
        refine j_irem C dL_far_17 (by decide) ?_
        refine j_st (st1 := .int (nI ((b + farN a b) % 6)) :: _) (by rw [nI_add]; exact congrArg (fun z => Value.int z :: _) (pk_rem (by omega) (by decide) (by decide))) ?_
        refine j_iload_n (i := 0) C dL_far_18 rfl 0 rfl ?_
        refine j_icmp_eq C 28 dL_far_19 (by decide) (fun c19 => ?_) (fun c19 => by exact ((fa_at a ha b hb).elim (fun z => c9 (congrArg nI z)) (fun z => c19 (congrArg nI z))).elim)
        refine j_iload_n (i := 2) C dL_far_28 rfl 2 rfl ?_
        exact j_ireturn C E rfl dL_far_29 (Nat.le_of_ble_eq_true rfl) (Nat.le_of_ble_eq_true rfl) (⟨congrArg (fun z => some (Value.int z)) ((fa_n a ha b hb).symm), rfl⟩)
    | succ d ih =>
      intro i x2 hd e_x2 
      subst e_x2
      refine j_iload_n (i := 0) C dL_far_2 rfl 0 rfl ?_
      refine j_iload_n (i := 2) C dL_far_3 rfl 2 rfl ?_
      refine j_iadd C dL_far_4 ?_
      refine j_bipush (v := nI 6) C dL_far_5 (by decide) ?_
      refine j_irem C dL_far_7 (by decide) ?_
      refine j_st (st1 := .int (nI ((a + i) % 6)) :: _) (by rw [nI_add]; exact congrArg (fun z => Value.int z :: _) (pk_rem (by omega) (by decide) (by decide))) ?_
      refine j_iload_n (i := 1) C dL_far_8 rfl 1 rfl ?_
      refine j_icmp_eq C 28 dL_far_9 (by decide) (fun c9 => by exact absurd ((nI_eq (by omega) (by omega)).mp c9) (fa_lt a ha b hb i (by omega)).1) (fun c9 => ?_)
      refine j_iload_n (i := 1) C dL_far_12 rfl 1 rfl ?_
      refine j_iload_n (i := 2) C dL_far_13 rfl 2 rfl ?_
      refine j_iadd C dL_far_14 ?_
      refine j_bipush (v := nI 6) C dL_far_15 (by decide) ?_
      refine j_irem C dL_far_17 (by decide) ?_
      refine j_st (st1 := .int (nI ((b + i) % 6)) :: _) (by rw [nI_add]; exact congrArg (fun z => Value.int z :: _) (pk_rem (by omega) (by decide) (by decide))) ?_
      refine j_iload_n (i := 0) C dL_far_18 rfl 0 rfl ?_
      refine j_icmp_eq C 28 dL_far_19 (by decide) (fun c19 => by exact absurd ((nI_eq (by omega) (by omega)).mp c19) (fa_lt a ha b hb i (by omega)).2) (fun c19 => ?_)
      refine j_iinc (z := 2) (lv' := [(2, .int _), (0, .int _), (1, .int _)]) C dL_far_22 rfl rfl (by decide) rfl ?_
      refine j_goto C 2 dL_far_25 (by decide) ?_
      exact j_lvs [1, 2, 0] rfl (ih (i + 1) _ (by omega) (nI_1 i))
  exact j_lvs [1, 2, 0] rfl (L2 (farN a b) (0) _ (by omega) (rfl))
set_option maxRecDepth 100000 in
set_option maxHeartbeats 1000000 in
theorem kX4_shut (l : Launch) (D : va_G) (ct : Nat → ClassId) (sa : Nat → Nat) (ws : va_W) (k kr h a b c : Nat) (lt : Nat → Int32) (op lo rk : Int32) (hk : ws[k]? = some (obL h a b c op lo rk)) (hr : ws[kr]? = some (arI ct b 4 lt)) (hne : k ≠ kr) (hl : okL lt) : jM l yX4_shut (Cond.code yX4_shut cX4_shut 2 (Option.none : Option Jvm.ClassFile.FieldType) :: GW) (rM 0 0 0 0) D ct sa [.ref h] (ws) (dK none ((ws.set k (obL h a b c (nI 0) lo rk)).set kr (arI ct b 4 (clL lt 4)))) 0 0 := by
  refine jMX.plain (jBody (own := RX4) (by decide) rfl rfl (Nat.le_of_ble_eq_true rfl) ?_)
  intro X C E T0
  refine j_lv (lv1 := [(0, .ref _)]) rfl ?_
  refine j_aload_n (i := 0) C dX4_shut_0 rfl 0 rfl ?_
  refine j_iconst (v := nI 0) C dX4_shut_1 (by decide) ?_
  refine j_put (Cn := RX4) (T := TX4) (N := 6) (ci := 5) (ws2 := ws.set k (obL h a b c (nI 0) lo rk)) C iX4 tyX4 tyX4_ok nmX4 rfl (k) hk 3 (by decide) gw502 rfl rfl rfl rfl rfl (Nat.le_of_ble_eq_true rfl) rfl dX4_shut_2 ?_
  refine j_iconst (v := nI 0) C dX4_shut_5 (by decide) ?_
  refine j_istore_n (lv' := [(1, .int _), (0, .ref _)]) C dX4_shut_6 rfl (by decide) rfl ?_
  have L7 : ∀ (d i : Nat) (x1 : Int32) (wx : va_W), i + d = 4 → x1 = nI i → wx = (ws.set k (obL h a b c (nI 0) lo rk)).set kr (arI ct b 4 (clL lt i)) → J X (wx) (0) (0) 7 [(0, .ref h), (1, .int x1)] [] := by
    intro d
    induction d with
    | zero =>
      intro i x1 wx hd e_x1 e_wx 
      subst e_x1
      subst e_wx
      have hi9 : i = 4 := by omega
      subst hi9
      refine j_iload_n (i := 1) C dX4_shut_7 rfl 1 rfl ?_
      refine j_iconst (v := nI 4) C dX4_shut_8 (by decide) ?_
      refine j_icmp_ge C 51 dX4_shut_9 (by decide) (fun c9 => ?_) (fun c9 => by first | exact absurd c9 (by decide) | exact absurd c9 (nI_ge (by omega) (by omega)) | exact absurd (nI_le (by omega) (by omega)) c9 | exact absurd c9 (nI_nlt (by omega) (by omega)) | exact absurd (nI_lt (by omega) (by omega)) c9 | exact absurd c9 (nI_nle0 (by omega) (by omega)))
      exact j_return C E dX4_shut_51 (Nat.le_of_ble_eq_true rfl) (Nat.le_of_ble_eq_true rfl) (⟨rfl, rfl⟩)
    | succ d ih =>
      intro i x1 wx hd e_x1 e_wx 
      subst e_x1
      subst e_wx
      obtain ⟨m, hm, em⟩ := okI_of (hl i (by omega)) (by decide)
      refine j_iload_n (i := 1) C dX4_shut_7 rfl 1 rfl ?_
      refine j_iconst (v := nI 4) C dX4_shut_8 (by decide) ?_
      refine j_icmp_ge C 51 dX4_shut_9 (by decide) (fun c9 => by first | exact absurd c9 (by decide) | exact absurd c9 (nI_ge (by omega) (by omega)) | exact absurd (nI_le (by omega) (by omega)) c9 | exact absurd c9 (nI_nlt (by omega) (by omega)) | exact absurd (nI_lt (by omega) (by omega)) c9 | exact absurd c9 (nI_nle0 (by omega) (by omega))) (fun c9 => ?_)
      refine j_aload_n (i := 0) C dX4_shut_12 rfl 0 rfl ?_
      refine j_get (Cn := RX4) (T := TX4) (N := 6) (ci := 5) C iX4 rfl (k) ((set_ne (Ne.symm hne)).trans (set_eq hk)) 1 (by decide) gw497 rfl rfl dX4_shut_13 ?_
      refine j_iload_n (i := 1) C dX4_shut_16 rfl 1 rfl ?_
      refine j_dup2 C dX4_shut_17 rfl rfl ?_
      refine j_iald C (kr) (set_eq ((set_ne hne).trans hr)) (i) rfl (by omega) (by decide) dX4_shut_18 ?_
      refine j_st (st1 := .int (nI m) :: _) (by rw [cl_at i (Nat.le_refl i), em]) ?_
      refine j_iload_n (i := 1) C dX4_shut_19 rfl 1 rfl ?_
      refine j_iconst (v := nI 1) C dX4_shut_20 (by decide) ?_
      refine j_iadd C dX4_shut_21 ?_
      refine j_iadd C dX4_shut_22 ?_
      refine j_st (st1 := .int (nI (m + (i + 1))) :: _) (by rw [nI_add, nI_add]) ?_
      refine j_iast (ws2 := (ws.set k (obL h a b c (nI 0) lo rk)).set kr (arI ct b 4 (upd (clL lt i) i (nI (m + (i + 1)))))) C (kr) (set_eq ((set_ne hne).trans hr)) (i) rfl (by omega) (by decide) set_set dX4_shut_23 ?_
      refine j_aload_n (i := 0) C dX4_shut_24 rfl 0 rfl ?_
      refine j_get (Cn := RX4) (T := TX4) (N := 6) (ci := 5) C iX4 rfl (k) ((set_ne (Ne.symm hne)).trans (set_eq hk)) 1 (by decide) gw497 rfl rfl dX4_shut_25 ?_
      refine j_iload_n (i := 1) C dX4_shut_28 rfl 1 rfl ?_
      refine j_iald C (kr) (set_eq ((set_ne hne).trans hr)) (i) rfl (by omega) (by decide) dX4_shut_29 ?_
      refine j_st (st1 := .int (nI (m + (i + 1))) :: _) (by rw [pk_us]) ?_
      refine j_iconst (v := nI 5) C dX4_shut_30 (by decide) ?_
      refine j_icmp_le C 45 dX4_shut_31 (by decide) (fun c31 => ?_) (fun c31 => ?_)
      · refine j_iinc (z := 1) (lv' := [(1, .int _), (0, .ref _)]) C dX4_shut_45 rfl rfl (by decide) rfl ?_
        refine j_goto C 7 dX4_shut_48 (by decide) ?_
        exact j_lvs [1, 0] rfl (ih (i + 1) _ _ (by omega) (nI_1 i) (by first | exact congrArg (fun f => (ws.set k (obL h a b c (nI 0) lo rk)).set kr (arI ct b 4 (f))) (cl_lo em hm (by omega) (by have := (nI_leI (by omega) (by decide)).mp c31; omega)).symm | exact congrArg (fun f => (ws.set k (obL h a b c (nI 0) lo rk)).set kr (arI ct b 4 (f))) (cl_hi em hm (by omega) (Nat.lt_of_not_le (fun z => c31 (nI_le z (by decide))))).symm))
      · refine j_aload_n (i := 0) C dX4_shut_34 rfl 0 rfl ?_
        refine j_get (Cn := RX4) (T := TX4) (N := 6) (ci := 5) C iX4 rfl (k) ((set_ne (Ne.symm hne)).trans (set_eq hk)) 1 (by decide) gw497 rfl rfl dX4_shut_35 ?_
        refine j_iload_n (i := 1) C dX4_shut_38 rfl 1 rfl ?_
        refine j_dup2 C dX4_shut_39 rfl rfl ?_
        refine j_iald C (kr) (set_eq ((set_ne hne).trans hr)) (i) rfl (by omega) (by decide) dX4_shut_40 ?_
        refine j_st (st1 := .int (nI (m + (i + 1))) :: _) (by rw [pk_us]) ?_
        refine j_bipush (v := nI 6) C dX4_shut_41 (by decide) ?_
        refine j_isub C dX4_shut_43 ?_
        refine j_iast (ws2 := (ws.set k (obL h a b c (nI 0) lo rk)).set kr (arI ct b 4 (upd (clL lt i) i (nI (m + (i + 1)) - nI 6)))) C (kr) (set_eq ((set_ne hne).trans hr)) (i) rfl (by omega) (by decide) (by rw [set_set, upd_upd]) dX4_shut_44 ?_
        refine j_iinc (z := 1) (lv' := [(1, .int _), (0, .ref _)]) C dX4_shut_45 rfl rfl (by decide) rfl ?_
        refine j_goto C 7 dX4_shut_48 (by decide) ?_
        exact j_lvs [1, 0] rfl (ih (i + 1) _ _ (by omega) (nI_1 i) (by first | exact congrArg (fun f => (ws.set k (obL h a b c (nI 0) lo rk)).set kr (arI ct b 4 (f))) (cl_lo em hm (by omega) (by have := (nI_leI (by omega) (by decide)).mp c31; omega)).symm | exact congrArg (fun f => (ws.set k (obL h a b c (nI 0) lo rk)).set kr (arI ct b 4 (f))) (cl_hi em hm (by omega) (Nat.lt_of_not_le (fun z => c31 (nI_le z (by decide))))).symm))
  exact j_lvs [1, 0] rfl (L7 (4) (0) _ _ (by omega) (rfl) ((set_self ((set_ne hne).trans hr)).symm))
set_option maxRecDepth 100000 in
set_option maxHeartbeats 1000000 in
theorem kX5_isOpen (l : Launch) (D : va_G) (ct : Nat → ClassId) (sa : Nat → Nat) (sd : Nat → Nat) (H T : Int32) (n : Nat) (K : Nat → Int32) (dat : Nat → LD) (wr : va_W) (x : Int32) (r f t h : Nat) (hr : x = nI r) (hr3 : r < 3) (hf : K (3 * r + 1) = nI f) (ht : K (3 * r + 2) = nI t) (hH : H = nI h) (f24 : f < 24) (t25 : t < 25) (hh : h < 2 ^ 20) : jM l yX5_isOpen (Cond.code yX5_isOpen cX5_isOpen 3 (Option.some Jvm.ClassFile.FieldType.boolean) :: GW) (rM 0 0 0 0) D ct sa [.ref (sd 0), .int x] (SW ct sd H T n K dat ++ wr) (dK (some (.int (b2i (opP (irm H (nI 24)) (K (3 * r + 1)) (K (3 * r + 2)))))) (SW ct sd H T n K dat ++ wr)) 0 0 := by
  refine jMX.plain (jBody (own := RX5) (by decide) rfl rfl (Nat.le_of_ble_eq_true rfl) ?_)
  intro X C E T0
  refine j_lv (lv1 := [(0, .ref _), (1, .int _)]) rfl ?_
  refine j_aload_n (i := 0) C dX5_isOpen_0 rfl 0 rfl ?_
  refine j_get (Cn := RX5) (T := TX5) (N := 4) (ci := 6) C iX5 rfl (0) rfl 3 (by decide) gw659 rfl rfl dX5_isOpen_1 ?_
  refine j_iload_n (i := 1) C dX5_isOpen_4 rfl 1 rfl ?_
  refine j_aald C (2) 3 rfl rfl rfl (r) hr hr3 (by decide) (if_pos hr3) dX5_isOpen_5 ?_
  refine j_iconst (v := nI 1) C dX5_isOpen_6 (by decide) ?_
  refine j_iald C (3 + r) (sw_k hr3) (1) rfl (by decide) (by decide) dX5_isOpen_7 ?_
  refine j_st (st1 := .int (nI f) :: _) (by rw [show rkr K r 1 = _ from (if_pos (by decide)).trans hf]) ?_
  refine j_istore_n (lv' := [(2, .int _), (0, .ref _), (1, .int _)]) C dX5_isOpen_8 rfl (by decide) rfl ?_
  refine j_iload_n (i := 2) C dX5_isOpen_9 rfl 0 rfl ?_
  refine j_aload_n (i := 0) C dX5_isOpen_10 rfl 1 rfl ?_
  refine j_get (Cn := RX5) (T := TX5) (N := 4) (ci := 6) C iX5 rfl (0) rfl 3 (by decide) gw659 rfl rfl dX5_isOpen_11 ?_
  refine j_iload_n (i := 1) C dX5_isOpen_14 rfl 2 rfl ?_
  refine j_aald C (2) 3 rfl rfl rfl (r) hr hr3 (by decide) (if_pos hr3) dX5_isOpen_15 ?_
  refine j_iconst (v := nI 2) C dX5_isOpen_16 (by decide) ?_
  refine j_iald C (3 + r) (sw_k hr3) (2) rfl (by decide) (by decide) dX5_isOpen_17 ?_
  refine j_st (st1 := .int (nI t) :: _) (by rw [show rkr K r 2 = _ from (if_pos (by decide)).trans ht]) ?_
  refine j_icmp_ne C 23 dX5_isOpen_18 (by decide) (fun c18 => ?_) (fun c18 => ?_)
  · have hne : f ≠ t := fun z => c18 (congrArg nI z)
    have L23 : ∀ (d i : Nat) (x2 : Int32), i + d = opL f t → x2 = nI (f + i) → (∀ i2, i2 < i → ¬ (f + i2) % 24 = h % 24) → J X (SW ct sd H T n K dat ++ wr) (0) (0) 23 [(0, .ref (sd 0)), (1, .int x), (2, .int x2)] [] := by
      intro d
      induction d with
      | zero =>
        intro i x2 hd e_x2 hI
        subst e_x2
        have hi9 : i = opL f t := by omega
        subst hi9
        have hen := op_en (t := t) f24
        refine j_iload_n (i := 2) C dX5_isOpen_23 rfl 2 rfl ?_
        refine j_aload_n (i := 0) C dX5_isOpen_24 rfl 0 rfl ?_
        refine j_get (Cn := RX5) (T := TX5) (N := 4) (ci := 6) C iX5 rfl (0) rfl 3 (by decide) gw659 rfl rfl dX5_isOpen_25 ?_
        refine j_iload_n (i := 1) C dX5_isOpen_28 rfl 1 rfl ?_
        refine j_aald C (2) 3 rfl rfl rfl (r) hr hr3 (by decide) (if_pos hr3) dX5_isOpen_29 ?_
        refine j_iconst (v := nI 2) C dX5_isOpen_30 (by decide) ?_
        refine j_iald C (3 + r) (sw_k hr3) (2) rfl (by decide) (by decide) dX5_isOpen_31 ?_
        refine j_st (st1 := .int (nI t) :: _) (by rw [show rkr K r 2 = _ from (if_pos (by decide)).trans ht]) ?_
        refine j_icmp_eq C 72 dX5_isOpen_32 (by decide) (fun c32 => ?_) (fun c32 => ?_)
        · refine j_iconst (v := nI 0) C dX5_isOpen_72 (by decide) ?_
          exact j_ireturn C E (by first | exact nr_b | rfl) dX5_isOpen_73 (Nat.le_of_ble_eq_true rfl) (Nat.le_of_ble_eq_true rfl) (⟨congrArg (fun z => some (Value.int z)) (by rw [hf, ht, hH]; refine (b2i_n (fun z => ?_)).symm; have z2 := (op_n2 hh f24 t25).mp z; exact op_mis f24 t25 hI z2), rfl⟩)
        · refine j_iload_n (i := 2) C dX5_isOpen_35 rfl 2 rfl ?_
          refine j_bipush (v := nI 24) C dX5_isOpen_36 (by decide) ?_
          refine j_aload_n (i := 0) C dX5_isOpen_38 rfl 0 rfl ?_
          refine j_get (Cn := RX5) (T := TX5) (N := 4) (ci := 6) C iX5 rfl (0) rfl 3 (by decide) gw659 rfl rfl dX5_isOpen_39 ?_
          refine j_iload_n (i := 1) C dX5_isOpen_42 rfl 1 rfl ?_
          refine j_aald C (2) 3 rfl rfl rfl (r) hr hr3 (by decide) (if_pos hr3) dX5_isOpen_43 ?_
          refine j_iconst (v := nI 2) C dX5_isOpen_44 (by decide) ?_
          refine j_iald C (3 + r) (sw_k hr3) (2) rfl (by decide) (by decide) dX5_isOpen_45 ?_
          refine j_st (st1 := .int (nI t) :: _) (by rw [show rkr K r 2 = _ from (if_pos (by decide)).trans ht]) ?_
          refine j_iadd C dX5_isOpen_46 ?_
          refine j_st (st1 := .int (nI (24 + t)) :: _) (by rw [nI_add]) ?_
          refine j_icmp_eq C 72 dX5_isOpen_47 (by decide) (fun c47 => ?_) (fun c47 => by exact (hen.elim (fun z => c32 (congrArg nI z)) (fun z => c47 (congrArg nI z))).elim)
          refine j_iconst (v := nI 0) C dX5_isOpen_72 (by decide) ?_
          exact j_ireturn C E (by first | exact nr_b | rfl) dX5_isOpen_73 (Nat.le_of_ble_eq_true rfl) (Nat.le_of_ble_eq_true rfl) (⟨congrArg (fun z => some (Value.int z)) (by rw [hf, ht, hH]; refine (b2i_n (fun z => ?_)).symm; have z2 := (op_n2 hh f24 t25).mp z; exact op_mis f24 t25 hI z2), rfl⟩)
      | succ d ih =>
        intro i x2 hd e_x2 hI
        subst e_x2
        have hst := op_st hne (show i < opL f t by omega)
        have hlt : i < opL f t := by omega
        refine j_iload_n (i := 2) C dX5_isOpen_23 rfl 2 rfl ?_
        refine j_aload_n (i := 0) C dX5_isOpen_24 rfl 0 rfl ?_
        refine j_get (Cn := RX5) (T := TX5) (N := 4) (ci := 6) C iX5 rfl (0) rfl 3 (by decide) gw659 rfl rfl dX5_isOpen_25 ?_
        refine j_iload_n (i := 1) C dX5_isOpen_28 rfl 1 rfl ?_
        refine j_aald C (2) 3 rfl rfl rfl (r) hr hr3 (by decide) (if_pos hr3) dX5_isOpen_29 ?_
        refine j_iconst (v := nI 2) C dX5_isOpen_30 (by decide) ?_
        refine j_iald C (3 + r) (sw_k hr3) (2) rfl (by decide) (by decide) dX5_isOpen_31 ?_
        refine j_st (st1 := .int (nI t) :: _) (by rw [show rkr K r 2 = _ from (if_pos (by decide)).trans ht]) ?_
        refine j_icmp_eq C 72 dX5_isOpen_32 (by decide) (fun c32 => by exact absurd ((nI_eq (by have := op_le f t; omega) (by omega)).mp c32) hst.1) (fun c32 => ?_)
        refine j_iload_n (i := 2) C dX5_isOpen_35 rfl 2 rfl ?_
        refine j_bipush (v := nI 24) C dX5_isOpen_36 (by decide) ?_
        refine j_aload_n (i := 0) C dX5_isOpen_38 rfl 0 rfl ?_
        refine j_get (Cn := RX5) (T := TX5) (N := 4) (ci := 6) C iX5 rfl (0) rfl 3 (by decide) gw659 rfl rfl dX5_isOpen_39 ?_
        refine j_iload_n (i := 1) C dX5_isOpen_42 rfl 1 rfl ?_
        refine j_aald C (2) 3 rfl rfl rfl (r) hr hr3 (by decide) (if_pos hr3) dX5_isOpen_43 ?_
        refine j_iconst (v := nI 2) C dX5_isOpen_44 (by decide) ?_
        refine j_iald C (3 + r) (sw_k hr3) (2) rfl (by decide) (by decide) dX5_isOpen_45 ?_
        refine j_st (st1 := .int (nI t) :: _) (by rw [show rkr K r 2 = _ from (if_pos (by decide)).trans ht]) ?_
        refine j_iadd C dX5_isOpen_46 ?_
        refine j_st (st1 := .int (nI (24 + t)) :: _) (by rw [nI_add]) ?_
        refine j_icmp_eq C 72 dX5_isOpen_47 (by decide) (fun c47 => by exact absurd ((nI_eq (by have := op_le f t; omega) (by omega)).mp c47) hst.2) (fun c47 => ?_)
        refine j_iload_n (i := 2) C dX5_isOpen_50 rfl 2 rfl ?_
        refine j_bipush (v := nI 24) C dX5_isOpen_51 (by decide) ?_
        refine j_irem C dX5_isOpen_53 (by decide) ?_
        refine j_st (st1 := .int (nI ((f + i) % 24)) :: _) (congrArg (fun z => Value.int z :: _) (pk_rem (by have := op_le f t; omega) (by decide) (by decide))) ?_
        refine j_aload_n (i := 0) C dX5_isOpen_54 rfl 0 rfl ?_
        refine j_get (Cn := RX5) (T := TX5) (N := 4) (ci := 6) C iX5 rfl (0) rfl 0 (by decide) gw654 rfl rfl dX5_isOpen_55 ?_
        refine j_bipush (v := nI 24) C dX5_isOpen_58 (by decide) ?_
        refine j_irem C dX5_isOpen_60 (by decide) ?_
        refine j_st (st1 := .int (nI (h % 24)) :: _) (by rw [hH]; exact congrArg (fun z => Value.int z :: _) (pk_rem (by omega) (by decide) (by decide))) ?_
        refine j_icmp_ne C 66 dX5_isOpen_61 (by decide) (fun c61 => ?_) (fun c61 => ?_)
        · refine j_iinc (z := 2) (lv' := [(2, .int _), (0, .ref _), (1, .int _)]) C dX5_isOpen_66 rfl rfl (by decide) rfl ?_
          refine j_goto C 23 dX5_isOpen_69 (by decide) ?_
          exact j_lvs [1, 2, 0] rfl (ih (i + 1) _ (by omega) (nI_1 (f + i)) (fun i2 h2 => (Nat.lt_succ_iff_lt_or_eq.mp h2).elim (hI i2) (fun e => by rw [e]; exact fun z => c61 (congrArg nI z))))
        · refine j_iconst (v := nI 1) C dX5_isOpen_64 (by decide) ?_
          exact j_ireturn C E (by first | exact nr_b | rfl) dX5_isOpen_65 (Nat.le_of_ble_eq_true rfl) (Nat.le_of_ble_eq_true rfl) (⟨congrArg (fun z => some (Value.int z)) (by rw [hf, ht, hH]; exact (b2i_y ((op_n2 hh f24 t25).mpr (op_hit f24 t25 hne hlt ((nI_eq (by omega) (by omega)).mp c61)))).symm), rfl⟩)
    exact j_lvs [1, 2, 0] rfl (L23 (opL f t) (0) _ (by omega) (rfl) (fun i2 h2 => absurd h2 (Nat.not_lt_zero _)))
  · refine j_iconst (v := nI 0) C dX5_isOpen_21 (by decide) ?_
    exact j_ireturn C E (by first | exact nr_b | rfl) dX5_isOpen_22 (Nat.le_of_ble_eq_true rfl) (Nat.le_of_ble_eq_true rfl) (⟨congrArg (fun z => some (Value.int z)) (by rw [hf, ht, hH]; refine (b2i_n (fun z => ?_)).symm; have z2 := (op_n2 hh f24 t25).mp z; have e9 := (nI_eq (by omega) (by omega)).mp c18; rcases z2 with z2 | z2 <;> omega), rfl⟩)
set_option maxRecDepth 100000 in
set_option maxHeartbeats 1000000 in
theorem kX5_in (l : Launch) (D : va_G) (ct : Nat → ClassId) (sa : Nat → Nat) (sd : Nat → Nat) (H T : Int32) (n : Nat) (K : Nat → Int32) (dat : Nat → LD) (wr : va_W) (y : Int32) (hn8 : n ≤ 8) : jM l yX5_in (Cond.code yX5_in cX5_in 7 (Option.some Jvm.ClassFile.FieldType.int) :: GW) (rM 0 0 0 0) D ct sa [.ref (sd 0), .int y] (SW ct sd H T n K dat ++ wr) (dK (some (.int (sumF (fun i => b2i ((dat i).2.2.2.1 = y)) n))) (SW ct sd H T n K dat ++ wr)) 0 0 := by
  refine jMX.plain (jBody (own := RX5) (by decide) rfl rfl (Nat.le_of_ble_eq_true rfl) ?_)
  intro X C E T0
  refine j_lv (lv1 := [(0, .ref _), (1, .int _)]) rfl ?_
  refine j_iconst (v := nI 0) C dX5_in_0 (by decide) ?_
  refine j_istore_n (lv' := [(2, .int _), (0, .ref _), (1, .int _)]) C dX5_in_1 rfl (by decide) rfl ?_
  refine j_aload_n (i := 0) C dX5_in_2 rfl 1 rfl ?_
  refine j_get (Cn := RX5) (T := TX5) (N := 4) (ci := 6) C iX5 rfl (0) rfl 2 (by decide) gw657 rfl rfl dX5_in_3 ?_
  refine j_astore_n (lv' := [(3, .ref _), (2, .int _), (0, .ref _), (1, .int _)]) C dX5_in_6 rfl (by decide) rfl ?_
  refine j_aload_n (i := 3) C dX5_in_7 rfl 0 rfl ?_
  refine j_alen (v := nI n) C (1) 4 rfl rfl rfl dX5_in_8 ?_
  refine j_istore (lv' := [(4, .int _), (3, .ref _), (2, .int _), (0, .ref _), (1, .int _)]) C dX5_in_9 (by decide) rfl ?_
  refine j_iconst (v := nI 0) C dX5_in_11 (by decide) ?_
  refine j_istore (lv' := [(5, .int _), (4, .int _), (3, .ref _), (2, .int _), (0, .ref _), (1, .int _)]) C dX5_in_12 (by decide) rfl ?_
  have L14 : ∀ (d i : Nat) (x2 : Int32) (x5 : Int32), i + d = n → x2 = sumF (fun i => b2i ((dat i).2.2.2.1 = y)) i → x5 = nI i → J X (SW ct sd H T n K dat ++ wr) (0) (0) 14 [(0, .ref (sd 0)), (1, .int y), (2, .int x2), (3, .ref (sd 1)), (4, .int (nI n)), (5, .int x5)] [] := by
    intro d
    induction d with
    | zero =>
      intro i x2 x5 hd e_x2 e_x5 
      subst e_x2
      subst e_x5
      have hi9 : i = n := by omega
      rw [hi9]
      refine j_iload C dX5_in_14 5 rfl ?_
      refine j_iload C dX5_in_16 4 rfl ?_
      refine j_icmp_ge C 50 dX5_in_18 (by decide) (fun c18 => ?_) (fun c18 => by first | exact absurd c18 (nI_ge (b := n) (by omega) (by omega)) | exact (c18 (nI_le (Nat.le_refl n) (by omega))).elim)
      refine j_iload_n (i := 2) C dX5_in_50 rfl 2 rfl ?_
      exact j_ireturn C E rfl dX5_in_51 (Nat.le_of_ble_eq_true rfl) (Nat.le_of_ble_eq_true rfl) (⟨rfl, rfl⟩)
    | succ d ih =>
      intro i x2 x5 hd e_x2 e_x5 
      subst e_x2
      subst e_x5
      have hj : i < n := by omega
      refine j_iload C dX5_in_14 5 rfl ?_
      refine j_iload C dX5_in_16 4 rfl ?_
      refine j_icmp_ge C 50 dX5_in_18 (by decide) (fun c18 => by first | exact absurd c18 (nI_ge (b := n) (by omega) (by omega)) | exact (c18 (nI_le (Nat.le_refl n) (by omega))).elim) (fun c18 => ?_)
      refine j_aload_n (i := 3) C dX5_in_21 rfl 3 rfl ?_
      refine j_iload C dX5_in_22 5 rfl ?_
      refine j_aald C (1) 4 rfl rfl rfl (i) rfl hj (by omega) (if_pos hj) dX5_in_24 ?_
      refine j_astore (lv' := [(6, .ref _), (0, .ref _), (1, .int _), (2, .int _), (3, .ref _), (4, .int _), (5, .int _)]) C dX5_in_25 (by decide) rfl ?_
      refine j_iload_n (i := 2) C dX5_in_27 rfl 3 rfl ?_
      refine j_aload C dX5_in_28 0 rfl ?_
      refine j_get (Cn := RX4) (T := TX4) (N := 6) (ci := 5) C iX4 rfl (6 + 8 * i) (sw_o hj) 5 (by decide) gw508 rfl rfl dX5_in_30 ?_
      refine j_iload_n (i := 1) C dX5_in_33 rfl 2 rfl ?_
      refine j_icmp_ne C 41 dX5_in_34 (by decide) (fun c34 => ?_) (fun c34 => ?_)
      · refine j_iconst (v := nI 0) C dX5_in_41 (by decide) ?_
        refine j_iadd C dX5_in_42 ?_
        refine j_istore_n (lv' := [(2, .int _), (6, .ref _), (0, .ref _), (1, .int _), (3, .ref _), (4, .int _), (5, .int _)]) C dX5_in_43 rfl (by decide) rfl ?_
        refine j_iinc (z := 6) (lv' := [(5, .int _), (2, .int _), (6, .ref _), (0, .ref _), (1, .int _), (3, .ref _), (4, .int _)]) C dX5_in_44 rfl rfl (by decide) rfl ?_
        refine j_goto C 14 dX5_in_47 (by decide) ?_
        exact j_lvs [3, 4, 1, 5, 6, 0] rfl (ih (i + 1) _ _ (by omega) (by first | exact congrArg (fun z => sumF (fun i => b2i ((dat i).2.2.2.1 = y)) i + z) (b2i_y c34).symm | exact congrArg (fun z => sumF (fun i => b2i ((dat i).2.2.2.1 = y)) i + z) (b2i_n c34).symm | exact congrArg (fun z => sumF (fun i => b2i ((dat i).2.2.2.1 = y)) i + z) (b2i_y (Decidable.not_not.mp c34)).symm) (nI_1 i))
      · refine j_iconst (v := nI 1) C dX5_in_37 (by decide) ?_
        refine j_goto C 42 dX5_in_38 (by decide) ?_
        refine j_iadd C dX5_in_42 ?_
        refine j_istore_n (lv' := [(2, .int _), (6, .ref _), (0, .ref _), (1, .int _), (3, .ref _), (4, .int _), (5, .int _)]) C dX5_in_43 rfl (by decide) rfl ?_
        refine j_iinc (z := 6) (lv' := [(5, .int _), (2, .int _), (6, .ref _), (0, .ref _), (1, .int _), (3, .ref _), (4, .int _)]) C dX5_in_44 rfl rfl (by decide) rfl ?_
        refine j_goto C 14 dX5_in_47 (by decide) ?_
        exact j_lvs [3, 4, 1, 5, 6, 0] rfl (ih (i + 1) _ _ (by omega) (by first | exact congrArg (fun z => sumF (fun i => b2i ((dat i).2.2.2.1 = y)) i + z) (b2i_y c34).symm | exact congrArg (fun z => sumF (fun i => b2i ((dat i).2.2.2.1 = y)) i + z) (b2i_n c34).symm | exact congrArg (fun z => sumF (fun i => b2i ((dat i).2.2.2.1 = y)) i + z) (b2i_y (Decidable.not_not.mp c34)).symm) (nI_1 i))
  exact j_lvs [4, 5, 3, 2, 1, 0] rfl (L14 (n) (0) _ _ (by omega) (rfl) (rfl))
set_option maxRecDepth 100000 in
set_option maxHeartbeats 1000000 in
theorem kX5_best (l : Launch) (D : va_G) (ct : Nat → ClassId) (sa : Nat → Nat) (ws : va_W) (k a : Nat) (g : Nat → Int32) (hk : ws[k]? = some (arI ct a 6 g)) : jM l yX5_best (Cond.code yX5_best cX5_best 3 (Option.some Jvm.ClassFile.FieldType.int) :: GW) (rM 0 0 0 0) D ct sa [.ref a] (ws) (dK (some (.int (nI (bmF g 5)))) ws) 0 0 := by
  refine jMX.plain (jBody (own := RX5) (by decide) rfl rfl (Nat.le_of_ble_eq_true rfl) ?_)
  intro X C E T0
  refine j_lv (lv1 := [(0, .ref _)]) rfl ?_
  refine j_iconst (v := nI 5) C dX5_best_0 (by decide) ?_
  refine j_istore_n (lv' := [(1, .int _), (0, .ref _)]) C dX5_best_1 rfl (by decide) rfl ?_
  refine j_iconst (v := nI 4) C dX5_best_2 (by decide) ?_
  refine j_istore_n (lv' := [(2, .int _), (1, .int _), (0, .ref _)]) C dX5_best_3 rfl (by decide) rfl ?_
  have L4 : ∀ (d i : Nat) (x1 : Int32) (x2 : Int32), i + d = 5 → x1 = nI (bdF g i) → x2 = rgB i → J X (ws) (0) (0) 4 [(0, .ref a), (1, .int x1), (2, .int x2)] [] := by
    intro d
    induction d with
    | zero =>
      intro i x1 x2 hd e_x1 e_x2 
      subst e_x1
      subst e_x2
      have hi9 : i = 5 := by omega
      subst hi9
      refine j_iload_n (i := 2) C dX5_best_4 rfl 2 rfl ?_
      refine j_if_lt C 25 dX5_best_5 (by decide) (fun c5 => ?_) (fun c5 => by first | exact absurd c5 (by rw [rb_n i (by omega)]; exact nI_pos (by omega)) | exact (c5 (by decide)).elim)
      refine j_iload_n (i := 1) C dX5_best_25 rfl 1 rfl ?_
      exact j_ireturn C E rfl dX5_best_26 (Nat.le_of_ble_eq_true rfl) (Nat.le_of_ble_eq_true rfl) (⟨congrArg (fun z => some (Value.int z)) (congrArg nI (bd_bm g)), rfl⟩)
    | succ d ih =>
      intro i x1 x2 hd e_x1 e_x2 
      subst e_x1
      subst e_x2
      have hb5 := bd_le g i
      refine j_iload_n (i := 2) C dX5_best_4 rfl 2 rfl ?_
      refine j_if_lt C 25 dX5_best_5 (by decide) (fun c5 => by first | exact absurd c5 (by rw [rb_n i (by omega)]; exact nI_pos (by omega)) | exact (c5 (by decide)).elim) (fun c5 => ?_)
      refine j_aload_n (i := 0) C dX5_best_8 rfl 0 rfl ?_
      refine j_iload_n (i := 2) C dX5_best_9 rfl 2 rfl ?_
      refine j_iald C (k) hk (4 - i) (rb_n i (by omega)) (by omega) (by decide) dX5_best_10 ?_
      refine j_aload_n (i := 0) C dX5_best_11 rfl 0 rfl ?_
      refine j_iload_n (i := 1) C dX5_best_12 rfl 1 rfl ?_
      refine j_iald C (k) hk (bdF g i) rfl (by omega) (by decide) dX5_best_13 ?_
      refine j_icmp_lt C 19 dX5_best_14 (by decide) (fun c14 => ?_) (fun c14 => ?_)
      · refine j_iinc (z := 2) (lv' := [(2, .int _), (0, .ref _), (1, .int _)]) C dX5_best_19 rfl rfl (by decide) rfl ?_
        refine j_goto C 4 dX5_best_22 (by decide) ?_
        exact j_lvs [1, 2, 0] rfl (ih (i + 1) _ _ (by omega) (by show _ = nI (if _ then _ else _); first | rw [if_neg (inle c14)] | (rw [if_pos (ile_of c14)]; exact rb_n i (by omega))) (rfl))
      · refine j_iload_n (i := 2) C dX5_best_17 rfl 2 rfl ?_
        refine j_istore_n (lv' := [(1, .int _), (0, .ref _), (2, .int _)]) C dX5_best_18 rfl (by decide) rfl ?_
        refine j_iinc (z := 2) (lv' := [(2, .int _), (1, .int _), (0, .ref _)]) C dX5_best_19 rfl rfl (by decide) rfl ?_
        refine j_goto C 4 dX5_best_22 (by decide) ?_
        exact j_lvs [2, 1, 0] rfl (ih (i + 1) _ _ (by omega) (by show _ = nI (if _ then _ else _); first | rw [if_neg (inle c14)] | (rw [if_pos (ile_of c14)]; exact rb_n i (by omega))) (rfl))
  exact j_lvs [2, 1, 0] rfl (L4 (5) (0) _ _ (by omega) (rfl) (rfl))
set_option maxRecDepth 100000 in
set_option maxHeartbeats 1000000 in
theorem kX4_init (l : Launch) (D : va_G) (ct : Nat → ClassId) (sa : Nat → Nat) (ws : va_W) (k h : Nat) (hk : ws[k]? = some (h, .inr (5, [.null, .null, .null, .int (nI 0), .int (nI 0), .int (nI 0)]))) : jM l yX4_init (Cond.code yX4_init cX4_init 1 (Option.none : Option Jvm.ClassFile.FieldType) :: GW) (rM 1 6 32 20) D ct sa [.ref h] (ws) (fun r w => ∃ (q1 q2 : Nat) (rw : Nat → Nat), r = none ∧ w = (ws.set k (h, .inr (5, [.null, .ref q1, .ref q2, .int (nI 1), .int (nI 0), .int (-1)]))) ++ (arI ct q1 4 (fun _ => nI 0) :: arR (ct 3) q2 4 (rfs 4 rw) :: (List.range 4).map (fun i => arI ct (rw i) 6 (fun _ => nI 0)))) 6 32 := by
  refine jMX.plain (jBodyN (own := RX4) (by decide) rfl rfl (Nat.le_of_ble_eq_true rfl) ?_)
  intro X N0 C E T0
  refine j_lv (lv1 := [(0, .ref _)]) rfl ?_
  refine j_aload_n (i := 0) C dX4_init_0 rfl 0 rfl ?_
  refine j_objInit C gw493 gw48 gw49 ⟨Nat.le_of_ble_eq_true rfl, Nat.le_of_ble_eq_true rfl⟩ dX4_init_1 ?_
  refine j_aload_n (i := 0) C dX4_init_4 rfl 0 rfl ?_
  refine j_iconst (v := nI 4) C dX4_init_5 (by decide) ?_
  refine j_newaI C rfl (by decide) (Nat.le_of_ble_eq_true rfl) (Nat.le_of_ble_eq_true rfl) dX4_init_6 (fun q1 => ?_)
  refine j_put (Cn := RX4) (T := TX4) (N := 6) (ci := 5) (ws2 := (ws.set k (h, .inr (5, [.null, .ref q1, .null, .int (nI 0), .int (nI 0), .int (nI 0)]))) ++ (arI ct q1 4 (fun _ => nI 0) :: [])) C iX4 tyX4 tyX4_ok nmX4 rfl (k) (app_at hk) 1 (by decide) gw497 rfl rfl rfl rfl rfl (Nat.le_of_ble_eq_true rfl) (app_set hk) dX4_init_8 ?_
  refine j_aload_n (i := 0) C dX4_init_11 rfl 0 rfl ?_
  refine j_iconst (v := nI 4) C dX4_init_12 (by decide) ?_
  refine j_bipush (v := nI 6) C dX4_init_13 (by decide) ?_
  refine j_mnb C gw494 gw108 (Nat.le_of_ble_eq_true rfl) (Nat.le_of_ble_eq_true rfl) dX4_init_15 (fun q2 rw => ?_)
  refine j_ws (ws1 := (ws.set k (h, .inr (5, [.null, .ref q1, .null, .int (nI 0), .int (nI 0), .int (nI 0)]))) ++ (arI ct q1 4 (fun _ => nI 0) :: arR (ct 3) q2 4 (rfs 4 rw) :: (List.range 4).map (fun i => arI ct (rw i) 6 (fun _ => nI 0)))) (List.append_assoc ..) ?_
  refine j_put (Cn := RX4) (T := TX4) (N := 6) (ci := 5) (ws2 := (ws.set k (h, .inr (5, [.null, .ref q1, .ref q2, .int (nI 0), .int (nI 0), .int (nI 0)]))) ++ (arI ct q1 4 (fun _ => nI 0) :: arR (ct 3) q2 4 (rfs 4 rw) :: (List.range 4).map (fun i => arI ct (rw i) 6 (fun _ => nI 0)))) C iX4 tyX4 tyX4_ok nmX4 rfl (k) (app_at (set_eq hk)) 2 (by decide) gw500 rfl rfl rfl rfl rfl (Nat.le_of_ble_eq_true rfl) (by rw [app_set (set_eq hk), set_set]; rfl) dX4_init_19 ?_
  refine j_aload_n (i := 0) C dX4_init_22 rfl 0 rfl ?_
  refine j_iconst (v := nI 1) C dX4_init_23 (by decide) ?_
  refine j_put (Cn := RX4) (T := TX4) (N := 6) (ci := 5) (ws2 := (ws.set k (h, .inr (5, [.null, .ref q1, .ref q2, .int (nI 1), .int (nI 0), .int (nI 0)]))) ++ (arI ct q1 4 (fun _ => nI 0) :: arR (ct 3) q2 4 (rfs 4 rw) :: (List.range 4).map (fun i => arI ct (rw i) 6 (fun _ => nI 0)))) C iX4 tyX4 tyX4_ok nmX4 rfl (k) (app_at (set_eq hk)) 3 (by decide) gw502 rfl rfl rfl rfl rfl (Nat.le_of_ble_eq_true rfl) (by rw [app_set (set_eq hk), set_set]; rfl) dX4_init_24 ?_
  refine j_aload_n (i := 0) C dX4_init_27 rfl 0 rfl ?_
  refine j_iconst (v := (-1)) C dX4_init_28 (by decide) ?_
  refine j_put (Cn := RX4) (T := TX4) (N := 6) (ci := 5) (ws2 := (ws.set k (h, .inr (5, [.null, .ref q1, .ref q2, .int (nI 1), .int (nI 0), .int (-1)]))) ++ (arI ct q1 4 (fun _ => nI 0) :: arR (ct 3) q2 4 (rfs 4 rw) :: (List.range 4).map (fun i => arI ct (rw i) 6 (fun _ => nI 0)))) C iX4 tyX4 tyX4_ok nmX4 rfl (k) (app_at (set_eq hk)) 5 (by decide) gw507 rfl rfl rfl rfl rfl (Nat.le_of_ble_eq_true rfl) (by rw [app_set (set_eq hk), set_set]; rfl) dX4_init_29 ?_
  exact j_return C E dX4_init_32 (Nat.le_of_ble_eq_true rfl) (Nat.le_of_ble_eq_true rfl) (⟨q1, q2, rw, rfl, rfl⟩)
set_option maxRecDepth 100000 in
set_option maxHeartbeats 1000000 in
theorem kX5_init (l : Launch) (D : va_G) (ct : Nat → ClassId) (sa : Nat → Nat) (ws : va_W) (k h : Nat) (hk : ws[k]? = some (h, .inr (6, [.int (nI 0), .int (nI 0), .null, .null]))) : jM l yX5_init (Cond.code yX5_init cX5_init 1 (Option.none : Option Jvm.ClassFile.FieldType) :: GW) (rM 1 5 12 20) D ct sa [.ref h] (ws) (fun r w => ∃ q1 q2 r0 r1 r2 : Nat, r = none ∧ w = (ws.set k (h, .inr (6, [.int (nI 0), .int (nI 0), .ref q1, .ref q2]))) ++ (arR (ct 4) q1 0 (fun _ => none) :: arR (ct 3) q2 3 (va_up (va_up (va_up (fun _ => none) 0 (some r0)) 1 (some r1)) 2 (some r2)) :: arI ct r0 3 (upd (upd (upd (fun _ => nI 0) 0 (nI 4)) 1 (nI 0)) 2 (nI 24)) :: arI ct r1 3 (upd (upd (upd (fun _ => nI 0) 0 (nI 4)) 1 (nI 0)) 2 (nI 24)) :: arI ct r2 3 (upd (upd (upd (fun _ => nI 0) 0 (nI 4)) 1 (nI 0)) 2 (nI 24)) :: [])) 5 12 := by
  refine jMX.plain (jBodyN (own := RX5) (by decide) rfl rfl (Nat.le_of_ble_eq_true rfl) ?_)
  intro X N0 C E T0
  refine j_lv (lv1 := [(0, .ref _)]) rfl ?_
  refine j_aload_n (i := 0) C dX5_init_0 rfl 0 rfl ?_
  refine j_objInit C gw651 gw48 gw49 ⟨Nat.le_of_ble_eq_true rfl, Nat.le_of_ble_eq_true rfl⟩ dX5_init_1 ?_
  refine j_aload_n (i := 0) C dX5_init_4 rfl 0 rfl ?_
  refine j_iconst (v := nI 0) C dX5_init_5 (by decide) ?_
  refine j_newqL C gw652 (N := 0) rfl (by decide) (Nat.le_of_ble_eq_true rfl) (Nat.le_of_ble_eq_true rfl) dX5_init_6 (fun q1 => ?_)
  refine j_put (Cn := RX5) (T := TX5) (N := 4) (ci := 6) (ws2 := (ws.set k (h, .inr (6, [.int (nI 0), .int (nI 0), .ref q1, .null]))) ++ (arR (ct 4) q1 0 (fun _ => none) :: [])) C iX5 tyX5 tyX5_ok nmX5 rfl (k) (app_at hk) 2 (by decide) gw657 rfl rfl rfl rfl rfl (Nat.le_of_ble_eq_true rfl) (app_set hk) dX5_init_9 ?_
  refine j_aload_n (i := 0) C dX5_init_12 rfl 0 rfl ?_
  refine j_iconst (v := nI 3) C dX5_init_13 (by decide) ?_
  refine j_newqA C gw653 (N := 3) rfl (by decide) (Nat.le_of_ble_eq_true rfl) (Nat.le_of_ble_eq_true rfl) dX5_init_14 (fun q2 => ?_)
  refine j_ws (ws1 := (ws.set k (h, .inr (6, [.int (nI 0), .int (nI 0), .ref q1, .null]))) ++ (arR (ct 4) q1 0 (fun _ => none) :: arR (ct 3) q2 3 (fun _ => none) :: [])) (List.append_assoc ..) ?_
  refine j_dup C dX5_init_17 rfl ?_
  refine j_iconst (v := nI 0) C dX5_init_18 (by decide) ?_
  refine j_iconst (v := nI 3) C dX5_init_19 (by decide) ?_
  refine j_newaI C (N := 3) rfl (by decide) (Nat.le_of_ble_eq_true rfl) (Nat.le_of_ble_eq_true rfl) dX5_init_20 (fun r0 => ?_)
  refine j_ws (ws1 := (ws.set k (h, .inr (6, [.int (nI 0), .int (nI 0), .ref q1, .null]))) ++ (arR (ct 4) q1 0 (fun _ => none) :: arR (ct 3) q2 3 (fun _ => none) :: arI ct r0 3 (fun _ => nI 0) :: [])) (List.append_assoc ..) ?_
  refine j_dup C dX5_init_22 rfl ?_
  refine j_iconst (v := nI 0) C dX5_init_23 (by decide) ?_
  refine j_iconst (v := nI 4) C dX5_init_24 (by decide) ?_
  refine j_iast (ws2 := (ws.set k (h, .inr (6, [.int (nI 0), .int (nI 0), .ref q1, .null]))) ++ (arR (ct 4) q1 0 (fun _ => none) :: arR (ct 3) q2 3 (fun _ => none) :: arI ct r0 3 (upd (fun _ => nI 0) 0 (nI 4)) :: [])) C ((ws.set k (h, .inr (6, [.int (nI 0), .int (nI 0), .ref q1, .null]))).length + 1 + 1) (th_at rfl) (0) rfl (by decide) (by decide) (by rw [th_set]; rfl) dX5_init_25 ?_
  refine j_dup C dX5_init_26 rfl ?_
  refine j_iconst (v := nI 1) C dX5_init_27 (by decide) ?_
  refine j_iconst (v := nI 0) C dX5_init_28 (by decide) ?_
  refine j_iast (ws2 := (ws.set k (h, .inr (6, [.int (nI 0), .int (nI 0), .ref q1, .null]))) ++ (arR (ct 4) q1 0 (fun _ => none) :: arR (ct 3) q2 3 (fun _ => none) :: arI ct r0 3 (upd (upd (fun _ => nI 0) 0 (nI 4)) 1 (nI 0)) :: [])) C ((ws.set k (h, .inr (6, [.int (nI 0), .int (nI 0), .ref q1, .null]))).length + 1 + 1) (th_at rfl) (1) rfl (by decide) (by decide) (by rw [th_set]; rfl) dX5_init_29 ?_
  refine j_dup C dX5_init_30 rfl ?_
  refine j_iconst (v := nI 2) C dX5_init_31 (by decide) ?_
  refine j_bipush (v := nI 24) C dX5_init_32 (by decide) ?_
  refine j_iast (ws2 := (ws.set k (h, .inr (6, [.int (nI 0), .int (nI 0), .ref q1, .null]))) ++ (arR (ct 4) q1 0 (fun _ => none) :: arR (ct 3) q2 3 (fun _ => none) :: arI ct r0 3 (upd (upd (upd (fun _ => nI 0) 0 (nI 4)) 1 (nI 0)) 2 (nI 24)) :: [])) C ((ws.set k (h, .inr (6, [.int (nI 0), .int (nI 0), .ref q1, .null]))).length + 1 + 1) (th_at rfl) (2) rfl (by decide) (by decide) (by rw [th_set]; rfl) dX5_init_34 ?_
  refine j_astqA (ws2 := (ws.set k (h, .inr (6, [.int (nI 0), .int (nI 0), .ref q1, .null]))) ++ (arR (ct 4) q1 0 (fun _ => none) :: arR (ct 3) q2 3 (va_up (fun _ => none) 0 (some r0)) :: arI ct r0 3 (upd (upd (upd (fun _ => nI 0) 0 (nI 4)) 1 (nI 0)) 2 (nI 24)) :: [])) C ((ws.set k (h, .inr (6, [.int (nI 0), .int (nI 0), .ref q1, .null]))).length + 1 + 0) ((ws.set k (h, .inr (6, [.int (nI 0), .int (nI 0), .ref q1, .null]))).length + 1 + 1) (th_at rfl) (th_at rfl) 0 rfl (by decide) (by decide) (by rw [th_set]; rfl) dX5_init_35 ?_
  refine j_dup C dX5_init_36 rfl ?_
  refine j_iconst (v := nI 1) C dX5_init_37 (by decide) ?_
  refine j_iconst (v := nI 3) C dX5_init_38 (by decide) ?_
  refine j_newaI C (N := 3) rfl (by decide) (Nat.le_of_ble_eq_true rfl) (Nat.le_of_ble_eq_true rfl) dX5_init_39 (fun r1 => ?_)
  refine j_ws (ws1 := (ws.set k (h, .inr (6, [.int (nI 0), .int (nI 0), .ref q1, .null]))) ++ (arR (ct 4) q1 0 (fun _ => none) :: arR (ct 3) q2 3 (va_up (fun _ => none) 0 (some r0)) :: arI ct r0 3 (upd (upd (upd (fun _ => nI 0) 0 (nI 4)) 1 (nI 0)) 2 (nI 24)) :: arI ct r1 3 (fun _ => nI 0) :: [])) (List.append_assoc ..) ?_
  refine j_dup C dX5_init_41 rfl ?_
  refine j_iconst (v := nI 0) C dX5_init_42 (by decide) ?_
  refine j_iconst (v := nI 4) C dX5_init_43 (by decide) ?_
  refine j_iast (ws2 := (ws.set k (h, .inr (6, [.int (nI 0), .int (nI 0), .ref q1, .null]))) ++ (arR (ct 4) q1 0 (fun _ => none) :: arR (ct 3) q2 3 (va_up (fun _ => none) 0 (some r0)) :: arI ct r0 3 (upd (upd (upd (fun _ => nI 0) 0 (nI 4)) 1 (nI 0)) 2 (nI 24)) :: arI ct r1 3 (upd (fun _ => nI 0) 0 (nI 4)) :: [])) C ((ws.set k (h, .inr (6, [.int (nI 0), .int (nI 0), .ref q1, .null]))).length + 1 + 2) (th_at rfl) (0) rfl (by decide) (by decide) (by rw [th_set]; rfl) dX5_init_44 ?_
  refine j_dup C dX5_init_45 rfl ?_
  refine j_iconst (v := nI 1) C dX5_init_46 (by decide) ?_
  refine j_iconst (v := nI 0) C dX5_init_47 (by decide) ?_
  refine j_iast (ws2 := (ws.set k (h, .inr (6, [.int (nI 0), .int (nI 0), .ref q1, .null]))) ++ (arR (ct 4) q1 0 (fun _ => none) :: arR (ct 3) q2 3 (va_up (fun _ => none) 0 (some r0)) :: arI ct r0 3 (upd (upd (upd (fun _ => nI 0) 0 (nI 4)) 1 (nI 0)) 2 (nI 24)) :: arI ct r1 3 (upd (upd (fun _ => nI 0) 0 (nI 4)) 1 (nI 0)) :: [])) C ((ws.set k (h, .inr (6, [.int (nI 0), .int (nI 0), .ref q1, .null]))).length + 1 + 2) (th_at rfl) (1) rfl (by decide) (by decide) (by rw [th_set]; rfl) dX5_init_48 ?_
  refine j_dup C dX5_init_49 rfl ?_
  refine j_iconst (v := nI 2) C dX5_init_50 (by decide) ?_
  refine j_bipush (v := nI 24) C dX5_init_51 (by decide) ?_
  refine j_iast (ws2 := (ws.set k (h, .inr (6, [.int (nI 0), .int (nI 0), .ref q1, .null]))) ++ (arR (ct 4) q1 0 (fun _ => none) :: arR (ct 3) q2 3 (va_up (fun _ => none) 0 (some r0)) :: arI ct r0 3 (upd (upd (upd (fun _ => nI 0) 0 (nI 4)) 1 (nI 0)) 2 (nI 24)) :: arI ct r1 3 (upd (upd (upd (fun _ => nI 0) 0 (nI 4)) 1 (nI 0)) 2 (nI 24)) :: [])) C ((ws.set k (h, .inr (6, [.int (nI 0), .int (nI 0), .ref q1, .null]))).length + 1 + 2) (th_at rfl) (2) rfl (by decide) (by decide) (by rw [th_set]; rfl) dX5_init_53 ?_
  refine j_astqA (ws2 := (ws.set k (h, .inr (6, [.int (nI 0), .int (nI 0), .ref q1, .null]))) ++ (arR (ct 4) q1 0 (fun _ => none) :: arR (ct 3) q2 3 (va_up (va_up (fun _ => none) 0 (some r0)) 1 (some r1)) :: arI ct r0 3 (upd (upd (upd (fun _ => nI 0) 0 (nI 4)) 1 (nI 0)) 2 (nI 24)) :: arI ct r1 3 (upd (upd (upd (fun _ => nI 0) 0 (nI 4)) 1 (nI 0)) 2 (nI 24)) :: [])) C ((ws.set k (h, .inr (6, [.int (nI 0), .int (nI 0), .ref q1, .null]))).length + 1 + 0) ((ws.set k (h, .inr (6, [.int (nI 0), .int (nI 0), .ref q1, .null]))).length + 1 + 2) (th_at rfl) (th_at rfl) 1 rfl (by decide) (by decide) (by rw [th_set]; rfl) dX5_init_54 ?_
  refine j_dup C dX5_init_55 rfl ?_
  refine j_iconst (v := nI 2) C dX5_init_56 (by decide) ?_
  refine j_iconst (v := nI 3) C dX5_init_57 (by decide) ?_
  refine j_newaI C (N := 3) rfl (by decide) (Nat.le_of_ble_eq_true rfl) (Nat.le_of_ble_eq_true rfl) dX5_init_58 (fun r2 => ?_)
  refine j_ws (ws1 := (ws.set k (h, .inr (6, [.int (nI 0), .int (nI 0), .ref q1, .null]))) ++ (arR (ct 4) q1 0 (fun _ => none) :: arR (ct 3) q2 3 (va_up (va_up (fun _ => none) 0 (some r0)) 1 (some r1)) :: arI ct r0 3 (upd (upd (upd (fun _ => nI 0) 0 (nI 4)) 1 (nI 0)) 2 (nI 24)) :: arI ct r1 3 (upd (upd (upd (fun _ => nI 0) 0 (nI 4)) 1 (nI 0)) 2 (nI 24)) :: arI ct r2 3 (fun _ => nI 0) :: [])) (List.append_assoc ..) ?_
  refine j_dup C dX5_init_60 rfl ?_
  refine j_iconst (v := nI 0) C dX5_init_61 (by decide) ?_
  refine j_iconst (v := nI 4) C dX5_init_62 (by decide) ?_
  refine j_iast (ws2 := (ws.set k (h, .inr (6, [.int (nI 0), .int (nI 0), .ref q1, .null]))) ++ (arR (ct 4) q1 0 (fun _ => none) :: arR (ct 3) q2 3 (va_up (va_up (fun _ => none) 0 (some r0)) 1 (some r1)) :: arI ct r0 3 (upd (upd (upd (fun _ => nI 0) 0 (nI 4)) 1 (nI 0)) 2 (nI 24)) :: arI ct r1 3 (upd (upd (upd (fun _ => nI 0) 0 (nI 4)) 1 (nI 0)) 2 (nI 24)) :: arI ct r2 3 (upd (fun _ => nI 0) 0 (nI 4)) :: [])) C ((ws.set k (h, .inr (6, [.int (nI 0), .int (nI 0), .ref q1, .null]))).length + 1 + 3) (th_at rfl) (0) rfl (by decide) (by decide) (by rw [th_set]; rfl) dX5_init_63 ?_
  refine j_dup C dX5_init_64 rfl ?_
  refine j_iconst (v := nI 1) C dX5_init_65 (by decide) ?_
  refine j_iconst (v := nI 0) C dX5_init_66 (by decide) ?_
  refine j_iast (ws2 := (ws.set k (h, .inr (6, [.int (nI 0), .int (nI 0), .ref q1, .null]))) ++ (arR (ct 4) q1 0 (fun _ => none) :: arR (ct 3) q2 3 (va_up (va_up (fun _ => none) 0 (some r0)) 1 (some r1)) :: arI ct r0 3 (upd (upd (upd (fun _ => nI 0) 0 (nI 4)) 1 (nI 0)) 2 (nI 24)) :: arI ct r1 3 (upd (upd (upd (fun _ => nI 0) 0 (nI 4)) 1 (nI 0)) 2 (nI 24)) :: arI ct r2 3 (upd (upd (fun _ => nI 0) 0 (nI 4)) 1 (nI 0)) :: [])) C ((ws.set k (h, .inr (6, [.int (nI 0), .int (nI 0), .ref q1, .null]))).length + 1 + 3) (th_at rfl) (1) rfl (by decide) (by decide) (by rw [th_set]; rfl) dX5_init_67 ?_
  refine j_dup C dX5_init_68 rfl ?_
  refine j_iconst (v := nI 2) C dX5_init_69 (by decide) ?_
  refine j_bipush (v := nI 24) C dX5_init_70 (by decide) ?_
  refine j_iast (ws2 := (ws.set k (h, .inr (6, [.int (nI 0), .int (nI 0), .ref q1, .null]))) ++ (arR (ct 4) q1 0 (fun _ => none) :: arR (ct 3) q2 3 (va_up (va_up (fun _ => none) 0 (some r0)) 1 (some r1)) :: arI ct r0 3 (upd (upd (upd (fun _ => nI 0) 0 (nI 4)) 1 (nI 0)) 2 (nI 24)) :: arI ct r1 3 (upd (upd (upd (fun _ => nI 0) 0 (nI 4)) 1 (nI 0)) 2 (nI 24)) :: arI ct r2 3 (upd (upd (upd (fun _ => nI 0) 0 (nI 4)) 1 (nI 0)) 2 (nI 24)) :: [])) C ((ws.set k (h, .inr (6, [.int (nI 0), .int (nI 0), .ref q1, .null]))).length + 1 + 3) (th_at rfl) (2) rfl (by decide) (by decide) (by rw [th_set]; rfl) dX5_init_72 ?_
  refine j_astqA (ws2 := (ws.set k (h, .inr (6, [.int (nI 0), .int (nI 0), .ref q1, .null]))) ++ (arR (ct 4) q1 0 (fun _ => none) :: arR (ct 3) q2 3 (va_up (va_up (va_up (fun _ => none) 0 (some r0)) 1 (some r1)) 2 (some r2)) :: arI ct r0 3 (upd (upd (upd (fun _ => nI 0) 0 (nI 4)) 1 (nI 0)) 2 (nI 24)) :: arI ct r1 3 (upd (upd (upd (fun _ => nI 0) 0 (nI 4)) 1 (nI 0)) 2 (nI 24)) :: arI ct r2 3 (upd (upd (upd (fun _ => nI 0) 0 (nI 4)) 1 (nI 0)) 2 (nI 24)) :: [])) C ((ws.set k (h, .inr (6, [.int (nI 0), .int (nI 0), .ref q1, .null]))).length + 1 + 0) ((ws.set k (h, .inr (6, [.int (nI 0), .int (nI 0), .ref q1, .null]))).length + 1 + 3) (th_at rfl) (th_at rfl) 2 rfl (by decide) (by decide) (by rw [th_set]; rfl) dX5_init_73 ?_
  refine j_put (Cn := RX5) (T := TX5) (N := 4) (ci := 6) (ws2 := (ws.set k (h, .inr (6, [.int (nI 0), .int (nI 0), .ref q1, .ref q2]))) ++ (arR (ct 4) q1 0 (fun _ => none) :: arR (ct 3) q2 3 (va_up (va_up (va_up (fun _ => none) 0 (some r0)) 1 (some r1)) 2 (some r2)) :: arI ct r0 3 (upd (upd (upd (fun _ => nI 0) 0 (nI 4)) 1 (nI 0)) 2 (nI 24)) :: arI ct r1 3 (upd (upd (upd (fun _ => nI 0) 0 (nI 4)) 1 (nI 0)) 2 (nI 24)) :: arI ct r2 3 (upd (upd (upd (fun _ => nI 0) 0 (nI 4)) 1 (nI 0)) 2 (nI 24)) :: [])) C iX5 tyX5 tyX5_ok nmX5 rfl (k) (app_at (set_eq hk)) 3 (by decide) gw659 rfl rfl rfl rfl rfl (Nat.le_of_ble_eq_true rfl) (by rw [app_set (set_eq hk), set_set]; rfl) dX5_init_74 ?_
  exact j_return C E dX5_init_77 (Nat.le_of_ble_eq_true rfl) (Nat.le_of_ble_eq_true rfl) (⟨q1, q2, r0, r1, r2, rfl, rfl⟩)
