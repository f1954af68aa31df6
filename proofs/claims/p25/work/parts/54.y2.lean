set_option maxRecDepth 100000 in
set_option maxHeartbeats 1000000 in
theorem kX5_pass (l : Launch) (D : va_G) (ct : Nat → ClassId) (sa : Nat → Nat) (sd : Nat → Nat) (σ : St) (wr : va_W) (h : Nat) (hi : Inv1 σ) (hH : sH σ = nI h) (hh : h < 2 ^ 20) (hK : okK (sK σ)) : jM l yX5_pass (Cond.code yX5_pass cX5_pass 8 (Option.some Jvm.ClassFile.FieldType.int) :: GW) (rM 1 0 0 22) D ct sa [.ref (sd 0)] (SWs ct sd σ ++ wr) (dK (some (.int (hrC σ))) (SWs ct sd (hrS σ) ++ wr)) 0 0 := by
  refine jMX.plain (jBody (own := RX5) (by decide) rfl rfl (Nat.le_of_ble_eq_true rfl) ?_)
  have hn8 := hi.1.1
  intro X C E T0
  refine j_lv (lv1 := [(0, .ref _)]) rfl ?_
  refine j_aload_n (i := 0) C dX5_pass_0 rfl 0 rfl ?_
  refine j_get (Cn := RX5) (T := TX5) (N := 4) (ci := 6) C iX5 rfl (0) rfl 2 (by decide) gw657 rfl rfl dX5_pass_1 ?_
  refine j_astore_n (lv' := [(1, .ref _), (0, .ref _)]) C dX5_pass_4 rfl (by decide) rfl ?_
  refine j_aload_n (i := 1) C dX5_pass_5 rfl 0 rfl ?_
  refine j_alen (v := nI (sN σ)) C (1) 4 rfl rfl rfl dX5_pass_6 ?_
  refine j_istore_n (lv' := [(2, .int _), (1, .ref _), (0, .ref _)]) C dX5_pass_7 rfl (by decide) rfl ?_
  refine j_iconst (v := nI 0) C dX5_pass_8 (by decide) ?_
  refine j_istore_n (lv' := [(3, .int _), (2, .int _), (1, .ref _), (0, .ref _)]) C dX5_pass_9 rfl (by decide) rfl ?_
  have L10 : ∀ (d i : Nat) (x3 : Int32) (w : va_W), i + d = sN σ → x3 = nI i → w = SW ct sd (sH σ) (sT σ) (sN σ) (sK σ) (wdA σ i) ++ wr → J X (w) (0) (0) 10 [(0, .ref (sd 0)), (1, .ref (sd 1)), (2, .int (nI (sN σ))), (3, .int x3)] [] := by
    intro d
    induction d with
    | zero =>
      intro i x3 w hd e_x3 e_w 
      subst e_x3
      subst e_w
      have hi9 : i = sN σ := by omega
      rw [hi9]
      refine j_iload_n (i := 3) C dX5_pass_10 rfl 3 rfl ?_
      refine j_iload_n (i := 2) C dX5_pass_11 rfl 2 rfl ?_
      refine j_icmp_ge C 127 dX5_pass_12 (by decide) (fun c12 => ?_) (fun c12 => by first | exact absurd c12 (nI_ge (b := sN σ) (by omega) (by omega)) | exact (c12 (nI_le (Nat.le_refl (sN σ)) (by omega))).elim)
      refine j_iconst (v := nI 0) C dX5_pass_127 (by decide) ?_
      refine j_istore_n (lv' := [(1, .int _), (0, .ref _), (2, .int _), (3, .int _)]) C dX5_pass_128 rfl (by decide) rfl ?_
      refine j_aload_n (i := 0) C dX5_pass_129 rfl 1 rfl ?_
      refine j_get (Cn := RX5) (T := TX5) (N := 4) (ci := 6) C iX5 rfl (0) rfl 2 (by decide) gw657 rfl rfl dX5_pass_130 ?_
      refine j_astore_n (lv' := [(2, .ref _), (1, .int _), (0, .ref _), (3, .int _)]) C dX5_pass_133 rfl (by decide) rfl ?_
      refine j_aload_n (i := 2) C dX5_pass_134 rfl 0 rfl ?_
      refine j_alen (v := nI (sN σ)) C (1) 4 rfl rfl rfl dX5_pass_135 ?_
      refine j_istore_n (lv' := [(3, .int _), (2, .ref _), (1, .int _), (0, .ref _)]) C dX5_pass_136 rfl (by decide) rfl ?_
      refine j_iconst (v := nI 0) C dX5_pass_137 (by decide) ?_
      refine j_istore (lv' := [(4, .int _), (3, .int _), (2, .ref _), (1, .int _), (0, .ref _)]) C dX5_pass_138 (by decide) rfl ?_
      have L140 : ∀ (d i : Nat) (x1 : Int32) (x4 : Int32) (w : va_W), i + d = sN σ → x1 = cCF (sK σ) (sH σ) (sR σ) i → x4 = nI i → w = SW ct sd (sH σ) (sT σ) (sN σ) (sK σ) (hrA σ i) ++ wr → J X (w) (0) (0) 140 [(0, .ref (sd 0)), (1, .int x1), (2, .ref (sd 1)), (3, .int (nI (sN σ))), (4, .int x4)] [] := by
        intro d
        induction d with
        | zero =>
          intro i x1 x4 w hd e_x1 e_x4 e_w 
          subst e_x1
          subst e_x4
          subst e_w
          have hi9 : i = sN σ := by omega
          rw [hi9]
          refine j_iload C dX5_pass_140 4 rfl ?_
          refine j_iload_n (i := 3) C dX5_pass_142 rfl 3 rfl ?_
          refine j_icmp_ge C 197 dX5_pass_143 (by decide) (fun c143 => ?_) (fun c143 => by first | exact absurd c143 (nI_ge (b := sN σ) (by omega) (by omega)) | exact (c143 (nI_le (Nat.le_refl (sN σ)) (by omega))).elim)
          refine j_aload_n (i := 0) C dX5_pass_197 rfl 0 rfl ?_
          refine j_dup C dX5_pass_198 rfl ?_
          refine j_get (Cn := RX5) (T := TX5) (N := 4) (ci := 6) C iX5 rfl (0) rfl 0 (by decide) gw654 rfl rfl dX5_pass_199 ?_
          refine j_iconst (v := nI 1) C dX5_pass_202 (by decide) ?_
          refine j_iadd C dX5_pass_203 ?_
          refine j_put (Cn := RX5) (T := TX5) (N := 4) (ci := 6) (ws2 := SW ct sd (sH σ + nI 1) (sT σ) (sN σ) (sK σ) (hrA σ (sN σ)) ++ wr) C iX5 tyX5 tyX5_ok nmX5 rfl (0) rfl 0 (by decide) gw654 rfl rfl rfl rfl rfl (Nat.le_of_ble_eq_true rfl) rfl dX5_pass_204 ?_
          refine j_iload_n (i := 1) C dX5_pass_207 rfl 1 rfl ?_
          exact j_ireturn C E rfl dX5_pass_208 (Nat.le_of_ble_eq_true rfl) (Nat.le_of_ble_eq_true rfl) (⟨rfl, congrArg (fun w => w ++ wr) (ha_e hi.1)⟩)
        | succ d ih =>
          intro i x1 x4 w hd e_x1 e_x4 e_w 
          subst e_x1
          subst e_x4
          subst e_w
          have hj : i < sN σ := by omega
          have h8 : i < 8 := by omega
          refine j_iload C dX5_pass_140 4 rfl ?_
          refine j_iload_n (i := 3) C dX5_pass_142 rfl 3 rfl ?_
          refine j_icmp_ge C 197 dX5_pass_143 (by decide) (fun c143 => by first | exact absurd c143 (nI_ge (b := sN σ) (by omega) (by omega)) | exact (c143 (nI_le (Nat.le_refl (sN σ)) (by omega))).elim) (fun c143 => ?_)
          refine j_aload_n (i := 2) C dX5_pass_146 rfl 2 rfl ?_
          refine j_iload C dX5_pass_147 4 rfl ?_
          refine j_aald C (1) 4 rfl rfl rfl (i) rfl hj (by omega) (if_pos hj) dX5_pass_149 ?_
          refine j_astore (lv' := [(5, .ref _), (0, .ref _), (1, .int _), (2, .ref _), (3, .int _), (4, .int _)]) C dX5_pass_150 (by decide) rfl ?_
          refine j_aload C dX5_pass_152 0 rfl ?_
          refine j_get (Cn := RX4) (T := TX4) (N := 6) (ci := 5) C iX4 rfl (6 + 8 * i) (sx_o hj (ha_i σ i)) 5 (by decide) gw508 rfl rfl dX5_pass_154 ?_
          refine j_if_lt C 191 dX5_pass_157 (by decide) (fun c157 => ?_) (fun c157 => ?_)
          · refine j_iinc (z := 5) (lv' := [(4, .int _), (5, .ref _), (0, .ref _), (1, .int _), (2, .ref _), (3, .int _)]) C dX5_pass_191 rfl rfl (by decide) rfl ?_
            refine j_goto C 140 dX5_pass_194 (by decide) ?_
            exact j_lvs [2, 3, 4, 5, 0] rfl (ih (i + 1) _ _ _ (by omega) (by first | exact cf_s hi.1 h8 (show shD (sK σ) (sH σ) (ldS σ i) from ⟨c165, hk3, b2i_f c177⟩) | exact cf_n hi.1 h8 (show ¬ shD (sK σ) (sH σ) (ldS σ i) by first | exact fun z => ok_nlt c157 z.2.1 | exact fun z => z.1 c165 | exact fun z => z.2.2 (b2i_t c177))) (nI_1 i) (by first | rw [ha_s (show shD (sK σ) (sH σ) (ldS σ i) from ⟨c165, hk3, b2i_f c177⟩)] | rw [ha_n (show ¬ shD (sK σ) (sH σ) (ldS σ i) by first | exact fun z => ok_nlt c157 z.2.1 | exact fun z => z.1 c165 | exact fun z => z.2.2 (b2i_t c177))]))
          · refine j_aload C dX5_pass_160 0 rfl ?_
            refine j_get (Cn := RX4) (T := TX4) (N := 6) (ci := 5) C iX4 rfl (6 + 8 * i) (sx_o hj (ha_i σ i)) 3 (by decide) gw503 rfl rfl dX5_pass_162 ?_
            refine j_if_eq C 191 dX5_pass_165 (by decide) (fun c165 => ?_) (fun c165 => ?_)
            · refine j_iinc (z := 5) (lv' := [(4, .int _), (5, .ref _), (0, .ref _), (1, .int _), (2, .ref _), (3, .int _)]) C dX5_pass_191 rfl rfl (by decide) rfl ?_
              refine j_goto C 140 dX5_pass_194 (by decide) ?_
              exact j_lvs [2, 3, 4, 5, 0] rfl (ih (i + 1) _ _ _ (by omega) (by first | exact cf_s hi.1 h8 (show shD (sK σ) (sH σ) (ldS σ i) from ⟨c165, hk3, b2i_f c177⟩) | exact cf_n hi.1 h8 (show ¬ shD (sK σ) (sH σ) (ldS σ i) by first | exact fun z => ok_nlt c157 z.2.1 | exact fun z => z.1 c165 | exact fun z => z.2.2 (b2i_t c177))) (nI_1 i) (by first | rw [ha_s (show shD (sK σ) (sH σ) (ldS σ i) from ⟨c165, hk3, b2i_f c177⟩)] | rw [ha_n (show ¬ shD (sK σ) (sH σ) (ldS σ i) by first | exact fun z => ok_nlt c157 z.2.1 | exact fun z => z.1 c165 | exact fun z => z.2.2 (b2i_t c177))]))
            · obtain ⟨hk3, hkn⟩ := (rk_lt (hi.1.2 i h8).2.1).2 c157
              obtain ⟨hr3, er⟩ := okI_ix hk3 (by decide)
              obtain ⟨f, f24, hf⟩ := okI_of (hK _ hr3).1 (by decide)
              obtain ⟨t, t25, ht⟩ := okI_of (hK _ hr3).2 (by decide)
              refine j_aload_n (i := 0) C dX5_pass_168 rfl 1 rfl ?_
              refine j_aload C dX5_pass_169 0 rfl ?_
              refine j_get (Cn := RX4) (T := TX4) (N := 6) (ci := 5) C iX4 rfl (6 + 8 * i) (sx_o hj (ha_i σ i)) 5 (by decide) gw508 rfl rfl dX5_pass_171 ?_
              refine j_callV (nargs := 1) (As := [_]) (Cn := RX5) C (0) rfl rfl rfl gw445 gw446 gw447 gw28 (kX5_isOpen l D ct sa sd (sH σ) (sT σ) (sN σ) (sK σ) (hrA σ i) wr _ _ f t h er hr3 hf ht hH f24 t25 hh) gw448 (by decide +kernel) rfl dX5_pass_174 ⟨Nat.le_of_ble_eq_true rfl, Nat.le_of_ble_eq_true rfl⟩ ⟨Nat.le_of_ble_eq_true rfl, Nat.le_of_ble_eq_true rfl⟩ (Nat.le_of_ble_eq_true rfl) (dki ?_)
              refine j_if_eq C 183 dX5_pass_177 (by decide) (fun c177 => ?_) (fun c177 => ?_)
              · refine j_aload C dX5_pass_183 0 rfl ?_
                refine j_callV (nargs := 0) (As := []) (Cn := RX4) C (6 + 8 * i) (sx_o hj (ha_i σ i)) rfl rfl gw449 gw450 gw451 gw29 (kX4_shut l D ct sa _ (6 + 8 * i) (6 + 8 * i + 1) _ _ _ _ _ _ _ _ (sx_o hj (ha_i σ i)) (sx_r hj (ha_i σ i)) (by omega) (ld_let hi.1 h8).1) gw452 (by decide +kernel) rfl dX5_pass_185 ⟨Nat.le_of_ble_eq_true rfl, Nat.le_of_ble_eq_true rfl⟩ ⟨Nat.le_of_ble_eq_true rfl, Nat.le_of_ble_eq_true rfl⟩ (Nat.le_of_ble_eq_true rfl) (dkv ?_)
                refine j_ws (sx_sh hj (ha_i σ i)) ?_
                refine j_iinc (z := 2) (lv' := [(1, .int _), (5, .ref _), (0, .ref _), (2, .ref _), (3, .int _), (4, .int _)]) C dX5_pass_188 rfl rfl (by decide) rfl ?_
                refine j_iinc (z := 5) (lv' := [(4, .int _), (1, .int _), (5, .ref _), (0, .ref _), (2, .ref _), (3, .int _)]) C dX5_pass_191 rfl rfl (by decide) rfl ?_
                refine j_goto C 140 dX5_pass_194 (by decide) ?_
                exact j_lvs [3, 1, 4, 5, 0] rfl (ih (i + 1) _ _ _ (by omega) (by first | exact cf_s hi.1 h8 (show shD (sK σ) (sH σ) (ldS σ i) from ⟨c165, hk3, b2i_f c177⟩) | exact cf_n hi.1 h8 (show ¬ shD (sK σ) (sH σ) (ldS σ i) by first | exact fun z => ok_nlt c157 z.2.1 | exact fun z => z.1 c165 | exact fun z => z.2.2 (b2i_t c177))) (nI_1 i) (by first | rw [ha_s (show shD (sK σ) (sH σ) (ldS σ i) from ⟨c165, hk3, b2i_f c177⟩)] | rw [ha_n (show ¬ shD (sK σ) (sH σ) (ldS σ i) by first | exact fun z => ok_nlt c157 z.2.1 | exact fun z => z.1 c165 | exact fun z => z.2.2 (b2i_t c177))]))
              · refine j_goto C 191 dX5_pass_180 (by decide) ?_
                refine j_iinc (z := 5) (lv' := [(4, .int _), (5, .ref _), (0, .ref _), (1, .int _), (2, .ref _), (3, .int _)]) C dX5_pass_191 rfl rfl (by decide) rfl ?_
                refine j_goto C 140 dX5_pass_194 (by decide) ?_
                exact j_lvs [2, 3, 4, 5, 0] rfl (ih (i + 1) _ _ _ (by omega) (by first | exact cf_s hi.1 h8 (show shD (sK σ) (sH σ) (ldS σ i) from ⟨c165, hk3, b2i_f c177⟩) | exact cf_n hi.1 h8 (show ¬ shD (sK σ) (sH σ) (ldS σ i) by first | exact fun z => ok_nlt c157 z.2.1 | exact fun z => z.1 c165 | exact fun z => z.2.2 (b2i_t c177))) (nI_1 i) (by first | rw [ha_s (show shD (sK σ) (sH σ) (ldS σ i) from ⟨c165, hk3, b2i_f c177⟩)] | rw [ha_n (show ¬ shD (sK σ) (sH σ) (ldS σ i) by first | exact fun z => ok_nlt c157 z.2.1 | exact fun z => z.1 c165 | exact fun z => z.2.2 (b2i_t c177))]))
      exact j_lvs [4, 3, 2, 1, 0] rfl (L140 (sN σ) (0) _ _ _ (by omega) (rfl) (rfl) (congrArg (fun w => w ++ wr) (sw_e (fun q hq => ha_0 σ hq))))
    | succ d ih =>
      intro i x3 w hd e_x3 e_w 
      subst e_x3
      subst e_w
      have hj : i < sN σ := by omega
      have h8 : i < 8 := by omega
      obtain ⟨hlet, hlw⟩ := ld_let hi.1 h8
      have hw24 : ∀ q, q < 24 → okI 100 (lW σ i q) := fun q hq => by show okI 100 (if q < 24 then sW σ (24 * i + q) else nI 0); rw [if_pos hq]; exact hi.2.2.1 i h8 q hq
      have hrk : sR σ (8 * i + 2) = -1 ∨ okI 3 (sR σ (8 * i + 2)) := (hi.1.2 i h8).2.1
      refine j_iload_n (i := 3) C dX5_pass_10 rfl 3 rfl ?_
      refine j_iload_n (i := 2) C dX5_pass_11 rfl 2 rfl ?_
      refine j_icmp_ge C 127 dX5_pass_12 (by decide) (fun c12 => by first | exact absurd c12 (nI_ge (b := sN σ) (by omega) (by omega)) | exact (c12 (nI_le (Nat.le_refl (sN σ)) (by omega))).elim) (fun c12 => ?_)
      refine j_aload_n (i := 1) C dX5_pass_15 rfl 1 rfl ?_
      refine j_iload_n (i := 3) C dX5_pass_16 rfl 3 rfl ?_
      refine j_aald C (1) 4 rfl rfl rfl (i) rfl hj (by omega) (if_pos hj) dX5_pass_17 ?_
      refine j_astore (lv' := [(4, .ref _), (0, .ref _), (1, .ref _), (2, .int _), (3, .int _)]) C dX5_pass_18 (by decide) rfl ?_
      refine j_iconst (v := nI 0) C dX5_pass_20 (by decide) ?_
      refine j_istore (lv' := [(5, .int _), (4, .ref _), (0, .ref _), (1, .ref _), (2, .int _), (3, .int _)]) C dX5_pass_21 (by decide) rfl ?_
      have L23 : ∀ (d r : Nat) (x5 : Int32) (w : va_W), r + d = 4 → x5 = nI r → w = SW ct sd (sH σ) (sT σ) (sN σ) (sK σ) ((updD (wdA σ i) i (wdD (ldS σ i) r))) ++ wr → J X (w) (0) (0) 23 [(0, .ref (sd 0)), (1, .ref (sd 1)), (2, .int (nI (sN σ))), (3, .int (nI i)), (4, .ref (sd (10 + 8 * i))), (5, .int x5)] [] := by
        intro d
        induction d with
        | zero =>
          intro r x5 w hd e_x5 e_w 
          subst e_x5
          subst e_w
          have hr9 : r = 4 := by omega
          subst hr9
          refine j_iload C dX5_pass_23 5 rfl ?_
          refine j_iconst (v := nI 4) C dX5_pass_25 (by decide) ?_
          refine j_icmp_ge C 121 dX5_pass_26 (by decide) (fun c26 => ?_) (fun c26 => by first | exact absurd c26 (by decide) | exact absurd c26 (nI_ge (by omega) (by omega)) | exact absurd (nI_le (by omega) (by omega)) c26 | exact absurd c26 (nI_nlt (by omega) (by omega)) | exact absurd (nI_lt (by omega) (by omega)) c26 | exact absurd c26 (nI_nle0 (by omega) (by omega)))
          refine j_iinc (z := 3) (lv' := [(3, .int _), (0, .ref _), (1, .ref _), (2, .int _), (4, .ref _), (5, .int _)]) C dX5_pass_121 rfl rfl (by decide) rfl ?_
          refine j_goto C 10 dX5_pass_124 (by decide) ?_
          exact j_lvs [1, 2, 3, 0] rfl (ih (i + 1) _ _ (by omega) (nI_1 i) (by rw [wa_s]))
        | succ d ih =>
          intro r x5 w hd e_x5 e_w 
          subst e_x5
          subst e_w
          obtain ⟨h6, e6⟩ := okI_ix (hlet r (by omega)) (by decide)
          obtain ⟨h7, e7⟩ := okI_ix (lt_ok (r := r) hlw) (by decide)
          refine j_iload C dX5_pass_23 5 rfl ?_
          refine j_iconst (v := nI 4) C dX5_pass_25 (by decide) ?_
          refine j_icmp_ge C 121 dX5_pass_26 (by decide) (fun c26 => by first | exact absurd c26 (by decide) | exact absurd c26 (nI_ge (by omega) (by omega)) | exact absurd (nI_le (by omega) (by omega)) c26 | exact absurd c26 (nI_nlt (by omega) (by omega)) | exact absurd (nI_lt (by omega) (by omega)) c26 | exact absurd c26 (nI_nle0 (by omega) (by omega))) (fun c26 => ?_)
          refine j_aload C dX5_pass_29 4 rfl ?_
          refine j_get (Cn := RX4) (T := TX4) (N := 6) (ci := 5) C iX4 rfl (6 + 8 * i) (sx_o hj ud_s) 3 (by decide) gw503 rfl rfl dX5_pass_31 ?_
          refine j_if_eq C 48 dX5_pass_34 (by decide) (fun c34 => ?_) (fun c34 => ?_)
          · refine j_aload C dX5_pass_48 4 rfl ?_
            refine j_get (Cn := RX4) (T := TX4) (N := 6) (ci := 5) C iX4 rfl (6 + 8 * i) (sx_o hj ud_s) 1 (by decide) gw498 rfl rfl dX5_pass_50 ?_
            refine j_iload C dX5_pass_53 5 rfl ?_
            refine j_iald C (6 + 8 * i + 1) (sx_r hj ud_s) (r) rfl (by omega) (by decide) dX5_pass_55 ?_
            refine j_st (st1 := .int (nI (ix (lL σ i r))) :: _) (congrArg (fun z => Value.int z :: _) e6) ?_
            refine j_istore (lv' := [(6, .int _), (0, .ref _), (1, .ref _), (2, .int _), (3, .int _), (4, .ref _), (5, .int _)]) C dX5_pass_56 (by decide) rfl ?_
            refine j_aload C dX5_pass_58 5 rfl ?_
            refine j_get (Cn := RX4) (T := TX4) (N := 6) (ci := 5) C iX4 rfl (6 + 8 * i) (sx_o hj ud_s) 3 (by decide) gw503 rfl rfl dX5_pass_60 ?_
            refine j_if_ne C 70 dX5_pass_63 (by decide) (fun c63 => by exact absurd c34 c63) (fun c63 => ?_)
            refine j_iconst (v := nI 1) C dX5_pass_66 (by decide) ?_
            refine j_goto C 83 dX5_pass_67 (by decide) ?_
            refine j_istore (lv' := [(7, .int _), (6, .int _), (0, .ref _), (1, .ref _), (2, .int _), (3, .int _), (4, .ref _), (5, .int _)]) C dX5_pass_83 (by decide) rfl ?_
            refine j_aload C dX5_pass_85 6 rfl ?_
            refine j_get (Cn := RX4) (T := TX4) (N := 6) (ci := 5) C iX4 rfl (6 + 8 * i) (sx_o hj ud_s) 2 (by decide) gw501 rfl rfl dX5_pass_87 ?_
            refine j_iload C dX5_pass_90 7 rfl ?_
            refine j_aald C (6 + 8 * i + 2) 3 (sw_a hj) rfl rfl (r) rfl (by omega) (by decide) (if_pos (by omega)) dX5_pass_92 ?_
            refine j_iload C dX5_pass_93 1 rfl ?_
            refine j_bipush (v := nI 99) C dX5_pass_95 (by decide) ?_
            refine j_aload C dX5_pass_97 6 rfl ?_
            refine j_get (Cn := RX4) (T := TX4) (N := 6) (ci := 5) C iX4 rfl (6 + 8 * i) (sx_o hj ud_s) 2 (by decide) gw501 rfl rfl dX5_pass_99 ?_
            refine j_iload C dX5_pass_102 7 rfl ?_
            refine j_aald C (6 + 8 * i + 2) 3 (sw_a hj) rfl rfl (r) rfl (by omega) (by decide) (if_pos (by omega)) dX5_pass_104 ?_
            refine j_iload C dX5_pass_105 1 rfl ?_
            refine j_iald C (6 + (8 * i + (3 + r))) (sx_y hj (by omega) ud_s) ((ix (lL σ i r))) rfl h6 (by decide) dX5_pass_107 ?_
            refine j_st (st1 := .int (wLL (lL σ i) (sR σ (8 * i + 0)) (sR σ (8 * i + 2)) (sR σ (8 * i + 1)) (lW σ i) r (6 * r + (ix (lL σ i r)))) :: _) (congrArg (fun z => Value.int z :: _) (cut_in h6)) ?_
            refine j_iload C dX5_pass_108 0 rfl ?_
            refine j_iadd C dX5_pass_110 ?_
            refine j_mmin C gw444 gw289 gw36 gw290 ⟨Nat.le_of_ble_eq_true rfl, Nat.le_of_ble_eq_true rfl⟩ ⟨Nat.le_of_ble_eq_true rfl, Nat.le_of_ble_eq_true rfl⟩ dX5_pass_111 ?_
            refine j_iast (ws2 := SW ct sd (sH σ) (sT σ) (sN σ) (sK σ) (updD (updD (wdA σ i) i (wdD (ldS σ i) r)) i ((ldS σ i).1, wuL (wLL (lL σ i) (sR σ (8 * i + 0)) (sR σ (8 * i + 2)) (sR σ (8 * i + 1)) (lW σ i) r) r (ix (lL σ i r)) (nI 1), (ldS σ i).2.2)) ++ wr) C (6 + (8 * i + (3 + r))) (sx_y hj (by omega) ud_s) ((ix (lL σ i r))) rfl h6 (by decide) (sx_sy hj (by omega) h6 ud_s) dX5_pass_114 ?_
            refine j_ws (ws1 := SW ct sd (sH σ) (sT σ) (sN σ) (sK σ) (updD (wdA σ i) i ((ldS σ i).1, wuL (wLL (lL σ i) (sR σ (8 * i + 0)) (sR σ (8 * i + 2)) (sR σ (8 * i + 1)) (lW σ i) r) r (ix (lL σ i r)) (nI 1), (ldS σ i).2.2)) ++ wr) (by rw [ud_ud]) ?_
            refine j_iinc (z := 7) (lv' := [(5, .int _), (7, .int _), (6, .int _), (0, .ref _), (1, .ref _), (2, .int _), (3, .int _), (4, .ref _)]) C dX5_pass_115 rfl rfl (by decide) rfl ?_
            refine j_goto C 23 dX5_pass_118 (by decide) ?_
            exact j_lvs [3, 4, 5, 6, 7, 0] rfl (ih (r + 1) _ _ (by omega) (nI_1 r) (by first | exact congrArg (fun W => SW ct sd (sH σ) (sT σ) (sN σ) (sK σ) (updD (wdA σ i) i ((ldS σ i).1, W, (ldS σ i).2.2)) ++ wr) (ws_s c34).symm | exact congrArg (fun W => SW ct sd (sH σ) (sT σ) (sN σ) (sK σ) (updD (wdA σ i) i ((ldS σ i).1, W, (ldS σ i).2.2)) ++ wr) (ws_n hw24 (by omega) h7 c34 ((rk_lt hrk).1 c75)).symm | exact congrArg (fun W => SW ct sd (sH σ) (sT σ) (sN σ) (sK σ) (updD (wdA σ i) i ((ldS σ i).1, W, (ldS σ i).2.2)) ++ wr) (ws_i c34 ((rk_lt hrk).2 c75).2).symm))
          · refine j_aload C dX5_pass_37 4 rfl ?_
            refine j_get (Cn := RX4) (T := TX4) (N := 6) (ci := 5) C iX4 rfl (6 + 8 * i) (sx_o hj ud_s) 0 (by decide) gw495 rfl rfl dX5_pass_39 ?_
            refine j_iload C dX5_pass_42 5 rfl ?_
            refine j_iald C (6 + 8 * i + 7) (sx_w hj ud_s) (r) rfl (by omega) (by decide) dX5_pass_44 ?_
            refine j_st (st1 := .int (nI (ix (ltF (sR σ (8 * i + 0)) r))) :: _) (congrArg (fun z => Value.int z :: _) ((cut_in (by omega)).trans e7)) ?_
            refine j_goto C 56 dX5_pass_45 (by decide) ?_
            refine j_istore (lv' := [(6, .int _), (0, .ref _), (1, .ref _), (2, .int _), (3, .int _), (4, .ref _), (5, .int _)]) C dX5_pass_56 (by decide) rfl ?_
            refine j_aload C dX5_pass_58 5 rfl ?_
            refine j_get (Cn := RX4) (T := TX4) (N := 6) (ci := 5) C iX4 rfl (6 + 8 * i) (sx_o hj ud_s) 3 (by decide) gw503 rfl rfl dX5_pass_60 ?_
            refine j_if_ne C 70 dX5_pass_63 (by decide) (fun c63 => ?_) (fun c63 => by exact absurd c63 c34)
            refine j_aload C dX5_pass_70 5 rfl ?_
            refine j_get (Cn := RX4) (T := TX4) (N := 6) (ci := 5) C iX4 rfl (6 + 8 * i) (sx_o hj ud_s) 5 (by decide) gw508 rfl rfl dX5_pass_72 ?_
            refine j_if_lt C 82 dX5_pass_75 (by decide) (fun c75 => ?_) (fun c75 => ?_)
            · refine j_iconst (v := nI 0) C dX5_pass_82 (by decide) ?_
              refine j_istore (lv' := [(7, .int _), (6, .int _), (0, .ref _), (1, .ref _), (2, .int _), (3, .int _), (4, .ref _), (5, .int _)]) C dX5_pass_83 (by decide) rfl ?_
              refine j_aload C dX5_pass_85 6 rfl ?_
              refine j_get (Cn := RX4) (T := TX4) (N := 6) (ci := 5) C iX4 rfl (6 + 8 * i) (sx_o hj ud_s) 2 (by decide) gw501 rfl rfl dX5_pass_87 ?_
              refine j_iload C dX5_pass_90 7 rfl ?_
              refine j_aald C (6 + 8 * i + 2) 3 (sw_a hj) rfl rfl (r) rfl (by omega) (by decide) (if_pos (by omega)) dX5_pass_92 ?_
              refine j_iload C dX5_pass_93 1 rfl ?_
              refine j_bipush (v := nI 99) C dX5_pass_95 (by decide) ?_
              refine j_aload C dX5_pass_97 6 rfl ?_
              refine j_get (Cn := RX4) (T := TX4) (N := 6) (ci := 5) C iX4 rfl (6 + 8 * i) (sx_o hj ud_s) 2 (by decide) gw501 rfl rfl dX5_pass_99 ?_
              refine j_iload C dX5_pass_102 7 rfl ?_
              refine j_aald C (6 + 8 * i + 2) 3 (sw_a hj) rfl rfl (r) rfl (by omega) (by decide) (if_pos (by omega)) dX5_pass_104 ?_
              refine j_iload C dX5_pass_105 1 rfl ?_
              refine j_iald C (6 + (8 * i + (3 + r))) (sx_y hj (by omega) ud_s) ((ix (ltF (sR σ (8 * i + 0)) r))) rfl h7 (by decide) dX5_pass_107 ?_
              refine j_st (st1 := .int (wLL (lL σ i) (sR σ (8 * i + 0)) (sR σ (8 * i + 2)) (sR σ (8 * i + 1)) (lW σ i) r (6 * r + (ix (ltF (sR σ (8 * i + 0)) r)))) :: _) (congrArg (fun z => Value.int z :: _) (cut_in h7)) ?_
              refine j_iload C dX5_pass_108 0 rfl ?_
              refine j_iadd C dX5_pass_110 ?_
              refine j_mmin C gw444 gw289 gw36 gw290 ⟨Nat.le_of_ble_eq_true rfl, Nat.le_of_ble_eq_true rfl⟩ ⟨Nat.le_of_ble_eq_true rfl, Nat.le_of_ble_eq_true rfl⟩ dX5_pass_111 ?_
              refine j_iast (ws2 := SW ct sd (sH σ) (sT σ) (sN σ) (sK σ) (updD (updD (wdA σ i) i (wdD (ldS σ i) r)) i ((ldS σ i).1, wuL (wLL (lL σ i) (sR σ (8 * i + 0)) (sR σ (8 * i + 2)) (sR σ (8 * i + 1)) (lW σ i) r) r (ix (ltF (sR σ (8 * i + 0)) r)) (nI 0), (ldS σ i).2.2)) ++ wr) C (6 + (8 * i + (3 + r))) (sx_y hj (by omega) ud_s) ((ix (ltF (sR σ (8 * i + 0)) r))) rfl h7 (by decide) (sx_sy hj (by omega) h7 ud_s) dX5_pass_114 ?_
              refine j_ws (ws1 := SW ct sd (sH σ) (sT σ) (sN σ) (sK σ) (updD (wdA σ i) i ((ldS σ i).1, wuL (wLL (lL σ i) (sR σ (8 * i + 0)) (sR σ (8 * i + 2)) (sR σ (8 * i + 1)) (lW σ i) r) r (ix (ltF (sR σ (8 * i + 0)) r)) (nI 0), (ldS σ i).2.2)) ++ wr) (by rw [ud_ud]) ?_
              refine j_iinc (z := 7) (lv' := [(5, .int _), (7, .int _), (6, .int _), (0, .ref _), (1, .ref _), (2, .int _), (3, .int _), (4, .ref _)]) C dX5_pass_115 rfl rfl (by decide) rfl ?_
              refine j_goto C 23 dX5_pass_118 (by decide) ?_
              exact j_lvs [3, 4, 5, 6, 7, 0] rfl (ih (r + 1) _ _ (by omega) (nI_1 r) (by first | exact congrArg (fun W => SW ct sd (sH σ) (sT σ) (sN σ) (sK σ) (updD (wdA σ i) i ((ldS σ i).1, W, (ldS σ i).2.2)) ++ wr) (ws_s c34).symm | exact congrArg (fun W => SW ct sd (sH σ) (sT σ) (sN σ) (sK σ) (updD (wdA σ i) i ((ldS σ i).1, W, (ldS σ i).2.2)) ++ wr) (ws_n hw24 (by omega) h7 c34 ((rk_lt hrk).1 c75)).symm | exact congrArg (fun W => SW ct sd (sH σ) (sT σ) (sN σ) (sK σ) (updD (wdA σ i) i ((ldS σ i).1, W, (ldS σ i).2.2)) ++ wr) (ws_i c34 ((rk_lt hrk).2 c75).2).symm))
            · refine j_iconst (v := nI 2) C dX5_pass_78 (by decide) ?_
              refine j_goto C 83 dX5_pass_79 (by decide) ?_
              refine j_istore (lv' := [(7, .int _), (6, .int _), (0, .ref _), (1, .ref _), (2, .int _), (3, .int _), (4, .ref _), (5, .int _)]) C dX5_pass_83 (by decide) rfl ?_
              refine j_aload C dX5_pass_85 6 rfl ?_
              refine j_get (Cn := RX4) (T := TX4) (N := 6) (ci := 5) C iX4 rfl (6 + 8 * i) (sx_o hj ud_s) 2 (by decide) gw501 rfl rfl dX5_pass_87 ?_
              refine j_iload C dX5_pass_90 7 rfl ?_
              refine j_aald C (6 + 8 * i + 2) 3 (sw_a hj) rfl rfl (r) rfl (by omega) (by decide) (if_pos (by omega)) dX5_pass_92 ?_
              refine j_iload C dX5_pass_93 1 rfl ?_
              refine j_bipush (v := nI 99) C dX5_pass_95 (by decide) ?_
              refine j_aload C dX5_pass_97 6 rfl ?_
              refine j_get (Cn := RX4) (T := TX4) (N := 6) (ci := 5) C iX4 rfl (6 + 8 * i) (sx_o hj ud_s) 2 (by decide) gw501 rfl rfl dX5_pass_99 ?_
              refine j_iload C dX5_pass_102 7 rfl ?_
              refine j_aald C (6 + 8 * i + 2) 3 (sw_a hj) rfl rfl (r) rfl (by omega) (by decide) (if_pos (by omega)) dX5_pass_104 ?_
              refine j_iload C dX5_pass_105 1 rfl ?_
              refine j_iald C (6 + (8 * i + (3 + r))) (sx_y hj (by omega) ud_s) ((ix (ltF (sR σ (8 * i + 0)) r))) rfl h7 (by decide) dX5_pass_107 ?_
              refine j_st (st1 := .int (wLL (lL σ i) (sR σ (8 * i + 0)) (sR σ (8 * i + 2)) (sR σ (8 * i + 1)) (lW σ i) r (6 * r + (ix (ltF (sR σ (8 * i + 0)) r)))) :: _) (congrArg (fun z => Value.int z :: _) (cut_in h7)) ?_
              refine j_iload C dX5_pass_108 0 rfl ?_
              refine j_iadd C dX5_pass_110 ?_
              refine j_mmin C gw444 gw289 gw36 gw290 ⟨Nat.le_of_ble_eq_true rfl, Nat.le_of_ble_eq_true rfl⟩ ⟨Nat.le_of_ble_eq_true rfl, Nat.le_of_ble_eq_true rfl⟩ dX5_pass_111 ?_
              refine j_iast (ws2 := SW ct sd (sH σ) (sT σ) (sN σ) (sK σ) (updD (updD (wdA σ i) i (wdD (ldS σ i) r)) i ((ldS σ i).1, wuL (wLL (lL σ i) (sR σ (8 * i + 0)) (sR σ (8 * i + 2)) (sR σ (8 * i + 1)) (lW σ i) r) r (ix (ltF (sR σ (8 * i + 0)) r)) (nI 2), (ldS σ i).2.2)) ++ wr) C (6 + (8 * i + (3 + r))) (sx_y hj (by omega) ud_s) ((ix (ltF (sR σ (8 * i + 0)) r))) rfl h7 (by decide) (sx_sy hj (by omega) h7 ud_s) dX5_pass_114 ?_
              refine j_ws (ws1 := SW ct sd (sH σ) (sT σ) (sN σ) (sK σ) (updD (wdA σ i) i ((ldS σ i).1, wuL (wLL (lL σ i) (sR σ (8 * i + 0)) (sR σ (8 * i + 2)) (sR σ (8 * i + 1)) (lW σ i) r) r (ix (ltF (sR σ (8 * i + 0)) r)) (nI 2), (ldS σ i).2.2)) ++ wr) (by rw [ud_ud]) ?_
              refine j_iinc (z := 7) (lv' := [(5, .int _), (7, .int _), (6, .int _), (0, .ref _), (1, .ref _), (2, .int _), (3, .int _), (4, .ref _)]) C dX5_pass_115 rfl rfl (by decide) rfl ?_
              refine j_goto C 23 dX5_pass_118 (by decide) ?_
              exact j_lvs [3, 4, 5, 6, 7, 0] rfl (ih (r + 1) _ _ (by omega) (nI_1 r) (by first | exact congrArg (fun W => SW ct sd (sH σ) (sT σ) (sN σ) (sK σ) (updD (wdA σ i) i ((ldS σ i).1, W, (ldS σ i).2.2)) ++ wr) (ws_s c34).symm | exact congrArg (fun W => SW ct sd (sH σ) (sT σ) (sN σ) (sK σ) (updD (wdA σ i) i ((ldS σ i).1, W, (ldS σ i).2.2)) ++ wr) (ws_n hw24 (by omega) h7 c34 ((rk_lt hrk).1 c75)).symm | exact congrArg (fun W => SW ct sd (sH σ) (sT σ) (sN σ) (sK σ) (updD (wdA σ i) i ((ldS σ i).1, W, (ldS σ i).2.2)) ++ wr) (ws_i c34 ((rk_lt hrk).2 c75).2).symm))
      exact j_lvs [2, 3, 4, 5, 1, 0] rfl (L23 (4) (0) _ _ (by omega) (rfl) (congrArg (fun f => SW ct sd (sH σ) (sT σ) (sN σ) (sK σ) f ++ wr) (wa_0 σ i)))
  exact j_lvs [3, 2, 1, 0] rfl (L10 (sN σ) (0) _ _ (by omega) (rfl) (by rw [show wdA σ 0 = ldS σ from funext fun q => if_neg (Nat.not_lt_zero q)]))
