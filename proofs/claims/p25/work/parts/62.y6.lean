abbrev rmL : Room := rM 12 718837 6944958 472
theorem jn_pw {X : Ctx} {ws : va_W} {k n pc : Nat} (j : Nat) {lv : List (Nat × Value)} {st : List Value} {x : Int32} (v : Int32) (k1 n1 : Nat) (h1 : J X ws k1 n1 j lv (.int v :: st) → J X ws k n pc lv (.int x :: st)) (h2 : J X ws k1 n1 j lv (.int v :: st)) : J X ws k n pc lv (.int x :: st) := h1 h2
theorem gn_8 {σ : St} {i : Nat} (h1 : ¬ sR σ (8 * i + 1) = 0) (h2 : 0 ≤ sR σ (8 * i + 2)) : nI 8 = gnF σ i := ((if_neg h1).trans (if_neg (fun z => by rw [z] at h2; exact absurd h2 (by decide)))).symm
theorem gn_0 {σ : St} {i : Nat} (h1 : ¬ sR σ (8 * i + 1) = 0) (h2 : ¬ 0 ≤ sR σ (8 * i + 2)) (h : sR σ (8 * i + 2) = -1 ∨ okI 3 (sR σ (8 * i + 2))) : nI 0 = gnF σ i := ((if_neg h1).trans (if_pos (h.resolve_right (fun z => h2 z.1)))).symm
theorem sp_n1 {σ : St} {i : Nat} (hb : b01 (sR σ (8 * i + 1))) (h : ¬ sR σ (8 * i + 1) = nI 1) : nI 0 = b2i (shP σ i) := (b2i_n (fun z => z.1 (hb.resolve_right h))).symm
theorem sp_n2 {σ : St} {i : Nat} (h : sR σ (8 * i + 2) < 0) : nI 0 = b2i (shP σ i) := (b2i_n (fun z => ok_nlt h z.2.1)).symm
theorem sp_n3 {σ : St} {i : Nat} (h : ¬ b2i (opR σ (sH σ) (ix (sR σ (8 * i + 2)))) = 0) : nI 0 = b2i (shP σ i) := (b2i_n (fun z => z.2.2 (b2i_t h))).symm
theorem sp_y {σ : St} {i : Nat} (h : sR σ (8 * i + 1) = nI 1) (h3 : okI 3 (sR σ (8 * i + 2))) (h2 : b2i (opR σ (sH σ) (ix (sR σ (8 * i + 2)))) = 0) : nI 1 = b2i (shP σ i) := (b2i_y ⟨fun z => absurd (z.symm.trans h) (by decide), h3, b2i_f h2⟩).symm
theorem bh_x {σ : St} {i : Nat} (hi : Inv1 σ) (hj : i < sN σ) : ¬ b2i (shP σ i) = b2i (stR (sR (hrS σ)) i = stR (sR σ) i) := by
  by_cases c : shP σ i
  · rw [b2i_y c, b2i_n (fun z => (bh_s hi hj).mp z c)]
    decide
  · rw [b2i_n c, b2i_y ((bh_s hi hj).mpr c)]
    decide
set_option maxRecDepth 100000 in
set_option maxHeartbeats 2000000 in
theorem kI1 {X : Ctx} {l : Launch} {D : va_G} {ct : Nat → ClassId} {sa : Nat → Nat} (htr : l.stackTraces = false) (C : jC X l D ct sa cL_law 27 RL rmL) {sd ad : Nat → Nat} {mcn : Int32} {φ : LD} {h b0 : Nat} {tt : Int32} {σ : St} (hi : InvL h σ) (hh : h < 2 ^ 20) {k0 n0 : Nat} (hk0 : k0 + 1000 ≤ 718837) (hn0 : n0 + 7000 ≤ 6944958) {k r q : Nat} (hj : k < sN σ) (hr4 : r < 4) (hq6 : q < 6) (kk : ∀ a : Nat, J X (SWs ct sd (tbS σ a q) ++ WX ct sa ad mcn φ (tbS σ a q)) (k0 + 30) (n0 + 200) 250 [(0, .ref b0), (1, .ref (ad 0)), (2, .ref (sd 0)), (3, .int tt), (5, .int (nI (sN σ))), (6, .int (nI k)), (9, .int (stR (sR σ) k))] []) : J X (SWs ct sd (σ) ++ WX ct sa ad mcn φ (σ)) (k0) (n0) 110 [(0, .ref b0), (1, .ref (ad 0)), (2, .ref (sd 0)), (3, .int tt), (5, .int (nI (sN σ))), (6, .int (nI k)), (7, .int (nI r)), (8, .int (nI q))] [] := by
  have h8 := hi.1.1.1
  obtain ⟨a, ha6, ea⟩ := okI_of ((hi.1.1.2 k (by omega)).2.2 r hr4) (by decide)
  obtain ⟨fa0, fa3, fae, fa1⟩ := fa_i ha6 hq6
  refine j_aload_n (i := 1) C dL_law_110 rfl 1 rfl ?_
  refine j_iload C dL_law_111 5 rfl ?_
  refine j_iconst (v := nI 0) C dL_law_113 (by decide) ?_
  have ef := told_v (σ := σ) h8 hj (show 0 < 6 by decide)
  refine j_sw (A := SWs ct sd (σ)) (B := WX ct sa ad mcn φ (σ)) ?_
  refine j_callVX (nargs := 2) (As := [_, _]) (Cn := RX3) C (0) rfl rfl rfl gw303 gw304 gw305 gw21 (kX3_told l htr D ct sa ad mcn φ (σ) (SWs ct sd (σ)) (nI k) (nI 0) hi.1) gw306 (by decide +kernel) rfl dL_law_114 ⟨Nat.le_of_ble_eq_true rfl, Nat.le_of_ble_eq_true rfl⟩ ⟨by show (_ : Nat) ≤ 718837; omega, by show (_ : Nat) ≤ 6944958; omega⟩ (Nat.le_of_ble_eq_true rfl) (fun En hx => (kx_no hx (congrArg (fun f => f.1) ef) (by decide)).elim) (fun r w hk => ?_)
  obtain ⟨-, rfl, rfl⟩ := hk
  refine j_st (st1 := .int (stR (sR σ) k) :: _) (by rw [ef]; rfl) ?_
  refine j_ws (ws1 := WX ct sa ad mcn φ (σ) ++ SWs ct sd (σ)) rfl ?_
  refine j_sw (A := WX ct sa ad mcn φ (σ)) (B := SWs ct sd (σ)) ?_
  refine j_istore (lv' := [(9, .int _), (0, .ref _), (1, .ref _), (2, .ref _), (3, .int _), (5, .int _), (6, .int _), (7, .int _), (8, .int _)]) C dL_law_117 (by decide) rfl ?_
  refine j_aload_n (i := 2) C dL_law_119 rfl 3 rfl ?_
  refine j_get (Cn := RX5) (T := TX5) (N := 4) (ci := 6) C iX5 rfl (0) rfl 2 (by decide) gw658 rfl rfl dL_law_120 ?_
  refine j_iload C dL_law_123 6 rfl ?_
  refine j_aald C (1) 4 rfl rfl rfl (k) rfl hj (by omega) (if_pos hj) dL_law_125 ?_
  refine j_get (Cn := RX4) (T := TX4) (N := 6) (ci := 5) C iX4 rfl (6 + 8 * k) (sw_o hj) 1 (by decide) gw499 rfl rfl dL_law_126 ?_
  refine j_iload C dL_law_129 7 rfl ?_
  refine j_iald C (6 + 8 * k + 1) (sw_r hj) (r) rfl hr4 (by decide) dL_law_131 ?_
  refine j_st (st1 := .int (nI a) :: _) (congrArg (fun z => Value.int z :: _) (ld_a hr4 ea)) ?_
  refine j_istore (lv' := [(10, .int _), (9, .int _), (0, .ref _), (1, .ref _), (2, .ref _), (3, .int _), (5, .int _), (6, .int _), (7, .int _), (8, .int _)]) C dL_law_132 (by decide) rfl ?_
  refine j_aload_n (i := 1) C dL_law_134 rfl 3 rfl ?_
  refine j_iconst (v := nI 5) C dL_law_135 (by decide) ?_
  have ef := count_k (σ := σ) 5 (by decide) rfl
  refine j_sw (A := SWs ct sd (σ)) (B := WX ct sa ad mcn φ (σ)) ?_
  refine j_callVX (nargs := 1) (As := [_]) (Cn := RX3) C (0) rfl rfl rfl gw351 gw352 gw353 gw21 (kX3_count l htr D ct sa ad mcn φ (σ) (SWs ct sd (σ)) (nI 5) hi.1) gw354 (by decide +kernel) rfl dL_law_136 ⟨Nat.le_of_ble_eq_true rfl, Nat.le_of_ble_eq_true rfl⟩ ⟨by show (_ : Nat) ≤ 718837; omega, by show (_ : Nat) ≤ 6944958; omega⟩ (Nat.le_of_ble_eq_true rfl) (fun En hx => (kx_no hx (congrArg (fun f => f.1) ef) (by decide)).elim) (fun r w hk => ?_)
  obtain ⟨-, rfl, rfl⟩ := hk
  refine j_st (st1 := .int (sT σ) :: _) (by rw [ef]; rfl) ?_
  refine j_ws (ws1 := WX ct sa ad mcn φ (σ) ++ SWs ct sd (σ)) rfl ?_
  refine j_sw (A := WX ct sa ad mcn φ (σ)) (B := SWs ct sd (σ)) ?_
  refine j_istore (lv' := [(11, .int _), (10, .int _), (9, .int _), (0, .ref _), (1, .ref _), (2, .ref _), (3, .int _), (5, .int _), (6, .int _), (7, .int _), (8, .int _)]) C dL_law_139 (by decide) rfl ?_
  refine j_aload_n (i := 1) C dL_law_141 rfl 4 rfl ?_
  refine j_iload C dL_law_142 8 rfl ?_
  refine j_iload C dL_law_144 9 rfl ?_
  refine j_iload C dL_law_146 10 rfl ?_
  have ef := tn_v hj h8 hr4 hq6 ea
  refine j_sw (A := SWs ct sd (σ)) (B := WX ct sa ad mcn φ (σ)) ?_
  refine j_callVX (nargs := 3) (As := [_, _, _]) (Cn := RX3) C (0) rfl rfl rfl gw157 gw158 gw159 gw21 (kX3_turn l htr D ct sa ad mcn φ (σ) (SWs ct sd (σ)) (nI k) (nI r) (nI q) hi.1) gw160 (by decide +kernel) rfl dL_law_148 ⟨Nat.le_of_ble_eq_true rfl, Nat.le_of_ble_eq_true rfl⟩ ⟨by show (_ : Nat) ≤ 718837; omega, by show (_ : Nat) ≤ 6944958; omega⟩ (Nat.le_of_ble_eq_true rfl) (fun En hx => (kx_no hx (congrArg (fun f => f.1) ef) (by decide)).elim) (fun r w hk => ?_)
  obtain ⟨-, rfl, rfl⟩ := hk
  refine j_st (st1 := .int (farF (nI a) (nI q)) :: _) (by rw [ef]; rfl) ?_
  refine j_ws (ws1 := WX ct sa ad mcn φ (uT (uR σ (upd (sR σ) (8 * k + (4 + r)) (nI q))) (sT σ + farF (nI a) (nI q))) ++ SWs ct sd (σ)) (by rw [ef]) ?_
  refine j_sw (A := WX ct sa ad mcn φ (uT (uR σ (upd (sR σ) (8 * k + (4 + r)) (nI q))) (sT σ + farF (nI a) (nI q)))) (B := SWs ct sd (σ)) ?_
  refine j_istore (lv' := [(12, .int _), (11, .int _), (10, .int _), (9, .int _), (0, .ref _), (1, .ref _), (2, .ref _), (3, .int _), (5, .int _), (6, .int _), (7, .int _), (8, .int _)]) C dL_law_151 (by decide) rfl ?_
  refine j_aload_n (i := 1) C dL_law_153 rfl 5 rfl ?_
  refine j_iload C dL_law_154 9 rfl ?_
  refine j_iload C dL_law_156 10 rfl ?_
  refine j_iload C dL_law_158 2 rfl ?_
  have ef := (tn_v (σ := uT (uR σ (upd (sR σ) (8 * k + (4 + r)) (nI q))) (sT σ + farF (nI a) (nI q))) (k := k) (r := r) (q := a) (a := q) hj h8 hr4 ha6 pk_us).trans (congrArg (fun s => (nI 0, farF (nI q) (nI a), s)) (tb_e ha6 hq6 ea))
  refine j_sw (A := SWs ct sd (σ)) (B := WX ct sa ad mcn φ (uT (uR σ (upd (sR σ) (8 * k + (4 + r)) (nI q))) (sT σ + farF (nI a) (nI q)))) ?_
  refine j_callVX (nargs := 3) (As := [_, _, _]) (Cn := RX3) C (0) rfl rfl rfl gw157 gw158 gw159 gw21 (kX3_turn l htr D ct sa ad mcn φ (uT (uR σ (upd (sR σ) (8 * k + (4 + r)) (nI q))) (sT σ + farF (nI a) (nI q))) (SWs ct sd (σ)) (nI k) (nI r) (nI a) (il_turn hi hj hr4 hq6 ea).1) gw160 (by decide +kernel) rfl dL_law_160 ⟨Nat.le_of_ble_eq_true rfl, Nat.le_of_ble_eq_true rfl⟩ ⟨by show (_ : Nat) ≤ 718837; omega, by show (_ : Nat) ≤ 6944958; omega⟩ (Nat.le_of_ble_eq_true rfl) (fun En hx => (kx_no hx (congrArg (fun f => f.1) ef) (by decide)).elim) (fun r w hk => ?_)
  obtain ⟨-, rfl, rfl⟩ := hk
  refine j_st (st1 := .int (farF (nI q) (nI a)) :: _) (by rw [ef]; rfl) ?_
  refine j_ws (ws1 := WX ct sa ad mcn φ (tbS σ a q) ++ SWs ct sd (σ)) (by rw [ef]) ?_
  refine j_sw (A := WX ct sa ad mcn φ (tbS σ a q)) (B := SWs ct sd (σ)) ?_
  refine j_istore (lv' := [(13, .int _), (12, .int _), (11, .int _), (10, .int _), (9, .int _), (0, .ref _), (1, .ref _), (2, .ref _), (3, .int _), (5, .int _), (6, .int _), (7, .int _), (8, .int _)]) C dL_law_163 (by decide) rfl ?_
  refine j_aload_n (i := 2) C dL_law_165 rfl 7 rfl ?_
  refine j_dup C dL_law_166 rfl ?_
  refine j_get (Cn := RX5) (T := TX5) (N := 4) (ci := 6) C iX5 rfl (0) rfl 1 (by decide) gw655 rfl rfl dL_law_167 ?_
  refine j_iconst (v := nI 2) C dL_law_170 (by decide) ?_
  refine j_iload C dL_law_171 1 rfl ?_
  refine j_imul C dL_law_173 ?_
  refine j_iadd C dL_law_174 ?_
  refine j_put (Cn := RX5) (T := TX5) (N := 4) (ci := 6) (ws2 := SWs ct sd (tbS σ a q) ++ WX ct sa ad mcn φ (tbS σ a q)) C iX5 tyX5 tyX5_ok nmX5 rfl (0) rfl 1 (by decide) gw655 rfl rfl rfl rfl rfl (Nat.le_of_ble_eq_true rfl) rfl dL_law_175 ?_
  refine j_iload C dL_law_178 1 rfl ?_
  refine j_if_lt C 248 dL_law_180 (by decide) (fun c180 => by exact absurd c180 fa0) (fun c180 => ?_)
  refine j_iload C dL_law_183 1 rfl ?_
  refine j_iconst (v := nI 3) C dL_law_185 (by decide) ?_
  refine j_icmp_gt C 248 dL_law_186 (by decide) (fun c186 => by exact absurd c186 fa3) (fun c186 => ?_)
  refine j_iload C dL_law_189 1 rfl ?_
  refine j_iload C dL_law_191 0 rfl ?_
  refine j_icmp_ne C 248 dL_law_193 (by decide) (fun c193 => by exact absurd fae c193) (fun c193 => ?_)
  refine jn_e 206 (b2i (nI a = nI q)) (fun kk => ?_) ?_
  · refine j_iload C dL_law_196 1 rfl ?_
    refine j_if_ne C 205 dL_law_198 (by decide) (fun c198 => ?_) (fun c198 => ?_)
    · refine j_iconst (v := nI 0) C dL_law_205 (by decide) ?_
      exact j_st (st1 := .int (b2i (nI a = nI q)) :: _) (congrArg (fun z => Value.int z :: _) (by first | exact (b2i_n (fun z => c198 (fa1.mpr z))).symm | exact (b2i_y (fa1.mp c198)).symm)) kk
    · refine j_iconst (v := nI 1) C dL_law_201 (by decide) ?_
      refine j_goto C 206 dL_law_202 (by decide) ?_
      exact j_st (st1 := .int (b2i (nI a = nI q)) :: _) (congrArg (fun z => Value.int z :: _) (by first | exact (b2i_n (fun z => c198 (fa1.mpr z))).symm | exact (b2i_y (fa1.mp c198)).symm)) kk
  · refine jn_e 218 (b2i (nI a = nI q)) (fun kk => ?_) ?_
    · refine j_iload C dL_law_206 3 rfl ?_
      refine j_iload C dL_law_208 12 rfl ?_
      refine j_icmp_ne C 217 dL_law_210 (by decide) (fun c210 => ?_) (fun c210 => ?_)
      · refine j_iconst (v := nI 0) C dL_law_217 (by decide) ?_
        exact j_st (st1 := .int (b2i (nI a = nI q)) :: _) (congrArg (fun z => Value.int z :: _) (by first | exact (b2i_n c210).symm | exact (b2i_y c210).symm)) kk
      · refine j_iconst (v := nI 1) C dL_law_213 (by decide) ?_
        refine j_goto C 218 dL_law_214 (by decide) ?_
        exact j_st (st1 := .int (b2i (nI a = nI q)) :: _) (congrArg (fun z => Value.int z :: _) (by first | exact (b2i_n c210).symm | exact (b2i_y c210).symm)) kk
    · refine j_icmp_ne C 248 dL_law_218 (by decide) (fun c218 => by exact absurd rfl c218) (fun c218 => ?_)
      refine j_aload_n (i := 1) C dL_law_221 rfl 6 rfl ?_
      refine j_iload C dL_law_222 10 rfl ?_
      refine j_iconst (v := nI 0) C dL_law_224 (by decide) ?_
      have ef := told_v (σ := tbS σ a q) h8 hj (show 0 < 6 by decide)
      refine j_sw (A := SWs ct sd (tbS σ a q)) (B := WX ct sa ad mcn φ (tbS σ a q)) ?_
      refine j_callVX (nargs := 2) (As := [_, _]) (Cn := RX3) C (0) rfl rfl rfl gw303 gw304 gw305 gw21 (kX3_told l htr D ct sa ad mcn φ (tbS σ a q) (SWs ct sd (tbS σ a q)) (nI k) (nI 0) (il_tb hi).1) gw306 (by decide +kernel) rfl dL_law_225 ⟨Nat.le_of_ble_eq_true rfl, Nat.le_of_ble_eq_true rfl⟩ ⟨by show (_ : Nat) ≤ 718837; omega, by show (_ : Nat) ≤ 6944958; omega⟩ (Nat.le_of_ble_eq_true rfl) (fun En hx => (kx_no hx (congrArg (fun f => f.1) ef) (by decide)).elim) (fun r w hk => ?_)
      obtain ⟨-, rfl, rfl⟩ := hk
      refine j_st (st1 := .int (stR (sR σ) k) :: _) (by rw [ef]; rfl) ?_
      refine j_ws (ws1 := WX ct sa ad mcn φ (tbS σ a q) ++ SWs ct sd (tbS σ a q)) rfl ?_
      refine j_sw (A := WX ct sa ad mcn φ (tbS σ a q)) (B := SWs ct sd (tbS σ a q)) ?_
      refine j_iload C dL_law_228 4 rfl ?_
      refine j_icmp_ne C 248 dL_law_230 (by decide) (fun c230 => by exact absurd rfl c230) (fun c230 => ?_)
      refine j_aload_n (i := 1) C dL_law_233 rfl 6 rfl ?_
      refine j_iconst (v := nI 5) C dL_law_234 (by decide) ?_
      have ef := count_k (σ := tbS σ a q) 5 (by decide) rfl
      refine j_sw (A := SWs ct sd (tbS σ a q)) (B := WX ct sa ad mcn φ (tbS σ a q)) ?_
      refine j_callVX (nargs := 1) (As := [_]) (Cn := RX3) C (0) rfl rfl rfl gw351 gw352 gw353 gw21 (kX3_count l htr D ct sa ad mcn φ (tbS σ a q) (SWs ct sd (tbS σ a q)) (nI 5) (il_tb hi).1) gw354 (by decide +kernel) rfl dL_law_235 ⟨Nat.le_of_ble_eq_true rfl, Nat.le_of_ble_eq_true rfl⟩ ⟨by show (_ : Nat) ≤ 718837; omega, by show (_ : Nat) ≤ 6944958; omega⟩ (Nat.le_of_ble_eq_true rfl) (fun En hx => (kx_no hx (congrArg (fun f => f.1) ef) (by decide)).elim) (fun r w hk => ?_)
      obtain ⟨-, rfl, rfl⟩ := hk
      refine j_st (st1 := .int (sT σ + nI 2 * farF (nI a) (nI q)) :: _) (by rw [ef]; rfl) ?_
      refine j_ws (ws1 := WX ct sa ad mcn φ (tbS σ a q) ++ SWs ct sd (tbS σ a q)) rfl ?_
      refine j_sw (A := WX ct sa ad mcn φ (tbS σ a q)) (B := SWs ct sd (tbS σ a q)) ?_
      refine j_iload C dL_law_238 2 rfl ?_
      refine j_iconst (v := nI 2) C dL_law_240 (by decide) ?_
      refine j_iload C dL_law_241 1 rfl ?_
      refine j_imul C dL_law_243 ?_
      refine j_iadd C dL_law_244 ?_
      refine j_icmp_eq C 250 dL_law_245 (by decide) (fun c245 => ?_) (fun c245 => by exact absurd rfl c245)
      exact j_lvs [5, 6, 7, 8, 9, 10, 4] rfl (j_widen (by omega) (by omega) (kk a))
set_option maxRecDepth 100000 in
set_option maxHeartbeats 2000000 in
theorem kI2 {X : Ctx} {l : Launch} {D : va_G} {ct : Nat → ClassId} {sa : Nat → Nat} (htr : l.stackTraces = false) (C : jC X l D ct sa cL_law 27 RL rmL) {sd ad : Nat → Nat} {mcn : Int32} {φ : LD} {h b0 : Nat} {tt : Int32} {σ : St} (hi : InvL h σ) (hh : h < 2 ^ 20) {k0 n0 : Nat} (hk0 : k0 + 1000 ≤ 718837) (hn0 : n0 + 7000 ≤ 6944958) {k : Nat} (hj : k < sN σ) (kk : J X (SWs ct sd (uR σ (upd (sR σ) (8 * k + 1) (opV σ k))) ++ WX ct sa ad mcn φ (uR σ (upd (sR σ) (8 * k + 1) (opV σ k)))) (k0 + 30) (n0 + 200) 344 [(0, .ref b0), (1, .ref (ad 0)), (2, .ref (sd 0)), (3, .int tt), (5, .int (nI (sN σ))), (6, .int (nI k))] []) : J X (SWs ct sd (σ) ++ WX ct sa ad mcn φ (σ)) (k0) (n0) 250 [(0, .ref b0), (1, .ref (ad 0)), (2, .ref (sd 0)), (3, .int tt), (5, .int (nI (sN σ))), (6, .int (nI k)), (9, .int (stR (sR σ) k))] [] := by
  have h8 := hi.1.1.1
  have hb1 := (hi.1.2.1 k (by omega)).1
  refine j_aload_n (i := 1) C dL_law_250 rfl 1 rfl ?_
  refine j_iload C dL_law_251 5 rfl ?_
  refine j_iconst (v := nI 1) C dL_law_253 (by decide) ?_
  have ef := told_v (σ := σ) h8 hj (show 1 < 6 by decide)
  refine j_sw (A := SWs ct sd (σ)) (B := WX ct sa ad mcn φ (σ)) ?_
  refine j_callVX (nargs := 2) (As := [_, _]) (Cn := RX3) C (0) rfl rfl rfl gw303 gw304 gw305 gw21 (kX3_told l htr D ct sa ad mcn φ (σ) (SWs ct sd (σ)) (nI k) (nI 1) hi.1) gw306 (by decide +kernel) rfl dL_law_254 ⟨Nat.le_of_ble_eq_true rfl, Nat.le_of_ble_eq_true rfl⟩ ⟨by show (_ : Nat) ≤ 718837; omega, by show (_ : Nat) ≤ 6944958; omega⟩ (Nat.le_of_ble_eq_true rfl) (fun En hx => (kx_no hx (congrArg (fun f => f.1) ef) (by decide)).elim) (fun r w hk => ?_)
  obtain ⟨-, rfl, rfl⟩ := hk
  refine j_st (st1 := .int (sR σ (8 * k + 1)) :: _) (by rw [ef]; rfl) ?_
  refine j_ws (ws1 := WX ct sa ad mcn φ (σ) ++ SWs ct sd (σ)) rfl ?_
  refine j_sw (A := WX ct sa ad mcn φ (σ)) (B := SWs ct sd (σ)) ?_
  refine jn_p 266 (sR σ (8 * k + 1)) (fun kk => ?_) ?_
  · refine j_iconst (v := nI 1) C dL_law_257 (by decide) ?_
    refine j_icmp_ne C 265 dL_law_258 (by decide) (fun c258 => ?_) (fun c258 => ?_)
    · refine j_iconst (v := nI 0) C dL_law_265 (by decide) ?_
      exact j_st (st1 := .int (sR σ (8 * k + 1)) :: _) (congrArg (fun z => Value.int z :: _) (by first | exact (hb1.resolve_right c258).symm | exact c258.symm)) kk
    · refine j_iconst (v := nI 1) C dL_law_261 (by decide) ?_
      refine j_goto C 266 dL_law_262 (by decide) ?_
      exact j_st (st1 := .int (sR σ (8 * k + 1)) :: _) (congrArg (fun z => Value.int z :: _) (by first | exact (hb1.resolve_right c258).symm | exact c258.symm)) kk
  · refine j_istore (lv' := [(14, .int _), (0, .ref _), (1, .ref _), (2, .ref _), (3, .int _), (5, .int _), (6, .int _), (9, .int _)]) C dL_law_266 (by decide) rfl ?_
    refine j_iload C dL_law_268 7 rfl ?_
    refine j_aload_n (i := 2) C dL_law_270 rfl 3 rfl ?_
    refine j_get (Cn := RX5) (T := TX5) (N := 4) (ci := 6) C iX5 rfl (0) rfl 2 (by decide) gw658 rfl rfl dL_law_271 ?_
    refine j_iload C dL_law_274 6 rfl ?_
    refine j_aald C (1) 4 rfl rfl rfl (k) rfl hj (by omega) (if_pos hj) dL_law_276 ?_
    refine j_get (Cn := RX4) (T := TX4) (N := 6) (ci := 5) C iX4 rfl (6 + 8 * k) (sw_o hj) 0 (by decide) gw496 rfl rfl dL_law_277 ?_
    refine j_callS (nargs := 1) (As := [_]) C gw483 gw462 gw20 (kL_word l D ct sa _ (6 + 8 * k + 7) _ _ (sw_w hj) (ok_ltc (ld_let hi.1.1 (by omega)).2)) gw463 (by decide +kernel) rfl dL_law_280 ⟨Nat.le_of_ble_eq_true rfl, Nat.le_of_ble_eq_true rfl⟩ ⟨by show (_ : Nat) ≤ 718837; omega, by show (_ : Nat) ≤ 6944958; omega⟩ (Nat.le_of_ble_eq_true rfl) (dki ?_)
    refine j_st (st1 := .int (sR σ (8 * k + 0)) :: _) (congrArg (fun z => Value.int z :: _) (st_ltc (ld_let hi.1.1 (by omega)).2)) ?_
    refine jn_pp 291 (b2i (stR (sR σ) k = sR σ (8 * k + 0))) (fun kk => ?_) ?_
    · refine j_icmp_ne C 290 dL_law_283 (by decide) (fun c283 => ?_) (fun c283 => ?_)
      · refine j_iconst (v := nI 0) C dL_law_290 (by decide) ?_
        exact j_st (st1 := .int (b2i (stR (sR σ) k = sR σ (8 * k + 0))) :: _) (congrArg (fun z => Value.int z :: _) (by first | exact (b2i_n c283).symm | exact (b2i_y c283).symm)) kk
      · refine j_iconst (v := nI 1) C dL_law_286 (by decide) ?_
        refine j_goto C 291 dL_law_287 (by decide) ?_
        exact j_st (st1 := .int (b2i (stR (sR σ) k = sR σ (8 * k + 0))) :: _) (congrArg (fun z => Value.int z :: _) (by first | exact (b2i_n c283).symm | exact (b2i_y c283).symm)) kk
    · refine j_istore (lv' := [(15, .int _), (14, .int _), (0, .ref _), (1, .ref _), (2, .ref _), (3, .int _), (5, .int _), (6, .int _), (9, .int _)]) C dL_law_291 (by decide) rfl ?_
      refine j_aload_n (i := 1) C dL_law_293 rfl 3 rfl ?_
      refine j_iload C dL_law_294 7 rfl ?_
      have ef := op_v hi.1 hj
      refine j_sw (A := SWs ct sd (σ)) (B := WX ct sa ad mcn φ (σ)) ?_
      refine j_callVX (nargs := 1) (As := [_]) (Cn := RX3) C (0) rfl rfl rfl gw295 gw296 gw297 gw21 (kX3_open l htr D ct sa ad mcn φ (σ) (SWs ct sd (σ)) (nI k) hi.1) gw298 (by decide +kernel) rfl dL_law_296 ⟨Nat.le_of_ble_eq_true rfl, Nat.le_of_ble_eq_true rfl⟩ ⟨by show (_ : Nat) ≤ 718837; omega, by show (_ : Nat) ≤ 6944958; omega⟩ (Nat.le_of_ble_eq_true rfl) (fun En hx => (kx_no hx (congrArg (fun f => f.1) ef) (by decide)).elim) (fun r w hk => ?_)
      obtain ⟨-, rfl, rfl⟩ := hk
      refine j_st (st1 := .int (opV σ k) :: _) (by rw [ef]; rfl) ?_
      refine j_ws (ws1 := WX ct sa ad mcn φ (uR σ (upd (sR σ) (8 * k + 1) (opV σ k))) ++ SWs ct sd (σ)) (by rw [ef]) ?_
      refine j_sw (A := WX ct sa ad mcn φ (uR σ (upd (sR σ) (8 * k + 1) (opV σ k)))) (B := SWs ct sd (σ)) ?_
      refine jn_e 314 (opV σ k) (fun kk => ?_) ?_
      · refine j_iload C dL_law_299 1 rfl ?_
        refine j_if_ne C 309 dL_law_301 (by decide) (fun c301 => ?_) (fun c301 => ?_)
        · refine j_iconst (v := nI 1) C dL_law_309 (by decide) ?_
          refine j_goto C 314 dL_law_310 (by decide) ?_
          exact j_st (st1 := .int (opV σ k) :: _) (congrArg (fun z => Value.int z :: _) (by first | exact (b2i_y (Or.inl c301)).symm | exact (b2i_n (fun z => z.elim (fun q => q c301) (b2i_f c306))).symm | exact (b2i_y (Or.inr (b2i_t c306))).symm)) kk
        · refine j_iload C dL_law_304 0 rfl ?_
          refine j_if_eq C 313 dL_law_306 (by decide) (fun c306 => ?_) (fun c306 => ?_)
          · refine j_iconst (v := nI 0) C dL_law_313 (by decide) ?_
            exact j_st (st1 := .int (opV σ k) :: _) (congrArg (fun z => Value.int z :: _) (by first | exact (b2i_y (Or.inl c301)).symm | exact (b2i_n (fun z => z.elim (fun q => q c301) (b2i_f c306))).symm | exact (b2i_y (Or.inr (b2i_t c306))).symm)) kk
          · refine j_iconst (v := nI 1) C dL_law_309 (by decide) ?_
            refine j_goto C 314 dL_law_310 (by decide) ?_
            exact j_st (st1 := .int (opV σ k) :: _) (congrArg (fun z => Value.int z :: _) (by first | exact (b2i_y (Or.inl c301)).symm | exact (b2i_n (fun z => z.elim (fun q => q c301) (b2i_f c306))).symm | exact (b2i_y (Or.inr (b2i_t c306))).symm)) kk
      · refine j_icmp_eq C 319 dL_law_314 (by decide) (fun c314 => ?_) (fun c314 => by exact absurd rfl c314)
        refine j_aload_n (i := 2) C dL_law_319 rfl 4 rfl ?_
        refine j_get (Cn := RX5) (T := TX5) (N := 4) (ci := 6) C iX5 rfl (0) rfl 2 (by decide) gw658 rfl rfl dL_law_320 ?_
        refine j_iload C dL_law_323 7 rfl ?_
        refine j_aald C (1) 4 rfl rfl rfl (k) rfl hj (by omega) (if_pos hj) dL_law_325 ?_
        refine jn_e 341 (opV σ k) (fun kk => ?_) ?_
        · refine j_iload C dL_law_326 1 rfl ?_
          refine j_if_ne C 336 dL_law_328 (by decide) (fun c328 => ?_) (fun c328 => ?_)
          · refine j_iconst (v := nI 1) C dL_law_336 (by decide) ?_
            refine j_goto C 341 dL_law_337 (by decide) ?_
            exact j_st (st1 := .int (opV σ k) :: _) (congrArg (fun z => Value.int z :: _) (by first | exact (b2i_y (Or.inl c328)).symm | exact (b2i_n (fun z => z.elim (fun q => q c328) (b2i_f c333))).symm | exact (b2i_y (Or.inr (b2i_t c333))).symm)) kk
          · refine j_iload C dL_law_331 0 rfl ?_
            refine j_if_eq C 340 dL_law_333 (by decide) (fun c333 => ?_) (fun c333 => ?_)
            · refine j_iconst (v := nI 0) C dL_law_340 (by decide) ?_
              exact j_st (st1 := .int (opV σ k) :: _) (congrArg (fun z => Value.int z :: _) (by first | exact (b2i_y (Or.inl c328)).symm | exact (b2i_n (fun z => z.elim (fun q => q c328) (b2i_f c333))).symm | exact (b2i_y (Or.inr (b2i_t c333))).symm)) kk
            · refine j_iconst (v := nI 1) C dL_law_336 (by decide) ?_
              refine j_goto C 341 dL_law_337 (by decide) ?_
              exact j_st (st1 := .int (opV σ k) :: _) (congrArg (fun z => Value.int z :: _) (by first | exact (b2i_y (Or.inl c328)).symm | exact (b2i_n (fun z => z.elim (fun q => q c328) (b2i_f c333))).symm | exact (b2i_y (Or.inr (b2i_t c333))).symm)) kk
        · refine j_put (Cn := RX4) (T := TX4) (N := 6) (ci := 5) (ws2 := SWs ct sd (uR σ (upd (sR σ) (8 * k + 1) (opV σ k))) ++ WX ct sa ad mcn φ (uR σ (upd (sR σ) (8 * k + 1) (opV σ k)))) C iX4 tyX4 tyX4_ok nmX4 rfl (6 + 8 * k) (sw_o hj) 3 (by decide) gw504 rfl rfl rfl (nar_b b2i_01) (fit_b b2i_01) (Nat.le_of_ble_eq_true rfl) ((sw_so hj).trans (congrArg (fun w => w ++ _) (sw_u (σ' := uR σ (upd (sR σ) (8 * k + 1) (opV σ k))) (fun i hne => ld_o hne (by decide)) (by rw [ld_h (by decide)]; rfl)))) dL_law_341 ?_
          exact j_lvs [2, 3, 4, 5, 6, 7] rfl (j_widen (by omega) (by omega) (kk))
set_option maxRecDepth 100000 in
set_option maxHeartbeats 2000000 in
theorem kI3 {X : Ctx} {l : Launch} {D : va_G} {ct : Nat → ClassId} {sa : Nat → Nat} (htr : l.stackTraces = false) (C : jC X l D ct sa cL_law 27 RL rmL) {sd ad : Nat → Nat} {mcn : Int32} {φ : LD} {h b0 : Nat} {tt : Int32} {σ : St} (hi : InvL h σ) (hh : h < 2 ^ 20) {k0 n0 : Nat} (hk0 : k0 + 1000 ≤ 718837) (hn0 : n0 + 7000 ≤ 6944958) {k : Nat} (hj : k < sN σ) (kk : ∀ q16 q17 : Nat, J X (SWs ct sd (σ) ++ (WX ct sa ad mcn φ (σ) ++ [arI ct q16 (sN σ) (fun _ => nI 0), arI ct q17 (sN σ) (fun _ => nI 0)])) (k0 + 60) (n0 + 400) 413 [(0, .ref b0), (1, .ref (ad 0)), (2, .ref (sd 0)), (3, .int tt), (5, .int (nI (sN σ))), (16, .ref q16), (17, .ref q17), (18, .int (sumF (sW σ) 192)), (19, .int (nI 0)), (20, .int (nI 0)), (21, .int (nI 0))] []) : J X (SWs ct sd (σ) ++ WX ct sa ad mcn φ (σ)) (k0) (n0) 344 [(0, .ref b0), (1, .ref (ad 0)), (2, .ref (sd 0)), (3, .int tt), (5, .int (nI (sN σ))), (6, .int (nI k))] [] := by
  have h8 := hi.1.1.1
  obtain ⟨v, v1, v2, ev⟩ := sf_1 hi.1 hj
  refine j_aload_n (i := 1) C dL_law_344 rfl 1 rfl ?_
  refine j_iload C dL_law_345 5 rfl ?_
  refine j_aload_n (i := 1) C dL_law_347 rfl 1 rfl ?_
  refine j_iload C dL_law_348 5 rfl ?_
  refine j_iconst (v := nI 4) C dL_law_350 (by decide) ?_
  have ef := told_v (σ := σ) h8 hj (show 4 < 6 by decide)
  refine j_sw (A := SWs ct sd (σ)) (B := WX ct sa ad mcn φ (σ)) ?_
  refine j_callVX (nargs := 2) (As := [_, _]) (Cn := RX3) C (0) rfl rfl rfl gw303 gw304 gw305 gw21 (kX3_told l htr D ct sa ad mcn φ (σ) (SWs ct sd (σ)) (nI k) (nI 4) hi.1) gw306 (by decide +kernel) rfl dL_law_351 ⟨Nat.le_of_ble_eq_true rfl, Nat.le_of_ble_eq_true rfl⟩ ⟨by show (_ : Nat) ≤ 718837; omega, by show (_ : Nat) ≤ 6944958; omega⟩ (Nat.le_of_ble_eq_true rfl) (fun En hx => (kx_no hx (congrArg (fun f => f.1) ef) (by decide)).elim) (fun r w hk => ?_)
  obtain ⟨-, rfl, rfl⟩ := hk
  refine j_st (st1 := .int (shF (sW σ) k) :: _) (by rw [ef]; rfl) ?_
  refine j_ws (ws1 := WX ct sa ad mcn φ (σ) ++ SWs ct sd (σ)) rfl ?_
  refine j_sw (A := WX ct sa ad mcn φ (σ)) (B := SWs ct sd (σ)) ?_
  have ef := tr_1 hi.1 hj
  refine j_sw (A := SWs ct sd (σ)) (B := WX ct sa ad mcn φ (σ)) ?_
  refine j_callVX (nargs := 2) (As := [_, _]) (Cn := RX3) C (0) rfl rfl rfl gw376 gw377 gw378 gw21 (kX3_trial l htr D ct sa ad mcn φ (σ) (SWs ct sd (σ)) (nI k) (shF (sW σ) k) hi.1) gw379 (by decide +kernel) rfl dL_law_354 ⟨Nat.le_of_ble_eq_true rfl, Nat.le_of_ble_eq_true rfl⟩ ⟨by show (_ : Nat) ≤ 718837; omega, by show (_ : Nat) ≤ 6944958; omega⟩ (Nat.le_of_ble_eq_true rfl) (fun En hx => (kx_no hx (congrArg (fun f => f.1) ef) (by decide)).elim) (fun r w hk => ?_)
  obtain ⟨-, rfl, rfl⟩ := hk
  refine j_st (st1 := .int (nI 1) :: _) (by rw [ef]; rfl) ?_
  refine j_ws (ws1 := WX ct sa ad mcn φ (σ) ++ SWs ct sd (σ)) rfl ?_
  refine j_sw (A := WX ct sa ad mcn φ (σ)) (B := SWs ct sd (σ)) ?_
  refine j_iconst (v := nI 1) C dL_law_357 (by decide) ?_
  refine j_icmp_ne C 383 dL_law_358 (by decide) (fun c358 => by exact absurd rfl c358) (fun c358 => ?_)
  refine j_aload_n (i := 1) C dL_law_361 rfl 1 rfl ?_
  refine j_iload C dL_law_362 5 rfl ?_
  have ef := ev
  refine j_sw (A := SWs ct sd (σ)) (B := WX ct sa ad mcn φ (σ)) ?_
  refine j_callVX (nargs := 1) (As := [_]) (Cn := RX3) C (0) rfl rfl rfl gw406 gw407 gw408 gw21 (kX3_safe l htr D ct sa ad mcn φ (σ) (SWs ct sd (σ)) (nI k) hi.1) gw409 (by decide +kernel) rfl dL_law_364 ⟨Nat.le_of_ble_eq_true rfl, Nat.le_of_ble_eq_true rfl⟩ ⟨by show (_ : Nat) ≤ 718837; omega, by show (_ : Nat) ≤ 6944958; omega⟩ (Nat.le_of_ble_eq_true rfl) (fun En hx => (kx_no hx (congrArg (fun f => f.1) ef) (by decide)).elim) (fun r w hk => ?_)
  obtain ⟨-, rfl, rfl⟩ := hk
  refine j_st (st1 := .int (nI v) :: _) (by rw [ef]; rfl) ?_
  refine j_ws (ws1 := WX ct sa ad mcn φ (σ) ++ SWs ct sd (σ)) rfl ?_
  refine j_sw (A := WX ct sa ad mcn φ (σ)) (B := SWs ct sd (σ)) ?_
  refine j_iconst (v := nI 1) C dL_law_367 (by decide) ?_
  refine j_icmp_lt C 383 dL_law_368 (by decide) (fun c368 => by exact absurd c368 (nI_nlt v1 (by omega))) (fun c368 => ?_)
  refine j_aload_n (i := 1) C dL_law_371 rfl 1 rfl ?_
  refine j_iload C dL_law_372 5 rfl ?_
  have ef := ev
  refine j_sw (A := SWs ct sd (σ)) (B := WX ct sa ad mcn φ (σ)) ?_
  refine j_callVX (nargs := 1) (As := [_]) (Cn := RX3) C (0) rfl rfl rfl gw406 gw407 gw408 gw21 (kX3_safe l htr D ct sa ad mcn φ (σ) (SWs ct sd (σ)) (nI k) hi.1) gw409 (by decide +kernel) rfl dL_law_374 ⟨Nat.le_of_ble_eq_true rfl, Nat.le_of_ble_eq_true rfl⟩ ⟨by show (_ : Nat) ≤ 718837; omega, by show (_ : Nat) ≤ 6944958; omega⟩ (Nat.le_of_ble_eq_true rfl) (fun En hx => (kx_no hx (congrArg (fun f => f.1) ef) (by decide)).elim) (fun r w hk => ?_)
  obtain ⟨-, rfl, rfl⟩ := hk
  refine j_st (st1 := .int (nI v) :: _) (by rw [ef]; rfl) ?_
  refine j_ws (ws1 := WX ct sa ad mcn φ (σ) ++ SWs ct sd (σ)) rfl ?_
  refine j_sw (A := WX ct sa ad mcn φ (σ)) (B := SWs ct sd (σ)) ?_
  refine j_sipush (v := nI 1296) C dL_law_377 (by decide) ?_
  refine j_icmp_le C 385 dL_law_380 (by decide) (fun c380 => ?_) (fun c380 => by exact absurd (nI_le v2 (by decide)) c380)
  refine j_iload C dL_law_385 4 rfl ?_
  refine j_newaI C (N := sN σ) rfl (by omega) (by show (_ : Nat) ≤ 718837; omega) (by show (_ : Nat) ≤ 6944958; omega) dL_law_387 (fun q16 => ?_)
  refine j_ws (ws1 := SWs ct sd (σ) ++ (WX ct sa ad mcn φ (σ) ++ [arI ct q16 (sN σ) (fun _ => nI 0)])) (List.append_assoc ..) ?_
  refine j_astore (lv' := [(16, .ref _), (0, .ref _), (1, .ref _), (2, .ref _), (3, .int _), (5, .int _), (6, .int _)]) C dL_law_389 (by decide) rfl ?_
  refine j_iload C dL_law_391 5 rfl ?_
  refine j_newaI C (N := sN σ) rfl (by omega) (by show (_ : Nat) ≤ 718837; omega) (by show (_ : Nat) ≤ 6944958; omega) dL_law_393 (fun q17 => ?_)
  refine j_ws (ws1 := SWs ct sd (σ) ++ (WX ct sa ad mcn φ (σ) ++ [arI ct q16 (sN σ) (fun _ => nI 0), arI ct q17 (sN σ) (fun _ => nI 0)])) l3_add ?_
  refine j_astore (lv' := [(17, .ref _), (16, .ref _), (0, .ref _), (1, .ref _), (2, .ref _), (3, .int _), (5, .int _), (6, .int _)]) C dL_law_395 (by decide) rfl ?_
  refine j_aload_n (i := 1) C dL_law_397 rfl 3 rfl ?_
  refine j_iconst (v := nI 4) C dL_law_398 (by decide) ?_
  have ef := count_k (σ := σ) 4 (by decide) rfl
  refine j_sw (A := SWs ct sd (σ)) (B := WX ct sa ad mcn φ (σ) ++ [arI ct q16 (sN σ) (fun _ => nI 0), arI ct q17 (sN σ) (fun _ => nI 0)]) ?_
  refine j_ws (ws1 := WX ct sa ad mcn φ (σ) ++ ([arI ct q16 (sN σ) (fun _ => nI 0), arI ct q17 (sN σ) (fun _ => nI 0)] ++ SWs ct sd (σ))) (List.append_assoc ..) ?_
  refine j_callVX (nargs := 1) (As := [_]) (Cn := RX3) C (0) rfl rfl rfl gw351 gw352 gw353 gw21 (kX3_count l htr D ct sa ad mcn φ (σ) ([arI ct q16 (sN σ) (fun _ => nI 0), arI ct q17 (sN σ) (fun _ => nI 0)] ++ SWs ct sd (σ)) (nI 4) hi.1) gw354 (by decide +kernel) rfl dL_law_399 ⟨Nat.le_of_ble_eq_true rfl, Nat.le_of_ble_eq_true rfl⟩ ⟨by show (_ : Nat) ≤ 718837; omega, by show (_ : Nat) ≤ 6944958; omega⟩ (Nat.le_of_ble_eq_true rfl) (fun En hx => (kx_no hx (congrArg (fun f => f.1) ef) (by decide)).elim) (fun r w hk => ?_)
  obtain ⟨-, rfl, rfl⟩ := hk
  refine j_st (st1 := .int (sumF (sW σ) 192) :: _) (by rw [ef]; rfl) ?_
  refine j_ws (ws1 := (WX ct sa ad mcn φ (σ) ++ [arI ct q16 (sN σ) (fun _ => nI 0), arI ct q17 (sN σ) (fun _ => nI 0)]) ++ SWs ct sd (σ)) (List.append_assoc ..).symm ?_
  refine j_sw (A := WX ct sa ad mcn φ (σ) ++ [arI ct q16 (sN σ) (fun _ => nI 0), arI ct q17 (sN σ) (fun _ => nI 0)]) (B := SWs ct sd (σ)) ?_
  refine j_istore (lv' := [(18, .int _), (17, .ref _), (16, .ref _), (0, .ref _), (1, .ref _), (2, .ref _), (3, .int _), (5, .int _), (6, .int _)]) C dL_law_402 (by decide) rfl ?_
  refine j_iconst (v := nI 0) C dL_law_404 (by decide) ?_
  refine j_istore (lv' := [(19, .int _), (18, .int _), (17, .ref _), (16, .ref _), (0, .ref _), (1, .ref _), (2, .ref _), (3, .int _), (5, .int _), (6, .int _)]) C dL_law_405 (by decide) rfl ?_
  refine j_iconst (v := nI 0) C dL_law_407 (by decide) ?_
  refine j_istore (lv' := [(20, .int _), (19, .int _), (18, .int _), (17, .ref _), (16, .ref _), (0, .ref _), (1, .ref _), (2, .ref _), (3, .int _), (5, .int _), (6, .int _)]) C dL_law_408 (by decide) rfl ?_
  refine j_iconst (v := nI 0) C dL_law_410 (by decide) ?_
  refine j_istore (lv' := [(21, .int _), (20, .int _), (19, .int _), (18, .int _), (17, .ref _), (16, .ref _), (0, .ref _), (1, .ref _), (2, .ref _), (3, .int _), (5, .int _), (6, .int _)]) C dL_law_411 (by decide) rfl ?_
  exact j_lvs [6, 7, 8, 9, 10, 5, 4, 3, 2, 1, 0] rfl (j_widen (by omega) (by omega) (kk q16 q17))
set_option maxRecDepth 100000 in
set_option maxHeartbeats 2000000 in
theorem kI4 {X : Ctx} {l : Launch} {D : va_G} {ct : Nat → ClassId} {sa : Nat → Nat} (htr : l.stackTraces = false) (C : jC X l D ct sa cL_law 27 RL rmL) {sd ad : Nat → Nat} {mcn : Int32} {φ : LD} {h b0 : Nat} {tt : Int32} {σ : St} (hi : InvL h σ) (hh : h < 2 ^ 20) {k0 n0 : Nat} (hk0 : k0 + 1000 ≤ 718837) (hn0 : n0 + 7000 ≤ 6944958) {q16 q17 : Nat}  (kk : J X (SWs ct sd (σ) ++ (WX ct sa ad mcn φ (σ) ++ [arI ct q16 (sN σ) (pfx (fun t => sR σ (8 * t + 1)) (sN σ)), arI ct q17 (sN σ) (pfx (fun t => stR (sR σ) t) (sN σ))])) (k0 + 730) (n0 + 4400) 541 [(0, .ref b0), (1, .ref (ad 0)), (2, .ref (sd 0)), (3, .int tt), (5, .int (nI (sN σ))), (16, .ref q16), (17, .ref q17), (18, .int (sumF (sW σ) 192)), (19, .int (sumF (gnF σ) (sN σ))), (20, .int (wnF (sW σ) (24 * sN σ)))] []) : J X (SWs ct sd (σ) ++ (WX ct sa ad mcn φ (σ) ++ [arI ct q16 (sN σ) (fun _ => nI 0), arI ct q17 (sN σ) (fun _ => nI 0)])) (k0) (n0) 413 [(0, .ref b0), (1, .ref (ad 0)), (2, .ref (sd 0)), (3, .int tt), (5, .int (nI (sN σ))), (16, .ref q16), (17, .ref q17), (18, .int (sumF (sW σ) 192)), (19, .int (nI 0)), (20, .int (nI 0)), (21, .int (nI 0))] [] := by
  have h8 := hi.1.1.1
  have L413 : ∀ (d i : Nat) (x19 : Int32) (x20 : Int32) (x21 : Int32) (w : va_W), i + d = sN σ → x19 = sumF (gnF σ) i → x20 = wnF (sW σ) (24 * i) → x21 = nI i → w = SWs ct sd (σ) ++ (WX ct sa ad mcn φ (σ) ++ [arI ct q16 (sN σ) (pfx (fun t => sR σ (8 * t + 1)) i), arI ct q17 (sN σ) (pfx (fun t => stR (sR σ) t) i)]) → J X (w) (k0 + 90 * i) (n0 + 540 * i) 413 [(0, .ref b0), (1, .ref (ad 0)), (2, .ref (sd 0)), (3, .int tt), (5, .int (nI (sN σ))), (16, .ref q16), (17, .ref q17), (18, .int (sumF (sW σ) 192)), (19, .int x19), (20, .int x20), (21, .int x21)] [] := by
    intro d
    induction d with
    | zero =>
      intro i x19 x20 x21 w hd e_x19 e_x20 e_x21 e_w 
      subst e_x19
      subst e_x20
      subst e_x21
      subst e_w
      have hi9 : i = sN σ := by omega
      rw [hi9]
      refine j_iload C dL_law_413 10 rfl ?_
      refine j_iload C dL_law_415 4 rfl ?_
      refine j_icmp_ge C 541 dL_law_417 (by decide) (fun c417 => ?_) (fun c417 => by first | exact absurd c417 (nI_ge (b := sN σ) (by omega) (by omega)) | exact (c417 (nI_le (Nat.le_refl (sN σ)) (by omega))).elim)
      exact j_lvs [0, 1, 2, 3, 4, 5, 6, 7, 8, 9] rfl (j_widen (by omega) (by omega) (kk))
    | succ d ih =>
      intro i x19 x20 x21 w hd e_x19 e_x20 e_x21 e_w 
      subst e_x19
      subst e_x20
      subst e_x21
      subst e_w
      have hj : i < sN σ := by omega
      have hrk : sR σ (8 * i + 2) = -1 ∨ okI 3 (sR σ (8 * i + 2)) := (hi.1.1.2 i (by omega)).2.1
      refine j_iload C dL_law_413 10 rfl ?_
      refine j_iload C dL_law_415 4 rfl ?_
      refine j_icmp_ge C 541 dL_law_417 (by decide) (fun c417 => by first | exact absurd c417 (nI_ge (b := sN σ) (by omega) (by omega)) | exact (c417 (nI_le (Nat.le_refl (sN σ)) (by omega))).elim) (fun c417 => ?_)
      refine j_aload C dL_law_420 5 rfl ?_
      refine j_iload C dL_law_422 10 rfl ?_
      refine j_aload_n (i := 1) C dL_law_424 rfl 1 rfl ?_
      refine j_iload C dL_law_425 10 rfl ?_
      refine j_iconst (v := nI 1) C dL_law_427 (by decide) ?_
      have ef := told_v (σ := σ) h8 hj (show 1 < 6 by decide)
      refine j_sw (A := SWs ct sd (σ)) (B := WX ct sa ad mcn φ (σ) ++ [arI ct q16 (sN σ) (pfx (fun t => sR σ (8 * t + 1)) i), arI ct q17 (sN σ) (pfx (fun t => stR (sR σ) t) i)]) ?_
      refine j_ws (ws1 := WX ct sa ad mcn φ (σ) ++ ([arI ct q16 (sN σ) (pfx (fun t => sR σ (8 * t + 1)) i), arI ct q17 (sN σ) (pfx (fun t => stR (sR σ) t) i)] ++ SWs ct sd (σ))) (List.append_assoc ..) ?_
      refine j_callVX (nargs := 2) (As := [_, _]) (Cn := RX3) C (0) rfl rfl rfl gw303 gw304 gw305 gw21 (kX3_told l htr D ct sa ad mcn φ (σ) ([arI ct q16 (sN σ) (pfx (fun t => sR σ (8 * t + 1)) i), arI ct q17 (sN σ) (pfx (fun t => stR (sR σ) t) i)] ++ SWs ct sd (σ)) (nI i) (nI 1) hi.1) gw306 (by decide +kernel) rfl dL_law_428 ⟨Nat.le_of_ble_eq_true rfl, Nat.le_of_ble_eq_true rfl⟩ ⟨by show (_ : Nat) ≤ 718837; omega, by show (_ : Nat) ≤ 6944958; omega⟩ (Nat.le_of_ble_eq_true rfl) (fun En hx => (kx_no hx (congrArg (fun f => f.1) ef) (by decide)).elim) (fun r w hk => ?_)
      obtain ⟨-, rfl, rfl⟩ := hk
      refine j_st (st1 := .int (sR σ (8 * i + 1)) :: _) (by rw [ef]; rfl) ?_
      refine j_ws (ws1 := (WX ct sa ad mcn φ (σ) ++ [arI ct q16 (sN σ) (pfx (fun t => sR σ (8 * t + 1)) i), arI ct q17 (sN σ) (pfx (fun t => stR (sR σ) t) i)]) ++ SWs ct sd (σ)) (List.append_assoc ..).symm ?_
      refine j_sw (A := WX ct sa ad mcn φ (σ) ++ [arI ct q16 (sN σ) (pfx (fun t => sR σ (8 * t + 1)) i), arI ct q17 (sN σ) (pfx (fun t => stR (sR σ) t) i)]) (B := SWs ct sd (σ)) ?_
      refine j_iast (ws2 := SWs ct sd (σ) ++ (WX ct sa ad mcn φ (σ) ++ [arI ct q16 (sN σ) (pfx (fun t => sR σ (8 * t + 1)) (i + 1)), arI ct q17 (sN σ) (pfx (fun t => stR (sR σ) t) i)])) C ((SWs ct sd (σ)).length + ((WX ct sa ad mcn φ (σ)).length + 0)) (l3_at rfl) (i) rfl hj (by omega) (l3_set.trans (congrArg (fun f => SWs ct sd (σ) ++ (WX ct sa ad mcn φ (σ) ++ [arI ct q16 (sN σ) f, arI ct q17 (sN σ) (pfx (fun t => stR (sR σ) t) i)])) (pf_s (f := (fun t => sR σ (8 * t + 1)))))) dL_law_431 ?_
      refine j_aload C dL_law_432 6 rfl ?_
      refine j_iload C dL_law_434 10 rfl ?_
      refine j_aload_n (i := 1) C dL_law_436 rfl 1 rfl ?_
      refine j_iload C dL_law_437 10 rfl ?_
      refine j_iconst (v := nI 0) C dL_law_439 (by decide) ?_
      have ef := told_v (σ := σ) h8 hj (show 0 < 6 by decide)
      refine j_sw (A := SWs ct sd (σ)) (B := WX ct sa ad mcn φ (σ) ++ [arI ct q16 (sN σ) (pfx (fun t => sR σ (8 * t + 1)) (i + 1)), arI ct q17 (sN σ) (pfx (fun t => stR (sR σ) t) i)]) ?_
      refine j_ws (ws1 := WX ct sa ad mcn φ (σ) ++ ([arI ct q16 (sN σ) (pfx (fun t => sR σ (8 * t + 1)) (i + 1)), arI ct q17 (sN σ) (pfx (fun t => stR (sR σ) t) i)] ++ SWs ct sd (σ))) (List.append_assoc ..) ?_
      refine j_callVX (nargs := 2) (As := [_, _]) (Cn := RX3) C (0) rfl rfl rfl gw303 gw304 gw305 gw21 (kX3_told l htr D ct sa ad mcn φ (σ) ([arI ct q16 (sN σ) (pfx (fun t => sR σ (8 * t + 1)) (i + 1)), arI ct q17 (sN σ) (pfx (fun t => stR (sR σ) t) i)] ++ SWs ct sd (σ)) (nI i) (nI 0) hi.1) gw306 (by decide +kernel) rfl dL_law_440 ⟨Nat.le_of_ble_eq_true rfl, Nat.le_of_ble_eq_true rfl⟩ ⟨by show (_ : Nat) ≤ 718837; omega, by show (_ : Nat) ≤ 6944958; omega⟩ (Nat.le_of_ble_eq_true rfl) (fun En hx => (kx_no hx (congrArg (fun f => f.1) ef) (by decide)).elim) (fun r w hk => ?_)
      obtain ⟨-, rfl, rfl⟩ := hk
      refine j_st (st1 := .int (stR (sR σ) i) :: _) (by rw [ef]; rfl) ?_
      refine j_ws (ws1 := (WX ct sa ad mcn φ (σ) ++ [arI ct q16 (sN σ) (pfx (fun t => sR σ (8 * t + 1)) (i + 1)), arI ct q17 (sN σ) (pfx (fun t => stR (sR σ) t) i)]) ++ SWs ct sd (σ)) (List.append_assoc ..).symm ?_
      refine j_sw (A := WX ct sa ad mcn φ (σ) ++ [arI ct q16 (sN σ) (pfx (fun t => sR σ (8 * t + 1)) (i + 1)), arI ct q17 (sN σ) (pfx (fun t => stR (sR σ) t) i)]) (B := SWs ct sd (σ)) ?_
      refine j_iast (ws2 := SWs ct sd (σ) ++ (WX ct sa ad mcn φ (σ) ++ [arI ct q16 (sN σ) (pfx (fun t => sR σ (8 * t + 1)) (i + 1)), arI ct q17 (sN σ) (pfx (fun t => stR (sR σ) t) (i + 1))])) C ((SWs ct sd (σ)).length + ((WX ct sa ad mcn φ (σ)).length + 1)) (l3_at rfl) (i) rfl hj (by omega) (l3_set.trans (congrArg (fun f => SWs ct sd (σ) ++ (WX ct sa ad mcn φ (σ) ++ [arI ct q16 (sN σ) (pfx (fun t => sR σ (8 * t + 1)) (i + 1)), arI ct q17 (sN σ) f])) (pf_s (f := (fun t => stR (sR σ) t))))) dL_law_443 ?_
      refine j_iload C dL_law_444 8 rfl ?_
      refine j_aload C dL_law_446 5 rfl ?_
      refine j_iload C dL_law_448 10 rfl ?_
      refine j_iald C ((SWs ct sd (σ)).length + ((WX ct sa ad mcn φ (σ)).length + 0)) (l3_at rfl) (i) rfl hj (by omega) dL_law_450 ?_
      refine j_st (st1 := .int (sR σ (8 * i + 1)) :: _) (congrArg (fun z => Value.int z :: _) (pf_i (Nat.lt_succ_self i))) ?_
      refine jn_pw 474 (gnF σ i) (k0 + 90 * i + 9) (n0 + 540 * i + 54) (fun kk => ?_) ?_
      · refine j_if_ne C 458 dL_law_451 (by decide) (fun c451 => ?_) (fun c451 => ?_)
        · refine j_aload_n (i := 1) C dL_law_458 rfl 1 rfl ?_
          refine j_iload C dL_law_459 10 rfl ?_
          refine j_iconst (v := nI 2) C dL_law_461 (by decide) ?_
          have ef := told_v (σ := σ) h8 hj (show 2 < 6 by decide)
          refine j_sw (A := SWs ct sd (σ)) (B := WX ct sa ad mcn φ (σ) ++ [arI ct q16 (sN σ) (pfx (fun t => sR σ (8 * t + 1)) (i + 1)), arI ct q17 (sN σ) (pfx (fun t => stR (sR σ) t) (i + 1))]) ?_
          refine j_ws (ws1 := WX ct sa ad mcn φ (σ) ++ ([arI ct q16 (sN σ) (pfx (fun t => sR σ (8 * t + 1)) (i + 1)), arI ct q17 (sN σ) (pfx (fun t => stR (sR σ) t) (i + 1))] ++ SWs ct sd (σ))) (List.append_assoc ..) ?_
          refine j_callVX (nargs := 2) (As := [_, _]) (Cn := RX3) C (0) rfl rfl rfl gw303 gw304 gw305 gw21 (kX3_told l htr D ct sa ad mcn φ (σ) ([arI ct q16 (sN σ) (pfx (fun t => sR σ (8 * t + 1)) (i + 1)), arI ct q17 (sN σ) (pfx (fun t => stR (sR σ) t) (i + 1))] ++ SWs ct sd (σ)) (nI i) (nI 2) hi.1) gw306 (by decide +kernel) rfl dL_law_462 ⟨Nat.le_of_ble_eq_true rfl, Nat.le_of_ble_eq_true rfl⟩ ⟨by show (_ : Nat) ≤ 718837; omega, by show (_ : Nat) ≤ 6944958; omega⟩ (Nat.le_of_ble_eq_true rfl) (fun En hx => (kx_no hx (congrArg (fun f => f.1) ef) (by decide)).elim) (fun r w hk => ?_)
          obtain ⟨-, rfl, rfl⟩ := hk
          refine j_st (st1 := .int (sR σ (8 * i + 2)) :: _) (by rw [ef]; rfl) ?_
          refine j_ws (ws1 := (WX ct sa ad mcn φ (σ) ++ [arI ct q16 (sN σ) (pfx (fun t => sR σ (8 * t + 1)) (i + 1)), arI ct q17 (sN σ) (pfx (fun t => stR (sR σ) t) (i + 1))]) ++ SWs ct sd (σ)) (List.append_assoc ..).symm ?_
          refine j_sw (A := WX ct sa ad mcn φ (σ) ++ [arI ct q16 (sN σ) (pfx (fun t => sR σ (8 * t + 1)) (i + 1)), arI ct q17 (sN σ) (pfx (fun t => stR (sR σ) t) (i + 1))]) (B := SWs ct sd (σ)) ?_
          refine j_if_ge C 472 dL_law_465 (by decide) (fun c465 => ?_) (fun c465 => ?_)
          · refine j_bipush (v := nI 8) C dL_law_472 (by decide) ?_
            exact j_st (st1 := .int (gnF σ i) :: _) (congrArg (fun z => Value.int z :: _) (by first | exact (if_pos c451).symm | exact gn_8 c451 c465 | exact gn_0 c451 c465 hrk)) (j_widen (by omega) (by omega) kk)
          · refine j_iconst (v := nI 0) C dL_law_468 (by decide) ?_
            refine j_goto C 474 dL_law_469 (by decide) ?_
            exact j_st (st1 := .int (gnF σ i) :: _) (congrArg (fun z => Value.int z :: _) (by first | exact (if_pos c451).symm | exact gn_8 c451 c465 | exact gn_0 c451 c465 hrk)) (j_widen (by omega) (by omega) kk)
        · refine j_iconst (v := nI 4) C dL_law_454 (by decide) ?_
          refine j_goto C 474 dL_law_455 (by decide) ?_
          exact j_st (st1 := .int (gnF σ i) :: _) (congrArg (fun z => Value.int z :: _) (by first | exact (if_pos c451).symm | exact gn_8 c451 c465 | exact gn_0 c451 c465 hrk)) (j_widen (by omega) (by omega) kk)
      · refine j_iadd C dL_law_474 ?_
        refine j_istore (lv' := [(19, .int _), (0, .ref _), (1, .ref _), (2, .ref _), (3, .int _), (5, .int _), (16, .ref _), (17, .ref _), (18, .int _), (20, .int _), (21, .int _)]) C dL_law_475 (by decide) rfl ?_
        refine j_iconst (v := nI 0) C dL_law_477 (by decide) ?_
        refine j_istore (lv' := [(22, .int _), (19, .int _), (0, .ref _), (1, .ref _), (2, .ref _), (3, .int _), (5, .int _), (16, .ref _), (17, .ref _), (18, .int _), (20, .int _), (21, .int _)]) C dL_law_478 (by decide) rfl ?_
        have L480 : ∀ (d r : Nat) (x20 : Int32) (x22 : Int32), r + d = 4 → x20 = wnF (sW σ) (24 * i + 6 * r) → x22 = nI r → J X (SWs ct sd (σ) ++ (WX ct sa ad mcn φ (σ) ++ [arI ct q16 (sN σ) (pfx (fun t => sR σ (8 * t + 1)) (i + 1)), arI ct q17 (sN σ) (pfx (fun t => stR (sR σ) t) (i + 1))])) (k0 + 90 * i + 9 + 18 * r) (n0 + 540 * i + 54 + 108 * r) 480 [(0, .ref b0), (1, .ref (ad 0)), (2, .ref (sd 0)), (3, .int tt), (5, .int (nI (sN σ))), (16, .ref q16), (17, .ref q17), (18, .int (sumF (sW σ) 192)), (19, .int (sumF (gnF σ) i + gnF σ i)), (20, .int x20), (21, .int (nI i)), (22, .int x22)] [] := by
          intro d
          induction d with
          | zero =>
            intro r x20 x22 hd e_x20 e_x22 
            subst e_x20
            subst e_x22
            have hr9 : r = 4 := by omega
            subst hr9
            refine j_iload C dL_law_480 11 rfl ?_
            refine j_iconst (v := nI 4) C dL_law_482 (by decide) ?_
            refine j_icmp_ge C 535 dL_law_483 (by decide) (fun c483 => ?_) (fun c483 => by first | exact absurd c483 (by decide) | exact absurd c483 (nI_ge (by omega) (by omega)) | exact absurd (nI_le (by omega) (by omega)) c483 | exact absurd c483 (nI_nlt (by omega) (by omega)) | exact absurd (nI_lt (by omega) (by omega)) c483 | exact absurd c483 (nI_nle0 (by omega) (by omega)))
            refine j_widen (k1 := k0 + 90 * (i + 1)) (n1 := n0 + 540 * (i + 1)) (by omega) (by omega) ?_
            refine j_iinc (z := 10) (lv' := [(21, .int _), (0, .ref _), (1, .ref _), (2, .ref _), (3, .int _), (5, .int _), (16, .ref _), (17, .ref _), (18, .int _), (19, .int _), (20, .int _), (22, .int _)]) C dL_law_535 rfl rfl (by decide) rfl ?_
            refine j_goto C 413 dL_law_538 (by decide) ?_
            exact j_lvs [1, 2, 3, 4, 5, 6, 7, 8, 9, 10, 0] rfl (ih (i + 1) _ _ _ _ (by omega) (rfl) (rfl) (nI_1 i) (rfl))
          | succ d ih =>
            intro r x20 x22 hd e_x20 e_x22 
            subst e_x20
            subst e_x22
            refine j_iload C dL_law_480 11 rfl ?_
            refine j_iconst (v := nI 4) C dL_law_482 (by decide) ?_
            refine j_icmp_ge C 535 dL_law_483 (by decide) (fun c483 => by first | exact absurd c483 (by decide) | exact absurd c483 (nI_ge (by omega) (by omega)) | exact absurd (nI_le (by omega) (by omega)) c483 | exact absurd c483 (nI_nlt (by omega) (by omega)) | exact absurd (nI_lt (by omega) (by omega)) c483 | exact absurd c483 (nI_nle0 (by omega) (by omega))) (fun c483 => ?_)
            refine j_iconst (v := nI 0) C dL_law_486 (by decide) ?_
            refine j_istore (lv' := [(23, .int _), (0, .ref _), (1, .ref _), (2, .ref _), (3, .int _), (5, .int _), (16, .ref _), (17, .ref _), (18, .int _), (19, .int _), (20, .int _), (21, .int _), (22, .int _)]) C dL_law_487 (by decide) rfl ?_
            have L489 : ∀ (d q : Nat) (x20 : Int32) (x23 : Int32), q + d = 6 → x20 = wnF (sW σ) (24 * i + (6 * r + q)) → x23 = nI q → J X (SWs ct sd (σ) ++ (WX ct sa ad mcn φ (σ) ++ [arI ct q16 (sN σ) (pfx (fun t => sR σ (8 * t + 1)) (i + 1)), arI ct q17 (sN σ) (pfx (fun t => stR (sR σ) t) (i + 1))])) (k0 + 90 * i + 9 + (18 * r + 3 * q)) (n0 + 540 * i + 54 + (108 * r + 18 * q)) 489 [(0, .ref b0), (1, .ref (ad 0)), (2, .ref (sd 0)), (3, .int tt), (5, .int (nI (sN σ))), (16, .ref q16), (17, .ref q17), (18, .int (sumF (sW σ) 192)), (19, .int (sumF (gnF σ) i + gnF σ i)), (20, .int x20), (21, .int (nI i)), (22, .int (nI r)), (23, .int x23)] [] := by
              intro d
              induction d with
              | zero =>
                intro q x20 x23 hd e_x20 e_x23 
                subst e_x20
                subst e_x23
                have hq9 : q = 6 := by omega
                subst hq9
                refine j_iload C dL_law_489 12 rfl ?_
                refine j_bipush (v := nI 6) C dL_law_491 (by decide) ?_
                refine j_icmp_ge C 529 dL_law_493 (by decide) (fun c493 => ?_) (fun c493 => by first | exact absurd c493 (by decide) | exact absurd c493 (nI_ge (by omega) (by omega)) | exact absurd (nI_le (by omega) (by omega)) c493 | exact absurd c493 (nI_nlt (by omega) (by omega)) | exact absurd (nI_lt (by omega) (by omega)) c493 | exact absurd c493 (nI_nle0 (by omega) (by omega)))
                refine j_iinc (z := 11) (lv' := [(22, .int _), (0, .ref _), (1, .ref _), (2, .ref _), (3, .int _), (5, .int _), (16, .ref _), (17, .ref _), (18, .int _), (19, .int _), (20, .int _), (21, .int _), (23, .int _)]) C dL_law_529 rfl rfl (by decide) rfl ?_
                refine j_goto C 480 dL_law_532 (by decide) ?_
                exact j_lvs [1, 2, 3, 4, 5, 6, 7, 8, 9, 10, 11, 0] rfl (ih (r + 1) _ _ (by omega) (rfl) (nI_1 r))
              | succ d ih =>
                intro q x20 x23 hd e_x20 e_x23 
                subst e_x20
                subst e_x23
                refine j_iload C dL_law_489 12 rfl ?_
                refine j_bipush (v := nI 6) C dL_law_491 (by decide) ?_
                refine j_icmp_ge C 529 dL_law_493 (by decide) (fun c493 => by first | exact absurd c493 (by decide) | exact absurd c493 (nI_ge (by omega) (by omega)) | exact absurd (nI_le (by omega) (by omega)) c493 | exact absurd c493 (nI_nlt (by omega) (by omega)) | exact absurd (nI_lt (by omega) (by omega)) c493 | exact absurd c493 (nI_nle0 (by omega) (by omega))) (fun c493 => ?_)
                refine j_iload C dL_law_496 9 rfl ?_
                refine j_if_ne C 516 dL_law_498 (by decide) (fun c498 => ?_) (fun c498 => ?_)
                · refine j_widen (k1 := k0 + 90 * i + 9 + (18 * r + 3 * q) + 3) (n1 := n0 + 540 * i + 54 + (108 * r + 18 * q) + 18) (by omega) (by omega) ?_
                  refine j_iconst (v := nI 1) C dL_law_516 (by decide) ?_
                  refine j_goto C 521 dL_law_517 (by decide) ?_
                  refine j_istore (lv' := [(20, .int _), (0, .ref _), (1, .ref _), (2, .ref _), (3, .int _), (5, .int _), (16, .ref _), (17, .ref _), (18, .int _), (19, .int _), (21, .int _), (22, .int _), (23, .int _)]) C dL_law_521 (by decide) rfl ?_
                  refine j_iinc (z := 12) (lv' := [(23, .int _), (20, .int _), (0, .ref _), (1, .ref _), (2, .ref _), (3, .int _), (5, .int _), (16, .ref _), (17, .ref _), (18, .int _), (19, .int _), (21, .int _), (22, .int _)]) C dL_law_523 rfl rfl (by decide) rfl ?_
                  refine j_goto C 489 dL_law_526 (by decide) ?_
                  exact j_lvs [2, 3, 4, 5, 6, 7, 8, 9, 10, 1, 11, 12, 0] rfl (ih (q + 1) _ _ (by omega) (by show _ = wnF (sW σ) (24 * i + (6 * r + q) + 1); first | exact wn_s1 c498 | exact wn_s2 c498 c513 | exact wn_s3 c498 c513) (nI_1 q))
                · refine j_aload_n (i := 1) C dL_law_501 rfl 1 rfl ?_
                  refine j_iload C dL_law_502 10 rfl ?_
                  refine j_iload C dL_law_504 11 rfl ?_
                  refine j_iload C dL_law_506 12 rfl ?_
                  have ef := wear_v (σ := σ) h8 hj (show r < 4 by omega) (show q < 6 by omega)
                  refine j_sw (A := SWs ct sd (σ)) (B := WX ct sa ad mcn φ (σ) ++ [arI ct q16 (sN σ) (pfx (fun t => sR σ (8 * t + 1)) (i + 1)), arI ct q17 (sN σ) (pfx (fun t => stR (sR σ) t) (i + 1))]) ?_
                  refine j_ws (ws1 := WX ct sa ad mcn φ (σ) ++ ([arI ct q16 (sN σ) (pfx (fun t => sR σ (8 * t + 1)) (i + 1)), arI ct q17 (sN σ) (pfx (fun t => stR (sR σ) t) (i + 1))] ++ SWs ct sd (σ))) (List.append_assoc ..) ?_
                  refine j_callVX (nargs := 3) (As := [_, _, _]) (Cn := RX3) C (0) rfl rfl rfl gw321 gw322 gw323 gw21 (kX3_wear l htr D ct sa ad mcn φ (σ) ([arI ct q16 (sN σ) (pfx (fun t => sR σ (8 * t + 1)) (i + 1)), arI ct q17 (sN σ) (pfx (fun t => stR (sR σ) t) (i + 1))] ++ SWs ct sd (σ)) (nI i) (nI r) (nI q) hi.1) gw324 (by decide +kernel) rfl dL_law_508 ⟨Nat.le_of_ble_eq_true rfl, Nat.le_of_ble_eq_true rfl⟩ ⟨by show (_ : Nat) ≤ 718837; omega, by show (_ : Nat) ≤ 6944958; omega⟩ (Nat.le_of_ble_eq_true rfl) (fun En hx => (kx_no hx (congrArg (fun f => f.1) ef) (by decide)).elim) (fun r w hk => ?_)
                  obtain ⟨-, rfl, rfl⟩ := hk
                  refine j_st (st1 := .int (sW σ (24 * i + (6 * r + q))) :: _) (by rw [ef]; rfl) ?_
                  refine j_ws (ws1 := (WX ct sa ad mcn φ (σ) ++ [arI ct q16 (sN σ) (pfx (fun t => sR σ (8 * t + 1)) (i + 1)), arI ct q17 (sN σ) (pfx (fun t => stR (sR σ) t) (i + 1))]) ++ SWs ct sd (σ)) (List.append_assoc ..).symm ?_
                  refine j_sw (A := WX ct sa ad mcn φ (σ) ++ [arI ct q16 (sN σ) (pfx (fun t => sR σ (8 * t + 1)) (i + 1)), arI ct q17 (sN σ) (pfx (fun t => stR (sR σ) t) (i + 1))]) (B := SWs ct sd (σ)) ?_
                  refine j_bipush (v := nI 97) C dL_law_511 (by decide) ?_
                  refine j_icmp_le C 520 dL_law_513 (by decide) (fun c513 => ?_) (fun c513 => ?_)
                  · refine j_iconst (v := nI 0) C dL_law_520 (by decide) ?_
                    refine j_istore (lv' := [(20, .int _), (0, .ref _), (1, .ref _), (2, .ref _), (3, .int _), (5, .int _), (16, .ref _), (17, .ref _), (18, .int _), (19, .int _), (21, .int _), (22, .int _), (23, .int _)]) C dL_law_521 (by decide) rfl ?_
                    refine j_iinc (z := 12) (lv' := [(23, .int _), (20, .int _), (0, .ref _), (1, .ref _), (2, .ref _), (3, .int _), (5, .int _), (16, .ref _), (17, .ref _), (18, .int _), (19, .int _), (21, .int _), (22, .int _)]) C dL_law_523 rfl rfl (by decide) rfl ?_
                    refine j_goto C 489 dL_law_526 (by decide) ?_
                    exact j_lvs [2, 3, 4, 5, 6, 7, 8, 9, 10, 1, 11, 12, 0] rfl (ih (q + 1) _ _ (by omega) (by show _ = wnF (sW σ) (24 * i + (6 * r + q) + 1); first | exact wn_s1 c498 | exact wn_s2 c498 c513 | exact wn_s3 c498 c513) (nI_1 q))
                  · refine j_iconst (v := nI 1) C dL_law_516 (by decide) ?_
                    refine j_goto C 521 dL_law_517 (by decide) ?_
                    refine j_istore (lv' := [(20, .int _), (0, .ref _), (1, .ref _), (2, .ref _), (3, .int _), (5, .int _), (16, .ref _), (17, .ref _), (18, .int _), (19, .int _), (21, .int _), (22, .int _), (23, .int _)]) C dL_law_521 (by decide) rfl ?_
                    refine j_iinc (z := 12) (lv' := [(23, .int _), (20, .int _), (0, .ref _), (1, .ref _), (2, .ref _), (3, .int _), (5, .int _), (16, .ref _), (17, .ref _), (18, .int _), (19, .int _), (21, .int _), (22, .int _)]) C dL_law_523 rfl rfl (by decide) rfl ?_
                    refine j_goto C 489 dL_law_526 (by decide) ?_
                    exact j_lvs [2, 3, 4, 5, 6, 7, 8, 9, 10, 1, 11, 12, 0] rfl (ih (q + 1) _ _ (by omega) (by show _ = wnF (sW σ) (24 * i + (6 * r + q) + 1); first | exact wn_s1 c498 | exact wn_s2 c498 c513 | exact wn_s3 c498 c513) (nI_1 q))
            exact j_lvs [1, 2, 3, 4, 5, 6, 7, 8, 9, 10, 11, 12, 0] rfl (L489 (6) (0) _ _ (by omega) (rfl) (rfl))
        exact j_lvs [2, 3, 4, 5, 6, 7, 8, 9, 1, 10, 11, 0] rfl (L480 (4) (0) _ _ (by omega) (rfl) (rfl))
  exact j_lvs [0, 1, 2, 3, 4, 5, 6, 7, 8, 9, 10] rfl (L413 (sN σ) (0) _ _ _ _ (by omega) (rfl) (rfl) (rfl) ((congrArg (fun f => SWs ct sd (σ) ++ (WX ct sa ad mcn φ (σ) ++ [arI ct q16 (sN σ) f, arI ct q17 (sN σ) (fun _ => nI 0)])) (pf_0 (f := (fun t => sR σ (8 * t + 1))))).trans (congrArg (fun f => SWs ct sd (σ) ++ (WX ct sa ad mcn φ (σ) ++ [arI ct q16 (sN σ) (pfx (fun t => sR σ (8 * t + 1)) 0), arI ct q17 (sN σ) f])) (pf_0 (f := (fun t => stR (sR σ) t))))))
set_option maxRecDepth 100000 in
set_option maxHeartbeats 2000000 in
theorem kI5 {X : Ctx} {l : Launch} {D : va_G} {ct : Nat → ClassId} {sa : Nat → Nat} (htr : l.stackTraces = false) (C : jC X l D ct sa cL_law 27 RL rmL) {sd ad : Nat → Nat} {mcn : Int32} {φ : LD} {h b0 : Nat} {tt : Int32} {σ : St} (hi : InvL h σ) (hh : h < 2 ^ 20) {k0 n0 : Nat} (hk0 : k0 + 1000 ≤ 718837) (hn0 : n0 + 7000 ≤ 6944958) {q16 q17 : Nat}  (kk : ∀ q21 : Nat, J X (SWs ct sd (hrS σ) ++ (WX ct sa ad mcn φ (hrS σ) ++ [arI ct q16 (sN σ) (pfx (fun t => sR σ (8 * t + 1)) (sN σ)), arI ct q17 (sN σ) (pfx (fun t => stR (sR σ) t) (sN σ)), arI ct q21 3 (cut 3 (fun r => b2i (opR σ (sH σ) r)))])) (k0 + 30) (n0 + 200) 591 [(0, .ref b0), (1, .ref (ad 0)), (2, .ref (sd 0)), (3, .int tt), (5, .int (nI (sN σ))), (16, .ref q16), (17, .ref q17), (18, .int (sumF (sW σ) 192)), (19, .int (sumF (gnF σ) (sN σ))), (20, .int (wnF (sW σ) (24 * sN σ))), (21, .ref q21), (22, .int (hrC σ)), (23, .int (nI 0)), (24, .int (nI 0))] []) : J X (SWs ct sd (σ) ++ (WX ct sa ad mcn φ (σ) ++ [arI ct q16 (sN σ) (pfx (fun t => sR σ (8 * t + 1)) (sN σ)), arI ct q17 (sN σ) (pfx (fun t => stR (sR σ) t) (sN σ))])) (k0) (n0) 541 [(0, .ref b0), (1, .ref (ad 0)), (2, .ref (sd 0)), (3, .int tt), (5, .int (nI (sN σ))), (16, .ref q16), (17, .ref q17), (18, .int (sumF (sW σ) 192)), (19, .int (sumF (gnF σ) (sN σ))), (20, .int (wnF (sW σ) (24 * sN σ)))] [] := by
  have h8 := hi.1.1.1
  refine j_iconst (v := nI 3) C dL_law_541 (by decide) ?_
  refine j_newaI C (N := 3) rfl (by decide) (by show (_ : Nat) ≤ 718837; omega) (by show (_ : Nat) ≤ 6944958; omega) dL_law_542 (fun q21 => ?_)
  refine j_ws (ws1 := SWs ct sd (σ) ++ (WX ct sa ad mcn φ (σ) ++ [arI ct q16 (sN σ) (pfx (fun t => sR σ (8 * t + 1)) (sN σ)), arI ct q17 (sN σ) (pfx (fun t => stR (sR σ) t) (sN σ)), arI ct q21 3 (fun _ => nI 0)])) l3_add ?_
  refine j_dup C dL_law_544 rfl ?_
  refine j_iconst (v := nI 0) C dL_law_545 (by decide) ?_
  refine j_aload_n (i := 1) C dL_law_546 rfl 1 rfl ?_
  refine j_iconst (v := nI 0) C dL_law_547 (by decide) ?_
  refine j_iconst (v := nI 2) C dL_law_548 (by decide) ?_
  have ef := rack_v (σ := σ) (show 0 < 3 by decide) (show 2 < 6 by decide)
  refine j_sw (A := SWs ct sd (σ)) (B := WX ct sa ad mcn φ (σ) ++ [arI ct q16 (sN σ) (pfx (fun t => sR σ (8 * t + 1)) (sN σ)), arI ct q17 (sN σ) (pfx (fun t => stR (sR σ) t) (sN σ)), arI ct q21 3 (fun _ => nI 0)]) ?_
  refine j_ws (ws1 := WX ct sa ad mcn φ (σ) ++ ([arI ct q16 (sN σ) (pfx (fun t => sR σ (8 * t + 1)) (sN σ)), arI ct q17 (sN σ) (pfx (fun t => stR (sR σ) t) (sN σ)), arI ct q21 3 (fun _ => nI 0)] ++ SWs ct sd (σ))) (List.append_assoc ..) ?_
  refine j_callVX (nargs := 2) (As := [_, _]) (Cn := RX3) C (0) rfl rfl rfl gw326 gw327 gw328 gw21 (kX3_rack l htr D ct sa ad mcn φ (σ) ([arI ct q16 (sN σ) (pfx (fun t => sR σ (8 * t + 1)) (sN σ)), arI ct q17 (sN σ) (pfx (fun t => stR (sR σ) t) (sN σ)), arI ct q21 3 (fun _ => nI 0)] ++ SWs ct sd (σ)) (nI 0) (nI 2) hi.1) gw329 (by decide +kernel) rfl dL_law_549 ⟨Nat.le_of_ble_eq_true rfl, Nat.le_of_ble_eq_true rfl⟩ ⟨by show (_ : Nat) ≤ 718837; omega, by show (_ : Nat) ≤ 6944958; omega⟩ (Nat.le_of_ble_eq_true rfl) (fun En hx => (kx_no hx (congrArg (fun f => f.1) ef) (by decide)).elim) (fun r w hk => ?_)
  obtain ⟨-, rfl, rfl⟩ := hk
  refine j_st (st1 := .int (b2i (opR σ (sH σ) 0)) :: _) (by rw [ef]; rfl) ?_
  refine j_ws (ws1 := (WX ct sa ad mcn φ (σ) ++ [arI ct q16 (sN σ) (pfx (fun t => sR σ (8 * t + 1)) (sN σ)), arI ct q17 (sN σ) (pfx (fun t => stR (sR σ) t) (sN σ)), arI ct q21 3 (fun _ => nI 0)]) ++ SWs ct sd (σ)) (List.append_assoc ..).symm ?_
  refine j_sw (A := WX ct sa ad mcn φ (σ) ++ [arI ct q16 (sN σ) (pfx (fun t => sR σ (8 * t + 1)) (sN σ)), arI ct q17 (sN σ) (pfx (fun t => stR (sR σ) t) (sN σ)), arI ct q21 3 (fun _ => nI 0)]) (B := SWs ct sd (σ)) ?_
  refine j_iast (ws2 := SWs ct sd (σ) ++ (WX ct sa ad mcn φ (σ) ++ [arI ct q16 (sN σ) (pfx (fun t => sR σ (8 * t + 1)) (sN σ)), arI ct q17 (sN σ) (pfx (fun t => stR (sR σ) t) (sN σ)), arI ct q21 3 (upd (fun _ => nI 0) 0 (b2i (opR σ (sH σ) 0)))])) C ((SWs ct sd (σ)).length + ((WX ct sa ad mcn φ (σ)).length + 2)) (l3_at rfl) (0) rfl (by decide) (by decide) l3_set dL_law_552 ?_
  refine j_dup C dL_law_553 rfl ?_
  refine j_iconst (v := nI 1) C dL_law_554 (by decide) ?_
  refine j_aload_n (i := 1) C dL_law_555 rfl 1 rfl ?_
  refine j_iconst (v := nI 1) C dL_law_556 (by decide) ?_
  refine j_iconst (v := nI 2) C dL_law_557 (by decide) ?_
  have ef := rack_v (σ := σ) (show 1 < 3 by decide) (show 2 < 6 by decide)
  refine j_sw (A := SWs ct sd (σ)) (B := WX ct sa ad mcn φ (σ) ++ [arI ct q16 (sN σ) (pfx (fun t => sR σ (8 * t + 1)) (sN σ)), arI ct q17 (sN σ) (pfx (fun t => stR (sR σ) t) (sN σ)), arI ct q21 3 (upd (fun _ => nI 0) 0 (b2i (opR σ (sH σ) 0)))]) ?_
  refine j_ws (ws1 := WX ct sa ad mcn φ (σ) ++ ([arI ct q16 (sN σ) (pfx (fun t => sR σ (8 * t + 1)) (sN σ)), arI ct q17 (sN σ) (pfx (fun t => stR (sR σ) t) (sN σ)), arI ct q21 3 (upd (fun _ => nI 0) 0 (b2i (opR σ (sH σ) 0)))] ++ SWs ct sd (σ))) (List.append_assoc ..) ?_
  refine j_callVX (nargs := 2) (As := [_, _]) (Cn := RX3) C (0) rfl rfl rfl gw326 gw327 gw328 gw21 (kX3_rack l htr D ct sa ad mcn φ (σ) ([arI ct q16 (sN σ) (pfx (fun t => sR σ (8 * t + 1)) (sN σ)), arI ct q17 (sN σ) (pfx (fun t => stR (sR σ) t) (sN σ)), arI ct q21 3 (upd (fun _ => nI 0) 0 (b2i (opR σ (sH σ) 0)))] ++ SWs ct sd (σ)) (nI 1) (nI 2) hi.1) gw329 (by decide +kernel) rfl dL_law_558 ⟨Nat.le_of_ble_eq_true rfl, Nat.le_of_ble_eq_true rfl⟩ ⟨by show (_ : Nat) ≤ 718837; omega, by show (_ : Nat) ≤ 6944958; omega⟩ (Nat.le_of_ble_eq_true rfl) (fun En hx => (kx_no hx (congrArg (fun f => f.1) ef) (by decide)).elim) (fun r w hk => ?_)
  obtain ⟨-, rfl, rfl⟩ := hk
  refine j_st (st1 := .int (b2i (opR σ (sH σ) 1)) :: _) (by rw [ef]; rfl) ?_
  refine j_ws (ws1 := (WX ct sa ad mcn φ (σ) ++ [arI ct q16 (sN σ) (pfx (fun t => sR σ (8 * t + 1)) (sN σ)), arI ct q17 (sN σ) (pfx (fun t => stR (sR σ) t) (sN σ)), arI ct q21 3 (upd (fun _ => nI 0) 0 (b2i (opR σ (sH σ) 0)))]) ++ SWs ct sd (σ)) (List.append_assoc ..).symm ?_
  refine j_sw (A := WX ct sa ad mcn φ (σ) ++ [arI ct q16 (sN σ) (pfx (fun t => sR σ (8 * t + 1)) (sN σ)), arI ct q17 (sN σ) (pfx (fun t => stR (sR σ) t) (sN σ)), arI ct q21 3 (upd (fun _ => nI 0) 0 (b2i (opR σ (sH σ) 0)))]) (B := SWs ct sd (σ)) ?_
  refine j_iast (ws2 := SWs ct sd (σ) ++ (WX ct sa ad mcn φ (σ) ++ [arI ct q16 (sN σ) (pfx (fun t => sR σ (8 * t + 1)) (sN σ)), arI ct q17 (sN σ) (pfx (fun t => stR (sR σ) t) (sN σ)), arI ct q21 3 (upd (upd (fun _ => nI 0) 0 (b2i (opR σ (sH σ) 0))) 1 (b2i (opR σ (sH σ) 1)))])) C ((SWs ct sd (σ)).length + ((WX ct sa ad mcn φ (σ)).length + 2)) (l3_at rfl) (1) rfl (by decide) (by decide) l3_set dL_law_561 ?_
  refine j_dup C dL_law_562 rfl ?_
  refine j_iconst (v := nI 2) C dL_law_563 (by decide) ?_
  refine j_aload_n (i := 1) C dL_law_564 rfl 1 rfl ?_
  refine j_iconst (v := nI 2) C dL_law_565 (by decide) ?_
  refine j_iconst (v := nI 2) C dL_law_566 (by decide) ?_
  have ef := rack_v (σ := σ) (show 2 < 3 by decide) (show 2 < 6 by decide)
  refine j_sw (A := SWs ct sd (σ)) (B := WX ct sa ad mcn φ (σ) ++ [arI ct q16 (sN σ) (pfx (fun t => sR σ (8 * t + 1)) (sN σ)), arI ct q17 (sN σ) (pfx (fun t => stR (sR σ) t) (sN σ)), arI ct q21 3 (upd (upd (fun _ => nI 0) 0 (b2i (opR σ (sH σ) 0))) 1 (b2i (opR σ (sH σ) 1)))]) ?_
  refine j_ws (ws1 := WX ct sa ad mcn φ (σ) ++ ([arI ct q16 (sN σ) (pfx (fun t => sR σ (8 * t + 1)) (sN σ)), arI ct q17 (sN σ) (pfx (fun t => stR (sR σ) t) (sN σ)), arI ct q21 3 (upd (upd (fun _ => nI 0) 0 (b2i (opR σ (sH σ) 0))) 1 (b2i (opR σ (sH σ) 1)))] ++ SWs ct sd (σ))) (List.append_assoc ..) ?_
  refine j_callVX (nargs := 2) (As := [_, _]) (Cn := RX3) C (0) rfl rfl rfl gw326 gw327 gw328 gw21 (kX3_rack l htr D ct sa ad mcn φ (σ) ([arI ct q16 (sN σ) (pfx (fun t => sR σ (8 * t + 1)) (sN σ)), arI ct q17 (sN σ) (pfx (fun t => stR (sR σ) t) (sN σ)), arI ct q21 3 (upd (upd (fun _ => nI 0) 0 (b2i (opR σ (sH σ) 0))) 1 (b2i (opR σ (sH σ) 1)))] ++ SWs ct sd (σ)) (nI 2) (nI 2) hi.1) gw329 (by decide +kernel) rfl dL_law_567 ⟨Nat.le_of_ble_eq_true rfl, Nat.le_of_ble_eq_true rfl⟩ ⟨by show (_ : Nat) ≤ 718837; omega, by show (_ : Nat) ≤ 6944958; omega⟩ (Nat.le_of_ble_eq_true rfl) (fun En hx => (kx_no hx (congrArg (fun f => f.1) ef) (by decide)).elim) (fun r w hk => ?_)
  obtain ⟨-, rfl, rfl⟩ := hk
  refine j_st (st1 := .int (b2i (opR σ (sH σ) 2)) :: _) (by rw [ef]; rfl) ?_
  refine j_ws (ws1 := (WX ct sa ad mcn φ (σ) ++ [arI ct q16 (sN σ) (pfx (fun t => sR σ (8 * t + 1)) (sN σ)), arI ct q17 (sN σ) (pfx (fun t => stR (sR σ) t) (sN σ)), arI ct q21 3 (upd (upd (fun _ => nI 0) 0 (b2i (opR σ (sH σ) 0))) 1 (b2i (opR σ (sH σ) 1)))]) ++ SWs ct sd (σ)) (List.append_assoc ..).symm ?_
  refine j_sw (A := WX ct sa ad mcn φ (σ) ++ [arI ct q16 (sN σ) (pfx (fun t => sR σ (8 * t + 1)) (sN σ)), arI ct q17 (sN σ) (pfx (fun t => stR (sR σ) t) (sN σ)), arI ct q21 3 (upd (upd (fun _ => nI 0) 0 (b2i (opR σ (sH σ) 0))) 1 (b2i (opR σ (sH σ) 1)))]) (B := SWs ct sd (σ)) ?_
  refine j_iast (ws2 := SWs ct sd (σ) ++ (WX ct sa ad mcn φ (σ) ++ [arI ct q16 (sN σ) (pfx (fun t => sR σ (8 * t + 1)) (sN σ)), arI ct q17 (sN σ) (pfx (fun t => stR (sR σ) t) (sN σ)), arI ct q21 3 (upd (upd (upd (fun _ => nI 0) 0 (b2i (opR σ (sH σ) 0))) 1 (b2i (opR σ (sH σ) 1))) 2 (b2i (opR σ (sH σ) 2)))])) C ((SWs ct sd (σ)).length + ((WX ct sa ad mcn φ (σ)).length + 2)) (l3_at rfl) (2) rfl (by decide) (by decide) l3_set dL_law_570 ?_
  refine j_cong (g := cut 3 (fun r => b2i (opR σ (sH σ) r))) (q0 := (SWs ct sd (σ)).length + ((WX ct sa ad mcn φ (σ)).length + 2)) (l3_at rfl) (o3_e rfl rfl rfl) ?_
  refine j_ws (ws1 := SWs ct sd (σ) ++ (WX ct sa ad mcn φ (σ) ++ [arI ct q16 (sN σ) (pfx (fun t => sR σ (8 * t + 1)) (sN σ)), arI ct q17 (sN σ) (pfx (fun t => stR (sR σ) t) (sN σ)), arI ct q21 3 (cut 3 (fun r => b2i (opR σ (sH σ) r)))])) l3_set ?_
  refine j_astore (lv' := [(21, .ref _), (0, .ref _), (1, .ref _), (2, .ref _), (3, .int _), (5, .int _), (16, .ref _), (17, .ref _), (18, .int _), (19, .int _), (20, .int _)]) C dL_law_571 (by decide) rfl ?_
  refine j_aload_n (i := 1) C dL_law_573 rfl 2 rfl ?_
  refine j_iconst (v := nI 1) C dL_law_574 (by decide) ?_
  have ef := @ps_v σ
  refine j_sw (A := SWs ct sd (σ)) (B := WX ct sa ad mcn φ (σ) ++ [arI ct q16 (sN σ) (pfx (fun t => sR σ (8 * t + 1)) (sN σ)), arI ct q17 (sN σ) (pfx (fun t => stR (sR σ) t) (sN σ)), arI ct q21 3 (cut 3 (fun r => b2i (opR σ (sH σ) r)))]) ?_
  refine j_ws (ws1 := WX ct sa ad mcn φ (σ) ++ ([arI ct q16 (sN σ) (pfx (fun t => sR σ (8 * t + 1)) (sN σ)), arI ct q17 (sN σ) (pfx (fun t => stR (sR σ) t) (sN σ)), arI ct q21 3 (cut 3 (fun r => b2i (opR σ (sH σ) r)))] ++ SWs ct sd (σ))) (List.append_assoc ..) ?_
  refine j_callVX (nargs := 1) (As := [_]) (Cn := RX3) C (0) rfl rfl rfl gw410 gw411 gw412 gw21 (kX3_pass l htr D ct sa ad mcn φ (σ) ([arI ct q16 (sN σ) (pfx (fun t => sR σ (8 * t + 1)) (sN σ)), arI ct q17 (sN σ) (pfx (fun t => stR (sR σ) t) (sN σ)), arI ct q21 3 (cut 3 (fun r => b2i (opR σ (sH σ) r)))] ++ SWs ct sd (σ)) (nI 1) hi.1) gw413 (by decide +kernel) rfl dL_law_575 ⟨Nat.le_of_ble_eq_true rfl, Nat.le_of_ble_eq_true rfl⟩ ⟨by show (_ : Nat) ≤ 718837; omega, by show (_ : Nat) ≤ 6944958; omega⟩ (Nat.le_of_ble_eq_true rfl) (fun En hx => (kx_no hx (congrArg (fun f => f.1) ef) (by decide)).elim) (fun r w hk => ?_)
  obtain ⟨-, rfl, rfl⟩ := hk
  refine j_st (st1 := .int (hrC σ) :: _) (by rw [ef]; rfl) ?_
  refine j_ws (ws1 := WX ct sa ad mcn φ (hrS σ) ++ ([arI ct q16 (sN σ) (pfx (fun t => sR σ (8 * t + 1)) (sN σ)), arI ct q17 (sN σ) (pfx (fun t => stR (sR σ) t) (sN σ)), arI ct q21 3 (cut 3 (fun r => b2i (opR σ (sH σ) r)))] ++ SWs ct sd (σ))) (by rw [ef]) ?_
  refine j_ws (ws1 := (WX ct sa ad mcn φ (hrS σ) ++ [arI ct q16 (sN σ) (pfx (fun t => sR σ (8 * t + 1)) (sN σ)), arI ct q17 (sN σ) (pfx (fun t => stR (sR σ) t) (sN σ)), arI ct q21 3 (cut 3 (fun r => b2i (opR σ (sH σ) r)))]) ++ SWs ct sd (σ)) (List.append_assoc ..).symm ?_
  refine j_sw (A := WX ct sa ad mcn φ (hrS σ) ++ [arI ct q16 (sN σ) (pfx (fun t => sR σ (8 * t + 1)) (sN σ)), arI ct q17 (sN σ) (pfx (fun t => stR (sR σ) t) (sN σ)), arI ct q21 3 (cut 3 (fun r => b2i (opR σ (sH σ) r)))]) (B := SWs ct sd (σ)) ?_
  refine j_istore (lv' := [(22, .int _), (21, .ref _), (0, .ref _), (1, .ref _), (2, .ref _), (3, .int _), (5, .int _), (16, .ref _), (17, .ref _), (18, .int _), (19, .int _), (20, .int _)]) C dL_law_578 (by decide) rfl ?_
  refine j_aload_n (i := 2) C dL_law_580 rfl 4 rfl ?_
  refine j_callV (nargs := 0) (As := []) (Cn := RX5) C (0) rfl rfl rfl gw440 gw441 gw442 gw28 (kX5_pass l D ct sa sd σ (WX ct sa ad mcn φ (hrS σ) ++ [arI ct q16 (sN σ) (pfx (fun t => sR σ (8 * t + 1)) (sN σ)), arI ct q17 (sN σ) (pfx (fun t => stR (sR σ) t) (sN σ)), arI ct q21 3 (cut 3 (fun r => b2i (opR σ (sH σ) r)))]) h hi.1 hi.2.1 hh (ok_K hi.2.2)) gw443 (by decide +kernel) rfl dL_law_581 ⟨Nat.le_of_ble_eq_true rfl, Nat.le_of_ble_eq_true rfl⟩ ⟨by show (_ : Nat) ≤ 718837; omega, by show (_ : Nat) ≤ 6944958; omega⟩ (Nat.le_of_ble_eq_true rfl) (dki ?_)
  refine j_pop C dL_law_584 rfl ?_
  refine j_iconst (v := nI 0) C dL_law_585 (by decide) ?_
  refine j_istore (lv' := [(23, .int _), (22, .int _), (21, .ref _), (0, .ref _), (1, .ref _), (2, .ref _), (3, .int _), (5, .int _), (16, .ref _), (17, .ref _), (18, .int _), (19, .int _), (20, .int _)]) C dL_law_586 (by decide) rfl ?_
  refine j_iconst (v := nI 0) C dL_law_588 (by decide) ?_
  refine j_istore (lv' := [(24, .int _), (23, .int _), (22, .int _), (21, .ref _), (0, .ref _), (1, .ref _), (2, .ref _), (3, .int _), (5, .int _), (16, .ref _), (17, .ref _), (18, .int _), (19, .int _), (20, .int _)]) C dL_law_589 (by decide) rfl ?_
  exact j_lvs [4, 5, 6, 7, 8, 9, 10, 11, 12, 13, 3, 2, 1, 0] rfl (j_widen (by omega) (by omega) (kk q21))
set_option maxRecDepth 100000 in
set_option maxHeartbeats 2000000 in
theorem kI6 {X : Ctx} {l : Launch} {D : va_G} {ct : Nat → ClassId} {sa : Nat → Nat} (htr : l.stackTraces = false) (C : jC X l D ct sa cL_law 27 RL rmL) {sd ad : Nat → Nat} {mcn : Int32} {φ : LD} {h b0 : Nat} {tt : Int32} {σ : St} (hi : InvL h σ) (hh : h < 2 ^ 20) {k0 n0 : Nat} (hk0 : k0 + 1000 ≤ 718837) (hn0 : n0 + 7000 ≤ 6944958) {q16 q17 q21 : Nat}  (kk : J X (SWs ct sd (hrS σ) ++ (WX ct sa ad mcn φ (hrS σ) ++ [arI ct q16 (sN σ) (pfx (fun t => sR σ (8 * t + 1)) (sN σ)), arI ct q17 (sN σ) (pfx (fun t => stR (sR σ) t) (sN σ)), arI ct q21 3 (cut 3 (fun r => b2i (opR σ (sH σ) r)))])) (k0 + 80) (n0 + 500) 708 [(0, .ref b0), (1, .ref (ad 0)), (2, .ref (sd 0)), (3, .int tt), (18, .int (sumF (sW σ) 192)), (19, .int (sumF (gnF σ) (sN σ))), (20, .int (wnF (sW σ) (24 * sN σ))), (22, .int (hrC σ)), (23, .int (cCF (sK σ) (sH σ) (sR σ) (sN σ)))] []) : J X (SWs ct sd (hrS σ) ++ (WX ct sa ad mcn φ (hrS σ) ++ [arI ct q16 (sN σ) (pfx (fun t => sR σ (8 * t + 1)) (sN σ)), arI ct q17 (sN σ) (pfx (fun t => stR (sR σ) t) (sN σ)), arI ct q21 3 (cut 3 (fun r => b2i (opR σ (sH σ) r)))])) (k0) (n0) 591 [(0, .ref b0), (1, .ref (ad 0)), (2, .ref (sd 0)), (3, .int tt), (5, .int (nI (sN σ))), (16, .ref q16), (17, .ref q17), (18, .int (sumF (sW σ) 192)), (19, .int (sumF (gnF σ) (sN σ))), (20, .int (wnF (sW σ) (24 * sN σ))), (21, .ref q21), (22, .int (hrC σ)), (23, .int (nI 0)), (24, .int (nI 0))] [] := by
  have h8 := hi.1.1.1
  have L591 : ∀ (d i : Nat) (x23 : Int32) (x24 : Int32), i + d = sN σ → x23 = cCF (sK σ) (sH σ) (sR σ) i → x24 = nI i → J X (SWs ct sd (hrS σ) ++ (WX ct sa ad mcn φ (hrS σ) ++ [arI ct q16 (sN σ) (pfx (fun t => sR σ (8 * t + 1)) (sN σ)), arI ct q17 (sN σ) (pfx (fun t => stR (sR σ) t) (sN σ)), arI ct q21 3 (cut 3 (fun r => b2i (opR σ (sH σ) r)))])) (k0 + 9 * i) (n0 + 54 * i) 591 [(0, .ref b0), (1, .ref (ad 0)), (2, .ref (sd 0)), (3, .int tt), (5, .int (nI (sN σ))), (16, .ref q16), (17, .ref q17), (18, .int (sumF (sW σ) 192)), (19, .int (sumF (gnF σ) (sN σ))), (20, .int (wnF (sW σ) (24 * sN σ))), (21, .ref q21), (22, .int (hrC σ)), (23, .int x23), (24, .int x24)] [] := by
    intro d
    induction d with
    | zero =>
      intro i x23 x24 hd e_x23 e_x24 
      subst e_x23
      subst e_x24
      have hi9 : i = sN σ := by omega
      rw [hi9]
      refine j_iload C dL_law_591 13 rfl ?_
      refine j_iload C dL_law_593 4 rfl ?_
      refine j_icmp_ge C 708 dL_law_595 (by decide) (fun c595 => ?_) (fun c595 => by first | exact absurd c595 (nI_ge (b := sN σ) (by omega) (by omega)) | exact (c595 (nI_le (Nat.le_refl (sN σ)) (by omega))).elim)
      exact j_lvs [0, 1, 2, 3, 7, 8, 9, 11, 12] rfl (j_widen (by omega) (by omega) (kk))
    | succ d ih =>
      intro i x23 x24 hd e_x23 e_x24 
      subst e_x23
      subst e_x24
      have hj : i < sN σ := by omega
      have hrk : sR σ (8 * i + 2) = -1 ∨ okI 3 (sR σ (8 * i + 2)) := (hi.1.1.2 i (by omega)).2.1
      have hb1 := (hi.1.2.1 i (by omega)).1
      have bh1 := bh_1 hi.1 hj
      refine j_iload C dL_law_591 13 rfl ?_
      refine j_iload C dL_law_593 4 rfl ?_
      refine j_icmp_ge C 708 dL_law_595 (by decide) (fun c595 => by first | exact absurd c595 (nI_ge (b := sN σ) (by omega) (by omega)) | exact (c595 (nI_le (Nat.le_refl (sN σ)) (by omega))).elim) (fun c595 => ?_)
      refine j_aload_n (i := 1) C dL_law_598 rfl 1 rfl ?_
      refine j_iload C dL_law_599 13 rfl ?_
      refine j_iconst (v := nI 2) C dL_law_601 (by decide) ?_
      have ef := (told_v (σ := hrS σ) (t := 2) h8 hj (by decide)).trans (congrArg (fun v => (nI 0, v, hrS σ)) (show tld (hrS σ) i 2 = sR σ (8 * i + 2) from bh_2))
      refine j_sw (A := SWs ct sd (hrS σ)) (B := WX ct sa ad mcn φ (hrS σ) ++ [arI ct q16 (sN σ) (pfx (fun t => sR σ (8 * t + 1)) (sN σ)), arI ct q17 (sN σ) (pfx (fun t => stR (sR σ) t) (sN σ)), arI ct q21 3 (cut 3 (fun r => b2i (opR σ (sH σ) r)))]) ?_
      refine j_ws (ws1 := WX ct sa ad mcn φ (hrS σ) ++ ([arI ct q16 (sN σ) (pfx (fun t => sR σ (8 * t + 1)) (sN σ)), arI ct q17 (sN σ) (pfx (fun t => stR (sR σ) t) (sN σ)), arI ct q21 3 (cut 3 (fun r => b2i (opR σ (sH σ) r)))] ++ SWs ct sd (hrS σ))) (List.append_assoc ..) ?_
      refine j_callVX (nargs := 2) (As := [_, _]) (Cn := RX3) C (0) rfl rfl rfl gw303 gw304 gw305 gw21 (kX3_told l htr D ct sa ad mcn φ (hrS σ) ([arI ct q16 (sN σ) (pfx (fun t => sR σ (8 * t + 1)) (sN σ)), arI ct q17 (sN σ) (pfx (fun t => stR (sR σ) t) (sN σ)), arI ct q21 3 (cut 3 (fun r => b2i (opR σ (sH σ) r)))] ++ SWs ct sd (hrS σ)) (nI i) (nI 2) (inv1_hr hi.1)) gw306 (by decide +kernel) rfl dL_law_602 ⟨Nat.le_of_ble_eq_true rfl, Nat.le_of_ble_eq_true rfl⟩ ⟨by show (_ : Nat) ≤ 718837; omega, by show (_ : Nat) ≤ 6944958; omega⟩ (Nat.le_of_ble_eq_true rfl) (fun En hx => (kx_no hx (congrArg (fun f => f.1) ef) (by decide)).elim) (fun r w hk => ?_)
      obtain ⟨-, rfl, rfl⟩ := hk
      refine j_st (st1 := .int (sR σ (8 * i + 2)) :: _) (by rw [ef]; rfl) ?_
      refine j_ws (ws1 := (WX ct sa ad mcn φ (hrS σ) ++ [arI ct q16 (sN σ) (pfx (fun t => sR σ (8 * t + 1)) (sN σ)), arI ct q17 (sN σ) (pfx (fun t => stR (sR σ) t) (sN σ)), arI ct q21 3 (cut 3 (fun r => b2i (opR σ (sH σ) r)))]) ++ SWs ct sd (hrS σ)) (List.append_assoc ..).symm ?_
      refine j_sw (A := WX ct sa ad mcn φ (hrS σ) ++ [arI ct q16 (sN σ) (pfx (fun t => sR σ (8 * t + 1)) (sN σ)), arI ct q17 (sN σ) (pfx (fun t => stR (sR σ) t) (sN σ)), arI ct q21 3 (cut 3 (fun r => b2i (opR σ (sH σ) r)))]) (B := SWs ct sd (hrS σ)) ?_
      refine j_istore (lv' := [(25, .int _), (0, .ref _), (1, .ref _), (2, .ref _), (3, .int _), (5, .int _), (16, .ref _), (17, .ref _), (18, .int _), (19, .int _), (20, .int _), (21, .ref _), (22, .int _), (23, .int _), (24, .int _)]) C dL_law_605 (by decide) rfl ?_
      refine jn_e 634 (b2i (shP σ i)) (fun kk => ?_) ?_
      · refine j_aload C dL_law_607 6 rfl ?_
        refine j_iload C dL_law_609 14 rfl ?_
        refine j_iald C ((SWs ct sd (hrS σ)).length + ((WX ct sa ad mcn φ (hrS σ)).length + 0)) (l3_at rfl) (i) rfl hj (by omega) dL_law_611 ?_
        refine j_st (st1 := .int (sR σ (8 * i + 1)) :: _) (congrArg (fun z => Value.int z :: _) (pf_i hj)) ?_
        refine j_iconst (v := nI 1) C dL_law_612 (by decide) ?_
        refine j_icmp_ne C 633 dL_law_613 (by decide) (fun c613 => ?_) (fun c613 => ?_)
        · refine j_iconst (v := nI 0) C dL_law_633 (by decide) ?_
          exact j_st (st1 := .int (b2i (shP σ i)) :: _) (congrArg (fun z => Value.int z :: _) (by first | exact sp_n1 hb1 c613 | exact sp_n2 c618 | exact sp_n3 c626 | exact sp_y c613 hk3 c626)) kk
        · refine j_iload C dL_law_616 0 rfl ?_
          refine j_if_lt C 633 dL_law_618 (by decide) (fun c618 => ?_) (fun c618 => ?_)
          · refine j_iconst (v := nI 0) C dL_law_633 (by decide) ?_
            exact j_st (st1 := .int (b2i (shP σ i)) :: _) (congrArg (fun z => Value.int z :: _) (by first | exact sp_n1 hb1 c613 | exact sp_n2 c618 | exact sp_n3 c626 | exact sp_y c613 hk3 c626)) kk
          · obtain ⟨hk3, hkn⟩ := (rk_lt hrk).2 c618
            obtain ⟨hr3, er⟩ := okI_ix hk3 (by decide)
            refine j_aload C dL_law_621 11 rfl ?_
            refine j_iload C dL_law_623 0 rfl ?_
            refine j_iald C ((SWs ct sd (hrS σ)).length + ((WX ct sa ad mcn φ (hrS σ)).length + 2)) (l3_at rfl) (ix (sR σ (8 * i + 2))) er hr3 (by decide) dL_law_625 ?_
            refine j_st (st1 := .int (b2i (opR σ (sH σ) (ix (sR σ (8 * i + 2))))) :: _) (congrArg (fun z => Value.int z :: _) (cut_in hr3)) ?_
            refine j_if_ne C 633 dL_law_626 (by decide) (fun c626 => ?_) (fun c626 => ?_)
            · refine j_iconst (v := nI 0) C dL_law_633 (by decide) ?_
              exact j_st (st1 := .int (b2i (shP σ i)) :: _) (congrArg (fun z => Value.int z :: _) (by first | exact sp_n1 hb1 c613 | exact sp_n2 c618 | exact sp_n3 c626 | exact sp_y c613 hk3 c626)) kk
            · refine j_iconst (v := nI 1) C dL_law_629 (by decide) ?_
              refine j_goto C 634 dL_law_630 (by decide) ?_
              exact j_st (st1 := .int (b2i (shP σ i)) :: _) (congrArg (fun z => Value.int z :: _) (by first | exact sp_n1 hb1 c613 | exact sp_n2 c618 | exact sp_n3 c626 | exact sp_y c613 hk3 c626)) kk
      · refine j_istore (lv' := [(26, .int _), (25, .int _), (0, .ref _), (1, .ref _), (2, .ref _), (3, .int _), (5, .int _), (16, .ref _), (17, .ref _), (18, .int _), (19, .int _), (20, .int _), (21, .ref _), (22, .int _), (23, .int _), (24, .int _)]) C dL_law_634 (by decide) rfl ?_
        refine j_iload C dL_law_636 14 rfl ?_
        refine jn_e 648 (b2i (shP σ i)) (fun kk => ?_) ?_
        · refine j_iload C dL_law_638 0 rfl ?_
          refine j_if_eq C 647 dL_law_640 (by decide) (fun c640 => ?_) (fun c640 => ?_)
          · refine j_iconst (v := nI 0) C dL_law_647 (by decide) ?_
            exact j_st (st1 := .int (b2i (shP σ i)) :: _) (congrArg (fun z => Value.int z :: _) (by first | exact c640.symm | exact (b2i_01.resolve_left c640).symm)) kk
          · refine j_iconst (v := nI 1) C dL_law_643 (by decide) ?_
            refine j_goto C 648 dL_law_644 (by decide) ?_
            exact j_st (st1 := .int (b2i (shP σ i)) :: _) (congrArg (fun z => Value.int z :: _) (by first | exact c640.symm | exact (b2i_01.resolve_left c640).symm)) kk
        · refine j_iadd C dL_law_648 ?_
          refine j_istore (lv' := [(23, .int _), (26, .int _), (25, .int _), (0, .ref _), (1, .ref _), (2, .ref _), (3, .int _), (5, .int _), (16, .ref _), (17, .ref _), (18, .int _), (19, .int _), (20, .int _), (21, .ref _), (22, .int _), (24, .int _)]) C dL_law_649 (by decide) rfl ?_
          refine j_aload_n (i := 1) C dL_law_651 rfl 4 rfl ?_
          refine j_iload C dL_law_652 15 rfl ?_
          refine j_iconst (v := nI 1) C dL_law_654 (by decide) ?_
          have ef := (told_v (σ := hrS σ) (t := 1) h8 hj (by decide))
          refine j_sw (A := SWs ct sd (hrS σ)) (B := WX ct sa ad mcn φ (hrS σ) ++ [arI ct q16 (sN σ) (pfx (fun t => sR σ (8 * t + 1)) (sN σ)), arI ct q17 (sN σ) (pfx (fun t => stR (sR σ) t) (sN σ)), arI ct q21 3 (cut 3 (fun r => b2i (opR σ (sH σ) r)))]) ?_
          refine j_ws (ws1 := WX ct sa ad mcn φ (hrS σ) ++ ([arI ct q16 (sN σ) (pfx (fun t => sR σ (8 * t + 1)) (sN σ)), arI ct q17 (sN σ) (pfx (fun t => stR (sR σ) t) (sN σ)), arI ct q21 3 (cut 3 (fun r => b2i (opR σ (sH σ) r)))] ++ SWs ct sd (hrS σ))) (List.append_assoc ..) ?_
          refine j_callVX (nargs := 2) (As := [_, _]) (Cn := RX3) C (0) rfl rfl rfl gw303 gw304 gw305 gw21 (kX3_told l htr D ct sa ad mcn φ (hrS σ) ([arI ct q16 (sN σ) (pfx (fun t => sR σ (8 * t + 1)) (sN σ)), arI ct q17 (sN σ) (pfx (fun t => stR (sR σ) t) (sN σ)), arI ct q21 3 (cut 3 (fun r => b2i (opR σ (sH σ) r)))] ++ SWs ct sd (hrS σ)) (nI i) (nI 1) (inv1_hr hi.1)) gw306 (by decide +kernel) rfl dL_law_655 ⟨Nat.le_of_ble_eq_true rfl, Nat.le_of_ble_eq_true rfl⟩ ⟨by show (_ : Nat) ≤ 718837; omega, by show (_ : Nat) ≤ 6944958; omega⟩ (Nat.le_of_ble_eq_true rfl) (fun En hx => (kx_no hx (congrArg (fun f => f.1) ef) (by decide)).elim) (fun r w hk => ?_)
          obtain ⟨-, rfl, rfl⟩ := hk
          refine j_st (st1 := .int (sR (hrS σ) (8 * i + 1)) :: _) (by rw [ef]; rfl) ?_
          refine j_ws (ws1 := (WX ct sa ad mcn φ (hrS σ) ++ [arI ct q16 (sN σ) (pfx (fun t => sR σ (8 * t + 1)) (sN σ)), arI ct q17 (sN σ) (pfx (fun t => stR (sR σ) t) (sN σ)), arI ct q21 3 (cut 3 (fun r => b2i (opR σ (sH σ) r)))]) ++ SWs ct sd (hrS σ)) (List.append_assoc ..).symm ?_
          refine j_sw (A := WX ct sa ad mcn φ (hrS σ) ++ [arI ct q16 (sN σ) (pfx (fun t => sR σ (8 * t + 1)) (sN σ)), arI ct q17 (sN σ) (pfx (fun t => stR (sR σ) t) (sN σ)), arI ct q21 3 (cut 3 (fun r => b2i (opR σ (sH σ) r)))]) (B := SWs ct sd (hrS σ)) ?_
          refine jn_e 672 (sR (hrS σ) (8 * i + 1)) (fun kk => ?_) ?_
          · refine j_iload C dL_law_658 1 rfl ?_
            refine j_if_eq C 667 dL_law_660 (by decide) (fun c660 => ?_) (fun c660 => ?_)
            · refine j_aload C dL_law_667 8 rfl ?_
              refine j_iload C dL_law_669 15 rfl ?_
              refine j_iald C ((SWs ct sd (hrS σ)).length + ((WX ct sa ad mcn φ (hrS σ)).length + 0)) (l3_at rfl) (i) rfl hj (by omega) dL_law_671 ?_
              refine j_st (st1 := .int (sR σ (8 * i + 1)) :: _) (congrArg (fun z => Value.int z :: _) (pf_i hj)) ?_
              exact j_st (st1 := .int (sR (hrS σ) (8 * i + 1)) :: _) (congrArg (fun z => Value.int z :: _) (by first | exact (bh1.trans (if_neg (b2i_f c660))).symm | exact (bh1.trans (if_pos (b2i_t c660))).symm)) kk
            · refine j_iconst (v := nI 0) C dL_law_663 (by decide) ?_
              refine j_goto C 672 dL_law_664 (by decide) ?_
              exact j_st (st1 := .int (sR (hrS σ) (8 * i + 1)) :: _) (congrArg (fun z => Value.int z :: _) (by first | exact (bh1.trans (if_neg (b2i_f c660))).symm | exact (bh1.trans (if_pos (b2i_t c660))).symm)) kk
          · refine j_icmp_ne C 700 dL_law_672 (by decide) (fun c672 => by exact absurd rfl c672) (fun c672 => ?_)
            refine j_iload C dL_law_675 1 rfl ?_
            refine j_aload_n (i := 1) C dL_law_677 rfl 4 rfl ?_
            refine j_iload C dL_law_678 15 rfl ?_
            refine j_iconst (v := nI 0) C dL_law_680 (by decide) ?_
            have ef := (told_v (σ := hrS σ) (t := 0) h8 hj (by decide))
            refine j_sw (A := SWs ct sd (hrS σ)) (B := WX ct sa ad mcn φ (hrS σ) ++ [arI ct q16 (sN σ) (pfx (fun t => sR σ (8 * t + 1)) (sN σ)), arI ct q17 (sN σ) (pfx (fun t => stR (sR σ) t) (sN σ)), arI ct q21 3 (cut 3 (fun r => b2i (opR σ (sH σ) r)))]) ?_
            refine j_ws (ws1 := WX ct sa ad mcn φ (hrS σ) ++ ([arI ct q16 (sN σ) (pfx (fun t => sR σ (8 * t + 1)) (sN σ)), arI ct q17 (sN σ) (pfx (fun t => stR (sR σ) t) (sN σ)), arI ct q21 3 (cut 3 (fun r => b2i (opR σ (sH σ) r)))] ++ SWs ct sd (hrS σ))) (List.append_assoc ..) ?_
            refine j_callVX (nargs := 2) (As := [_, _]) (Cn := RX3) C (0) rfl rfl rfl gw303 gw304 gw305 gw21 (kX3_told l htr D ct sa ad mcn φ (hrS σ) ([arI ct q16 (sN σ) (pfx (fun t => sR σ (8 * t + 1)) (sN σ)), arI ct q17 (sN σ) (pfx (fun t => stR (sR σ) t) (sN σ)), arI ct q21 3 (cut 3 (fun r => b2i (opR σ (sH σ) r)))] ++ SWs ct sd (hrS σ)) (nI i) (nI 0) (inv1_hr hi.1)) gw306 (by decide +kernel) rfl dL_law_681 ⟨Nat.le_of_ble_eq_true rfl, Nat.le_of_ble_eq_true rfl⟩ ⟨by show (_ : Nat) ≤ 718837; omega, by show (_ : Nat) ≤ 6944958; omega⟩ (Nat.le_of_ble_eq_true rfl) (fun En hx => (kx_no hx (congrArg (fun f => f.1) ef) (by decide)).elim) (fun r w hk => ?_)
            obtain ⟨-, rfl, rfl⟩ := hk
            refine j_st (st1 := .int (stR (sR (hrS σ)) i) :: _) (by rw [ef]; rfl) ?_
            refine j_ws (ws1 := (WX ct sa ad mcn φ (hrS σ) ++ [arI ct q16 (sN σ) (pfx (fun t => sR σ (8 * t + 1)) (sN σ)), arI ct q17 (sN σ) (pfx (fun t => stR (sR σ) t) (sN σ)), arI ct q21 3 (cut 3 (fun r => b2i (opR σ (sH σ) r)))]) ++ SWs ct sd (hrS σ)) (List.append_assoc ..).symm ?_
            refine j_sw (A := WX ct sa ad mcn φ (hrS σ) ++ [arI ct q16 (sN σ) (pfx (fun t => sR σ (8 * t + 1)) (sN σ)), arI ct q17 (sN σ) (pfx (fun t => stR (sR σ) t) (sN σ)), arI ct q21 3 (cut 3 (fun r => b2i (opR σ (sH σ) r)))]) (B := SWs ct sd (hrS σ)) ?_
            refine j_aload C dL_law_684 9 rfl ?_
            refine j_iload C dL_law_686 15 rfl ?_
            refine j_iald C ((SWs ct sd (hrS σ)).length + ((WX ct sa ad mcn φ (hrS σ)).length + 1)) (l3_at rfl) (i) rfl hj (by omega) dL_law_688 ?_
            refine j_st (st1 := .int (stR (sR σ) i) :: _) (congrArg (fun z => Value.int z :: _) (pf_i hj)) ?_
            refine jn_pp 697 (b2i (stR (sR (hrS σ)) i = stR (sR σ) i)) (fun kk => ?_) ?_
            · refine j_icmp_ne C 696 dL_law_689 (by decide) (fun c689 => ?_) (fun c689 => ?_)
              · refine j_iconst (v := nI 0) C dL_law_696 (by decide) ?_
                exact j_st (st1 := .int (b2i (stR (sR (hrS σ)) i = stR (sR σ) i)) :: _) (congrArg (fun z => Value.int z :: _) (by first | exact (b2i_n c689).symm | exact (b2i_y c689).symm)) kk
              · refine j_iconst (v := nI 1) C dL_law_692 (by decide) ?_
                refine j_goto C 697 dL_law_693 (by decide) ?_
                exact j_st (st1 := .int (b2i (stR (sR (hrS σ)) i = stR (sR σ) i)) :: _) (congrArg (fun z => Value.int z :: _) (by first | exact (b2i_n c689).symm | exact (b2i_y c689).symm)) kk
            · refine j_icmp_ne C 702 dL_law_697 (by decide) (fun c697 => ?_) (fun c697 => by exact absurd c697 (bh_x hi.1 hj))
              refine j_iinc (z := 15) (lv' := [(24, .int _), (23, .int _), (26, .int _), (25, .int _), (0, .ref _), (1, .ref _), (2, .ref _), (3, .int _), (5, .int _), (16, .ref _), (17, .ref _), (18, .int _), (19, .int _), (20, .int _), (21, .ref _), (22, .int _)]) C dL_law_702 rfl rfl (by decide) rfl ?_
              refine j_goto C 591 dL_law_705 (by decide) ?_
              exact j_lvs [4, 5, 6, 7, 8, 9, 10, 11, 12, 13, 14, 15, 1, 0] rfl (ih (i + 1) _ _ (by omega) (bh_c hi.1 hj) (nI_1 i))
  exact j_lvs [0, 1, 2, 3, 4, 5, 6, 7, 8, 9, 10, 11, 12, 13] rfl (L591 (sN σ) (0) _ _ (by omega) (rfl) (rfl))
set_option maxRecDepth 100000 in
set_option maxHeartbeats 2000000 in
theorem kI7 {X : Ctx} {l : Launch} {D : va_G} {ct : Nat → ClassId} {sa : Nat → Nat} (htr : l.stackTraces = false) (C : jC X l D ct sa cL_law 27 RL rmL) {sd ad : Nat → Nat} {mcn : Int32} {φ : LD} {h b0 : Nat} {tt : Int32} {σ : St} (hi : InvL h σ) (hh : h < 2 ^ 20) {k0 n0 : Nat} (hk0 : k0 + 1000 ≤ 718837) (hn0 : n0 + 7000 ≤ 6944958) {q16 q17 q21 : Nat}  (kk : J X (SWs ct sd (hrS σ) ++ WX ct sa ad mcn φ (hrS σ)) (k0 + 10) (n0 + 60) 758 [(0, .ref b0), (1, .ref (ad 0)), (2, .ref (sd 0)), (3, .int tt)] []) : J X (SWs ct sd (hrS σ) ++ (WX ct sa ad mcn φ (hrS σ) ++ [arI ct q16 (sN σ) (pfx (fun t => sR σ (8 * t + 1)) (sN σ)), arI ct q17 (sN σ) (pfx (fun t => stR (sR σ) t) (sN σ)), arI ct q21 3 (cut 3 (fun r => b2i (opR σ (sH σ) r)))])) (k0) (n0) 708 [(0, .ref b0), (1, .ref (ad 0)), (2, .ref (sd 0)), (3, .int tt), (18, .int (sumF (sW σ) 192)), (19, .int (sumF (gnF σ) (sN σ))), (20, .int (wnF (sW σ) (24 * sN σ))), (22, .int (hrC σ)), (23, .int (cCF (sK σ) (sH σ) (sR σ) (sN σ)))] [] := by
  have h8 := hi.1.1.1
  have wg := wg_3 hi.1
  refine j_iload C dL_law_708 8 rfl ?_
  refine j_iload C dL_law_710 7 rfl ?_
  refine j_icmp_ne C 756 dL_law_712 (by decide) (fun c712 => by exact absurd rfl c712) (fun c712 => ?_)
  refine j_aload_n (i := 1) C dL_law_715 rfl 1 rfl ?_
  refine j_iconst (v := nI 4) C dL_law_716 (by decide) ?_
  have ef := count_k (σ := hrS σ) 4 (by decide) rfl
  refine j_sw (A := SWs ct sd (hrS σ)) (B := WX ct sa ad mcn φ (hrS σ) ++ [arI ct q16 (sN σ) (pfx (fun t => sR σ (8 * t + 1)) (sN σ)), arI ct q17 (sN σ) (pfx (fun t => stR (sR σ) t) (sN σ)), arI ct q21 3 (cut 3 (fun r => b2i (opR σ (sH σ) r)))]) ?_
  refine j_ws (ws1 := WX ct sa ad mcn φ (hrS σ) ++ ([arI ct q16 (sN σ) (pfx (fun t => sR σ (8 * t + 1)) (sN σ)), arI ct q17 (sN σ) (pfx (fun t => stR (sR σ) t) (sN σ)), arI ct q21 3 (cut 3 (fun r => b2i (opR σ (sH σ) r)))] ++ SWs ct sd (hrS σ))) (List.append_assoc ..) ?_
  refine j_callVX (nargs := 1) (As := [_]) (Cn := RX3) C (0) rfl rfl rfl gw351 gw352 gw353 gw21 (kX3_count l htr D ct sa ad mcn φ (hrS σ) ([arI ct q16 (sN σ) (pfx (fun t => sR σ (8 * t + 1)) (sN σ)), arI ct q17 (sN σ) (pfx (fun t => stR (sR σ) t) (sN σ)), arI ct q21 3 (cut 3 (fun r => b2i (opR σ (sH σ) r)))] ++ SWs ct sd (hrS σ)) (nI 4) (inv1_hr hi.1)) gw354 (by decide +kernel) rfl dL_law_717 ⟨Nat.le_of_ble_eq_true rfl, Nat.le_of_ble_eq_true rfl⟩ ⟨by show (_ : Nat) ≤ 718837; omega, by show (_ : Nat) ≤ 6944958; omega⟩ (Nat.le_of_ble_eq_true rfl) (fun En hx => (kx_no hx (congrArg (fun f => f.1) ef) (by decide)).elim) (fun r w hk => ?_)
  obtain ⟨-, rfl, rfl⟩ := hk
  refine j_st (st1 := .int (sumF (sW (hrS σ)) 192) :: _) (by rw [ef]; rfl) ?_
  refine j_ws (ws1 := (WX ct sa ad mcn φ (hrS σ) ++ [arI ct q16 (sN σ) (pfx (fun t => sR σ (8 * t + 1)) (sN σ)), arI ct q17 (sN σ) (pfx (fun t => stR (sR σ) t) (sN σ)), arI ct q21 3 (cut 3 (fun r => b2i (opR σ (sH σ) r)))]) ++ SWs ct sd (hrS σ)) (List.append_assoc ..).symm ?_
  refine j_sw (A := WX ct sa ad mcn φ (hrS σ) ++ [arI ct q16 (sN σ) (pfx (fun t => sR σ (8 * t + 1)) (sN σ)), arI ct q17 (sN σ) (pfx (fun t => stR (sR σ) t) (sN σ)), arI ct q21 3 (cut 3 (fun r => b2i (opR σ (sH σ) r)))]) (B := SWs ct sd (hrS σ)) ?_
  refine j_iload C dL_law_720 4 rfl ?_
  refine j_iload C dL_law_722 5 rfl ?_
  refine j_iadd C dL_law_724 ?_
  refine j_icmp_gt C 756 dL_law_725 (by decide) (fun c725 => by exact absurd c725 wg.1) (fun c725 => ?_)
  refine j_iload C dL_law_728 6 rfl ?_
  refine j_if_ne C 746 dL_law_730 (by decide) (fun c730 => ?_) (fun c730 => ?_)
  · refine j_aload_n (i := 1) C dL_law_746 rfl 1 rfl ?_
    refine j_iconst (v := nI 4) C dL_law_747 (by decide) ?_
    have ef := count_k (σ := hrS σ) 4 (by decide) rfl
    refine j_sw (A := SWs ct sd (hrS σ)) (B := WX ct sa ad mcn φ (hrS σ) ++ [arI ct q16 (sN σ) (pfx (fun t => sR σ (8 * t + 1)) (sN σ)), arI ct q17 (sN σ) (pfx (fun t => stR (sR σ) t) (sN σ)), arI ct q21 3 (cut 3 (fun r => b2i (opR σ (sH σ) r)))]) ?_
    refine j_ws (ws1 := WX ct sa ad mcn φ (hrS σ) ++ ([arI ct q16 (sN σ) (pfx (fun t => sR σ (8 * t + 1)) (sN σ)), arI ct q17 (sN σ) (pfx (fun t => stR (sR σ) t) (sN σ)), arI ct q21 3 (cut 3 (fun r => b2i (opR σ (sH σ) r)))] ++ SWs ct sd (hrS σ))) (List.append_assoc ..) ?_
    refine j_callVX (nargs := 1) (As := [_]) (Cn := RX3) C (0) rfl rfl rfl gw351 gw352 gw353 gw21 (kX3_count l htr D ct sa ad mcn φ (hrS σ) ([arI ct q16 (sN σ) (pfx (fun t => sR σ (8 * t + 1)) (sN σ)), arI ct q17 (sN σ) (pfx (fun t => stR (sR σ) t) (sN σ)), arI ct q21 3 (cut 3 (fun r => b2i (opR σ (sH σ) r)))] ++ SWs ct sd (hrS σ)) (nI 4) (inv1_hr hi.1)) gw354 (by decide +kernel) rfl dL_law_748 ⟨Nat.le_of_ble_eq_true rfl, Nat.le_of_ble_eq_true rfl⟩ ⟨by show (_ : Nat) ≤ 718837; omega, by show (_ : Nat) ≤ 6944958; omega⟩ (Nat.le_of_ble_eq_true rfl) (fun En hx => (kx_no hx (congrArg (fun f => f.1) ef) (by decide)).elim) (fun r w hk => ?_)
    obtain ⟨-, rfl, rfl⟩ := hk
    refine j_st (st1 := .int (sumF (sW (hrS σ)) 192) :: _) (by rw [ef]; rfl) ?_
    refine j_ws (ws1 := (WX ct sa ad mcn φ (hrS σ) ++ [arI ct q16 (sN σ) (pfx (fun t => sR σ (8 * t + 1)) (sN σ)), arI ct q17 (sN σ) (pfx (fun t => stR (sR σ) t) (sN σ)), arI ct q21 3 (cut 3 (fun r => b2i (opR σ (sH σ) r)))]) ++ SWs ct sd (hrS σ)) (List.append_assoc ..).symm ?_
    refine j_sw (A := WX ct sa ad mcn φ (hrS σ) ++ [arI ct q16 (sN σ) (pfx (fun t => sR σ (8 * t + 1)) (sN σ)), arI ct q17 (sN σ) (pfx (fun t => stR (sR σ) t) (sN σ)), arI ct q21 3 (cut 3 (fun r => b2i (opR σ (sH σ) r)))]) (B := SWs ct sd (hrS σ)) ?_
    refine j_iload C dL_law_751 4 rfl ?_
    refine j_icmp_ge C 758 dL_law_753 (by decide) (fun c753 => ?_) (fun c753 => by exact absurd wg.2.2 c753)
    refine j_drop (a := SWs ct sd (hrS σ) ++ WX ct sa ad mcn φ (hrS σ)) (b := [arI ct q16 (sN σ) (pfx (fun t => sR σ (8 * t + 1)) (sN σ)), arI ct q17 (sN σ) (pfx (fun t => stR (sR σ) t) (sN σ)), arI ct q21 3 (cut 3 (fun r => b2i (opR σ (sH σ) r)))]) (List.append_assoc ..).symm ?_
    exact j_lvs [0, 1, 2, 3] rfl (j_widen (by omega) (by omega) (kk))
  · refine j_aload_n (i := 1) C dL_law_733 rfl 1 rfl ?_
    refine j_iconst (v := nI 4) C dL_law_734 (by decide) ?_
    have ef := count_k (σ := hrS σ) 4 (by decide) rfl
    refine j_sw (A := SWs ct sd (hrS σ)) (B := WX ct sa ad mcn φ (hrS σ) ++ [arI ct q16 (sN σ) (pfx (fun t => sR σ (8 * t + 1)) (sN σ)), arI ct q17 (sN σ) (pfx (fun t => stR (sR σ) t) (sN σ)), arI ct q21 3 (cut 3 (fun r => b2i (opR σ (sH σ) r)))]) ?_
    refine j_ws (ws1 := WX ct sa ad mcn φ (hrS σ) ++ ([arI ct q16 (sN σ) (pfx (fun t => sR σ (8 * t + 1)) (sN σ)), arI ct q17 (sN σ) (pfx (fun t => stR (sR σ) t) (sN σ)), arI ct q21 3 (cut 3 (fun r => b2i (opR σ (sH σ) r)))] ++ SWs ct sd (hrS σ))) (List.append_assoc ..) ?_
    refine j_callVX (nargs := 1) (As := [_]) (Cn := RX3) C (0) rfl rfl rfl gw351 gw352 gw353 gw21 (kX3_count l htr D ct sa ad mcn φ (hrS σ) ([arI ct q16 (sN σ) (pfx (fun t => sR σ (8 * t + 1)) (sN σ)), arI ct q17 (sN σ) (pfx (fun t => stR (sR σ) t) (sN σ)), arI ct q21 3 (cut 3 (fun r => b2i (opR σ (sH σ) r)))] ++ SWs ct sd (hrS σ)) (nI 4) (inv1_hr hi.1)) gw354 (by decide +kernel) rfl dL_law_735 ⟨Nat.le_of_ble_eq_true rfl, Nat.le_of_ble_eq_true rfl⟩ ⟨by show (_ : Nat) ≤ 718837; omega, by show (_ : Nat) ≤ 6944958; omega⟩ (Nat.le_of_ble_eq_true rfl) (fun En hx => (kx_no hx (congrArg (fun f => f.1) ef) (by decide)).elim) (fun r w hk => ?_)
    obtain ⟨-, rfl, rfl⟩ := hk
    refine j_st (st1 := .int (sumF (sW (hrS σ)) 192) :: _) (by rw [ef]; rfl) ?_
    refine j_ws (ws1 := (WX ct sa ad mcn φ (hrS σ) ++ [arI ct q16 (sN σ) (pfx (fun t => sR σ (8 * t + 1)) (sN σ)), arI ct q17 (sN σ) (pfx (fun t => stR (sR σ) t) (sN σ)), arI ct q21 3 (cut 3 (fun r => b2i (opR σ (sH σ) r)))]) ++ SWs ct sd (hrS σ)) (List.append_assoc ..).symm ?_
    refine j_sw (A := WX ct sa ad mcn φ (hrS σ) ++ [arI ct q16 (sN σ) (pfx (fun t => sR σ (8 * t + 1)) (sN σ)), arI ct q17 (sN σ) (pfx (fun t => stR (sR σ) t) (sN σ)), arI ct q21 3 (cut 3 (fun r => b2i (opR σ (sH σ) r)))]) (B := SWs ct sd (hrS σ)) ?_
    refine j_iload C dL_law_738 4 rfl ?_
    refine j_iload C dL_law_740 5 rfl ?_
    refine j_iadd C dL_law_742 ?_
    refine j_icmp_ne C 756 dL_law_743 (by decide) (fun c743 => by exact absurd (wg.2.1 c730) c743) (fun c743 => ?_)
    refine j_aload_n (i := 1) C dL_law_746 rfl 1 rfl ?_
    refine j_iconst (v := nI 4) C dL_law_747 (by decide) ?_
    have ef := count_k (σ := hrS σ) 4 (by decide) rfl
    refine j_sw (A := SWs ct sd (hrS σ)) (B := WX ct sa ad mcn φ (hrS σ) ++ [arI ct q16 (sN σ) (pfx (fun t => sR σ (8 * t + 1)) (sN σ)), arI ct q17 (sN σ) (pfx (fun t => stR (sR σ) t) (sN σ)), arI ct q21 3 (cut 3 (fun r => b2i (opR σ (sH σ) r)))]) ?_
    refine j_ws (ws1 := WX ct sa ad mcn φ (hrS σ) ++ ([arI ct q16 (sN σ) (pfx (fun t => sR σ (8 * t + 1)) (sN σ)), arI ct q17 (sN σ) (pfx (fun t => stR (sR σ) t) (sN σ)), arI ct q21 3 (cut 3 (fun r => b2i (opR σ (sH σ) r)))] ++ SWs ct sd (hrS σ))) (List.append_assoc ..) ?_
    refine j_callVX (nargs := 1) (As := [_]) (Cn := RX3) C (0) rfl rfl rfl gw351 gw352 gw353 gw21 (kX3_count l htr D ct sa ad mcn φ (hrS σ) ([arI ct q16 (sN σ) (pfx (fun t => sR σ (8 * t + 1)) (sN σ)), arI ct q17 (sN σ) (pfx (fun t => stR (sR σ) t) (sN σ)), arI ct q21 3 (cut 3 (fun r => b2i (opR σ (sH σ) r)))] ++ SWs ct sd (hrS σ)) (nI 4) (inv1_hr hi.1)) gw354 (by decide +kernel) rfl dL_law_748 ⟨Nat.le_of_ble_eq_true rfl, Nat.le_of_ble_eq_true rfl⟩ ⟨by show (_ : Nat) ≤ 718837; omega, by show (_ : Nat) ≤ 6944958; omega⟩ (Nat.le_of_ble_eq_true rfl) (fun En hx => (kx_no hx (congrArg (fun f => f.1) ef) (by decide)).elim) (fun r w hk => ?_)
    obtain ⟨-, rfl, rfl⟩ := hk
    refine j_st (st1 := .int (sumF (sW (hrS σ)) 192) :: _) (by rw [ef]; rfl) ?_
    refine j_ws (ws1 := (WX ct sa ad mcn φ (hrS σ) ++ [arI ct q16 (sN σ) (pfx (fun t => sR σ (8 * t + 1)) (sN σ)), arI ct q17 (sN σ) (pfx (fun t => stR (sR σ) t) (sN σ)), arI ct q21 3 (cut 3 (fun r => b2i (opR σ (sH σ) r)))]) ++ SWs ct sd (hrS σ)) (List.append_assoc ..).symm ?_
    refine j_sw (A := WX ct sa ad mcn φ (hrS σ) ++ [arI ct q16 (sN σ) (pfx (fun t => sR σ (8 * t + 1)) (sN σ)), arI ct q17 (sN σ) (pfx (fun t => stR (sR σ) t) (sN σ)), arI ct q21 3 (cut 3 (fun r => b2i (opR σ (sH σ) r)))]) (B := SWs ct sd (hrS σ)) ?_
    refine j_iload C dL_law_751 4 rfl ?_
    refine j_icmp_ge C 758 dL_law_753 (by decide) (fun c753 => ?_) (fun c753 => by exact absurd wg.2.2 c753)
    refine j_drop (a := SWs ct sd (hrS σ) ++ WX ct sa ad mcn φ (hrS σ)) (b := [arI ct q16 (sN σ) (pfx (fun t => sR σ (8 * t + 1)) (sN σ)), arI ct q17 (sN σ) (pfx (fun t => stR (sR σ) t) (sN σ)), arI ct q21 3 (cut 3 (fun r => b2i (opR σ (sH σ) r)))]) (List.append_assoc ..).symm ?_
    exact j_lvs [0, 1, 2, 3] rfl (j_widen (by omega) (by omega) (kk))
set_option maxRecDepth 100000 in
set_option maxHeartbeats 2000000 in
theorem kI8 {X : Ctx} {l : Launch} {D : va_G} {ct : Nat → ClassId} {sa : Nat → Nat} (htr : l.stackTraces = false) (C : jC X l D ct sa cL_law 27 RL rmL) {sd ad : Nat → Nat} {mcn : Int32} {φ : LD} {h b0 : Nat} {tt : Int32} {σ : St} (hi : InvL h σ) (hh : h < 2 ^ 20) {k0 n0 : Nat} (hk0 : k0 + 1000 ≤ 718837) (hn0 : n0 + 7000 ≤ 6944958)   (kk : J X (SWs ct sd (σ) ++ WX ct sa ad mcn φ (σ)) (k0 + 40) (n0 + 240) 809 [(0, .ref b0), (1, .ref (ad 0)), (2, .ref (sd 0)), (3, .int tt)] []) : J X (SWs ct sd (σ) ++ WX ct sa ad mcn φ (σ)) (k0) (n0) 758 [(0, .ref b0), (1, .ref (ad 0)), (2, .ref (sd 0)), (3, .int tt)] [] := by
  have h8 := hi.1.1.1
  refine j_iconst (v := nI 0) C dL_law_758 (by decide) ?_
  refine j_istore (lv' := [(24, .int _), (0, .ref _), (1, .ref _), (2, .ref _), (3, .int _)]) C dL_law_759 (by decide) rfl ?_
  have L761 : ∀ (d r : Nat) (x24 : Int32), r + d = 3 → x24 = nI r → J X (SWs ct sd (σ) ++ WX ct sa ad mcn φ (σ)) (k0 + 12 * r) (n0 + 72 * r) 761 [(0, .ref b0), (1, .ref (ad 0)), (2, .ref (sd 0)), (3, .int tt), (24, .int x24)] [] := by
    intro d
    induction d with
    | zero =>
      intro r x24 hd e_x24 
      subst e_x24
      have hr9 : r = 3 := by omega
      subst hr9
      refine j_iload C dL_law_761 4 rfl ?_
      refine j_iconst (v := nI 3) C dL_law_763 (by decide) ?_
      refine j_icmp_ge C 809 dL_law_764 (by decide) (fun c764 => ?_) (fun c764 => by first | exact absurd c764 (by decide) | exact absurd c764 (nI_ge (by omega) (by omega)) | exact absurd (nI_le (by omega) (by omega)) c764 | exact absurd c764 (nI_nlt (by omega) (by omega)) | exact absurd (nI_lt (by omega) (by omega)) c764 | exact absurd c764 (nI_nle0 (by omega) (by omega)))
      exact j_lvs [0, 1, 2, 3] rfl (j_widen (by omega) (by omega) (kk))
    | succ d ih =>
      intro r x24 hd e_x24 
      subst e_x24
      have hr3 : r < 3 := by omega
      refine j_iload C dL_law_761 4 rfl ?_
      refine j_iconst (v := nI 3) C dL_law_763 (by decide) ?_
      refine j_icmp_ge C 809 dL_law_764 (by decide) (fun c764 => by first | exact absurd c764 (by decide) | exact absurd c764 (nI_ge (by omega) (by omega)) | exact absurd (nI_le (by omega) (by omega)) c764 | exact absurd c764 (nI_nlt (by omega) (by omega)) | exact absurd (nI_lt (by omega) (by omega)) c764 | exact absurd c764 (nI_nle0 (by omega) (by omega))) (fun c764 => ?_)
      refine j_aload_n (i := 1) C dL_law_767 rfl 1 rfl ?_
      refine j_iload C dL_law_768 4 rfl ?_
      refine j_iconst (v := nI 1) C dL_law_770 (by decide) ?_
      have ef := rack_v (σ := σ) hr3 (show 1 < 6 by decide)
      refine j_sw (A := SWs ct sd (σ)) (B := WX ct sa ad mcn φ (σ)) ?_
      refine j_callVX (nargs := 2) (As := [_, _]) (Cn := RX3) C (0) rfl rfl rfl gw326 gw327 gw328 gw21 (kX3_rack l htr D ct sa ad mcn φ (σ) (SWs ct sd (σ)) (nI r) (nI 1) hi.1) gw329 (by decide +kernel) rfl dL_law_771 ⟨Nat.le_of_ble_eq_true rfl, Nat.le_of_ble_eq_true rfl⟩ ⟨by show (_ : Nat) ≤ 718837; omega, by show (_ : Nat) ≤ 6944958; omega⟩ (Nat.le_of_ble_eq_true rfl) (fun En hx => (kx_no hx (congrArg (fun f => f.1) ef) (by decide)).elim) (fun r w hk => ?_)
      obtain ⟨-, rfl, rfl⟩ := hk
      refine j_st (st1 := .int (rtl σ r 1) :: _) (by rw [ef]; rfl) ?_
      refine j_ws (ws1 := WX ct sa ad mcn φ (σ) ++ SWs ct sd (σ)) rfl ?_
      refine j_sw (A := WX ct sa ad mcn φ (σ)) (B := SWs ct sd (σ)) ?_
      refine j_aload_n (i := 1) C dL_law_774 rfl 1 rfl ?_
      refine j_iload C dL_law_775 4 rfl ?_
      refine j_iconst (v := nI 0) C dL_law_777 (by decide) ?_
      have ef := rack_v (σ := σ) hr3 (show 0 < 6 by decide)
      refine j_sw (A := SWs ct sd (σ)) (B := WX ct sa ad mcn φ (σ)) ?_
      refine j_callVX (nargs := 2) (As := [_, _]) (Cn := RX3) C (0) rfl rfl rfl gw326 gw327 gw328 gw21 (kX3_rack l htr D ct sa ad mcn φ (σ) (SWs ct sd (σ)) (nI r) (nI 0) hi.1) gw329 (by decide +kernel) rfl dL_law_778 ⟨Nat.le_of_ble_eq_true rfl, Nat.le_of_ble_eq_true rfl⟩ ⟨by show (_ : Nat) ≤ 718837; omega, by show (_ : Nat) ≤ 6944958; omega⟩ (Nat.le_of_ble_eq_true rfl) (fun En hx => (kx_no hx (congrArg (fun f => f.1) ef) (by decide)).elim) (fun r w hk => ?_)
      obtain ⟨-, rfl, rfl⟩ := hk
      refine j_st (st1 := .int (rtl σ r 0) :: _) (by rw [ef]; rfl) ?_
      refine j_ws (ws1 := WX ct sa ad mcn φ (σ) ++ SWs ct sd (σ)) rfl ?_
      refine j_sw (A := WX ct sa ad mcn φ (σ)) (B := SWs ct sd (σ)) ?_
      refine j_icmp_gt C 801 dL_law_781 (by decide) (fun c781 => by exact absurd c781 (inlt (hi.2.2 r hr3).2.2.2)) (fun c781 => ?_)
      refine j_aload_n (i := 1) C dL_law_784 rfl 1 rfl ?_
      refine j_iload C dL_law_785 4 rfl ?_
      refine j_iconst (v := nI 3) C dL_law_787 (by decide) ?_
      have ef := rack_v (σ := σ) hr3 (show 3 < 6 by decide)
      refine j_sw (A := SWs ct sd (σ)) (B := WX ct sa ad mcn φ (σ)) ?_
      refine j_callVX (nargs := 2) (As := [_, _]) (Cn := RX3) C (0) rfl rfl rfl gw326 gw327 gw328 gw21 (kX3_rack l htr D ct sa ad mcn φ (σ) (SWs ct sd (σ)) (nI r) (nI 3) hi.1) gw329 (by decide +kernel) rfl dL_law_788 ⟨Nat.le_of_ble_eq_true rfl, Nat.le_of_ble_eq_true rfl⟩ ⟨by show (_ : Nat) ≤ 718837; omega, by show (_ : Nat) ≤ 6944958; omega⟩ (Nat.le_of_ble_eq_true rfl) (fun En hx => (kx_no hx (congrArg (fun f => f.1) ef) (by decide)).elim) (fun r w hk => ?_)
      obtain ⟨-, rfl, rfl⟩ := hk
      refine j_st (st1 := .int (rtl σ r 3) :: _) (by rw [ef]; rfl) ?_
      refine j_ws (ws1 := WX ct sa ad mcn φ (σ) ++ SWs ct sd (σ)) rfl ?_
      refine j_sw (A := WX ct sa ad mcn φ (σ)) (B := SWs ct sd (σ)) ?_
      refine j_aload_n (i := 1) C dL_law_791 rfl 1 rfl ?_
      refine j_iload C dL_law_792 4 rfl ?_
      refine j_iconst (v := nI 1) C dL_law_794 (by decide) ?_
      have ef := rack_v (σ := σ) hr3 (show 1 < 6 by decide)
      refine j_sw (A := SWs ct sd (σ)) (B := WX ct sa ad mcn φ (σ)) ?_
      refine j_callVX (nargs := 2) (As := [_, _]) (Cn := RX3) C (0) rfl rfl rfl gw326 gw327 gw328 gw21 (kX3_rack l htr D ct sa ad mcn φ (σ) (SWs ct sd (σ)) (nI r) (nI 1) hi.1) gw329 (by decide +kernel) rfl dL_law_795 ⟨Nat.le_of_ble_eq_true rfl, Nat.le_of_ble_eq_true rfl⟩ ⟨by show (_ : Nat) ≤ 718837; omega, by show (_ : Nat) ≤ 6944958; omega⟩ (Nat.le_of_ble_eq_true rfl) (fun En hx => (kx_no hx (congrArg (fun f => f.1) ef) (by decide)).elim) (fun r w hk => ?_)
      obtain ⟨-, rfl, rfl⟩ := hk
      refine j_st (st1 := .int (rtl σ r 1) :: _) (by rw [ef]; rfl) ?_
      refine j_ws (ws1 := WX ct sa ad mcn φ (σ) ++ SWs ct sd (σ)) rfl ?_
      refine j_sw (A := WX ct sa ad mcn φ (σ)) (B := SWs ct sd (σ)) ?_
      refine j_icmp_le C 803 dL_law_798 (by decide) (fun c798 => ?_) (fun c798 => by exact absurd (op_in hi.1) c798)
      refine j_iinc (z := 4) (lv' := [(24, .int _), (0, .ref _), (1, .ref _), (2, .ref _), (3, .int _)]) C dL_law_803 rfl rfl (by decide) rfl ?_
      refine j_goto C 761 dL_law_806 (by decide) ?_
      exact j_lvs [1, 2, 3, 4, 0] rfl (ih (r + 1) _ (by omega) (nI_1 r))
  exact j_lvs [1, 2, 3, 4, 0] rfl (L761 (3) (0) _ (by omega) (rfl))
set_option maxRecDepth 100000 in
set_option maxHeartbeats 2000000 in
theorem kIt {X : Ctx} {l : Launch} {D : va_G} {ct : Nat → ClassId} {sa : Nat → Nat} (htr : l.stackTraces = false) (C : jC X l D ct sa cL_law 27 RL rmL) {sd ad : Nat → Nat} {mcn : Int32} {φ : LD} {h b0 : Nat} {tt : Int32} {σ : St} (hi : InvL h σ) (hh : h < 2 ^ 20) {k0 n0 : Nat} (hk0 : k0 + 1000 ≤ 718837) (hn0 : n0 + 7000 ≤ 6944958) {x4 : Int32} (hh2 : h + 1 < 2 ^ 20) (hk2 : k0 + 3000 ≤ 718837) (hn2 : n0 + 18000 ≤ 6944958) (kk : ∀ (σ' : St) (h' : Nat), InvL h' σ' → h' ≤ h + 1 → J X (SWs ct sd (σ') ++ WX ct sa ad mcn φ (σ')) (k0 + 1100) (n0 + 7000) 809 [(0, .ref b0), (1, .ref (ad 0)), (2, .ref (sd 0)), (3, .int tt)] []) : J X (SWs ct sd (σ) ++ WX ct sa ad mcn φ (σ)) (k0) (n0) 63 [(0, .ref b0), (1, .ref (ad 0)), (2, .ref (sd 0)), (3, .int tt), (4, .int x4)] [] := by
  have h8 := hi.1.1.1
  refine j_aload_n (i := 1) C dL_law_63 rfl 1 rfl ?_
  refine j_iconst (v := nI 1) C dL_law_64 (by decide) ?_
  have ef := count_k (σ := σ) 1 (by decide) rfl
  refine j_sw (A := SWs ct sd (σ)) (B := WX ct sa ad mcn φ (σ)) ?_
  refine j_callVX (nargs := 1) (As := [_]) (Cn := RX3) C (0) rfl rfl rfl gw351 gw352 gw353 gw21 (kX3_count l htr D ct sa ad mcn φ (σ) (SWs ct sd (σ)) (nI 1) hi.1) gw354 (by decide +kernel) rfl dL_law_65 ⟨Nat.le_of_ble_eq_true rfl, Nat.le_of_ble_eq_true rfl⟩ ⟨by show (_ : Nat) ≤ 718837; omega, by show (_ : Nat) ≤ 6944958; omega⟩ (Nat.le_of_ble_eq_true rfl) (fun En hx => (kx_no hx (congrArg (fun f => f.1) ef) (by decide)).elim) (fun r w hk => ?_)
  obtain ⟨-, rfl, rfl⟩ := hk
  refine j_st (st1 := .int (nI (sN σ)) :: _) (by rw [ef]; rfl) ?_
  refine j_ws (ws1 := WX ct sa ad mcn φ (σ) ++ SWs ct sd (σ)) rfl ?_
  refine j_sw (A := WX ct sa ad mcn φ (σ)) (B := SWs ct sd (σ)) ?_
  refine j_istore (lv' := [(5, .int _), (0, .ref _), (1, .ref _), (2, .ref _), (3, .int _), (4, .int _)]) C dL_law_68 (by decide) rfl ?_
  refine j_iload C dL_law_70 0 rfl ?_
  refine j_if_ne C 78 dL_law_72 (by decide) (fun c72 => ?_) (fun c72 => ?_)
  · have hp0 : 0 < sN σ := Nat.pos_of_ne_zero (fun z => c72 (by rw [z]; rfl))
    refine j_iload C dL_law_78 5 rfl ?_
    refine j_iconst (v := nI 2) C dL_law_80 (by decide) ?_
    refine j_ishr C dL_law_81 (fun z81 => ?_)
    refine j_iload C dL_law_82 0 rfl ?_
    refine j_callS (nargs := 2) (As := [_, _]) C gw475 gw476 gw20 (kL_below l D ct sa _ _ _ (sN σ) rfl hp0 (by omega)) gw477 (by decide +kernel) rfl dL_law_84 ⟨Nat.le_of_ble_eq_true rfl, Nat.le_of_ble_eq_true rfl⟩ ⟨by show (_ : Nat) ≤ 718837; omega, by show (_ : Nat) ≤ 6944958; omega⟩ (Nat.le_of_ble_eq_true rfl) (fun r w hk => ?_)
    obtain ⟨k, h_k, rfl, rfl⟩ := hk
    refine j_st (st1 := .int (nI k) :: _) rfl ?_
    refine j_istore (lv' := [(6, .int _), (5, .int _), (0, .ref _), (1, .ref _), (2, .ref _), (3, .int _), (4, .int _)]) C dL_law_87 (by decide) rfl ?_
    refine j_iload C dL_law_89 6 rfl ?_
    refine j_iconst (v := nI 3) C dL_law_91 (by decide) ?_
    refine j_ishr C dL_law_92 (fun z92 => ?_)
    refine j_iconst (v := nI 4) C dL_law_93 (by decide) ?_
    refine j_callS (nargs := 2) (As := [_, _]) C gw475 gw476 gw20 (kL_below l D ct sa _ _ _ 4 rfl (by decide) (by decide)) gw477 (by decide +kernel) rfl dL_law_94 ⟨Nat.le_of_ble_eq_true rfl, Nat.le_of_ble_eq_true rfl⟩ ⟨by show (_ : Nat) ≤ 718837; omega, by show (_ : Nat) ≤ 6944958; omega⟩ (Nat.le_of_ble_eq_true rfl) (fun r w hk => ?_)
    obtain ⟨r, h_r, rfl, rfl⟩ := hk
    refine j_st (st1 := .int (nI r) :: _) rfl ?_
    refine j_istore (lv' := [(7, .int _), (6, .int _), (5, .int _), (0, .ref _), (1, .ref _), (2, .ref _), (3, .int _), (4, .int _)]) C dL_law_97 (by decide) rfl ?_
    refine j_iload C dL_law_99 7 rfl ?_
    refine j_iconst (v := nI 4) C dL_law_101 (by decide) ?_
    refine j_ishr C dL_law_102 (fun z102 => ?_)
    refine j_bipush (v := nI 6) C dL_law_103 (by decide) ?_
    refine j_callS (nargs := 2) (As := [_, _]) C gw475 gw476 gw20 (kL_below l D ct sa _ _ _ 6 rfl (by decide) (by decide)) gw477 (by decide +kernel) rfl dL_law_105 ⟨Nat.le_of_ble_eq_true rfl, Nat.le_of_ble_eq_true rfl⟩ ⟨by show (_ : Nat) ≤ 718837; omega, by show (_ : Nat) ≤ 6944958; omega⟩ (Nat.le_of_ble_eq_true rfl) (fun r w hk => ?_)
    obtain ⟨q, h_q, rfl, rfl⟩ := hk
    refine j_st (st1 := .int (nI q) :: _) rfl ?_
    refine j_istore (lv' := [(8, .int _), (7, .int _), (6, .int _), (5, .int _), (0, .ref _), (1, .ref _), (2, .ref _), (3, .int _), (4, .int _)]) C dL_law_108 (by decide) rfl ?_
    refine j_lvs [4, 5, 6, 7, 3, 2, 1, 0] rfl ?_
    refine kI1 htr C hi hh (by omega) (by omega) h_k h_r h_q (fun a => ?_)
    have i2 : InvL h (tbS σ a q) := il_tb hi
    have i3 : InvL h (uR (tbS σ a q) (upd (sR (tbS σ a q)) (8 * k + 1) (opV (tbS σ a q) k))) := il_open (σ := tbS σ a q) (k := k) i2 h_k
    have i4 := il_hr i3
    refine kI2 htr C i2 hh (by omega) (by omega) h_k ?_
    refine kI3 htr C i3 hh (by omega) (by omega) h_k (fun q16 q17 => ?_)
    refine kI4 htr C i3 hh (by omega) (by omega) ?_
    refine kI5 htr C i3 hh (by omega) (by omega) (fun q21 => ?_)
    refine kI6 htr C i3 hh (by omega) (by omega) ?_
    refine kI7 htr C i3 hh (by omega) (by omega) ?_
    refine kI8 htr C i4 (by omega) (by omega) (by omega) ?_
    exact j_widen (by omega) (by omega) (kk _ (h + 1) i4 (Nat.le_refl _))
  · refine j_goto C 809 dL_law_75 (by decide) ?_
    exact j_lvs [1, 2, 3, 4] rfl (j_widen (by omega) (by omega) (kk σ h hi (Nat.le_succ h)))
