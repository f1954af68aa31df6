set_option maxRecDepth 100000 in
set_option maxHeartbeats 800000 in
theorem kLaw_lock {X : Ctx} {l : Launch} {D : va_G} {ct : Nat → ClassId} {sa : Nat → Nat} (htr : l.stackTraces = false) (C : jC X l D ct sa cL_law 9 "LetterLocksLaw" rmL) {b L : Nat} {xs : Nat → Int32} (SC : jScr X b L xs) (hL : L ≤ 2048) (t : Nat) (ht : 4 * t + 4 ≤ L) (ad a : Nat → Nat) (mcn thr : Int32) (φ : LD) (σ : St) (qo : Nat) (g : Nat → Int64) (hi : Inv1 σ) (k n : Nat) (hk : k + 800 ≤ 601024) (hn : n + 4800 ≤ 7293034) (kk : ∀ (ad' : Nat → Nat) (mcn' thr' : Int32) (φ' : LD) (σ' : St) (g' : Nat → Int64), Inv1 σ' → ad' 0 = ad 0 → J X (WX ct sa ad' mcn' φ' σ' ++ (oC ct qo g' :: WM ct a thr' σ')) (k + 800) (n + 4800) 1482 (lvL b (ad 0) (a 0) qo (nI (4 * t))) []) : J X (WX ct sa ad mcn φ σ ++ (oC ct qo g :: WM ct a thr σ)) k n 140 (lvL b (ad 0) (a 0) qo (nI (4 * t))) [] := by
  refine j_aload_n (i := 1) C dL_law_140 rfl 1 rfl ?_
  refine j_aload_n (i := 0) C dL_law_141 rfl 0 rfl ?_
  refine j_iload C dL_law_142 4 rfl ?_
  refine j_iconst (v := nI 1) C dL_law_144 (by decide) ?_
  refine j_iadd C dL_law_145 ?_
  refine j_sld C SC (4 * t + 1) (nI_add (4 * t) 1) (by omega) hL dL_law_146 ?_
  refine j_aload_n (i := 3) C dL_law_147 rfl 3 rfl ?_
  refine j_callSW (nargs := 3) (As := [_, _, _]) C gw400 gw401 gw41 (kL_lock l htr D ct sa ad mcn φ σ qo g (WM ct a thr σ) (xs (4 * t + 1)) hi) gw402 (by decide +kernel) rfl dL_law_148 ⟨Nat.le_of_ble_eq_true rfl, Nat.le_of_ble_eq_true rfl⟩ ⟨by show (_ : Nat) ≤ 601024; omega, by show (_ : Nat) ≤ 7293034; omega⟩ (Nat.le_of_ble_eq_true rfl) (fun r w hk2 => ?_)
  obtain ⟨rfl, ad2, mcn2, φ2, g2, ha, hg, rfl⟩ := hk2
  refine j_st (st1 := .int (f_lock σ (xs (4 * t + 1))).1 :: []) rfl ?_
  refine j_swap (a := []) (b := WX ct sa ad2 mcn2 φ2 (f_lock σ (xs (4 * t + 1))).2.2 ++ [oC ct qo g2]) (c0 := WM ct a thr σ) sw_a ?_
  refine j_istore (lv' := [(5, .int _), (0, .ref _), (1, .ref _), (2, .ref _), (3, .ref _), (4, .int _)]) C dL_law_151 (by decide) rfl ?_
  refine j_aload_n (i := 2) C dL_law_153 rfl 3 rfl ?_
  refine j_aload_n (i := 0) C dL_law_154 rfl 1 rfl ?_
  refine j_iload C dL_law_155 5 rfl ?_
  refine j_iconst (v := nI 1) C dL_law_157 (by decide) ?_
  refine j_iadd C dL_law_158 ?_
  refine j_sld C SC (4 * t + 1) (nI_add (4 * t) 1) (by omega) hL dL_law_159 ?_
  refine j_callV (nargs := 1) (As := [_]) (Cn := RX4) C (0) rfl rfl rfl gw703 gw704 gw705 gw49 (kX4_lock l D ct sa a thr σ (WX ct sa ad2 mcn2 φ2 (f_lock σ (xs (4 * t + 1))).2.2 ++ [oC ct qo g2]) (xs (4 * t + 1)) hi.1) gw706 (by decide +kernel) rfl dL_law_160 ⟨Nat.le_of_ble_eq_true rfl, Nat.le_of_ble_eq_true rfl⟩ ⟨by show (_ : Nat) ≤ 601024; omega, by show (_ : Nat) ≤ 7293034; omega⟩ (Nat.le_of_ble_eq_true rfl) (dki ?_)
  refine j_istore (lv' := [(6, .int _), (5, .int _), (0, .ref _), (1, .ref _), (2, .ref _), (3, .ref _), (4, .int _)]) C dL_law_163 (by decide) rfl ?_
  refine j_aload_n (i := 2) C dL_law_165 rfl 4 rfl ?_
  refine j_callV (nargs := 0) (As := []) (Cn := RX4) C (0) rfl rfl rfl gw699 gw700 gw701 gw49 (kX4_thrown l D ct sa a (f_lock σ (xs (4 * t + 1))).1 (f_lock σ (xs (4 * t + 1))).2.2 (WX ct sa ad2 mcn2 φ2 (f_lock σ (xs (4 * t + 1))).2.2 ++ [oC ct qo g2])) gw702 (by decide +kernel) rfl dL_law_166 ⟨Nat.le_of_ble_eq_true rfl, Nat.le_of_ble_eq_true rfl⟩ ⟨by show (_ : Nat) ≤ 601024; omega, by show (_ : Nat) ≤ 7293034; omega⟩ (Nat.le_of_ble_eq_true rfl) (dki ?_)
  refine j_swap (a := []) (b := WM ct a (f_lock σ (xs (4 * t + 1))).1 (f_lock σ (xs (4 * t + 1))).2.2) (c0 := WX ct sa ad2 mcn2 φ2 (f_lock σ (xs (4 * t + 1))).2.2 ++ [oC ct qo g2]) rfl ?_
  refine j_ws (ws1 := WX ct sa ad2 mcn2 φ2 (f_lock σ (xs (4 * t + 1))).2.2 ++ (oC ct qo g2 :: WM ct a (f_lock σ (xs (4 * t + 1))).1 (f_lock σ (xs (4 * t + 1))).2.2)) sw_b ?_
  refine j_iload C dL_law_169 1 rfl ?_
  refine j_icmp_eq C 176 dL_law_171 (by decide) (fun c171 => ?_) (fun c171 => by exact absurd rfl c171)
  refine j_iload C dL_law_176 1 rfl ?_
  refine j_if_ne C 193 dL_law_178 (by decide) (fun c178 => ?_) (fun c178 => ?_)
  · refine j_goto C 1482 dL_law_193 (by decide) ?_
    exact j_lvs [2, 3, 4, 5, 6] rfl (j_widen (k1 := k + 800) (n1 := n + 4800) (by omega) (by omega) (kk _ _ _ _ _ _ (i1_lock hi) ha))
  · refine j_aload_n (i := 3) C dL_law_181 rfl 5 rfl ?_
    refine j_iconst (v := nI 0) C dL_law_182 (by decide) ?_
    refine j_lald C ((WX ct sa ad2 mcn2 φ2 (f_lock σ (xs (4 * t + 1))).2.2).length) th_at0 (0) rfl (by decide) (by decide) dL_law_183 ?_
    refine j_iload C dL_law_184 0 rfl ?_
    refine j_i2l C dL_law_186 rfl ?_
    refine j_lcmpE C (hg c178) dL_law_187 ?_
    refine j_if_eq C 193 dL_law_188 (by decide) (fun c188 => ?_) (fun c188 => by exact absurd (by decide) c188)
    refine j_goto C 1482 dL_law_193 (by decide) ?_
    exact j_lvs [2, 3, 4, 5, 6] rfl (j_widen (k1 := k + 800) (n1 := n + 4800) (by omega) (by omega) (kk _ _ _ _ _ _ (i1_lock hi) ha))
set_option maxRecDepth 100000 in
set_option maxHeartbeats 800000 in
theorem kLaw_turn {X : Ctx} {l : Launch} {D : va_G} {ct : Nat → ClassId} {sa : Nat → Nat} (htr : l.stackTraces = false) (C : jC X l D ct sa cL_law 9 "LetterLocksLaw" rmL) {b L : Nat} {xs : Nat → Int32} (SC : jScr X b L xs) (hL : L ≤ 2048) (t : Nat) (ht : 4 * t + 4 ≤ L) (ad a : Nat → Nat) (mcn thr : Int32) (φ : LD) (σ : St) (qo : Nat) (g : Nat → Int64) (hi : Inv1 σ) (k n : Nat) (hk : k + 800 ≤ 601024) (hn : n + 4800 ≤ 7293034) (kk : ∀ (ad' : Nat → Nat) (mcn' thr' : Int32) (φ' : LD) (σ' : St) (g' : Nat → Int64), Inv1 σ' → ad' 0 = ad 0 → J X (WX ct sa ad' mcn' φ' σ' ++ (oC ct qo g' :: WM ct a thr' σ')) (k + 800) (n + 4800) 1482 (lvL b (ad 0) (a 0) qo (nI (4 * t))) []) : J X (WX ct sa ad mcn φ σ ++ (oC ct qo g :: WM ct a thr σ)) k n 196 (lvL b (ad 0) (a 0) qo (nI (4 * t))) [] := by
  refine j_aload_n (i := 1) C dL_law_196 rfl 1 rfl ?_
  refine j_aload_n (i := 0) C dL_law_197 rfl 0 rfl ?_
  refine j_iload C dL_law_198 4 rfl ?_
  refine j_iconst (v := nI 1) C dL_law_200 (by decide) ?_
  refine j_iadd C dL_law_201 ?_
  refine j_sld C SC (4 * t + 1) (nI_add (4 * t) 1) (by omega) hL dL_law_202 ?_
  refine j_aload_n (i := 0) C dL_law_203 rfl 0 rfl ?_
  refine j_iload C dL_law_204 4 rfl ?_
  refine j_iconst (v := nI 2) C dL_law_206 (by decide) ?_
  refine j_iadd C dL_law_207 ?_
  refine j_sld C SC (4 * t + 2) (nI_add (4 * t) 2) (by omega) hL dL_law_208 ?_
  refine j_aload_n (i := 0) C dL_law_209 rfl 0 rfl ?_
  refine j_iload C dL_law_210 4 rfl ?_
  refine j_iconst (v := nI 3) C dL_law_212 (by decide) ?_
  refine j_iadd C dL_law_213 ?_
  refine j_sld C SC (4 * t + 3) (nI_add (4 * t) 3) (by omega) hL dL_law_214 ?_
  refine j_aload_n (i := 3) C dL_law_215 rfl 3 rfl ?_
  refine j_callSW (nargs := 5) (As := [_, _, _, _, _]) C gw500 gw501 gw41 (kL_turn l htr D ct sa ad mcn φ σ qo g (WM ct a thr σ) (xs (4 * t + 1)) (xs (4 * t + 2)) (xs (4 * t + 3)) hi) gw502 (by decide +kernel) rfl dL_law_216 ⟨Nat.le_of_ble_eq_true rfl, Nat.le_of_ble_eq_true rfl⟩ ⟨by show (_ : Nat) ≤ 601024; omega, by show (_ : Nat) ≤ 7293034; omega⟩ (Nat.le_of_ble_eq_true rfl) (fun r w hk2 => ?_)
  obtain ⟨rfl, ad2, mcn2, φ2, g2, ha, hg, rfl⟩ := hk2
  refine j_st (st1 := .int (f_turn σ (xs (4 * t + 1)) (xs (4 * t + 2)) (xs (4 * t + 3))).1 :: []) rfl ?_
  refine j_swap (a := []) (b := WX ct sa ad2 mcn2 φ2 (f_turn σ (xs (4 * t + 1)) (xs (4 * t + 2)) (xs (4 * t + 3))).2.2 ++ [oC ct qo g2]) (c0 := WM ct a thr σ) sw_a ?_
  refine j_istore (lv' := [(5, .int _), (0, .ref _), (1, .ref _), (2, .ref _), (3, .ref _), (4, .int _)]) C dL_law_219 (by decide) rfl ?_
  refine j_aload_n (i := 2) C dL_law_221 rfl 3 rfl ?_
  refine j_aload_n (i := 0) C dL_law_222 rfl 1 rfl ?_
  refine j_iload C dL_law_223 5 rfl ?_
  refine j_iconst (v := nI 1) C dL_law_225 (by decide) ?_
  refine j_iadd C dL_law_226 ?_
  refine j_sld C SC (4 * t + 1) (nI_add (4 * t) 1) (by omega) hL dL_law_227 ?_
  refine j_aload_n (i := 0) C dL_law_228 rfl 1 rfl ?_
  refine j_iload C dL_law_229 5 rfl ?_
  refine j_iconst (v := nI 2) C dL_law_231 (by decide) ?_
  refine j_iadd C dL_law_232 ?_
  refine j_sld C SC (4 * t + 2) (nI_add (4 * t) 2) (by omega) hL dL_law_233 ?_
  refine j_aload_n (i := 0) C dL_law_234 rfl 1 rfl ?_
  refine j_iload C dL_law_235 5 rfl ?_
  refine j_iconst (v := nI 3) C dL_law_237 (by decide) ?_
  refine j_iadd C dL_law_238 ?_
  refine j_sld C SC (4 * t + 3) (nI_add (4 * t) 3) (by omega) hL dL_law_239 ?_
  refine j_callV (nargs := 3) (As := [_, _, _]) (Cn := RX4) C (0) rfl rfl rfl gw721 gw722 gw723 gw49 (kX4_turn l D ct sa a thr σ (WX ct sa ad2 mcn2 φ2 (f_turn σ (xs (4 * t + 1)) (xs (4 * t + 2)) (xs (4 * t + 3))).2.2 ++ [oC ct qo g2]) (xs (4 * t + 1)) (xs (4 * t + 2)) (xs (4 * t + 3)) hi.1) gw724 (by decide +kernel) rfl dL_law_240 ⟨Nat.le_of_ble_eq_true rfl, Nat.le_of_ble_eq_true rfl⟩ ⟨by show (_ : Nat) ≤ 601024; omega, by show (_ : Nat) ≤ 7293034; omega⟩ (Nat.le_of_ble_eq_true rfl) (dki ?_)
  refine j_istore (lv' := [(6, .int _), (5, .int _), (0, .ref _), (1, .ref _), (2, .ref _), (3, .ref _), (4, .int _)]) C dL_law_243 (by decide) rfl ?_
  refine j_aload_n (i := 2) C dL_law_245 rfl 4 rfl ?_
  refine j_callV (nargs := 0) (As := []) (Cn := RX4) C (0) rfl rfl rfl gw699 gw700 gw701 gw49 (kX4_thrown l D ct sa a (f_turn σ (xs (4 * t + 1)) (xs (4 * t + 2)) (xs (4 * t + 3))).1 (f_turn σ (xs (4 * t + 1)) (xs (4 * t + 2)) (xs (4 * t + 3))).2.2 (WX ct sa ad2 mcn2 φ2 (f_turn σ (xs (4 * t + 1)) (xs (4 * t + 2)) (xs (4 * t + 3))).2.2 ++ [oC ct qo g2])) gw702 (by decide +kernel) rfl dL_law_246 ⟨Nat.le_of_ble_eq_true rfl, Nat.le_of_ble_eq_true rfl⟩ ⟨by show (_ : Nat) ≤ 601024; omega, by show (_ : Nat) ≤ 7293034; omega⟩ (Nat.le_of_ble_eq_true rfl) (dki ?_)
  refine j_swap (a := []) (b := WM ct a (f_turn σ (xs (4 * t + 1)) (xs (4 * t + 2)) (xs (4 * t + 3))).1 (f_turn σ (xs (4 * t + 1)) (xs (4 * t + 2)) (xs (4 * t + 3))).2.2) (c0 := WX ct sa ad2 mcn2 φ2 (f_turn σ (xs (4 * t + 1)) (xs (4 * t + 2)) (xs (4 * t + 3))).2.2 ++ [oC ct qo g2]) rfl ?_
  refine j_ws (ws1 := WX ct sa ad2 mcn2 φ2 (f_turn σ (xs (4 * t + 1)) (xs (4 * t + 2)) (xs (4 * t + 3))).2.2 ++ (oC ct qo g2 :: WM ct a (f_turn σ (xs (4 * t + 1)) (xs (4 * t + 2)) (xs (4 * t + 3))).1 (f_turn σ (xs (4 * t + 1)) (xs (4 * t + 2)) (xs (4 * t + 3))).2.2)) sw_b ?_
  refine j_iload C dL_law_249 1 rfl ?_
  refine j_icmp_eq C 256 dL_law_251 (by decide) (fun c251 => ?_) (fun c251 => by exact absurd rfl c251)
  refine j_iload C dL_law_256 1 rfl ?_
  refine j_if_ne C 273 dL_law_258 (by decide) (fun c258 => ?_) (fun c258 => ?_)
  · refine j_goto C 1482 dL_law_273 (by decide) ?_
    exact j_lvs [2, 3, 4, 5, 6] rfl (j_widen (k1 := k + 800) (n1 := n + 4800) (by omega) (by omega) (kk _ _ _ _ _ _ (i1_turn hi) ha))
  · refine j_aload_n (i := 3) C dL_law_261 rfl 5 rfl ?_
    refine j_iconst (v := nI 0) C dL_law_262 (by decide) ?_
    refine j_lald C ((WX ct sa ad2 mcn2 φ2 (f_turn σ (xs (4 * t + 1)) (xs (4 * t + 2)) (xs (4 * t + 3))).2.2).length) th_at0 (0) rfl (by decide) (by decide) dL_law_263 ?_
    refine j_iload C dL_law_264 0 rfl ?_
    refine j_i2l C dL_law_266 rfl ?_
    refine j_lcmpE C (hg c258) dL_law_267 ?_
    refine j_if_eq C 273 dL_law_268 (by decide) (fun c268 => ?_) (fun c268 => by exact absurd (by decide) c268)
    refine j_goto C 1482 dL_law_273 (by decide) ?_
    exact j_lvs [2, 3, 4, 5, 6] rfl (j_widen (k1 := k + 800) (n1 := n + 4800) (by omega) (by omega) (kk _ _ _ _ _ _ (i1_turn hi) ha))
set_option maxRecDepth 100000 in
set_option maxHeartbeats 800000 in
theorem kLaw_open {X : Ctx} {l : Launch} {D : va_G} {ct : Nat → ClassId} {sa : Nat → Nat} (htr : l.stackTraces = false) (C : jC X l D ct sa cL_law 9 "LetterLocksLaw" rmL) {b L : Nat} {xs : Nat → Int32} (SC : jScr X b L xs) (hL : L ≤ 2048) (t : Nat) (ht : 4 * t + 4 ≤ L) (ad a : Nat → Nat) (mcn thr : Int32) (φ : LD) (σ : St) (qo : Nat) (g : Nat → Int64) (hi : Inv1 σ) (k n : Nat) (hk : k + 800 ≤ 601024) (hn : n + 4800 ≤ 7293034) (kk : ∀ (ad' : Nat → Nat) (mcn' thr' : Int32) (φ' : LD) (σ' : St) (g' : Nat → Int64), Inv1 σ' → ad' 0 = ad 0 → J X (WX ct sa ad' mcn' φ' σ' ++ (oC ct qo g' :: WM ct a thr' σ')) (k + 800) (n + 4800) 1482 (lvL b (ad 0) (a 0) qo (nI (4 * t))) []) : J X (WX ct sa ad mcn φ σ ++ (oC ct qo g :: WM ct a thr σ)) k n 276 (lvL b (ad 0) (a 0) qo (nI (4 * t))) [] := by
  refine j_aload_n (i := 1) C dL_law_276 rfl 1 rfl ?_
  refine j_aload_n (i := 0) C dL_law_277 rfl 0 rfl ?_
  refine j_iload C dL_law_278 4 rfl ?_
  refine j_iconst (v := nI 1) C dL_law_280 (by decide) ?_
  refine j_iadd C dL_law_281 ?_
  refine j_sld C SC (4 * t + 1) (nI_add (4 * t) 1) (by omega) hL dL_law_282 ?_
  refine j_aload_n (i := 3) C dL_law_283 rfl 3 rfl ?_
  refine j_callSW (nargs := 3) (As := [_, _, _]) C gw523 gw524 gw41 (kL_open l htr D ct sa ad mcn φ σ qo g (WM ct a thr σ) (xs (4 * t + 1)) hi) gw525 (by decide +kernel) rfl dL_law_284 ⟨Nat.le_of_ble_eq_true rfl, Nat.le_of_ble_eq_true rfl⟩ ⟨by show (_ : Nat) ≤ 601024; omega, by show (_ : Nat) ≤ 7293034; omega⟩ (Nat.le_of_ble_eq_true rfl) (fun r w hk2 => ?_)
  obtain ⟨rfl, ad2, mcn2, φ2, g2, ha, hg, rfl⟩ := hk2
  refine j_st (st1 := .int (f_open σ (xs (4 * t + 1))).1 :: []) rfl ?_
  refine j_swap (a := []) (b := WX ct sa ad2 mcn2 φ2 (f_open σ (xs (4 * t + 1))).2.2 ++ [oC ct qo g2]) (c0 := WM ct a thr σ) sw_a ?_
  refine j_istore (lv' := [(5, .int _), (0, .ref _), (1, .ref _), (2, .ref _), (3, .ref _), (4, .int _)]) C dL_law_287 (by decide) rfl ?_
  refine j_aload_n (i := 2) C dL_law_289 rfl 3 rfl ?_
  refine j_aload_n (i := 0) C dL_law_290 rfl 1 rfl ?_
  refine j_iload C dL_law_291 5 rfl ?_
  refine j_iconst (v := nI 1) C dL_law_293 (by decide) ?_
  refine j_iadd C dL_law_294 ?_
  refine j_sld C SC (4 * t + 1) (nI_add (4 * t) 1) (by omega) hL dL_law_295 ?_
  refine j_callV (nargs := 1) (As := [_]) (Cn := RX4) C (0) rfl rfl rfl gw738 gw739 gw740 gw49 (kX4_open l D ct sa a thr σ (WX ct sa ad2 mcn2 φ2 (f_open σ (xs (4 * t + 1))).2.2 ++ [oC ct qo g2]) (xs (4 * t + 1)) hi.1) gw741 (by decide +kernel) rfl dL_law_296 ⟨Nat.le_of_ble_eq_true rfl, Nat.le_of_ble_eq_true rfl⟩ ⟨by show (_ : Nat) ≤ 601024; omega, by show (_ : Nat) ≤ 7293034; omega⟩ (Nat.le_of_ble_eq_true rfl) (dki ?_)
  refine j_istore (lv' := [(6, .int _), (5, .int _), (0, .ref _), (1, .ref _), (2, .ref _), (3, .ref _), (4, .int _)]) C dL_law_299 (by decide) rfl ?_
  refine j_aload_n (i := 2) C dL_law_301 rfl 4 rfl ?_
  refine j_callV (nargs := 0) (As := []) (Cn := RX4) C (0) rfl rfl rfl gw699 gw700 gw701 gw49 (kX4_thrown l D ct sa a (f_open σ (xs (4 * t + 1))).1 (f_open σ (xs (4 * t + 1))).2.2 (WX ct sa ad2 mcn2 φ2 (f_open σ (xs (4 * t + 1))).2.2 ++ [oC ct qo g2])) gw702 (by decide +kernel) rfl dL_law_302 ⟨Nat.le_of_ble_eq_true rfl, Nat.le_of_ble_eq_true rfl⟩ ⟨by show (_ : Nat) ≤ 601024; omega, by show (_ : Nat) ≤ 7293034; omega⟩ (Nat.le_of_ble_eq_true rfl) (dki ?_)
  refine j_swap (a := []) (b := WM ct a (f_open σ (xs (4 * t + 1))).1 (f_open σ (xs (4 * t + 1))).2.2) (c0 := WX ct sa ad2 mcn2 φ2 (f_open σ (xs (4 * t + 1))).2.2 ++ [oC ct qo g2]) rfl ?_
  refine j_ws (ws1 := WX ct sa ad2 mcn2 φ2 (f_open σ (xs (4 * t + 1))).2.2 ++ (oC ct qo g2 :: WM ct a (f_open σ (xs (4 * t + 1))).1 (f_open σ (xs (4 * t + 1))).2.2)) sw_b ?_
  refine j_iload C dL_law_305 1 rfl ?_
  refine j_icmp_eq C 312 dL_law_307 (by decide) (fun c307 => ?_) (fun c307 => by exact absurd rfl c307)
  refine j_iload C dL_law_312 1 rfl ?_
  refine j_if_ne C 336 dL_law_314 (by decide) (fun c314 => ?_) (fun c314 => ?_)
  · refine j_goto C 1482 dL_law_336 (by decide) ?_
    exact j_lvs [2, 3, 4, 5, 6] rfl (j_widen (k1 := k + 800) (n1 := n + 4800) (by omega) (by omega) (kk _ _ _ _ _ _ (i1_open hi) ha))
  · refine j_aload_n (i := 3) C dL_law_317 rfl 5 rfl ?_
    refine j_iconst (v := nI 0) C dL_law_318 (by decide) ?_
    refine j_lald C ((WX ct sa ad2 mcn2 φ2 (f_open σ (xs (4 * t + 1))).2.2).length) th_at0 (0) rfl (by decide) (by decide) dL_law_319 ?_
    refine j_iload C dL_law_320 0 rfl ?_
    refine j_if_eq C 329 dL_law_322 (by decide) (fun c322 => ?_) (fun c322 => ?_)
    · refine j_lconst C dL_law_329 rfl ?_
      refine j_lcmpE C (by first | exact (hg c314).trans (l01_0 c322).symm | exact (hg c314).trans (l01_1 v01_open c322).symm) dL_law_330 ?_
      refine j_if_eq C 336 dL_law_331 (by decide) (fun c331 => ?_) (fun c331 => by exact absurd (by decide) c331)
      refine j_goto C 1482 dL_law_336 (by decide) ?_
      exact j_lvs [2, 3, 4, 5, 6] rfl (j_widen (k1 := k + 800) (n1 := n + 4800) (by omega) (by omega) (kk _ _ _ _ _ _ (i1_open hi) ha))
    · refine j_lconst C dL_law_325 rfl ?_
      refine j_goto C 330 dL_law_326 (by decide) ?_
      refine j_lcmpE C (by first | exact (hg c314).trans (l01_0 c322).symm | exact (hg c314).trans (l01_1 v01_open c322).symm) dL_law_330 ?_
      refine j_if_eq C 336 dL_law_331 (by decide) (fun c331 => ?_) (fun c331 => by exact absurd (by decide) c331)
      refine j_goto C 1482 dL_law_336 (by decide) ?_
      exact j_lvs [2, 3, 4, 5, 6] rfl (j_widen (k1 := k + 800) (n1 := n + 4800) (by omega) (by omega) (kk _ _ _ _ _ _ (i1_open hi) ha))
set_option maxRecDepth 100000 in
set_option maxHeartbeats 800000 in
theorem kLaw_shut {X : Ctx} {l : Launch} {D : va_G} {ct : Nat → ClassId} {sa : Nat → Nat} (htr : l.stackTraces = false) (C : jC X l D ct sa cL_law 9 "LetterLocksLaw" rmL) {b L : Nat} {xs : Nat → Int32} (SC : jScr X b L xs) (hL : L ≤ 2048) (t : Nat) (ht : 4 * t + 4 ≤ L) (ad a : Nat → Nat) (mcn thr : Int32) (φ : LD) (σ : St) (qo : Nat) (g : Nat → Int64) (hi : Inv1 σ) (k n : Nat) (hk : k + 800 ≤ 601024) (hn : n + 4800 ≤ 7293034) (kk : ∀ (ad' : Nat → Nat) (mcn' thr' : Int32) (φ' : LD) (σ' : St) (g' : Nat → Int64), Inv1 σ' → ad' 0 = ad 0 → J X (WX ct sa ad' mcn' φ' σ' ++ (oC ct qo g' :: WM ct a thr' σ')) (k + 800) (n + 4800) 1482 (lvL b (ad 0) (a 0) qo (nI (4 * t))) []) : J X (WX ct sa ad mcn φ σ ++ (oC ct qo g :: WM ct a thr σ)) k n 339 (lvL b (ad 0) (a 0) qo (nI (4 * t))) [] := by
  refine j_aload_n (i := 1) C dL_law_339 rfl 1 rfl ?_
  refine j_aload_n (i := 0) C dL_law_340 rfl 0 rfl ?_
  refine j_iload C dL_law_341 4 rfl ?_
  refine j_iconst (v := nI 1) C dL_law_343 (by decide) ?_
  refine j_iadd C dL_law_344 ?_
  refine j_sld C SC (4 * t + 1) (nI_add (4 * t) 1) (by omega) hL dL_law_345 ?_
  refine j_aload_n (i := 3) C dL_law_346 rfl 3 rfl ?_
  refine j_callSW (nargs := 3) (As := [_, _, _]) C gw530 gw531 gw41 (kL_shut l htr D ct sa ad mcn φ σ qo g (WM ct a thr σ) (xs (4 * t + 1)) hi) gw532 (by decide +kernel) rfl dL_law_347 ⟨Nat.le_of_ble_eq_true rfl, Nat.le_of_ble_eq_true rfl⟩ ⟨by show (_ : Nat) ≤ 601024; omega, by show (_ : Nat) ≤ 7293034; omega⟩ (Nat.le_of_ble_eq_true rfl) (fun r w hk2 => ?_)
  obtain ⟨rfl, ad2, mcn2, φ2, g2, ha, hg, rfl⟩ := hk2
  refine j_st (st1 := .int (f_shut σ (xs (4 * t + 1))).1 :: []) rfl ?_
  refine j_swap (a := []) (b := WX ct sa ad2 mcn2 φ2 (f_shut σ (xs (4 * t + 1))).2.2 ++ [oC ct qo g2]) (c0 := WM ct a thr σ) sw_a ?_
  refine j_istore (lv' := [(5, .int _), (0, .ref _), (1, .ref _), (2, .ref _), (3, .ref _), (4, .int _)]) C dL_law_350 (by decide) rfl ?_
  refine j_aload_n (i := 2) C dL_law_352 rfl 3 rfl ?_
  refine j_aload_n (i := 0) C dL_law_353 rfl 1 rfl ?_
  refine j_iload C dL_law_354 5 rfl ?_
  refine j_iconst (v := nI 1) C dL_law_356 (by decide) ?_
  refine j_iadd C dL_law_357 ?_
  refine j_sld C SC (4 * t + 1) (nI_add (4 * t) 1) (by omega) hL dL_law_358 ?_
  refine j_callV (nargs := 1) (As := [_]) (Cn := RX4) C (0) rfl rfl rfl gw746 gw747 gw748 gw49 (kX4_shut l D ct sa a thr σ (WX ct sa ad2 mcn2 φ2 (f_shut σ (xs (4 * t + 1))).2.2 ++ [oC ct qo g2]) (xs (4 * t + 1)) hi.1) gw749 (by decide +kernel) rfl dL_law_359 ⟨Nat.le_of_ble_eq_true rfl, Nat.le_of_ble_eq_true rfl⟩ ⟨by show (_ : Nat) ≤ 601024; omega, by show (_ : Nat) ≤ 7293034; omega⟩ (Nat.le_of_ble_eq_true rfl) (dki ?_)
  refine j_istore (lv' := [(6, .int _), (5, .int _), (0, .ref _), (1, .ref _), (2, .ref _), (3, .ref _), (4, .int _)]) C dL_law_362 (by decide) rfl ?_
  refine j_aload_n (i := 2) C dL_law_364 rfl 4 rfl ?_
  refine j_callV (nargs := 0) (As := []) (Cn := RX4) C (0) rfl rfl rfl gw699 gw700 gw701 gw49 (kX4_thrown l D ct sa a (f_shut σ (xs (4 * t + 1))).1 (f_shut σ (xs (4 * t + 1))).2.2 (WX ct sa ad2 mcn2 φ2 (f_shut σ (xs (4 * t + 1))).2.2 ++ [oC ct qo g2])) gw702 (by decide +kernel) rfl dL_law_365 ⟨Nat.le_of_ble_eq_true rfl, Nat.le_of_ble_eq_true rfl⟩ ⟨by show (_ : Nat) ≤ 601024; omega, by show (_ : Nat) ≤ 7293034; omega⟩ (Nat.le_of_ble_eq_true rfl) (dki ?_)
  refine j_swap (a := []) (b := WM ct a (f_shut σ (xs (4 * t + 1))).1 (f_shut σ (xs (4 * t + 1))).2.2) (c0 := WX ct sa ad2 mcn2 φ2 (f_shut σ (xs (4 * t + 1))).2.2 ++ [oC ct qo g2]) rfl ?_
  refine j_ws (ws1 := WX ct sa ad2 mcn2 φ2 (f_shut σ (xs (4 * t + 1))).2.2 ++ (oC ct qo g2 :: WM ct a (f_shut σ (xs (4 * t + 1))).1 (f_shut σ (xs (4 * t + 1))).2.2)) sw_b ?_
  refine j_iload C dL_law_368 1 rfl ?_
  refine j_icmp_eq C 375 dL_law_370 (by decide) (fun c370 => ?_) (fun c370 => by exact absurd rfl c370)
  refine j_iload C dL_law_375 1 rfl ?_
  refine j_if_ne C 392 dL_law_377 (by decide) (fun c377 => ?_) (fun c377 => ?_)
  · refine j_goto C 1482 dL_law_392 (by decide) ?_
    exact j_lvs [2, 3, 4, 5, 6] rfl (j_widen (k1 := k + 800) (n1 := n + 4800) (by omega) (by omega) (kk _ _ _ _ _ _ (i1_shut hi) ha))
  · refine j_aload_n (i := 3) C dL_law_380 rfl 5 rfl ?_
    refine j_iconst (v := nI 0) C dL_law_381 (by decide) ?_
    refine j_lald C ((WX ct sa ad2 mcn2 φ2 (f_shut σ (xs (4 * t + 1))).2.2).length) th_at0 (0) rfl (by decide) (by decide) dL_law_382 ?_
    refine j_iload C dL_law_383 0 rfl ?_
    refine j_i2l C dL_law_385 rfl ?_
    refine j_lcmpE C (hg c377) dL_law_386 ?_
    refine j_if_eq C 392 dL_law_387 (by decide) (fun c387 => ?_) (fun c387 => by exact absurd (by decide) c387)
    refine j_goto C 1482 dL_law_392 (by decide) ?_
    exact j_lvs [2, 3, 4, 5, 6] rfl (j_widen (k1 := k + 800) (n1 := n + 4800) (by omega) (by omega) (kk _ _ _ _ _ _ (i1_shut hi) ha))
set_option maxRecDepth 100000 in
set_option maxHeartbeats 800000 in
theorem kLaw_rename {X : Ctx} {l : Launch} {D : va_G} {ct : Nat → ClassId} {sa : Nat → Nat} (htr : l.stackTraces = false) (C : jC X l D ct sa cL_law 9 "LetterLocksLaw" rmL) {b L : Nat} {xs : Nat → Int32} (SC : jScr X b L xs) (hL : L ≤ 2048) (t : Nat) (ht : 4 * t + 4 ≤ L) (ad a : Nat → Nat) (mcn thr : Int32) (φ : LD) (σ : St) (qo : Nat) (g : Nat → Int64) (hi : Inv1 σ) (k n : Nat) (hk : k + 800 ≤ 601024) (hn : n + 4800 ≤ 7293034) (kk : ∀ (ad' : Nat → Nat) (mcn' thr' : Int32) (φ' : LD) (σ' : St) (g' : Nat → Int64), Inv1 σ' → ad' 0 = ad 0 → J X (WX ct sa ad' mcn' φ' σ' ++ (oC ct qo g' :: WM ct a thr' σ')) (k + 800) (n + 4800) 1482 (lvL b (ad 0) (a 0) qo (nI (4 * t))) []) : J X (WX ct sa ad mcn φ σ ++ (oC ct qo g :: WM ct a thr σ)) k n 395 (lvL b (ad 0) (a 0) qo (nI (4 * t))) [] := by
  refine j_aload_n (i := 1) C dL_law_395 rfl 1 rfl ?_
  refine j_aload_n (i := 0) C dL_law_396 rfl 0 rfl ?_
  refine j_iload C dL_law_397 4 rfl ?_
  refine j_iconst (v := nI 1) C dL_law_399 (by decide) ?_
  refine j_iadd C dL_law_400 ?_
  refine j_sld C SC (4 * t + 1) (nI_add (4 * t) 1) (by omega) hL dL_law_401 ?_
  refine j_aload_n (i := 0) C dL_law_402 rfl 0 rfl ?_
  refine j_iload C dL_law_403 4 rfl ?_
  refine j_iconst (v := nI 2) C dL_law_405 (by decide) ?_
  refine j_iadd C dL_law_406 ?_
  refine j_sld C SC (4 * t + 2) (nI_add (4 * t) 2) (by omega) hL dL_law_407 ?_
  refine j_aload_n (i := 3) C dL_law_408 rfl 3 rfl ?_
  refine j_callSW (nargs := 4) (As := [_, _, _, _]) C gw545 gw546 gw41 (kL_rename l htr D ct sa ad mcn φ σ qo g (WM ct a thr σ) (xs (4 * t + 1)) (xs (4 * t + 2)) hi) gw547 (by decide +kernel) rfl dL_law_409 ⟨Nat.le_of_ble_eq_true rfl, Nat.le_of_ble_eq_true rfl⟩ ⟨by show (_ : Nat) ≤ 601024; omega, by show (_ : Nat) ≤ 7293034; omega⟩ (Nat.le_of_ble_eq_true rfl) (fun r w hk2 => ?_)
  obtain ⟨rfl, ad2, mcn2, φ2, g2, ha, hg, rfl⟩ := hk2
  refine j_st (st1 := .int (f_rename σ (xs (4 * t + 1)) (xs (4 * t + 2))).1 :: []) rfl ?_
  refine j_swap (a := []) (b := WX ct sa ad2 mcn2 φ2 (f_rename σ (xs (4 * t + 1)) (xs (4 * t + 2))).2.2 ++ [oC ct qo g2]) (c0 := WM ct a thr σ) sw_a ?_
  refine j_istore (lv' := [(5, .int _), (0, .ref _), (1, .ref _), (2, .ref _), (3, .ref _), (4, .int _)]) C dL_law_412 (by decide) rfl ?_
  refine j_aload_n (i := 2) C dL_law_414 rfl 3 rfl ?_
  refine j_aload_n (i := 0) C dL_law_415 rfl 1 rfl ?_
  refine j_iload C dL_law_416 5 rfl ?_
  refine j_iconst (v := nI 1) C dL_law_418 (by decide) ?_
  refine j_iadd C dL_law_419 ?_
  refine j_sld C SC (4 * t + 1) (nI_add (4 * t) 1) (by omega) hL dL_law_420 ?_
  refine j_aload_n (i := 0) C dL_law_421 rfl 1 rfl ?_
  refine j_iload C dL_law_422 5 rfl ?_
  refine j_iconst (v := nI 2) C dL_law_424 (by decide) ?_
  refine j_iadd C dL_law_425 ?_
  refine j_sld C SC (4 * t + 2) (nI_add (4 * t) 2) (by omega) hL dL_law_426 ?_
  refine j_callV (nargs := 2) (As := [_, _]) (Cn := RX4) C (0) rfl rfl rfl gw754 gw755 gw756 gw49 (kX4_rename l D ct sa a thr σ (WX ct sa ad2 mcn2 φ2 (f_rename σ (xs (4 * t + 1)) (xs (4 * t + 2))).2.2 ++ [oC ct qo g2]) (xs (4 * t + 1)) (xs (4 * t + 2)) hi.1) gw757 (by decide +kernel) rfl dL_law_427 ⟨Nat.le_of_ble_eq_true rfl, Nat.le_of_ble_eq_true rfl⟩ ⟨by show (_ : Nat) ≤ 601024; omega, by show (_ : Nat) ≤ 7293034; omega⟩ (Nat.le_of_ble_eq_true rfl) (dki ?_)
  refine j_istore (lv' := [(6, .int _), (5, .int _), (0, .ref _), (1, .ref _), (2, .ref _), (3, .ref _), (4, .int _)]) C dL_law_430 (by decide) rfl ?_
  refine j_aload_n (i := 2) C dL_law_432 rfl 4 rfl ?_
  refine j_callV (nargs := 0) (As := []) (Cn := RX4) C (0) rfl rfl rfl gw699 gw700 gw701 gw49 (kX4_thrown l D ct sa a (f_rename σ (xs (4 * t + 1)) (xs (4 * t + 2))).1 (f_rename σ (xs (4 * t + 1)) (xs (4 * t + 2))).2.2 (WX ct sa ad2 mcn2 φ2 (f_rename σ (xs (4 * t + 1)) (xs (4 * t + 2))).2.2 ++ [oC ct qo g2])) gw702 (by decide +kernel) rfl dL_law_433 ⟨Nat.le_of_ble_eq_true rfl, Nat.le_of_ble_eq_true rfl⟩ ⟨by show (_ : Nat) ≤ 601024; omega, by show (_ : Nat) ≤ 7293034; omega⟩ (Nat.le_of_ble_eq_true rfl) (dki ?_)
  refine j_swap (a := []) (b := WM ct a (f_rename σ (xs (4 * t + 1)) (xs (4 * t + 2))).1 (f_rename σ (xs (4 * t + 1)) (xs (4 * t + 2))).2.2) (c0 := WX ct sa ad2 mcn2 φ2 (f_rename σ (xs (4 * t + 1)) (xs (4 * t + 2))).2.2 ++ [oC ct qo g2]) rfl ?_
  refine j_ws (ws1 := WX ct sa ad2 mcn2 φ2 (f_rename σ (xs (4 * t + 1)) (xs (4 * t + 2))).2.2 ++ (oC ct qo g2 :: WM ct a (f_rename σ (xs (4 * t + 1)) (xs (4 * t + 2))).1 (f_rename σ (xs (4 * t + 1)) (xs (4 * t + 2))).2.2)) sw_b ?_
  refine j_iload C dL_law_436 1 rfl ?_
  refine j_icmp_eq C 443 dL_law_438 (by decide) (fun c438 => ?_) (fun c438 => by exact absurd rfl c438)
  refine j_iload C dL_law_443 1 rfl ?_
  refine j_if_ne C 460 dL_law_445 (by decide) (fun c445 => ?_) (fun c445 => ?_)
  · refine j_goto C 1482 dL_law_460 (by decide) ?_
    exact j_lvs [2, 3, 4, 5, 6] rfl (j_widen (k1 := k + 800) (n1 := n + 4800) (by omega) (by omega) (kk _ _ _ _ _ _ (i1_rename hi) ha))
  · refine j_aload_n (i := 3) C dL_law_448 rfl 5 rfl ?_
    refine j_iconst (v := nI 0) C dL_law_449 (by decide) ?_
    refine j_lald C ((WX ct sa ad2 mcn2 φ2 (f_rename σ (xs (4 * t + 1)) (xs (4 * t + 2))).2.2).length) th_at0 (0) rfl (by decide) (by decide) dL_law_450 ?_
    refine j_iload C dL_law_451 0 rfl ?_
    refine j_i2l C dL_law_453 rfl ?_
    refine j_lcmpE C (hg c445) dL_law_454 ?_
    refine j_if_eq C 460 dL_law_455 (by decide) (fun c455 => ?_) (fun c455 => by exact absurd (by decide) c455)
    refine j_goto C 1482 dL_law_460 (by decide) ?_
    exact j_lvs [2, 3, 4, 5, 6] rfl (j_widen (k1 := k + 800) (n1 := n + 4800) (by omega) (by omega) (kk _ _ _ _ _ _ (i1_rename hi) ha))
set_option maxRecDepth 100000 in
set_option maxHeartbeats 800000 in
theorem kLaw_lose {X : Ctx} {l : Launch} {D : va_G} {ct : Nat → ClassId} {sa : Nat → Nat} (htr : l.stackTraces = false) (C : jC X l D ct sa cL_law 9 "LetterLocksLaw" rmL) {b L : Nat} {xs : Nat → Int32} (SC : jScr X b L xs) (hL : L ≤ 2048) (t : Nat) (ht : 4 * t + 4 ≤ L) (ad a : Nat → Nat) (mcn thr : Int32) (φ : LD) (σ : St) (qo : Nat) (g : Nat → Int64) (hi : Inv1 σ) (k n : Nat) (hk : k + 800 ≤ 601024) (hn : n + 4800 ≤ 7293034) (kk : ∀ (ad' : Nat → Nat) (mcn' thr' : Int32) (φ' : LD) (σ' : St) (g' : Nat → Int64), Inv1 σ' → ad' 0 = ad 0 → J X (WX ct sa ad' mcn' φ' σ' ++ (oC ct qo g' :: WM ct a thr' σ')) (k + 800) (n + 4800) 1482 (lvL b (ad 0) (a 0) qo (nI (4 * t))) []) : J X (WX ct sa ad mcn φ σ ++ (oC ct qo g :: WM ct a thr σ)) k n 463 (lvL b (ad 0) (a 0) qo (nI (4 * t))) [] := by
  refine j_aload_n (i := 1) C dL_law_463 rfl 1 rfl ?_
  refine j_aload_n (i := 0) C dL_law_464 rfl 0 rfl ?_
  refine j_iload C dL_law_465 4 rfl ?_
  refine j_iconst (v := nI 1) C dL_law_467 (by decide) ?_
  refine j_iadd C dL_law_468 ?_
  refine j_sld C SC (4 * t + 1) (nI_add (4 * t) 1) (by omega) hL dL_law_469 ?_
  refine j_aload_n (i := 0) C dL_law_470 rfl 0 rfl ?_
  refine j_iload C dL_law_471 4 rfl ?_
  refine j_iconst (v := nI 2) C dL_law_473 (by decide) ?_
  refine j_iadd C dL_law_474 ?_
  refine j_sld C SC (4 * t + 2) (nI_add (4 * t) 2) (by omega) hL dL_law_475 ?_
  refine j_if_eq C 483 dL_law_476 (by decide) (fun c476 => ?_) (fun c476 => ?_)
  · have hb : b01 (nI 0) := Or.inl rfl
    refine j_iconst (v := nI 0) C dL_law_483 (by decide) ?_
    refine j_aload_n (i := 3) C dL_law_484 rfl 3 rfl ?_
    refine j_callSW (nargs := 4) (As := [_, _, _, _]) C gw552 gw553 gw41 (kL_lose l htr D ct sa ad mcn φ σ qo g (WM ct a thr σ) (xs (4 * t + 1)) (nI 0) hi hb) gw554 (by decide +kernel) rfl dL_law_485 ⟨Nat.le_of_ble_eq_true rfl, Nat.le_of_ble_eq_true rfl⟩ ⟨by show (_ : Nat) ≤ 601024; omega, by show (_ : Nat) ≤ 7293034; omega⟩ (Nat.le_of_ble_eq_true rfl) (fun r w hk2 => ?_)
    obtain ⟨rfl, ad2, mcn2, φ2, g2, ha, hg, rfl⟩ := hk2
    refine j_st (st1 := .int (f_lose σ (xs (4 * t + 1)) (nI 0)).1 :: []) rfl ?_
    refine j_swap (a := []) (b := WX ct sa ad2 mcn2 φ2 (f_lose σ (xs (4 * t + 1)) (nI 0)).2.2 ++ [oC ct qo g2]) (c0 := WM ct a thr σ) sw_a ?_
    refine j_istore (lv' := [(5, .int _), (0, .ref _), (1, .ref _), (2, .ref _), (3, .ref _), (4, .int _)]) C dL_law_488 (by decide) rfl ?_
    refine j_aload_n (i := 2) C dL_law_490 rfl 3 rfl ?_
    refine j_aload_n (i := 0) C dL_law_491 rfl 1 rfl ?_
    refine j_iload C dL_law_492 5 rfl ?_
    refine j_iconst (v := nI 1) C dL_law_494 (by decide) ?_
    refine j_iadd C dL_law_495 ?_
    refine j_sld C SC (4 * t + 1) (nI_add (4 * t) 1) (by omega) hL dL_law_496 ?_
    refine j_aload_n (i := 0) C dL_law_497 rfl 1 rfl ?_
    refine j_iload C dL_law_498 5 rfl ?_
    refine j_iconst (v := nI 2) C dL_law_500 (by decide) ?_
    refine j_iadd C dL_law_501 ?_
    refine j_sld C SC (4 * t + 2) (nI_add (4 * t) 2) (by omega) hL dL_law_502 ?_
    refine j_if_eq C 510 dL_law_503 (by decide) (fun c503 => ?_) (fun c503 => by exact absurd c476 c503)
    refine j_iconst (v := nI 0) C dL_law_510 (by decide) ?_
    refine j_callV (nargs := 2) (As := [_, _]) (Cn := RX4) C (0) rfl rfl rfl gw758 gw759 gw760 gw49 (kX4_lose l D ct sa a thr σ (WX ct sa ad2 mcn2 φ2 (f_lose σ (xs (4 * t + 1)) (nI 0)).2.2 ++ [oC ct qo g2]) (xs (4 * t + 1)) (nI 0) hi.1) gw761 (by decide +kernel) rfl dL_law_511 ⟨Nat.le_of_ble_eq_true rfl, Nat.le_of_ble_eq_true rfl⟩ ⟨by show (_ : Nat) ≤ 601024; omega, by show (_ : Nat) ≤ 7293034; omega⟩ (Nat.le_of_ble_eq_true rfl) (dki ?_)
    refine j_istore (lv' := [(6, .int _), (5, .int _), (0, .ref _), (1, .ref _), (2, .ref _), (3, .ref _), (4, .int _)]) C dL_law_514 (by decide) rfl ?_
    refine j_aload_n (i := 2) C dL_law_516 rfl 4 rfl ?_
    refine j_callV (nargs := 0) (As := []) (Cn := RX4) C (0) rfl rfl rfl gw699 gw700 gw701 gw49 (kX4_thrown l D ct sa a (f_lose σ (xs (4 * t + 1)) (nI 0)).1 (f_lose σ (xs (4 * t + 1)) (nI 0)).2.2 (WX ct sa ad2 mcn2 φ2 (f_lose σ (xs (4 * t + 1)) (nI 0)).2.2 ++ [oC ct qo g2])) gw702 (by decide +kernel) rfl dL_law_517 ⟨Nat.le_of_ble_eq_true rfl, Nat.le_of_ble_eq_true rfl⟩ ⟨by show (_ : Nat) ≤ 601024; omega, by show (_ : Nat) ≤ 7293034; omega⟩ (Nat.le_of_ble_eq_true rfl) (dki ?_)
    refine j_swap (a := []) (b := WM ct a (f_lose σ (xs (4 * t + 1)) (nI 0)).1 (f_lose σ (xs (4 * t + 1)) (nI 0)).2.2) (c0 := WX ct sa ad2 mcn2 φ2 (f_lose σ (xs (4 * t + 1)) (nI 0)).2.2 ++ [oC ct qo g2]) rfl ?_
    refine j_ws (ws1 := WX ct sa ad2 mcn2 φ2 (f_lose σ (xs (4 * t + 1)) (nI 0)).2.2 ++ (oC ct qo g2 :: WM ct a (f_lose σ (xs (4 * t + 1)) (nI 0)).1 (f_lose σ (xs (4 * t + 1)) (nI 0)).2.2)) sw_b ?_
    refine j_iload C dL_law_520 1 rfl ?_
    refine j_icmp_eq C 527 dL_law_522 (by decide) (fun c522 => ?_) (fun c522 => by exact absurd rfl c522)
    refine j_iload C dL_law_527 1 rfl ?_
    refine j_if_ne C 551 dL_law_529 (by decide) (fun c529 => ?_) (fun c529 => ?_)
    · refine j_goto C 1482 dL_law_551 (by decide) ?_
      exact j_lvs [2, 3, 4, 5, 6] rfl (j_widen (k1 := k + 800) (n1 := n + 4800) (by omega) (by omega) (kk _ _ _ _ _ _ (i1_lose hi) ha))
    · refine j_aload_n (i := 3) C dL_law_532 rfl 5 rfl ?_
      refine j_iconst (v := nI 0) C dL_law_533 (by decide) ?_
      refine j_lald C ((WX ct sa ad2 mcn2 φ2 (f_lose σ (xs (4 * t + 1)) (nI 0)).2.2).length) th_at0 (0) rfl (by decide) (by decide) dL_law_534 ?_
      refine j_iload C dL_law_535 0 rfl ?_
      refine j_if_eq C 544 dL_law_537 (by decide) (fun c537 => ?_) (fun c537 => ?_)
      · refine j_lconst C dL_law_544 rfl ?_
        refine j_lcmpE C (by first | exact (hg c529).trans (l01_0 c537).symm | exact (hg c529).trans (l01_1 v01_lose c537).symm) dL_law_545 ?_
        refine j_if_eq C 551 dL_law_546 (by decide) (fun c546 => ?_) (fun c546 => by exact absurd (by decide) c546)
        refine j_goto C 1482 dL_law_551 (by decide) ?_
        exact j_lvs [2, 3, 4, 5, 6] rfl (j_widen (k1 := k + 800) (n1 := n + 4800) (by omega) (by omega) (kk _ _ _ _ _ _ (i1_lose hi) ha))
      · refine j_lconst C dL_law_540 rfl ?_
        refine j_goto C 545 dL_law_541 (by decide) ?_
        refine j_lcmpE C (by first | exact (hg c529).trans (l01_0 c537).symm | exact (hg c529).trans (l01_1 v01_lose c537).symm) dL_law_545 ?_
        refine j_if_eq C 551 dL_law_546 (by decide) (fun c546 => ?_) (fun c546 => by exact absurd (by decide) c546)
        refine j_goto C 1482 dL_law_551 (by decide) ?_
        exact j_lvs [2, 3, 4, 5, 6] rfl (j_widen (k1 := k + 800) (n1 := n + 4800) (by omega) (by omega) (kk _ _ _ _ _ _ (i1_lose hi) ha))
  · have hb : b01 (nI 1) := Or.inr rfl
    refine j_iconst (v := nI 1) C dL_law_479 (by decide) ?_
    refine j_goto C 484 dL_law_480 (by decide) ?_
    refine j_aload_n (i := 3) C dL_law_484 rfl 3 rfl ?_
    refine j_callSW (nargs := 4) (As := [_, _, _, _]) C gw552 gw553 gw41 (kL_lose l htr D ct sa ad mcn φ σ qo g (WM ct a thr σ) (xs (4 * t + 1)) (nI 1) hi hb) gw554 (by decide +kernel) rfl dL_law_485 ⟨Nat.le_of_ble_eq_true rfl, Nat.le_of_ble_eq_true rfl⟩ ⟨by show (_ : Nat) ≤ 601024; omega, by show (_ : Nat) ≤ 7293034; omega⟩ (Nat.le_of_ble_eq_true rfl) (fun r w hk2 => ?_)
    obtain ⟨rfl, ad2, mcn2, φ2, g2, ha, hg, rfl⟩ := hk2
    refine j_st (st1 := .int (f_lose σ (xs (4 * t + 1)) (nI 1)).1 :: []) rfl ?_
    refine j_swap (a := []) (b := WX ct sa ad2 mcn2 φ2 (f_lose σ (xs (4 * t + 1)) (nI 1)).2.2 ++ [oC ct qo g2]) (c0 := WM ct a thr σ) sw_a ?_
    refine j_istore (lv' := [(5, .int _), (0, .ref _), (1, .ref _), (2, .ref _), (3, .ref _), (4, .int _)]) C dL_law_488 (by decide) rfl ?_
    refine j_aload_n (i := 2) C dL_law_490 rfl 3 rfl ?_
    refine j_aload_n (i := 0) C dL_law_491 rfl 1 rfl ?_
    refine j_iload C dL_law_492 5 rfl ?_
    refine j_iconst (v := nI 1) C dL_law_494 (by decide) ?_
    refine j_iadd C dL_law_495 ?_
    refine j_sld C SC (4 * t + 1) (nI_add (4 * t) 1) (by omega) hL dL_law_496 ?_
    refine j_aload_n (i := 0) C dL_law_497 rfl 1 rfl ?_
    refine j_iload C dL_law_498 5 rfl ?_
    refine j_iconst (v := nI 2) C dL_law_500 (by decide) ?_
    refine j_iadd C dL_law_501 ?_
    refine j_sld C SC (4 * t + 2) (nI_add (4 * t) 2) (by omega) hL dL_law_502 ?_
    refine j_if_eq C 510 dL_law_503 (by decide) (fun c503 => by exact absurd c503 c476) (fun c503 => ?_)
    refine j_iconst (v := nI 1) C dL_law_506 (by decide) ?_
    refine j_goto C 511 dL_law_507 (by decide) ?_
    refine j_callV (nargs := 2) (As := [_, _]) (Cn := RX4) C (0) rfl rfl rfl gw758 gw759 gw760 gw49 (kX4_lose l D ct sa a thr σ (WX ct sa ad2 mcn2 φ2 (f_lose σ (xs (4 * t + 1)) (nI 1)).2.2 ++ [oC ct qo g2]) (xs (4 * t + 1)) (nI 1) hi.1) gw761 (by decide +kernel) rfl dL_law_511 ⟨Nat.le_of_ble_eq_true rfl, Nat.le_of_ble_eq_true rfl⟩ ⟨by show (_ : Nat) ≤ 601024; omega, by show (_ : Nat) ≤ 7293034; omega⟩ (Nat.le_of_ble_eq_true rfl) (dki ?_)
    refine j_istore (lv' := [(6, .int _), (5, .int _), (0, .ref _), (1, .ref _), (2, .ref _), (3, .ref _), (4, .int _)]) C dL_law_514 (by decide) rfl ?_
    refine j_aload_n (i := 2) C dL_law_516 rfl 4 rfl ?_
    refine j_callV (nargs := 0) (As := []) (Cn := RX4) C (0) rfl rfl rfl gw699 gw700 gw701 gw49 (kX4_thrown l D ct sa a (f_lose σ (xs (4 * t + 1)) (nI 1)).1 (f_lose σ (xs (4 * t + 1)) (nI 1)).2.2 (WX ct sa ad2 mcn2 φ2 (f_lose σ (xs (4 * t + 1)) (nI 1)).2.2 ++ [oC ct qo g2])) gw702 (by decide +kernel) rfl dL_law_517 ⟨Nat.le_of_ble_eq_true rfl, Nat.le_of_ble_eq_true rfl⟩ ⟨by show (_ : Nat) ≤ 601024; omega, by show (_ : Nat) ≤ 7293034; omega⟩ (Nat.le_of_ble_eq_true rfl) (dki ?_)
    refine j_swap (a := []) (b := WM ct a (f_lose σ (xs (4 * t + 1)) (nI 1)).1 (f_lose σ (xs (4 * t + 1)) (nI 1)).2.2) (c0 := WX ct sa ad2 mcn2 φ2 (f_lose σ (xs (4 * t + 1)) (nI 1)).2.2 ++ [oC ct qo g2]) rfl ?_
    refine j_ws (ws1 := WX ct sa ad2 mcn2 φ2 (f_lose σ (xs (4 * t + 1)) (nI 1)).2.2 ++ (oC ct qo g2 :: WM ct a (f_lose σ (xs (4 * t + 1)) (nI 1)).1 (f_lose σ (xs (4 * t + 1)) (nI 1)).2.2)) sw_b ?_
    refine j_iload C dL_law_520 1 rfl ?_
    refine j_icmp_eq C 527 dL_law_522 (by decide) (fun c522 => ?_) (fun c522 => by exact absurd rfl c522)
    refine j_iload C dL_law_527 1 rfl ?_
    refine j_if_ne C 551 dL_law_529 (by decide) (fun c529 => ?_) (fun c529 => ?_)
    · refine j_goto C 1482 dL_law_551 (by decide) ?_
      exact j_lvs [2, 3, 4, 5, 6] rfl (j_widen (k1 := k + 800) (n1 := n + 4800) (by omega) (by omega) (kk _ _ _ _ _ _ (i1_lose hi) ha))
    · refine j_aload_n (i := 3) C dL_law_532 rfl 5 rfl ?_
      refine j_iconst (v := nI 0) C dL_law_533 (by decide) ?_
      refine j_lald C ((WX ct sa ad2 mcn2 φ2 (f_lose σ (xs (4 * t + 1)) (nI 1)).2.2).length) th_at0 (0) rfl (by decide) (by decide) dL_law_534 ?_
      refine j_iload C dL_law_535 0 rfl ?_
      refine j_if_eq C 544 dL_law_537 (by decide) (fun c537 => ?_) (fun c537 => ?_)
      · refine j_lconst C dL_law_544 rfl ?_
        refine j_lcmpE C (by first | exact (hg c529).trans (l01_0 c537).symm | exact (hg c529).trans (l01_1 v01_lose c537).symm) dL_law_545 ?_
        refine j_if_eq C 551 dL_law_546 (by decide) (fun c546 => ?_) (fun c546 => by exact absurd (by decide) c546)
        refine j_goto C 1482 dL_law_551 (by decide) ?_
        exact j_lvs [2, 3, 4, 5, 6] rfl (j_widen (k1 := k + 800) (n1 := n + 4800) (by omega) (by omega) (kk _ _ _ _ _ _ (i1_lose hi) ha))
      · refine j_lconst C dL_law_540 rfl ?_
        refine j_goto C 545 dL_law_541 (by decide) ?_
        refine j_lcmpE C (by first | exact (hg c529).trans (l01_0 c537).symm | exact (hg c529).trans (l01_1 v01_lose c537).symm) dL_law_545 ?_
        refine j_if_eq C 551 dL_law_546 (by decide) (fun c546 => ?_) (fun c546 => by exact absurd (by decide) c546)
        refine j_goto C 1482 dL_law_551 (by decide) ?_
        exact j_lvs [2, 3, 4, 5, 6] rfl (j_widen (k1 := k + 800) (n1 := n + 4800) (by omega) (by omega) (kk _ _ _ _ _ _ (i1_lose hi) ha))
set_option maxRecDepth 100000 in
set_option maxHeartbeats 800000 in
theorem kLaw_setPlaces {X : Ctx} {l : Launch} {D : va_G} {ct : Nat → ClassId} {sa : Nat → Nat} (htr : l.stackTraces = false) (C : jC X l D ct sa cL_law 9 "LetterLocksLaw" rmL) {b L : Nat} {xs : Nat → Int32} (SC : jScr X b L xs) (hL : L ≤ 2048) (t : Nat) (ht : 4 * t + 4 ≤ L) (ad a : Nat → Nat) (mcn thr : Int32) (φ : LD) (σ : St) (qo : Nat) (g : Nat → Int64) (hi : Inv1 σ) (k n : Nat) (hk : k + 800 ≤ 601024) (hn : n + 4800 ≤ 7293034) (kk : ∀ (ad' : Nat → Nat) (mcn' thr' : Int32) (φ' : LD) (σ' : St) (g' : Nat → Int64), Inv1 σ' → ad' 0 = ad 0 → J X (WX ct sa ad' mcn' φ' σ' ++ (oC ct qo g' :: WM ct a thr' σ')) (k + 800) (n + 4800) 1482 (lvL b (ad 0) (a 0) qo (nI (4 * t))) []) : J X (WX ct sa ad mcn φ σ ++ (oC ct qo g :: WM ct a thr σ)) k n 554 (lvL b (ad 0) (a 0) qo (nI (4 * t))) [] := by
  refine j_aload_n (i := 1) C dL_law_554 rfl 1 rfl ?_
  refine j_aload_n (i := 0) C dL_law_555 rfl 0 rfl ?_
  refine j_iload C dL_law_556 4 rfl ?_
  refine j_iconst (v := nI 1) C dL_law_558 (by decide) ?_
  refine j_iadd C dL_law_559 ?_
  refine j_sld C SC (4 * t + 1) (nI_add (4 * t) 1) (by omega) hL dL_law_560 ?_
  refine j_aload_n (i := 0) C dL_law_561 rfl 0 rfl ?_
  refine j_iload C dL_law_562 4 rfl ?_
  refine j_iconst (v := nI 2) C dL_law_564 (by decide) ?_
  refine j_iadd C dL_law_565 ?_
  refine j_sld C SC (4 * t + 2) (nI_add (4 * t) 2) (by omega) hL dL_law_566 ?_
  refine j_aload_n (i := 3) C dL_law_567 rfl 3 rfl ?_
  refine j_callSW (nargs := 4) (As := [_, _, _, _]) C gw559 gw560 gw41 (kL_setPlaces l htr D ct sa ad mcn φ σ qo g (WM ct a thr σ) (xs (4 * t + 1)) (xs (4 * t + 2)) hi) gw561 (by decide +kernel) rfl dL_law_568 ⟨Nat.le_of_ble_eq_true rfl, Nat.le_of_ble_eq_true rfl⟩ ⟨by show (_ : Nat) ≤ 601024; omega, by show (_ : Nat) ≤ 7293034; omega⟩ (Nat.le_of_ble_eq_true rfl) (fun r w hk2 => ?_)
  obtain ⟨rfl, ad2, mcn2, φ2, g2, ha, hg, rfl⟩ := hk2
  refine j_st (st1 := .int (f_setPlaces σ (xs (4 * t + 1)) (xs (4 * t + 2))).1 :: []) rfl ?_
  refine j_swap (a := []) (b := WX ct sa ad2 mcn2 φ2 (f_setPlaces σ (xs (4 * t + 1)) (xs (4 * t + 2))).2.2 ++ [oC ct qo g2]) (c0 := WM ct a thr σ) sw_a ?_
  refine j_istore (lv' := [(5, .int _), (0, .ref _), (1, .ref _), (2, .ref _), (3, .ref _), (4, .int _)]) C dL_law_571 (by decide) rfl ?_
  refine j_aload_n (i := 2) C dL_law_573 rfl 3 rfl ?_
  refine j_aload_n (i := 0) C dL_law_574 rfl 1 rfl ?_
  refine j_iload C dL_law_575 5 rfl ?_
  refine j_iconst (v := nI 1) C dL_law_577 (by decide) ?_
  refine j_iadd C dL_law_578 ?_
  refine j_sld C SC (4 * t + 1) (nI_add (4 * t) 1) (by omega) hL dL_law_579 ?_
  refine j_aload_n (i := 0) C dL_law_580 rfl 1 rfl ?_
  refine j_iload C dL_law_581 5 rfl ?_
  refine j_iconst (v := nI 2) C dL_law_583 (by decide) ?_
  refine j_iadd C dL_law_584 ?_
  refine j_sld C SC (4 * t + 2) (nI_add (4 * t) 2) (by omega) hL dL_law_585 ?_
  refine j_callV (nargs := 2) (As := [_, _]) (Cn := RX4) C (0) rfl rfl rfl gw762 gw763 gw764 gw49 (kX4_setPlaces l D ct sa a thr σ (WX ct sa ad2 mcn2 φ2 (f_setPlaces σ (xs (4 * t + 1)) (xs (4 * t + 2))).2.2 ++ [oC ct qo g2]) (xs (4 * t + 1)) (xs (4 * t + 2)) hi.1) gw765 (by decide +kernel) rfl dL_law_586 ⟨Nat.le_of_ble_eq_true rfl, Nat.le_of_ble_eq_true rfl⟩ ⟨by show (_ : Nat) ≤ 601024; omega, by show (_ : Nat) ≤ 7293034; omega⟩ (Nat.le_of_ble_eq_true rfl) (dki ?_)
  refine j_istore (lv' := [(6, .int _), (5, .int _), (0, .ref _), (1, .ref _), (2, .ref _), (3, .ref _), (4, .int _)]) C dL_law_589 (by decide) rfl ?_
  refine j_aload_n (i := 2) C dL_law_591 rfl 4 rfl ?_
  refine j_callV (nargs := 0) (As := []) (Cn := RX4) C (0) rfl rfl rfl gw699 gw700 gw701 gw49 (kX4_thrown l D ct sa a (f_setPlaces σ (xs (4 * t + 1)) (xs (4 * t + 2))).1 (f_setPlaces σ (xs (4 * t + 1)) (xs (4 * t + 2))).2.2 (WX ct sa ad2 mcn2 φ2 (f_setPlaces σ (xs (4 * t + 1)) (xs (4 * t + 2))).2.2 ++ [oC ct qo g2])) gw702 (by decide +kernel) rfl dL_law_592 ⟨Nat.le_of_ble_eq_true rfl, Nat.le_of_ble_eq_true rfl⟩ ⟨by show (_ : Nat) ≤ 601024; omega, by show (_ : Nat) ≤ 7293034; omega⟩ (Nat.le_of_ble_eq_true rfl) (dki ?_)
  refine j_swap (a := []) (b := WM ct a (f_setPlaces σ (xs (4 * t + 1)) (xs (4 * t + 2))).1 (f_setPlaces σ (xs (4 * t + 1)) (xs (4 * t + 2))).2.2) (c0 := WX ct sa ad2 mcn2 φ2 (f_setPlaces σ (xs (4 * t + 1)) (xs (4 * t + 2))).2.2 ++ [oC ct qo g2]) rfl ?_
  refine j_ws (ws1 := WX ct sa ad2 mcn2 φ2 (f_setPlaces σ (xs (4 * t + 1)) (xs (4 * t + 2))).2.2 ++ (oC ct qo g2 :: WM ct a (f_setPlaces σ (xs (4 * t + 1)) (xs (4 * t + 2))).1 (f_setPlaces σ (xs (4 * t + 1)) (xs (4 * t + 2))).2.2)) sw_b ?_
  refine j_iload C dL_law_595 1 rfl ?_
  refine j_icmp_eq C 602 dL_law_597 (by decide) (fun c597 => ?_) (fun c597 => by exact absurd rfl c597)
  refine j_iload C dL_law_602 1 rfl ?_
  refine j_if_ne C 619 dL_law_604 (by decide) (fun c604 => ?_) (fun c604 => ?_)
  · refine j_goto C 1482 dL_law_619 (by decide) ?_
    exact j_lvs [2, 3, 4, 5, 6] rfl (j_widen (k1 := k + 800) (n1 := n + 4800) (by omega) (by omega) (kk _ _ _ _ _ _ (i1_setPlaces hi) ha))
  · refine j_aload_n (i := 3) C dL_law_607 rfl 5 rfl ?_
    refine j_iconst (v := nI 0) C dL_law_608 (by decide) ?_
    refine j_lald C ((WX ct sa ad2 mcn2 φ2 (f_setPlaces σ (xs (4 * t + 1)) (xs (4 * t + 2))).2.2).length) th_at0 (0) rfl (by decide) (by decide) dL_law_609 ?_
    refine j_iload C dL_law_610 0 rfl ?_
    refine j_i2l C dL_law_612 rfl ?_
    refine j_lcmpE C (hg c604) dL_law_613 ?_
    refine j_if_eq C 619 dL_law_614 (by decide) (fun c614 => ?_) (fun c614 => by exact absurd (by decide) c614)
    refine j_goto C 1482 dL_law_619 (by decide) ?_
    exact j_lvs [2, 3, 4, 5, 6] rfl (j_widen (k1 := k + 800) (n1 := n + 4800) (by omega) (by omega) (kk _ _ _ _ _ _ (i1_setPlaces hi) ha))
set_option maxRecDepth 100000 in
set_option maxHeartbeats 800000 in
theorem kLaw_setHours {X : Ctx} {l : Launch} {D : va_G} {ct : Nat → ClassId} {sa : Nat → Nat} (htr : l.stackTraces = false) (C : jC X l D ct sa cL_law 9 "LetterLocksLaw" rmL) {b L : Nat} {xs : Nat → Int32} (SC : jScr X b L xs) (hL : L ≤ 2048) (t : Nat) (ht : 4 * t + 4 ≤ L) (ad a : Nat → Nat) (mcn thr : Int32) (φ : LD) (σ : St) (qo : Nat) (g : Nat → Int64) (hi : Inv1 σ) (k n : Nat) (hk : k + 800 ≤ 601024) (hn : n + 4800 ≤ 7293034) (kk : ∀ (ad' : Nat → Nat) (mcn' thr' : Int32) (φ' : LD) (σ' : St) (g' : Nat → Int64), Inv1 σ' → ad' 0 = ad 0 → J X (WX ct sa ad' mcn' φ' σ' ++ (oC ct qo g' :: WM ct a thr' σ')) (k + 800) (n + 4800) 1482 (lvL b (ad 0) (a 0) qo (nI (4 * t))) []) : J X (WX ct sa ad mcn φ σ ++ (oC ct qo g :: WM ct a thr σ)) k n 622 (lvL b (ad 0) (a 0) qo (nI (4 * t))) [] := by
  refine j_aload_n (i := 1) C dL_law_622 rfl 1 rfl ?_
  refine j_aload_n (i := 0) C dL_law_623 rfl 0 rfl ?_
  refine j_iload C dL_law_624 4 rfl ?_
  refine j_iconst (v := nI 1) C dL_law_626 (by decide) ?_
  refine j_iadd C dL_law_627 ?_
  refine j_sld C SC (4 * t + 1) (nI_add (4 * t) 1) (by omega) hL dL_law_628 ?_
  refine j_aload_n (i := 0) C dL_law_629 rfl 0 rfl ?_
  refine j_iload C dL_law_630 4 rfl ?_
  refine j_iconst (v := nI 2) C dL_law_632 (by decide) ?_
  refine j_iadd C dL_law_633 ?_
  refine j_sld C SC (4 * t + 2) (nI_add (4 * t) 2) (by omega) hL dL_law_634 ?_
  refine j_aload_n (i := 0) C dL_law_635 rfl 0 rfl ?_
  refine j_iload C dL_law_636 4 rfl ?_
  refine j_iconst (v := nI 3) C dL_law_638 (by decide) ?_
  refine j_iadd C dL_law_639 ?_
  refine j_sld C SC (4 * t + 3) (nI_add (4 * t) 3) (by omega) hL dL_law_640 ?_
  refine j_aload_n (i := 3) C dL_law_641 rfl 3 rfl ?_
  refine j_callSW (nargs := 5) (As := [_, _, _, _, _]) C gw568 gw569 gw41 (kL_setHours l htr D ct sa ad mcn φ σ qo g (WM ct a thr σ) (xs (4 * t + 1)) (xs (4 * t + 2)) (xs (4 * t + 3)) hi) gw570 (by decide +kernel) rfl dL_law_642 ⟨Nat.le_of_ble_eq_true rfl, Nat.le_of_ble_eq_true rfl⟩ ⟨by show (_ : Nat) ≤ 601024; omega, by show (_ : Nat) ≤ 7293034; omega⟩ (Nat.le_of_ble_eq_true rfl) (fun r w hk2 => ?_)
  obtain ⟨rfl, ad2, mcn2, φ2, g2, ha, hg, rfl⟩ := hk2
  refine j_st (st1 := .int (f_setHours σ (xs (4 * t + 1)) (xs (4 * t + 2)) (xs (4 * t + 3))).1 :: []) rfl ?_
  refine j_swap (a := []) (b := WX ct sa ad2 mcn2 φ2 (f_setHours σ (xs (4 * t + 1)) (xs (4 * t + 2)) (xs (4 * t + 3))).2.2 ++ [oC ct qo g2]) (c0 := WM ct a thr σ) sw_a ?_
  refine j_istore (lv' := [(5, .int _), (0, .ref _), (1, .ref _), (2, .ref _), (3, .ref _), (4, .int _)]) C dL_law_645 (by decide) rfl ?_
  refine j_aload_n (i := 2) C dL_law_647 rfl 3 rfl ?_
  refine j_aload_n (i := 0) C dL_law_648 rfl 1 rfl ?_
  refine j_iload C dL_law_649 5 rfl ?_
  refine j_iconst (v := nI 1) C dL_law_651 (by decide) ?_
  refine j_iadd C dL_law_652 ?_
  refine j_sld C SC (4 * t + 1) (nI_add (4 * t) 1) (by omega) hL dL_law_653 ?_
  refine j_aload_n (i := 0) C dL_law_654 rfl 1 rfl ?_
  refine j_iload C dL_law_655 5 rfl ?_
  refine j_iconst (v := nI 2) C dL_law_657 (by decide) ?_
  refine j_iadd C dL_law_658 ?_
  refine j_sld C SC (4 * t + 2) (nI_add (4 * t) 2) (by omega) hL dL_law_659 ?_
  refine j_aload_n (i := 0) C dL_law_660 rfl 1 rfl ?_
  refine j_iload C dL_law_661 5 rfl ?_
  refine j_iconst (v := nI 3) C dL_law_663 (by decide) ?_
  refine j_iadd C dL_law_664 ?_
  refine j_sld C SC (4 * t + 3) (nI_add (4 * t) 3) (by omega) hL dL_law_665 ?_
  refine j_callV (nargs := 3) (As := [_, _, _]) (Cn := RX4) C (0) rfl rfl rfl gw777 gw778 gw779 gw49 (kX4_setHours l D ct sa a thr σ (WX ct sa ad2 mcn2 φ2 (f_setHours σ (xs (4 * t + 1)) (xs (4 * t + 2)) (xs (4 * t + 3))).2.2 ++ [oC ct qo g2]) (xs (4 * t + 1)) (xs (4 * t + 2)) (xs (4 * t + 3)) hi.1) gw780 (by decide +kernel) rfl dL_law_666 ⟨Nat.le_of_ble_eq_true rfl, Nat.le_of_ble_eq_true rfl⟩ ⟨by show (_ : Nat) ≤ 601024; omega, by show (_ : Nat) ≤ 7293034; omega⟩ (Nat.le_of_ble_eq_true rfl) (dki ?_)
  refine j_istore (lv' := [(6, .int _), (5, .int _), (0, .ref _), (1, .ref _), (2, .ref _), (3, .ref _), (4, .int _)]) C dL_law_669 (by decide) rfl ?_
  refine j_aload_n (i := 2) C dL_law_671 rfl 4 rfl ?_
  refine j_callV (nargs := 0) (As := []) (Cn := RX4) C (0) rfl rfl rfl gw699 gw700 gw701 gw49 (kX4_thrown l D ct sa a (f_setHours σ (xs (4 * t + 1)) (xs (4 * t + 2)) (xs (4 * t + 3))).1 (f_setHours σ (xs (4 * t + 1)) (xs (4 * t + 2)) (xs (4 * t + 3))).2.2 (WX ct sa ad2 mcn2 φ2 (f_setHours σ (xs (4 * t + 1)) (xs (4 * t + 2)) (xs (4 * t + 3))).2.2 ++ [oC ct qo g2])) gw702 (by decide +kernel) rfl dL_law_672 ⟨Nat.le_of_ble_eq_true rfl, Nat.le_of_ble_eq_true rfl⟩ ⟨by show (_ : Nat) ≤ 601024; omega, by show (_ : Nat) ≤ 7293034; omega⟩ (Nat.le_of_ble_eq_true rfl) (dki ?_)
  refine j_swap (a := []) (b := WM ct a (f_setHours σ (xs (4 * t + 1)) (xs (4 * t + 2)) (xs (4 * t + 3))).1 (f_setHours σ (xs (4 * t + 1)) (xs (4 * t + 2)) (xs (4 * t + 3))).2.2) (c0 := WX ct sa ad2 mcn2 φ2 (f_setHours σ (xs (4 * t + 1)) (xs (4 * t + 2)) (xs (4 * t + 3))).2.2 ++ [oC ct qo g2]) rfl ?_
  refine j_ws (ws1 := WX ct sa ad2 mcn2 φ2 (f_setHours σ (xs (4 * t + 1)) (xs (4 * t + 2)) (xs (4 * t + 3))).2.2 ++ (oC ct qo g2 :: WM ct a (f_setHours σ (xs (4 * t + 1)) (xs (4 * t + 2)) (xs (4 * t + 3))).1 (f_setHours σ (xs (4 * t + 1)) (xs (4 * t + 2)) (xs (4 * t + 3))).2.2)) sw_b ?_
  refine j_iload C dL_law_675 1 rfl ?_
  refine j_icmp_eq C 682 dL_law_677 (by decide) (fun c677 => ?_) (fun c677 => by exact absurd rfl c677)
  refine j_iload C dL_law_682 1 rfl ?_
  refine j_if_ne C 699 dL_law_684 (by decide) (fun c684 => ?_) (fun c684 => ?_)
  · refine j_goto C 1482 dL_law_699 (by decide) ?_
    exact j_lvs [2, 3, 4, 5, 6] rfl (j_widen (k1 := k + 800) (n1 := n + 4800) (by omega) (by omega) (kk _ _ _ _ _ _ (i1_setHours hi) ha))
  · refine j_aload_n (i := 3) C dL_law_687 rfl 5 rfl ?_
    refine j_iconst (v := nI 0) C dL_law_688 (by decide) ?_
    refine j_lald C ((WX ct sa ad2 mcn2 φ2 (f_setHours σ (xs (4 * t + 1)) (xs (4 * t + 2)) (xs (4 * t + 3))).2.2).length) th_at0 (0) rfl (by decide) (by decide) dL_law_689 ?_
    refine j_iload C dL_law_690 0 rfl ?_
    refine j_i2l C dL_law_692 rfl ?_
    refine j_lcmpE C (hg c684) dL_law_693 ?_
    refine j_if_eq C 699 dL_law_694 (by decide) (fun c694 => ?_) (fun c694 => by exact absurd (by decide) c694)
    refine j_goto C 1482 dL_law_699 (by decide) ?_
    exact j_lvs [2, 3, 4, 5, 6] rfl (j_widen (k1 := k + 800) (n1 := n + 4800) (by omega) (by omega) (kk _ _ _ _ _ _ (i1_setHours hi) ha))
set_option maxRecDepth 100000 in
set_option maxHeartbeats 800000 in
theorem kLaw_put {X : Ctx} {l : Launch} {D : va_G} {ct : Nat → ClassId} {sa : Nat → Nat} (htr : l.stackTraces = false) (C : jC X l D ct sa cL_law 9 "LetterLocksLaw" rmL) {b L : Nat} {xs : Nat → Int32} (SC : jScr X b L xs) (hL : L ≤ 2048) (t : Nat) (ht : 4 * t + 4 ≤ L) (ad a : Nat → Nat) (mcn thr : Int32) (φ : LD) (σ : St) (qo : Nat) (g : Nat → Int64) (hi : Inv1 σ) (k n : Nat) (hk : k + 800 ≤ 601024) (hn : n + 4800 ≤ 7293034) (kk : ∀ (ad' : Nat → Nat) (mcn' thr' : Int32) (φ' : LD) (σ' : St) (g' : Nat → Int64), Inv1 σ' → ad' 0 = ad 0 → J X (WX ct sa ad' mcn' φ' σ' ++ (oC ct qo g' :: WM ct a thr' σ')) (k + 800) (n + 4800) 1482 (lvL b (ad 0) (a 0) qo (nI (4 * t))) []) : J X (WX ct sa ad mcn φ σ ++ (oC ct qo g :: WM ct a thr σ)) k n 702 (lvL b (ad 0) (a 0) qo (nI (4 * t))) [] := by
  refine j_aload_n (i := 1) C dL_law_702 rfl 1 rfl ?_
  refine j_aload_n (i := 0) C dL_law_703 rfl 0 rfl ?_
  refine j_iload C dL_law_704 4 rfl ?_
  refine j_iconst (v := nI 1) C dL_law_706 (by decide) ?_
  refine j_iadd C dL_law_707 ?_
  refine j_sld C SC (4 * t + 1) (nI_add (4 * t) 1) (by omega) hL dL_law_708 ?_
  refine j_aload_n (i := 0) C dL_law_709 rfl 0 rfl ?_
  refine j_iload C dL_law_710 4 rfl ?_
  refine j_iconst (v := nI 2) C dL_law_712 (by decide) ?_
  refine j_iadd C dL_law_713 ?_
  refine j_sld C SC (4 * t + 2) (nI_add (4 * t) 2) (by omega) hL dL_law_714 ?_
  refine j_aload_n (i := 3) C dL_law_715 rfl 3 rfl ?_
  refine j_callSW (nargs := 4) (As := [_, _, _, _]) C gw576 gw577 gw41 (kL_put l htr D ct sa ad mcn φ σ qo g (WM ct a thr σ) (xs (4 * t + 1)) (xs (4 * t + 2)) hi) gw578 (by decide +kernel) rfl dL_law_716 ⟨Nat.le_of_ble_eq_true rfl, Nat.le_of_ble_eq_true rfl⟩ ⟨by show (_ : Nat) ≤ 601024; omega, by show (_ : Nat) ≤ 7293034; omega⟩ (Nat.le_of_ble_eq_true rfl) (fun r w hk2 => ?_)
  obtain ⟨rfl, ad2, mcn2, φ2, g2, ha, hg, rfl⟩ := hk2
  refine j_st (st1 := .int (f_put σ (xs (4 * t + 1)) (xs (4 * t + 2))).1 :: []) rfl ?_
  refine j_swap (a := []) (b := WX ct sa ad2 mcn2 φ2 (f_put σ (xs (4 * t + 1)) (xs (4 * t + 2))).2.2 ++ [oC ct qo g2]) (c0 := WM ct a thr σ) sw_a ?_
  refine j_istore (lv' := [(5, .int _), (0, .ref _), (1, .ref _), (2, .ref _), (3, .ref _), (4, .int _)]) C dL_law_719 (by decide) rfl ?_
  refine j_aload_n (i := 2) C dL_law_721 rfl 3 rfl ?_
  refine j_aload_n (i := 0) C dL_law_722 rfl 1 rfl ?_
  refine j_iload C dL_law_723 5 rfl ?_
  refine j_iconst (v := nI 1) C dL_law_725 (by decide) ?_
  refine j_iadd C dL_law_726 ?_
  refine j_sld C SC (4 * t + 1) (nI_add (4 * t) 1) (by omega) hL dL_law_727 ?_
  refine j_aload_n (i := 0) C dL_law_728 rfl 1 rfl ?_
  refine j_iload C dL_law_729 5 rfl ?_
  refine j_iconst (v := nI 2) C dL_law_731 (by decide) ?_
  refine j_iadd C dL_law_732 ?_
  refine j_sld C SC (4 * t + 2) (nI_add (4 * t) 2) (by omega) hL dL_law_733 ?_
  refine j_callV (nargs := 2) (As := [_, _]) (Cn := RX4) C (0) rfl rfl rfl gw781 gw782 gw783 gw49 (kX4_put l D ct sa a thr σ (WX ct sa ad2 mcn2 φ2 (f_put σ (xs (4 * t + 1)) (xs (4 * t + 2))).2.2 ++ [oC ct qo g2]) (xs (4 * t + 1)) (xs (4 * t + 2)) hi.1) gw784 (by decide +kernel) rfl dL_law_734 ⟨Nat.le_of_ble_eq_true rfl, Nat.le_of_ble_eq_true rfl⟩ ⟨by show (_ : Nat) ≤ 601024; omega, by show (_ : Nat) ≤ 7293034; omega⟩ (Nat.le_of_ble_eq_true rfl) (dki ?_)
  refine j_istore (lv' := [(6, .int _), (5, .int _), (0, .ref _), (1, .ref _), (2, .ref _), (3, .ref _), (4, .int _)]) C dL_law_737 (by decide) rfl ?_
  refine j_aload_n (i := 2) C dL_law_739 rfl 4 rfl ?_
  refine j_callV (nargs := 0) (As := []) (Cn := RX4) C (0) rfl rfl rfl gw699 gw700 gw701 gw49 (kX4_thrown l D ct sa a (f_put σ (xs (4 * t + 1)) (xs (4 * t + 2))).1 (f_put σ (xs (4 * t + 1)) (xs (4 * t + 2))).2.2 (WX ct sa ad2 mcn2 φ2 (f_put σ (xs (4 * t + 1)) (xs (4 * t + 2))).2.2 ++ [oC ct qo g2])) gw702 (by decide +kernel) rfl dL_law_740 ⟨Nat.le_of_ble_eq_true rfl, Nat.le_of_ble_eq_true rfl⟩ ⟨by show (_ : Nat) ≤ 601024; omega, by show (_ : Nat) ≤ 7293034; omega⟩ (Nat.le_of_ble_eq_true rfl) (dki ?_)
  refine j_swap (a := []) (b := WM ct a (f_put σ (xs (4 * t + 1)) (xs (4 * t + 2))).1 (f_put σ (xs (4 * t + 1)) (xs (4 * t + 2))).2.2) (c0 := WX ct sa ad2 mcn2 φ2 (f_put σ (xs (4 * t + 1)) (xs (4 * t + 2))).2.2 ++ [oC ct qo g2]) rfl ?_
  refine j_ws (ws1 := WX ct sa ad2 mcn2 φ2 (f_put σ (xs (4 * t + 1)) (xs (4 * t + 2))).2.2 ++ (oC ct qo g2 :: WM ct a (f_put σ (xs (4 * t + 1)) (xs (4 * t + 2))).1 (f_put σ (xs (4 * t + 1)) (xs (4 * t + 2))).2.2)) sw_b ?_
  refine j_iload C dL_law_743 1 rfl ?_
  refine j_icmp_eq C 750 dL_law_745 (by decide) (fun c745 => ?_) (fun c745 => by exact absurd rfl c745)
  refine j_iload C dL_law_750 1 rfl ?_
  refine j_if_ne C 767 dL_law_752 (by decide) (fun c752 => ?_) (fun c752 => ?_)
  · refine j_goto C 1482 dL_law_767 (by decide) ?_
    exact j_lvs [2, 3, 4, 5, 6] rfl (j_widen (k1 := k + 800) (n1 := n + 4800) (by omega) (by omega) (kk _ _ _ _ _ _ (i1_put hi) ha))
  · refine j_aload_n (i := 3) C dL_law_755 rfl 5 rfl ?_
    refine j_iconst (v := nI 0) C dL_law_756 (by decide) ?_
    refine j_lald C ((WX ct sa ad2 mcn2 φ2 (f_put σ (xs (4 * t + 1)) (xs (4 * t + 2))).2.2).length) th_at0 (0) rfl (by decide) (by decide) dL_law_757 ?_
    refine j_iload C dL_law_758 0 rfl ?_
    refine j_i2l C dL_law_760 rfl ?_
    refine j_lcmpE C (hg c752) dL_law_761 ?_
    refine j_if_eq C 767 dL_law_762 (by decide) (fun c762 => ?_) (fun c762 => by exact absurd (by decide) c762)
    refine j_goto C 1482 dL_law_767 (by decide) ?_
    exact j_lvs [2, 3, 4, 5, 6] rfl (j_widen (k1 := k + 800) (n1 := n + 4800) (by omega) (by omega) (kk _ _ _ _ _ _ (i1_put hi) ha))
set_option maxRecDepth 100000 in
set_option maxHeartbeats 800000 in
theorem kLaw_told {X : Ctx} {l : Launch} {D : va_G} {ct : Nat → ClassId} {sa : Nat → Nat} (htr : l.stackTraces = false) (C : jC X l D ct sa cL_law 9 "LetterLocksLaw" rmL) {b L : Nat} {xs : Nat → Int32} (SC : jScr X b L xs) (hL : L ≤ 2048) (t : Nat) (ht : 4 * t + 4 ≤ L) (ad a : Nat → Nat) (mcn thr : Int32) (φ : LD) (σ : St) (qo : Nat) (g : Nat → Int64) (hi : Inv1 σ) (k n : Nat) (hk : k + 800 ≤ 601024) (hn : n + 4800 ≤ 7293034) (kk : ∀ (ad' : Nat → Nat) (mcn' thr' : Int32) (φ' : LD) (σ' : St) (g' : Nat → Int64), Inv1 σ' → ad' 0 = ad 0 → J X (WX ct sa ad' mcn' φ' σ' ++ (oC ct qo g' :: WM ct a thr' σ')) (k + 800) (n + 4800) 1482 (lvL b (ad 0) (a 0) qo (nI (4 * t))) []) : J X (WX ct sa ad mcn φ σ ++ (oC ct qo g :: WM ct a thr σ)) k n 770 (lvL b (ad 0) (a 0) qo (nI (4 * t))) [] := by
  refine j_aload_n (i := 1) C dL_law_770 rfl 1 rfl ?_
  refine j_aload_n (i := 0) C dL_law_771 rfl 0 rfl ?_
  refine j_iload C dL_law_772 4 rfl ?_
  refine j_iconst (v := nI 1) C dL_law_774 (by decide) ?_
  refine j_iadd C dL_law_775 ?_
  refine j_sld C SC (4 * t + 1) (nI_add (4 * t) 1) (by omega) hL dL_law_776 ?_
  refine j_aload_n (i := 0) C dL_law_777 rfl 0 rfl ?_
  refine j_iload C dL_law_778 4 rfl ?_
  refine j_iconst (v := nI 2) C dL_law_780 (by decide) ?_
  refine j_iadd C dL_law_781 ?_
  refine j_sld C SC (4 * t + 2) (nI_add (4 * t) 2) (by omega) hL dL_law_782 ?_
  refine j_aload_n (i := 3) C dL_law_783 rfl 3 rfl ?_
  refine j_callSW (nargs := 4) (As := [_, _, _, _]) C gw588 gw589 gw41 (kL_told l htr D ct sa ad mcn φ σ qo g (WM ct a thr σ) (xs (4 * t + 1)) (xs (4 * t + 2)) hi) gw590 (by decide +kernel) rfl dL_law_784 ⟨Nat.le_of_ble_eq_true rfl, Nat.le_of_ble_eq_true rfl⟩ ⟨by show (_ : Nat) ≤ 601024; omega, by show (_ : Nat) ≤ 7293034; omega⟩ (Nat.le_of_ble_eq_true rfl) (fun r w hk2 => ?_)
  obtain ⟨rfl, ad2, mcn2, φ2, g2, ha, hg, rfl⟩ := hk2
  refine j_st (st1 := .int (f_told σ (xs (4 * t + 1)) (xs (4 * t + 2))).1 :: []) rfl ?_
  refine j_swap (a := []) (b := WX ct sa ad2 mcn2 φ2 (f_told σ (xs (4 * t + 1)) (xs (4 * t + 2))).2.2 ++ [oC ct qo g2]) (c0 := WM ct a thr σ) sw_a ?_
  refine j_istore (lv' := [(5, .int _), (0, .ref _), (1, .ref _), (2, .ref _), (3, .ref _), (4, .int _)]) C dL_law_787 (by decide) rfl ?_
  refine j_aload_n (i := 2) C dL_law_789 rfl 3 rfl ?_
  refine j_aload_n (i := 0) C dL_law_790 rfl 1 rfl ?_
  refine j_iload C dL_law_791 5 rfl ?_
  refine j_iconst (v := nI 1) C dL_law_793 (by decide) ?_
  refine j_iadd C dL_law_794 ?_
  refine j_sld C SC (4 * t + 1) (nI_add (4 * t) 1) (by omega) hL dL_law_795 ?_
  refine j_aload_n (i := 0) C dL_law_796 rfl 1 rfl ?_
  refine j_iload C dL_law_797 5 rfl ?_
  refine j_iconst (v := nI 2) C dL_law_799 (by decide) ?_
  refine j_iadd C dL_law_800 ?_
  refine j_sld C SC (4 * t + 2) (nI_add (4 * t) 2) (by omega) hL dL_law_801 ?_
  refine j_callV (nargs := 2) (As := [_, _]) (Cn := RX4) C (0) rfl rfl rfl gw789 gw790 gw791 gw49 (kX4_told l D ct sa a thr σ (WX ct sa ad2 mcn2 φ2 (f_told σ (xs (4 * t + 1)) (xs (4 * t + 2))).2.2 ++ [oC ct qo g2]) (xs (4 * t + 1)) (xs (4 * t + 2)) hi.1) gw792 (by decide +kernel) rfl dL_law_802 ⟨Nat.le_of_ble_eq_true rfl, Nat.le_of_ble_eq_true rfl⟩ ⟨by show (_ : Nat) ≤ 601024; omega, by show (_ : Nat) ≤ 7293034; omega⟩ (Nat.le_of_ble_eq_true rfl) (dki ?_)
  refine j_istore (lv' := [(6, .int _), (5, .int _), (0, .ref _), (1, .ref _), (2, .ref _), (3, .ref _), (4, .int _)]) C dL_law_805 (by decide) rfl ?_
  refine j_aload_n (i := 2) C dL_law_807 rfl 4 rfl ?_
  refine j_callV (nargs := 0) (As := []) (Cn := RX4) C (0) rfl rfl rfl gw699 gw700 gw701 gw49 (kX4_thrown l D ct sa a (f_told σ (xs (4 * t + 1)) (xs (4 * t + 2))).1 (f_told σ (xs (4 * t + 1)) (xs (4 * t + 2))).2.2 (WX ct sa ad2 mcn2 φ2 (f_told σ (xs (4 * t + 1)) (xs (4 * t + 2))).2.2 ++ [oC ct qo g2])) gw702 (by decide +kernel) rfl dL_law_808 ⟨Nat.le_of_ble_eq_true rfl, Nat.le_of_ble_eq_true rfl⟩ ⟨by show (_ : Nat) ≤ 601024; omega, by show (_ : Nat) ≤ 7293034; omega⟩ (Nat.le_of_ble_eq_true rfl) (dki ?_)
  refine j_swap (a := []) (b := WM ct a (f_told σ (xs (4 * t + 1)) (xs (4 * t + 2))).1 (f_told σ (xs (4 * t + 1)) (xs (4 * t + 2))).2.2) (c0 := WX ct sa ad2 mcn2 φ2 (f_told σ (xs (4 * t + 1)) (xs (4 * t + 2))).2.2 ++ [oC ct qo g2]) rfl ?_
  refine j_ws (ws1 := WX ct sa ad2 mcn2 φ2 (f_told σ (xs (4 * t + 1)) (xs (4 * t + 2))).2.2 ++ (oC ct qo g2 :: WM ct a (f_told σ (xs (4 * t + 1)) (xs (4 * t + 2))).1 (f_told σ (xs (4 * t + 1)) (xs (4 * t + 2))).2.2)) sw_b ?_
  refine j_iload C dL_law_811 1 rfl ?_
  refine j_icmp_eq C 818 dL_law_813 (by decide) (fun c813 => ?_) (fun c813 => by exact absurd rfl c813)
  refine j_iload C dL_law_818 1 rfl ?_
  refine j_if_ne C 835 dL_law_820 (by decide) (fun c820 => ?_) (fun c820 => ?_)
  · refine j_goto C 1482 dL_law_835 (by decide) ?_
    exact j_lvs [2, 3, 4, 5, 6] rfl (j_widen (k1 := k + 800) (n1 := n + 4800) (by omega) (by omega) (kk _ _ _ _ _ _ (i1_told hi) ha))
  · refine j_aload_n (i := 3) C dL_law_823 rfl 5 rfl ?_
    refine j_iconst (v := nI 0) C dL_law_824 (by decide) ?_
    refine j_lald C ((WX ct sa ad2 mcn2 φ2 (f_told σ (xs (4 * t + 1)) (xs (4 * t + 2))).2.2).length) th_at0 (0) rfl (by decide) (by decide) dL_law_825 ?_
    refine j_iload C dL_law_826 0 rfl ?_
    refine j_i2l C dL_law_828 rfl ?_
    refine j_lcmpE C (hg c820) dL_law_829 ?_
    refine j_if_eq C 835 dL_law_830 (by decide) (fun c830 => ?_) (fun c830 => by exact absurd (by decide) c830)
    refine j_goto C 1482 dL_law_835 (by decide) ?_
    exact j_lvs [2, 3, 4, 5, 6] rfl (j_widen (k1 := k + 800) (n1 := n + 4800) (by omega) (by omega) (kk _ _ _ _ _ _ (i1_told hi) ha))
set_option maxRecDepth 100000 in
set_option maxHeartbeats 800000 in
theorem kLaw_wear {X : Ctx} {l : Launch} {D : va_G} {ct : Nat → ClassId} {sa : Nat → Nat} (htr : l.stackTraces = false) (C : jC X l D ct sa cL_law 9 "LetterLocksLaw" rmL) {b L : Nat} {xs : Nat → Int32} (SC : jScr X b L xs) (hL : L ≤ 2048) (t : Nat) (ht : 4 * t + 4 ≤ L) (ad a : Nat → Nat) (mcn thr : Int32) (φ : LD) (σ : St) (qo : Nat) (g : Nat → Int64) (hi : Inv1 σ) (k n : Nat) (hk : k + 800 ≤ 601024) (hn : n + 4800 ≤ 7293034) (kk : ∀ (ad' : Nat → Nat) (mcn' thr' : Int32) (φ' : LD) (σ' : St) (g' : Nat → Int64), Inv1 σ' → ad' 0 = ad 0 → J X (WX ct sa ad' mcn' φ' σ' ++ (oC ct qo g' :: WM ct a thr' σ')) (k + 800) (n + 4800) 1482 (lvL b (ad 0) (a 0) qo (nI (4 * t))) []) : J X (WX ct sa ad mcn φ σ ++ (oC ct qo g :: WM ct a thr σ)) k n 838 (lvL b (ad 0) (a 0) qo (nI (4 * t))) [] := by
  refine j_aload_n (i := 1) C dL_law_838 rfl 1 rfl ?_
  refine j_aload_n (i := 0) C dL_law_839 rfl 0 rfl ?_
  refine j_iload C dL_law_840 4 rfl ?_
  refine j_iconst (v := nI 1) C dL_law_842 (by decide) ?_
  refine j_iadd C dL_law_843 ?_
  refine j_sld C SC (4 * t + 1) (nI_add (4 * t) 1) (by omega) hL dL_law_844 ?_
  refine j_aload_n (i := 0) C dL_law_845 rfl 0 rfl ?_
  refine j_iload C dL_law_846 4 rfl ?_
  refine j_iconst (v := nI 2) C dL_law_848 (by decide) ?_
  refine j_iadd C dL_law_849 ?_
  refine j_sld C SC (4 * t + 2) (nI_add (4 * t) 2) (by omega) hL dL_law_850 ?_
  refine j_aload_n (i := 0) C dL_law_851 rfl 0 rfl ?_
  refine j_iload C dL_law_852 4 rfl ?_
  refine j_iconst (v := nI 3) C dL_law_854 (by decide) ?_
  refine j_iadd C dL_law_855 ?_
  refine j_sld C SC (4 * t + 3) (nI_add (4 * t) 3) (by omega) hL dL_law_856 ?_
  refine j_aload_n (i := 3) C dL_law_857 rfl 3 rfl ?_
  refine j_callSW (nargs := 5) (As := [_, _, _, _, _]) C gw592 gw593 gw41 (kL_wear l htr D ct sa ad mcn φ σ qo g (WM ct a thr σ) (xs (4 * t + 1)) (xs (4 * t + 2)) (xs (4 * t + 3)) hi) gw594 (by decide +kernel) rfl dL_law_858 ⟨Nat.le_of_ble_eq_true rfl, Nat.le_of_ble_eq_true rfl⟩ ⟨by show (_ : Nat) ≤ 601024; omega, by show (_ : Nat) ≤ 7293034; omega⟩ (Nat.le_of_ble_eq_true rfl) (fun r w hk2 => ?_)
  obtain ⟨rfl, ad2, mcn2, φ2, g2, ha, hg, rfl⟩ := hk2
  refine j_st (st1 := .int (f_wear σ (xs (4 * t + 1)) (xs (4 * t + 2)) (xs (4 * t + 3))).1 :: []) rfl ?_
  refine j_swap (a := []) (b := WX ct sa ad2 mcn2 φ2 (f_wear σ (xs (4 * t + 1)) (xs (4 * t + 2)) (xs (4 * t + 3))).2.2 ++ [oC ct qo g2]) (c0 := WM ct a thr σ) sw_a ?_
  refine j_istore (lv' := [(5, .int _), (0, .ref _), (1, .ref _), (2, .ref _), (3, .ref _), (4, .int _)]) C dL_law_861 (by decide) rfl ?_
  refine j_aload_n (i := 2) C dL_law_863 rfl 3 rfl ?_
  refine j_aload_n (i := 0) C dL_law_864 rfl 1 rfl ?_
  refine j_iload C dL_law_865 5 rfl ?_
  refine j_iconst (v := nI 1) C dL_law_867 (by decide) ?_
  refine j_iadd C dL_law_868 ?_
  refine j_sld C SC (4 * t + 1) (nI_add (4 * t) 1) (by omega) hL dL_law_869 ?_
  refine j_aload_n (i := 0) C dL_law_870 rfl 1 rfl ?_
  refine j_iload C dL_law_871 5 rfl ?_
  refine j_iconst (v := nI 2) C dL_law_873 (by decide) ?_
  refine j_iadd C dL_law_874 ?_
  refine j_sld C SC (4 * t + 2) (nI_add (4 * t) 2) (by omega) hL dL_law_875 ?_
  refine j_aload_n (i := 0) C dL_law_876 rfl 1 rfl ?_
  refine j_iload C dL_law_877 5 rfl ?_
  refine j_iconst (v := nI 3) C dL_law_879 (by decide) ?_
  refine j_iadd C dL_law_880 ?_
  refine j_sld C SC (4 * t + 3) (nI_add (4 * t) 3) (by omega) hL dL_law_881 ?_
  refine j_callV (nargs := 3) (As := [_, _, _]) (Cn := RX4) C (0) rfl rfl rfl gw805 gw806 gw807 gw49 (kX4_wear l D ct sa a thr σ (WX ct sa ad2 mcn2 φ2 (f_wear σ (xs (4 * t + 1)) (xs (4 * t + 2)) (xs (4 * t + 3))).2.2 ++ [oC ct qo g2]) (xs (4 * t + 1)) (xs (4 * t + 2)) (xs (4 * t + 3)) hi.1) gw808 (by decide +kernel) rfl dL_law_882 ⟨Nat.le_of_ble_eq_true rfl, Nat.le_of_ble_eq_true rfl⟩ ⟨by show (_ : Nat) ≤ 601024; omega, by show (_ : Nat) ≤ 7293034; omega⟩ (Nat.le_of_ble_eq_true rfl) (dki ?_)
  refine j_istore (lv' := [(6, .int _), (5, .int _), (0, .ref _), (1, .ref _), (2, .ref _), (3, .ref _), (4, .int _)]) C dL_law_885 (by decide) rfl ?_
  refine j_aload_n (i := 2) C dL_law_887 rfl 4 rfl ?_
  refine j_callV (nargs := 0) (As := []) (Cn := RX4) C (0) rfl rfl rfl gw699 gw700 gw701 gw49 (kX4_thrown l D ct sa a (f_wear σ (xs (4 * t + 1)) (xs (4 * t + 2)) (xs (4 * t + 3))).1 (f_wear σ (xs (4 * t + 1)) (xs (4 * t + 2)) (xs (4 * t + 3))).2.2 (WX ct sa ad2 mcn2 φ2 (f_wear σ (xs (4 * t + 1)) (xs (4 * t + 2)) (xs (4 * t + 3))).2.2 ++ [oC ct qo g2])) gw702 (by decide +kernel) rfl dL_law_888 ⟨Nat.le_of_ble_eq_true rfl, Nat.le_of_ble_eq_true rfl⟩ ⟨by show (_ : Nat) ≤ 601024; omega, by show (_ : Nat) ≤ 7293034; omega⟩ (Nat.le_of_ble_eq_true rfl) (dki ?_)
  refine j_swap (a := []) (b := WM ct a (f_wear σ (xs (4 * t + 1)) (xs (4 * t + 2)) (xs (4 * t + 3))).1 (f_wear σ (xs (4 * t + 1)) (xs (4 * t + 2)) (xs (4 * t + 3))).2.2) (c0 := WX ct sa ad2 mcn2 φ2 (f_wear σ (xs (4 * t + 1)) (xs (4 * t + 2)) (xs (4 * t + 3))).2.2 ++ [oC ct qo g2]) rfl ?_
  refine j_ws (ws1 := WX ct sa ad2 mcn2 φ2 (f_wear σ (xs (4 * t + 1)) (xs (4 * t + 2)) (xs (4 * t + 3))).2.2 ++ (oC ct qo g2 :: WM ct a (f_wear σ (xs (4 * t + 1)) (xs (4 * t + 2)) (xs (4 * t + 3))).1 (f_wear σ (xs (4 * t + 1)) (xs (4 * t + 2)) (xs (4 * t + 3))).2.2)) sw_b ?_
  refine j_iload C dL_law_891 1 rfl ?_
  refine j_icmp_eq C 898 dL_law_893 (by decide) (fun c893 => ?_) (fun c893 => by exact absurd rfl c893)
  refine j_iload C dL_law_898 1 rfl ?_
  refine j_if_ne C 915 dL_law_900 (by decide) (fun c900 => ?_) (fun c900 => ?_)
  · refine j_goto C 1482 dL_law_915 (by decide) ?_
    exact j_lvs [2, 3, 4, 5, 6] rfl (j_widen (k1 := k + 800) (n1 := n + 4800) (by omega) (by omega) (kk _ _ _ _ _ _ (i1_wear hi) ha))
  · refine j_aload_n (i := 3) C dL_law_903 rfl 5 rfl ?_
    refine j_iconst (v := nI 0) C dL_law_904 (by decide) ?_
    refine j_lald C ((WX ct sa ad2 mcn2 φ2 (f_wear σ (xs (4 * t + 1)) (xs (4 * t + 2)) (xs (4 * t + 3))).2.2).length) th_at0 (0) rfl (by decide) (by decide) dL_law_905 ?_
    refine j_iload C dL_law_906 0 rfl ?_
    refine j_i2l C dL_law_908 rfl ?_
    refine j_lcmpE C (hg c900) dL_law_909 ?_
    refine j_if_eq C 915 dL_law_910 (by decide) (fun c910 => ?_) (fun c910 => by exact absurd (by decide) c910)
    refine j_goto C 1482 dL_law_915 (by decide) ?_
    exact j_lvs [2, 3, 4, 5, 6] rfl (j_widen (k1 := k + 800) (n1 := n + 4800) (by omega) (by omega) (kk _ _ _ _ _ _ (i1_wear hi) ha))
set_option maxRecDepth 100000 in
set_option maxHeartbeats 800000 in
theorem kLaw_rack {X : Ctx} {l : Launch} {D : va_G} {ct : Nat → ClassId} {sa : Nat → Nat} (htr : l.stackTraces = false) (C : jC X l D ct sa cL_law 9 "LetterLocksLaw" rmL) {b L : Nat} {xs : Nat → Int32} (SC : jScr X b L xs) (hL : L ≤ 2048) (t : Nat) (ht : 4 * t + 4 ≤ L) (ad a : Nat → Nat) (mcn thr : Int32) (φ : LD) (σ : St) (qo : Nat) (g : Nat → Int64) (hi : Inv1 σ) (k n : Nat) (hk : k + 800 ≤ 601024) (hn : n + 4800 ≤ 7293034) (kk : ∀ (ad' : Nat → Nat) (mcn' thr' : Int32) (φ' : LD) (σ' : St) (g' : Nat → Int64), Inv1 σ' → ad' 0 = ad 0 → J X (WX ct sa ad' mcn' φ' σ' ++ (oC ct qo g' :: WM ct a thr' σ')) (k + 800) (n + 4800) 1482 (lvL b (ad 0) (a 0) qo (nI (4 * t))) []) : J X (WX ct sa ad mcn φ σ ++ (oC ct qo g :: WM ct a thr σ)) k n 918 (lvL b (ad 0) (a 0) qo (nI (4 * t))) [] := by
  refine j_aload_n (i := 1) C dL_law_918 rfl 1 rfl ?_
  refine j_aload_n (i := 0) C dL_law_919 rfl 0 rfl ?_
  refine j_iload C dL_law_920 4 rfl ?_
  refine j_iconst (v := nI 1) C dL_law_922 (by decide) ?_
  refine j_iadd C dL_law_923 ?_
  refine j_sld C SC (4 * t + 1) (nI_add (4 * t) 1) (by omega) hL dL_law_924 ?_
  refine j_aload_n (i := 0) C dL_law_925 rfl 0 rfl ?_
  refine j_iload C dL_law_926 4 rfl ?_
  refine j_iconst (v := nI 2) C dL_law_928 (by decide) ?_
  refine j_iadd C dL_law_929 ?_
  refine j_sld C SC (4 * t + 2) (nI_add (4 * t) 2) (by omega) hL dL_law_930 ?_
  refine j_aload_n (i := 3) C dL_law_931 rfl 3 rfl ?_
  refine j_callSW (nargs := 4) (As := [_, _, _, _]) C gw596 gw597 gw41 (kL_rack l htr D ct sa ad mcn φ σ qo g (WM ct a thr σ) (xs (4 * t + 1)) (xs (4 * t + 2)) hi) gw598 (by decide +kernel) rfl dL_law_932 ⟨Nat.le_of_ble_eq_true rfl, Nat.le_of_ble_eq_true rfl⟩ ⟨by show (_ : Nat) ≤ 601024; omega, by show (_ : Nat) ≤ 7293034; omega⟩ (Nat.le_of_ble_eq_true rfl) (fun r w hk2 => ?_)
  obtain ⟨rfl, ad2, mcn2, φ2, g2, ha, hg, rfl⟩ := hk2
  refine j_st (st1 := .int (f_rack σ (xs (4 * t + 1)) (xs (4 * t + 2))).1 :: []) rfl ?_
  refine j_swap (a := []) (b := WX ct sa ad2 mcn2 φ2 (f_rack σ (xs (4 * t + 1)) (xs (4 * t + 2))).2.2 ++ [oC ct qo g2]) (c0 := WM ct a thr σ) sw_a ?_
  refine j_istore (lv' := [(5, .int _), (0, .ref _), (1, .ref _), (2, .ref _), (3, .ref _), (4, .int _)]) C dL_law_935 (by decide) rfl ?_
  refine j_aload_n (i := 2) C dL_law_937 rfl 3 rfl ?_
  refine j_aload_n (i := 0) C dL_law_938 rfl 1 rfl ?_
  refine j_iload C dL_law_939 5 rfl ?_
  refine j_iconst (v := nI 1) C dL_law_941 (by decide) ?_
  refine j_iadd C dL_law_942 ?_
  refine j_sld C SC (4 * t + 1) (nI_add (4 * t) 1) (by omega) hL dL_law_943 ?_
  refine j_aload_n (i := 0) C dL_law_944 rfl 1 rfl ?_
  refine j_iload C dL_law_945 5 rfl ?_
  refine j_iconst (v := nI 2) C dL_law_947 (by decide) ?_
  refine j_iadd C dL_law_948 ?_
  refine j_sld C SC (4 * t + 2) (nI_add (4 * t) 2) (by omega) hL dL_law_949 ?_
  refine j_callV (nargs := 2) (As := [_, _]) (Cn := RX4) C (0) rfl rfl rfl gw809 gw810 gw811 gw49 (kX4_rack l D ct sa a thr σ (WX ct sa ad2 mcn2 φ2 (f_rack σ (xs (4 * t + 1)) (xs (4 * t + 2))).2.2 ++ [oC ct qo g2]) (xs (4 * t + 1)) (xs (4 * t + 2)) hi.1) gw812 (by decide +kernel) rfl dL_law_950 ⟨Nat.le_of_ble_eq_true rfl, Nat.le_of_ble_eq_true rfl⟩ ⟨by show (_ : Nat) ≤ 601024; omega, by show (_ : Nat) ≤ 7293034; omega⟩ (Nat.le_of_ble_eq_true rfl) (dki ?_)
  refine j_istore (lv' := [(6, .int _), (5, .int _), (0, .ref _), (1, .ref _), (2, .ref _), (3, .ref _), (4, .int _)]) C dL_law_953 (by decide) rfl ?_
  refine j_aload_n (i := 2) C dL_law_955 rfl 4 rfl ?_
  refine j_callV (nargs := 0) (As := []) (Cn := RX4) C (0) rfl rfl rfl gw699 gw700 gw701 gw49 (kX4_thrown l D ct sa a (f_rack σ (xs (4 * t + 1)) (xs (4 * t + 2))).1 (f_rack σ (xs (4 * t + 1)) (xs (4 * t + 2))).2.2 (WX ct sa ad2 mcn2 φ2 (f_rack σ (xs (4 * t + 1)) (xs (4 * t + 2))).2.2 ++ [oC ct qo g2])) gw702 (by decide +kernel) rfl dL_law_956 ⟨Nat.le_of_ble_eq_true rfl, Nat.le_of_ble_eq_true rfl⟩ ⟨by show (_ : Nat) ≤ 601024; omega, by show (_ : Nat) ≤ 7293034; omega⟩ (Nat.le_of_ble_eq_true rfl) (dki ?_)
  refine j_swap (a := []) (b := WM ct a (f_rack σ (xs (4 * t + 1)) (xs (4 * t + 2))).1 (f_rack σ (xs (4 * t + 1)) (xs (4 * t + 2))).2.2) (c0 := WX ct sa ad2 mcn2 φ2 (f_rack σ (xs (4 * t + 1)) (xs (4 * t + 2))).2.2 ++ [oC ct qo g2]) rfl ?_
  refine j_ws (ws1 := WX ct sa ad2 mcn2 φ2 (f_rack σ (xs (4 * t + 1)) (xs (4 * t + 2))).2.2 ++ (oC ct qo g2 :: WM ct a (f_rack σ (xs (4 * t + 1)) (xs (4 * t + 2))).1 (f_rack σ (xs (4 * t + 1)) (xs (4 * t + 2))).2.2)) sw_b ?_
  refine j_iload C dL_law_959 1 rfl ?_
  refine j_icmp_eq C 966 dL_law_961 (by decide) (fun c961 => ?_) (fun c961 => by exact absurd rfl c961)
  refine j_iload C dL_law_966 1 rfl ?_
  refine j_if_ne C 983 dL_law_968 (by decide) (fun c968 => ?_) (fun c968 => ?_)
  · refine j_goto C 1482 dL_law_983 (by decide) ?_
    exact j_lvs [2, 3, 4, 5, 6] rfl (j_widen (k1 := k + 800) (n1 := n + 4800) (by omega) (by omega) (kk _ _ _ _ _ _ (i1_rack hi) ha))
  · refine j_aload_n (i := 3) C dL_law_971 rfl 5 rfl ?_
    refine j_iconst (v := nI 0) C dL_law_972 (by decide) ?_
    refine j_lald C ((WX ct sa ad2 mcn2 φ2 (f_rack σ (xs (4 * t + 1)) (xs (4 * t + 2))).2.2).length) th_at0 (0) rfl (by decide) (by decide) dL_law_973 ?_
    refine j_iload C dL_law_974 0 rfl ?_
    refine j_i2l C dL_law_976 rfl ?_
    refine j_lcmpE C (hg c968) dL_law_977 ?_
    refine j_if_eq C 983 dL_law_978 (by decide) (fun c978 => ?_) (fun c978 => by exact absurd (by decide) c978)
    refine j_goto C 1482 dL_law_983 (by decide) ?_
    exact j_lvs [2, 3, 4, 5, 6] rfl (j_widen (k1 := k + 800) (n1 := n + 4800) (by omega) (by omega) (kk _ _ _ _ _ _ (i1_rack hi) ha))
set_option maxRecDepth 100000 in
set_option maxHeartbeats 800000 in
theorem kLaw_count {X : Ctx} {l : Launch} {D : va_G} {ct : Nat → ClassId} {sa : Nat → Nat} (htr : l.stackTraces = false) (C : jC X l D ct sa cL_law 9 "LetterLocksLaw" rmL) {b L : Nat} {xs : Nat → Int32} (SC : jScr X b L xs) (hL : L ≤ 2048) (t : Nat) (ht : 4 * t + 4 ≤ L) (ad a : Nat → Nat) (mcn thr : Int32) (φ : LD) (σ : St) (qo : Nat) (g : Nat → Int64) (hi : Inv1 σ) (k n : Nat) (hk : k + 800 ≤ 601024) (hn : n + 4800 ≤ 7293034) (kk : ∀ (ad' : Nat → Nat) (mcn' thr' : Int32) (φ' : LD) (σ' : St) (g' : Nat → Int64), Inv1 σ' → ad' 0 = ad 0 → J X (WX ct sa ad' mcn' φ' σ' ++ (oC ct qo g' :: WM ct a thr' σ')) (k + 800) (n + 4800) 1482 (lvL b (ad 0) (a 0) qo (nI (4 * t))) []) : J X (WX ct sa ad mcn φ σ ++ (oC ct qo g :: WM ct a thr σ)) k n 986 (lvL b (ad 0) (a 0) qo (nI (4 * t))) [] := by
  refine j_aload_n (i := 1) C dL_law_986 rfl 1 rfl ?_
  refine j_aload_n (i := 0) C dL_law_987 rfl 0 rfl ?_
  refine j_iload C dL_law_988 4 rfl ?_
  refine j_iconst (v := nI 1) C dL_law_990 (by decide) ?_
  refine j_iadd C dL_law_991 ?_
  refine j_sld C SC (4 * t + 1) (nI_add (4 * t) 1) (by omega) hL dL_law_992 ?_
  refine j_aload_n (i := 3) C dL_law_993 rfl 3 rfl ?_
  refine j_callSW (nargs := 3) (As := [_, _, _]) C gw600 gw601 gw41 (kL_count l htr D ct sa ad mcn φ σ qo g (WM ct a thr σ) (xs (4 * t + 1)) hi) gw602 (by decide +kernel) rfl dL_law_994 ⟨Nat.le_of_ble_eq_true rfl, Nat.le_of_ble_eq_true rfl⟩ ⟨by show (_ : Nat) ≤ 601024; omega, by show (_ : Nat) ≤ 7293034; omega⟩ (Nat.le_of_ble_eq_true rfl) (fun r w hk2 => ?_)
  obtain ⟨rfl, ad2, mcn2, φ2, g2, ha, hg, rfl⟩ := hk2
  refine j_st (st1 := .int (f_count σ (xs (4 * t + 1))).1 :: []) rfl ?_
  refine j_swap (a := []) (b := WX ct sa ad2 mcn2 φ2 (f_count σ (xs (4 * t + 1))).2.2 ++ [oC ct qo g2]) (c0 := WM ct a thr σ) sw_a ?_
  refine j_istore (lv' := [(5, .int _), (0, .ref _), (1, .ref _), (2, .ref _), (3, .ref _), (4, .int _)]) C dL_law_997 (by decide) rfl ?_
  refine j_aload_n (i := 2) C dL_law_999 rfl 3 rfl ?_
  refine j_aload_n (i := 0) C dL_law_1000 rfl 1 rfl ?_
  refine j_iload C dL_law_1001 5 rfl ?_
  refine j_iconst (v := nI 1) C dL_law_1003 (by decide) ?_
  refine j_iadd C dL_law_1004 ?_
  refine j_sld C SC (4 * t + 1) (nI_add (4 * t) 1) (by omega) hL dL_law_1005 ?_
  refine j_callV (nargs := 1) (As := [_]) (Cn := RX4) C (0) rfl rfl rfl gw817 gw818 gw819 gw49 (kX4_count l D ct sa a thr σ (WX ct sa ad2 mcn2 φ2 (f_count σ (xs (4 * t + 1))).2.2 ++ [oC ct qo g2]) (xs (4 * t + 1)) hi.1) gw820 (by decide +kernel) rfl dL_law_1006 ⟨Nat.le_of_ble_eq_true rfl, Nat.le_of_ble_eq_true rfl⟩ ⟨by show (_ : Nat) ≤ 601024; omega, by show (_ : Nat) ≤ 7293034; omega⟩ (Nat.le_of_ble_eq_true rfl) (dki ?_)
  refine j_istore (lv' := [(6, .int _), (5, .int _), (0, .ref _), (1, .ref _), (2, .ref _), (3, .ref _), (4, .int _)]) C dL_law_1009 (by decide) rfl ?_
  refine j_aload_n (i := 2) C dL_law_1011 rfl 4 rfl ?_
  refine j_callV (nargs := 0) (As := []) (Cn := RX4) C (0) rfl rfl rfl gw699 gw700 gw701 gw49 (kX4_thrown l D ct sa a (f_count σ (xs (4 * t + 1))).1 (f_count σ (xs (4 * t + 1))).2.2 (WX ct sa ad2 mcn2 φ2 (f_count σ (xs (4 * t + 1))).2.2 ++ [oC ct qo g2])) gw702 (by decide +kernel) rfl dL_law_1012 ⟨Nat.le_of_ble_eq_true rfl, Nat.le_of_ble_eq_true rfl⟩ ⟨by show (_ : Nat) ≤ 601024; omega, by show (_ : Nat) ≤ 7293034; omega⟩ (Nat.le_of_ble_eq_true rfl) (dki ?_)
  refine j_swap (a := []) (b := WM ct a (f_count σ (xs (4 * t + 1))).1 (f_count σ (xs (4 * t + 1))).2.2) (c0 := WX ct sa ad2 mcn2 φ2 (f_count σ (xs (4 * t + 1))).2.2 ++ [oC ct qo g2]) rfl ?_
  refine j_ws (ws1 := WX ct sa ad2 mcn2 φ2 (f_count σ (xs (4 * t + 1))).2.2 ++ (oC ct qo g2 :: WM ct a (f_count σ (xs (4 * t + 1))).1 (f_count σ (xs (4 * t + 1))).2.2)) sw_b ?_
  refine j_iload C dL_law_1015 1 rfl ?_
  refine j_icmp_eq C 1022 dL_law_1017 (by decide) (fun c1017 => ?_) (fun c1017 => by exact absurd rfl c1017)
  refine j_iload C dL_law_1022 1 rfl ?_
  refine j_if_ne C 1039 dL_law_1024 (by decide) (fun c1024 => ?_) (fun c1024 => ?_)
  · refine j_goto C 1482 dL_law_1039 (by decide) ?_
    exact j_lvs [2, 3, 4, 5, 6] rfl (j_widen (k1 := k + 800) (n1 := n + 4800) (by omega) (by omega) (kk _ _ _ _ _ _ (i1_count hi) ha))
  · refine j_aload_n (i := 3) C dL_law_1027 rfl 5 rfl ?_
    refine j_iconst (v := nI 0) C dL_law_1028 (by decide) ?_
    refine j_lald C ((WX ct sa ad2 mcn2 φ2 (f_count σ (xs (4 * t + 1))).2.2).length) th_at0 (0) rfl (by decide) (by decide) dL_law_1029 ?_
    refine j_iload C dL_law_1030 0 rfl ?_
    refine j_i2l C dL_law_1032 rfl ?_
    refine j_lcmpE C (hg c1024) dL_law_1033 ?_
    refine j_if_eq C 1039 dL_law_1034 (by decide) (fun c1034 => ?_) (fun c1034 => by exact absurd (by decide) c1034)
    refine j_goto C 1482 dL_law_1039 (by decide) ?_
    exact j_lvs [2, 3, 4, 5, 6] rfl (j_widen (k1 := k + 800) (n1 := n + 4800) (by omega) (by omega) (kk _ _ _ _ _ _ (i1_count hi) ha))
set_option maxRecDepth 100000 in
set_option maxHeartbeats 800000 in
theorem kLaw_apart {X : Ctx} {l : Launch} {D : va_G} {ct : Nat → ClassId} {sa : Nat → Nat} (htr : l.stackTraces = false) (C : jC X l D ct sa cL_law 9 "LetterLocksLaw" rmL) {b L : Nat} {xs : Nat → Int32} (SC : jScr X b L xs) (hL : L ≤ 2048) (t : Nat) (ht : 4 * t + 4 ≤ L) (ad a : Nat → Nat) (mcn thr : Int32) (φ : LD) (σ : St) (qo : Nat) (g : Nat → Int64) (hi : Inv1 σ) (k n : Nat) (hk : k + 800 ≤ 601024) (hn : n + 4800 ≤ 7293034) (kk : ∀ (ad' : Nat → Nat) (mcn' thr' : Int32) (φ' : LD) (σ' : St) (g' : Nat → Int64), Inv1 σ' → ad' 0 = ad 0 → J X (WX ct sa ad' mcn' φ' σ' ++ (oC ct qo g' :: WM ct a thr' σ')) (k + 800) (n + 4800) 1482 (lvL b (ad 0) (a 0) qo (nI (4 * t))) []) : J X (WX ct sa ad mcn φ σ ++ (oC ct qo g :: WM ct a thr σ)) k n 1042 (lvL b (ad 0) (a 0) qo (nI (4 * t))) [] := by
  refine j_aload_n (i := 1) C dL_law_1042 rfl 1 rfl ?_
  refine j_aload_n (i := 0) C dL_law_1043 rfl 0 rfl ?_
  refine j_iload C dL_law_1044 4 rfl ?_
  refine j_iconst (v := nI 1) C dL_law_1046 (by decide) ?_
  refine j_iadd C dL_law_1047 ?_
  refine j_sld C SC (4 * t + 1) (nI_add (4 * t) 1) (by omega) hL dL_law_1048 ?_
  refine j_aload_n (i := 0) C dL_law_1049 rfl 0 rfl ?_
  refine j_iload C dL_law_1050 4 rfl ?_
  refine j_iconst (v := nI 2) C dL_law_1052 (by decide) ?_
  refine j_iadd C dL_law_1053 ?_
  refine j_sld C SC (4 * t + 2) (nI_add (4 * t) 2) (by omega) hL dL_law_1054 ?_
  refine j_aload_n (i := 3) C dL_law_1055 rfl 3 rfl ?_
  refine j_callSW (nargs := 4) (As := [_, _, _, _]) C gw604 gw605 gw41 (kL_apart l htr D ct sa ad mcn φ σ qo g (WM ct a thr σ) (xs (4 * t + 1)) (xs (4 * t + 2)) hi) gw606 (by decide +kernel) rfl dL_law_1056 ⟨Nat.le_of_ble_eq_true rfl, Nat.le_of_ble_eq_true rfl⟩ ⟨by show (_ : Nat) ≤ 601024; omega, by show (_ : Nat) ≤ 7293034; omega⟩ (Nat.le_of_ble_eq_true rfl) (fun r w hk2 => ?_)
  obtain ⟨rfl, ad2, mcn2, φ2, g2, ha, hg, rfl⟩ := hk2
  refine j_st (st1 := .int (f_apart σ (xs (4 * t + 1)) (xs (4 * t + 2))).1 :: []) rfl ?_
  refine j_swap (a := []) (b := WX ct sa ad2 mcn2 φ2 (f_apart σ (xs (4 * t + 1)) (xs (4 * t + 2))).2.2 ++ [oC ct qo g2]) (c0 := WM ct a thr σ) sw_a ?_
  refine j_istore (lv' := [(5, .int _), (0, .ref _), (1, .ref _), (2, .ref _), (3, .ref _), (4, .int _)]) C dL_law_1059 (by decide) rfl ?_
  refine j_aload_n (i := 2) C dL_law_1061 rfl 3 rfl ?_
  refine j_aload_n (i := 0) C dL_law_1062 rfl 1 rfl ?_
  refine j_iload C dL_law_1063 5 rfl ?_
  refine j_iconst (v := nI 1) C dL_law_1065 (by decide) ?_
  refine j_iadd C dL_law_1066 ?_
  refine j_sld C SC (4 * t + 1) (nI_add (4 * t) 1) (by omega) hL dL_law_1067 ?_
  refine j_aload_n (i := 0) C dL_law_1068 rfl 1 rfl ?_
  refine j_iload C dL_law_1069 5 rfl ?_
  refine j_iconst (v := nI 2) C dL_law_1071 (by decide) ?_
  refine j_iadd C dL_law_1072 ?_
  refine j_sld C SC (4 * t + 2) (nI_add (4 * t) 2) (by omega) hL dL_law_1073 ?_
  refine j_callV (nargs := 2) (As := [_, _]) (Cn := RX4) C (0) rfl rfl rfl gw825 gw826 gw827 gw49 (kX4_apart l D ct sa a thr σ (WX ct sa ad2 mcn2 φ2 (f_apart σ (xs (4 * t + 1)) (xs (4 * t + 2))).2.2 ++ [oC ct qo g2]) (xs (4 * t + 1)) (xs (4 * t + 2)) hi.1) gw828 (by decide +kernel) rfl dL_law_1074 ⟨Nat.le_of_ble_eq_true rfl, Nat.le_of_ble_eq_true rfl⟩ ⟨by show (_ : Nat) ≤ 601024; omega, by show (_ : Nat) ≤ 7293034; omega⟩ (Nat.le_of_ble_eq_true rfl) (dki ?_)
  refine j_istore (lv' := [(6, .int _), (5, .int _), (0, .ref _), (1, .ref _), (2, .ref _), (3, .ref _), (4, .int _)]) C dL_law_1077 (by decide) rfl ?_
  refine j_aload_n (i := 2) C dL_law_1079 rfl 4 rfl ?_
  refine j_callV (nargs := 0) (As := []) (Cn := RX4) C (0) rfl rfl rfl gw699 gw700 gw701 gw49 (kX4_thrown l D ct sa a (f_apart σ (xs (4 * t + 1)) (xs (4 * t + 2))).1 (f_apart σ (xs (4 * t + 1)) (xs (4 * t + 2))).2.2 (WX ct sa ad2 mcn2 φ2 (f_apart σ (xs (4 * t + 1)) (xs (4 * t + 2))).2.2 ++ [oC ct qo g2])) gw702 (by decide +kernel) rfl dL_law_1080 ⟨Nat.le_of_ble_eq_true rfl, Nat.le_of_ble_eq_true rfl⟩ ⟨by show (_ : Nat) ≤ 601024; omega, by show (_ : Nat) ≤ 7293034; omega⟩ (Nat.le_of_ble_eq_true rfl) (dki ?_)
  refine j_swap (a := []) (b := WM ct a (f_apart σ (xs (4 * t + 1)) (xs (4 * t + 2))).1 (f_apart σ (xs (4 * t + 1)) (xs (4 * t + 2))).2.2) (c0 := WX ct sa ad2 mcn2 φ2 (f_apart σ (xs (4 * t + 1)) (xs (4 * t + 2))).2.2 ++ [oC ct qo g2]) rfl ?_
  refine j_ws (ws1 := WX ct sa ad2 mcn2 φ2 (f_apart σ (xs (4 * t + 1)) (xs (4 * t + 2))).2.2 ++ (oC ct qo g2 :: WM ct a (f_apart σ (xs (4 * t + 1)) (xs (4 * t + 2))).1 (f_apart σ (xs (4 * t + 1)) (xs (4 * t + 2))).2.2)) sw_b ?_
  refine j_iload C dL_law_1083 1 rfl ?_
  refine j_icmp_eq C 1090 dL_law_1085 (by decide) (fun c1085 => ?_) (fun c1085 => by exact absurd rfl c1085)
  refine j_iload C dL_law_1090 1 rfl ?_
  refine j_if_ne C 1107 dL_law_1092 (by decide) (fun c1092 => ?_) (fun c1092 => ?_)
  · refine j_goto C 1482 dL_law_1107 (by decide) ?_
    exact j_lvs [2, 3, 4, 5, 6] rfl (j_widen (k1 := k + 800) (n1 := n + 4800) (by omega) (by omega) (kk _ _ _ _ _ _ (i1_apart hi) ha))
  · refine j_aload_n (i := 3) C dL_law_1095 rfl 5 rfl ?_
    refine j_iconst (v := nI 0) C dL_law_1096 (by decide) ?_
    refine j_lald C ((WX ct sa ad2 mcn2 φ2 (f_apart σ (xs (4 * t + 1)) (xs (4 * t + 2))).2.2).length) th_at0 (0) rfl (by decide) (by decide) dL_law_1097 ?_
    refine j_iload C dL_law_1098 0 rfl ?_
    refine j_i2l C dL_law_1100 rfl ?_
    refine j_lcmpE C (hg c1092) dL_law_1101 ?_
    refine j_if_eq C 1107 dL_law_1102 (by decide) (fun c1102 => ?_) (fun c1102 => by exact absurd (by decide) c1102)
    refine j_goto C 1482 dL_law_1107 (by decide) ?_
    exact j_lvs [2, 3, 4, 5, 6] rfl (j_widen (k1 := k + 800) (n1 := n + 4800) (by omega) (by omega) (kk _ _ _ _ _ _ (i1_apart hi) ha))
set_option maxRecDepth 100000 in
set_option maxHeartbeats 800000 in
theorem kLaw_trial {X : Ctx} {l : Launch} {D : va_G} {ct : Nat → ClassId} {sa : Nat → Nat} (htr : l.stackTraces = false) (C : jC X l D ct sa cL_law 9 "LetterLocksLaw" rmL) {b L : Nat} {xs : Nat → Int32} (SC : jScr X b L xs) (hL : L ≤ 2048) (t : Nat) (ht : 4 * t + 4 ≤ L) (ad a : Nat → Nat) (mcn thr : Int32) (φ : LD) (σ : St) (qo : Nat) (g : Nat → Int64) (hi : Inv1 σ) (k n : Nat) (hk : k + 800 ≤ 601024) (hn : n + 4800 ≤ 7293034) (kk : ∀ (ad' : Nat → Nat) (mcn' thr' : Int32) (φ' : LD) (σ' : St) (g' : Nat → Int64), Inv1 σ' → ad' 0 = ad 0 → J X (WX ct sa ad' mcn' φ' σ' ++ (oC ct qo g' :: WM ct a thr' σ')) (k + 800) (n + 4800) 1482 (lvL b (ad 0) (a 0) qo (nI (4 * t))) []) : J X (WX ct sa ad mcn φ σ ++ (oC ct qo g :: WM ct a thr σ)) k n 1110 (lvL b (ad 0) (a 0) qo (nI (4 * t))) [] := by
  refine j_aload_n (i := 1) C dL_law_1110 rfl 1 rfl ?_
  refine j_aload_n (i := 0) C dL_law_1111 rfl 0 rfl ?_
  refine j_iload C dL_law_1112 4 rfl ?_
  refine j_iconst (v := nI 1) C dL_law_1114 (by decide) ?_
  refine j_iadd C dL_law_1115 ?_
  refine j_sld C SC (4 * t + 1) (nI_add (4 * t) 1) (by omega) hL dL_law_1116 ?_
  refine j_aload_n (i := 0) C dL_law_1117 rfl 0 rfl ?_
  refine j_iload C dL_law_1118 4 rfl ?_
  refine j_iconst (v := nI 2) C dL_law_1120 (by decide) ?_
  refine j_iadd C dL_law_1121 ?_
  refine j_sld C SC (4 * t + 2) (nI_add (4 * t) 2) (by omega) hL dL_law_1122 ?_
  refine j_aload_n (i := 3) C dL_law_1123 rfl 3 rfl ?_
  refine j_callSW (nargs := 4) (As := [_, _, _, _]) C gw612 gw613 gw41 (kL_trial l htr D ct sa ad mcn φ σ qo g (WM ct a thr σ) (xs (4 * t + 1)) (xs (4 * t + 2)) hi) gw614 (by decide +kernel) rfl dL_law_1124 ⟨Nat.le_of_ble_eq_true rfl, Nat.le_of_ble_eq_true rfl⟩ ⟨by show (_ : Nat) ≤ 601024; omega, by show (_ : Nat) ≤ 7293034; omega⟩ (Nat.le_of_ble_eq_true rfl) (fun r w hk2 => ?_)
  obtain ⟨rfl, ad2, mcn2, φ2, g2, ha, hg, rfl⟩ := hk2
  refine j_st (st1 := .int (f_trial σ (xs (4 * t + 1)) (xs (4 * t + 2))).1 :: []) rfl ?_
  refine j_swap (a := []) (b := WX ct sa ad2 mcn2 φ2 (f_trial σ (xs (4 * t + 1)) (xs (4 * t + 2))).2.2 ++ [oC ct qo g2]) (c0 := WM ct a thr σ) sw_a ?_
  refine j_istore (lv' := [(5, .int _), (0, .ref _), (1, .ref _), (2, .ref _), (3, .ref _), (4, .int _)]) C dL_law_1127 (by decide) rfl ?_
  refine j_aload_n (i := 2) C dL_law_1129 rfl 3 rfl ?_
  refine j_aload_n (i := 0) C dL_law_1130 rfl 1 rfl ?_
  refine j_iload C dL_law_1131 5 rfl ?_
  refine j_iconst (v := nI 1) C dL_law_1133 (by decide) ?_
  refine j_iadd C dL_law_1134 ?_
  refine j_sld C SC (4 * t + 1) (nI_add (4 * t) 1) (by omega) hL dL_law_1135 ?_
  refine j_aload_n (i := 0) C dL_law_1136 rfl 1 rfl ?_
  refine j_iload C dL_law_1137 5 rfl ?_
  refine j_iconst (v := nI 2) C dL_law_1139 (by decide) ?_
  refine j_iadd C dL_law_1140 ?_
  refine j_sld C SC (4 * t + 2) (nI_add (4 * t) 2) (by omega) hL dL_law_1141 ?_
  refine j_callV (nargs := 2) (As := [_, _]) (Cn := RX4) C (0) rfl rfl rfl gw835 gw836 gw837 gw49 (kX4_trial l D ct sa a thr σ (WX ct sa ad2 mcn2 φ2 (f_trial σ (xs (4 * t + 1)) (xs (4 * t + 2))).2.2 ++ [oC ct qo g2]) (xs (4 * t + 1)) (xs (4 * t + 2)) hi.1) gw838 (by decide +kernel) rfl dL_law_1142 ⟨Nat.le_of_ble_eq_true rfl, Nat.le_of_ble_eq_true rfl⟩ ⟨by show (_ : Nat) ≤ 601024; omega, by show (_ : Nat) ≤ 7293034; omega⟩ (Nat.le_of_ble_eq_true rfl) (dki ?_)
  refine j_istore (lv' := [(6, .int _), (5, .int _), (0, .ref _), (1, .ref _), (2, .ref _), (3, .ref _), (4, .int _)]) C dL_law_1145 (by decide) rfl ?_
  refine j_aload_n (i := 2) C dL_law_1147 rfl 4 rfl ?_
  refine j_callV (nargs := 0) (As := []) (Cn := RX4) C (0) rfl rfl rfl gw699 gw700 gw701 gw49 (kX4_thrown l D ct sa a (f_trial σ (xs (4 * t + 1)) (xs (4 * t + 2))).1 (f_trial σ (xs (4 * t + 1)) (xs (4 * t + 2))).2.2 (WX ct sa ad2 mcn2 φ2 (f_trial σ (xs (4 * t + 1)) (xs (4 * t + 2))).2.2 ++ [oC ct qo g2])) gw702 (by decide +kernel) rfl dL_law_1148 ⟨Nat.le_of_ble_eq_true rfl, Nat.le_of_ble_eq_true rfl⟩ ⟨by show (_ : Nat) ≤ 601024; omega, by show (_ : Nat) ≤ 7293034; omega⟩ (Nat.le_of_ble_eq_true rfl) (dki ?_)
  refine j_swap (a := []) (b := WM ct a (f_trial σ (xs (4 * t + 1)) (xs (4 * t + 2))).1 (f_trial σ (xs (4 * t + 1)) (xs (4 * t + 2))).2.2) (c0 := WX ct sa ad2 mcn2 φ2 (f_trial σ (xs (4 * t + 1)) (xs (4 * t + 2))).2.2 ++ [oC ct qo g2]) rfl ?_
  refine j_ws (ws1 := WX ct sa ad2 mcn2 φ2 (f_trial σ (xs (4 * t + 1)) (xs (4 * t + 2))).2.2 ++ (oC ct qo g2 :: WM ct a (f_trial σ (xs (4 * t + 1)) (xs (4 * t + 2))).1 (f_trial σ (xs (4 * t + 1)) (xs (4 * t + 2))).2.2)) sw_b ?_
  refine j_iload C dL_law_1151 1 rfl ?_
  refine j_icmp_eq C 1158 dL_law_1153 (by decide) (fun c1153 => ?_) (fun c1153 => by exact absurd rfl c1153)
  refine j_iload C dL_law_1158 1 rfl ?_
  refine j_if_ne C 1175 dL_law_1160 (by decide) (fun c1160 => ?_) (fun c1160 => ?_)
  · refine j_goto C 1482 dL_law_1175 (by decide) ?_
    exact j_lvs [2, 3, 4, 5, 6] rfl (j_widen (k1 := k + 800) (n1 := n + 4800) (by omega) (by omega) (kk _ _ _ _ _ _ (i1_trial hi) ha))
  · refine j_aload_n (i := 3) C dL_law_1163 rfl 5 rfl ?_
    refine j_iconst (v := nI 0) C dL_law_1164 (by decide) ?_
    refine j_lald C ((WX ct sa ad2 mcn2 φ2 (f_trial σ (xs (4 * t + 1)) (xs (4 * t + 2))).2.2).length) th_at0 (0) rfl (by decide) (by decide) dL_law_1165 ?_
    refine j_iload C dL_law_1166 0 rfl ?_
    refine j_i2l C dL_law_1168 rfl ?_
    refine j_lcmpE C (hg c1160) dL_law_1169 ?_
    refine j_if_eq C 1175 dL_law_1170 (by decide) (fun c1170 => ?_) (fun c1170 => by exact absurd (by decide) c1170)
    refine j_goto C 1482 dL_law_1175 (by decide) ?_
    exact j_lvs [2, 3, 4, 5, 6] rfl (j_widen (k1 := k + 800) (n1 := n + 4800) (by omega) (by omega) (kk _ _ _ _ _ _ (i1_trial hi) ha))
set_option maxRecDepth 100000 in
set_option maxHeartbeats 800000 in
theorem kLaw_safe {X : Ctx} {l : Launch} {D : va_G} {ct : Nat → ClassId} {sa : Nat → Nat} (htr : l.stackTraces = false) (C : jC X l D ct sa cL_law 9 "LetterLocksLaw" rmL) {b L : Nat} {xs : Nat → Int32} (SC : jScr X b L xs) (hL : L ≤ 2048) (t : Nat) (ht : 4 * t + 4 ≤ L) (ad a : Nat → Nat) (mcn thr : Int32) (φ : LD) (σ : St) (qo : Nat) (g : Nat → Int64) (hi : Inv1 σ) (k n : Nat) (hk : k + 800 ≤ 601024) (hn : n + 4800 ≤ 7293034) (kk : ∀ (ad' : Nat → Nat) (mcn' thr' : Int32) (φ' : LD) (σ' : St) (g' : Nat → Int64), Inv1 σ' → ad' 0 = ad 0 → J X (WX ct sa ad' mcn' φ' σ' ++ (oC ct qo g' :: WM ct a thr' σ')) (k + 800) (n + 4800) 1482 (lvL b (ad 0) (a 0) qo (nI (4 * t))) []) : J X (WX ct sa ad mcn φ σ ++ (oC ct qo g :: WM ct a thr σ)) k n 1178 (lvL b (ad 0) (a 0) qo (nI (4 * t))) [] := by
  refine j_aload_n (i := 1) C dL_law_1178 rfl 1 rfl ?_
  refine j_aload_n (i := 0) C dL_law_1179 rfl 0 rfl ?_
  refine j_iload C dL_law_1180 4 rfl ?_
  refine j_iconst (v := nI 1) C dL_law_1182 (by decide) ?_
  refine j_iadd C dL_law_1183 ?_
  refine j_sld C SC (4 * t + 1) (nI_add (4 * t) 1) (by omega) hL dL_law_1184 ?_
  refine j_aload_n (i := 3) C dL_law_1185 rfl 3 rfl ?_
  refine j_callSW (nargs := 3) (As := [_, _, _]) C gw619 gw620 gw41 (kL_safe l htr D ct sa ad mcn φ σ qo g (WM ct a thr σ) (xs (4 * t + 1)) hi) gw621 (by decide +kernel) rfl dL_law_1186 ⟨Nat.le_of_ble_eq_true rfl, Nat.le_of_ble_eq_true rfl⟩ ⟨by show (_ : Nat) ≤ 601024; omega, by show (_ : Nat) ≤ 7293034; omega⟩ (Nat.le_of_ble_eq_true rfl) (fun r w hk2 => ?_)
  obtain ⟨rfl, ad2, mcn2, φ2, g2, ha, hg, rfl⟩ := hk2
  refine j_st (st1 := .int (f_safe σ (xs (4 * t + 1))).1 :: []) rfl ?_
  refine j_swap (a := []) (b := WX ct sa ad2 mcn2 φ2 (f_safe σ (xs (4 * t + 1))).2.2 ++ [oC ct qo g2]) (c0 := WM ct a thr σ) sw_a ?_
  refine j_istore (lv' := [(5, .int _), (0, .ref _), (1, .ref _), (2, .ref _), (3, .ref _), (4, .int _)]) C dL_law_1189 (by decide) rfl ?_
  refine j_aload_n (i := 2) C dL_law_1191 rfl 3 rfl ?_
  refine j_aload_n (i := 0) C dL_law_1192 rfl 1 rfl ?_
  refine j_iload C dL_law_1193 5 rfl ?_
  refine j_iconst (v := nI 1) C dL_law_1195 (by decide) ?_
  refine j_iadd C dL_law_1196 ?_
  refine j_sld C SC (4 * t + 1) (nI_add (4 * t) 1) (by omega) hL dL_law_1197 ?_
  refine j_callV (nargs := 1) (As := [_]) (Cn := RX4) C (0) rfl rfl rfl gw850 gw851 gw852 gw49 (kX4_safe l D ct sa a thr σ (WX ct sa ad2 mcn2 φ2 (f_safe σ (xs (4 * t + 1))).2.2 ++ [oC ct qo g2]) (xs (4 * t + 1)) hi.1) gw853 (by decide +kernel) rfl dL_law_1198 ⟨Nat.le_of_ble_eq_true rfl, Nat.le_of_ble_eq_true rfl⟩ ⟨by show (_ : Nat) ≤ 601024; omega, by show (_ : Nat) ≤ 7293034; omega⟩ (Nat.le_of_ble_eq_true rfl) (dki ?_)
  refine j_istore (lv' := [(6, .int _), (5, .int _), (0, .ref _), (1, .ref _), (2, .ref _), (3, .ref _), (4, .int _)]) C dL_law_1201 (by decide) rfl ?_
  refine j_aload_n (i := 2) C dL_law_1203 rfl 4 rfl ?_
  refine j_callV (nargs := 0) (As := []) (Cn := RX4) C (0) rfl rfl rfl gw699 gw700 gw701 gw49 (kX4_thrown l D ct sa a (f_safe σ (xs (4 * t + 1))).1 (f_safe σ (xs (4 * t + 1))).2.2 (WX ct sa ad2 mcn2 φ2 (f_safe σ (xs (4 * t + 1))).2.2 ++ [oC ct qo g2])) gw702 (by decide +kernel) rfl dL_law_1204 ⟨Nat.le_of_ble_eq_true rfl, Nat.le_of_ble_eq_true rfl⟩ ⟨by show (_ : Nat) ≤ 601024; omega, by show (_ : Nat) ≤ 7293034; omega⟩ (Nat.le_of_ble_eq_true rfl) (dki ?_)
  refine j_swap (a := []) (b := WM ct a (f_safe σ (xs (4 * t + 1))).1 (f_safe σ (xs (4 * t + 1))).2.2) (c0 := WX ct sa ad2 mcn2 φ2 (f_safe σ (xs (4 * t + 1))).2.2 ++ [oC ct qo g2]) rfl ?_
  refine j_ws (ws1 := WX ct sa ad2 mcn2 φ2 (f_safe σ (xs (4 * t + 1))).2.2 ++ (oC ct qo g2 :: WM ct a (f_safe σ (xs (4 * t + 1))).1 (f_safe σ (xs (4 * t + 1))).2.2)) sw_b ?_
  refine j_iload C dL_law_1207 1 rfl ?_
  refine j_icmp_eq C 1214 dL_law_1209 (by decide) (fun c1209 => ?_) (fun c1209 => by exact absurd rfl c1209)
  refine j_iload C dL_law_1214 1 rfl ?_
  refine j_if_ne C 1231 dL_law_1216 (by decide) (fun c1216 => ?_) (fun c1216 => ?_)
  · refine j_goto C 1482 dL_law_1231 (by decide) ?_
    exact j_lvs [2, 3, 4, 5, 6] rfl (j_widen (k1 := k + 800) (n1 := n + 4800) (by omega) (by omega) (kk _ _ _ _ _ _ (i1_safe hi) ha))
  · refine j_aload_n (i := 3) C dL_law_1219 rfl 5 rfl ?_
    refine j_iconst (v := nI 0) C dL_law_1220 (by decide) ?_
    refine j_lald C ((WX ct sa ad2 mcn2 φ2 (f_safe σ (xs (4 * t + 1))).2.2).length) th_at0 (0) rfl (by decide) (by decide) dL_law_1221 ?_
    refine j_iload C dL_law_1222 0 rfl ?_
    refine j_i2l C dL_law_1224 rfl ?_
    refine j_lcmpE C (hg c1216) dL_law_1225 ?_
    refine j_if_eq C 1231 dL_law_1226 (by decide) (fun c1226 => ?_) (fun c1226 => by exact absurd (by decide) c1226)
    refine j_goto C 1482 dL_law_1231 (by decide) ?_
    exact j_lvs [2, 3, 4, 5, 6] rfl (j_widen (k1 := k + 800) (n1 := n + 4800) (by omega) (by omega) (kk _ _ _ _ _ _ (i1_safe hi) ha))
set_option maxRecDepth 100000 in
set_option maxHeartbeats 800000 in
theorem kLaw_pass {X : Ctx} {l : Launch} {D : va_G} {ct : Nat → ClassId} {sa : Nat → Nat} (htr : l.stackTraces = false) (C : jC X l D ct sa cL_law 9 "LetterLocksLaw" rmL) {b L : Nat} {xs : Nat → Int32} (SC : jScr X b L xs) (hL : L ≤ 2048) (t : Nat) (ht : 4 * t + 4 ≤ L) (ad a : Nat → Nat) (mcn thr : Int32) (φ : LD) (σ : St) (qo : Nat) (g : Nat → Int64) (hi : Inv1 σ) (k n : Nat) (hk : k + 800 ≤ 601024) (hn : n + 4800 ≤ 7293034) (kk : ∀ (ad' : Nat → Nat) (mcn' thr' : Int32) (φ' : LD) (σ' : St) (g' : Nat → Int64), Inv1 σ' → ad' 0 = ad 0 → J X (WX ct sa ad' mcn' φ' σ' ++ (oC ct qo g' :: WM ct a thr' σ')) (k + 800) (n + 4800) 1482 (lvL b (ad 0) (a 0) qo (nI (4 * t))) []) : J X (WX ct sa ad mcn φ σ ++ (oC ct qo g :: WM ct a thr σ)) k n 1234 (lvL b (ad 0) (a 0) qo (nI (4 * t))) [] := by
  refine j_aload_n (i := 1) C dL_law_1234 rfl 1 rfl ?_
  refine j_aload_n (i := 0) C dL_law_1235 rfl 0 rfl ?_
  refine j_iload C dL_law_1236 4 rfl ?_
  refine j_iconst (v := nI 1) C dL_law_1238 (by decide) ?_
  refine j_iadd C dL_law_1239 ?_
  refine j_sld C SC (4 * t + 1) (nI_add (4 * t) 1) (by omega) hL dL_law_1240 ?_
  refine j_aload_n (i := 3) C dL_law_1241 rfl 3 rfl ?_
  refine j_callSW (nargs := 3) (As := [_, _, _]) C gw623 gw624 gw41 (kL_pass l htr D ct sa ad mcn φ σ qo g (WM ct a thr σ) (xs (4 * t + 1)) hi) gw625 (by decide +kernel) rfl dL_law_1242 ⟨Nat.le_of_ble_eq_true rfl, Nat.le_of_ble_eq_true rfl⟩ ⟨by show (_ : Nat) ≤ 601024; omega, by show (_ : Nat) ≤ 7293034; omega⟩ (Nat.le_of_ble_eq_true rfl) (fun r w hk2 => ?_)
  obtain ⟨rfl, ad2, mcn2, φ2, g2, ha, hg, rfl⟩ := hk2
  refine j_st (st1 := .int (f_pass σ (xs (4 * t + 1))).1 :: []) rfl ?_
  refine j_swap (a := []) (b := WX ct sa ad2 mcn2 φ2 (f_pass σ (xs (4 * t + 1))).2.2 ++ [oC ct qo g2]) (c0 := WM ct a thr σ) sw_a ?_
  refine j_istore (lv' := [(5, .int _), (0, .ref _), (1, .ref _), (2, .ref _), (3, .ref _), (4, .int _)]) C dL_law_1245 (by decide) rfl ?_
  refine j_aload_n (i := 2) C dL_law_1247 rfl 3 rfl ?_
  refine j_aload_n (i := 0) C dL_law_1248 rfl 1 rfl ?_
  refine j_iload C dL_law_1249 5 rfl ?_
  refine j_iconst (v := nI 1) C dL_law_1251 (by decide) ?_
  refine j_iadd C dL_law_1252 ?_
  refine j_sld C SC (4 * t + 1) (nI_add (4 * t) 1) (by omega) hL dL_law_1253 ?_
  refine j_callV (nargs := 1) (As := [_]) (Cn := RX4) C (0) rfl rfl rfl gw854 gw855 gw856 gw49 (kX4_pass l D ct sa a thr σ (WX ct sa ad2 mcn2 φ2 (f_pass σ (xs (4 * t + 1))).2.2 ++ [oC ct qo g2]) (xs (4 * t + 1)) hi.1) gw857 (by decide +kernel) rfl dL_law_1254 ⟨Nat.le_of_ble_eq_true rfl, Nat.le_of_ble_eq_true rfl⟩ ⟨by show (_ : Nat) ≤ 601024; omega, by show (_ : Nat) ≤ 7293034; omega⟩ (Nat.le_of_ble_eq_true rfl) (dki ?_)
  refine j_istore (lv' := [(6, .int _), (5, .int _), (0, .ref _), (1, .ref _), (2, .ref _), (3, .ref _), (4, .int _)]) C dL_law_1257 (by decide) rfl ?_
  refine j_aload_n (i := 2) C dL_law_1259 rfl 4 rfl ?_
  refine j_callV (nargs := 0) (As := []) (Cn := RX4) C (0) rfl rfl rfl gw699 gw700 gw701 gw49 (kX4_thrown l D ct sa a (f_pass σ (xs (4 * t + 1))).1 (f_pass σ (xs (4 * t + 1))).2.2 (WX ct sa ad2 mcn2 φ2 (f_pass σ (xs (4 * t + 1))).2.2 ++ [oC ct qo g2])) gw702 (by decide +kernel) rfl dL_law_1260 ⟨Nat.le_of_ble_eq_true rfl, Nat.le_of_ble_eq_true rfl⟩ ⟨by show (_ : Nat) ≤ 601024; omega, by show (_ : Nat) ≤ 7293034; omega⟩ (Nat.le_of_ble_eq_true rfl) (dki ?_)
  refine j_swap (a := []) (b := WM ct a (f_pass σ (xs (4 * t + 1))).1 (f_pass σ (xs (4 * t + 1))).2.2) (c0 := WX ct sa ad2 mcn2 φ2 (f_pass σ (xs (4 * t + 1))).2.2 ++ [oC ct qo g2]) rfl ?_
  refine j_ws (ws1 := WX ct sa ad2 mcn2 φ2 (f_pass σ (xs (4 * t + 1))).2.2 ++ (oC ct qo g2 :: WM ct a (f_pass σ (xs (4 * t + 1))).1 (f_pass σ (xs (4 * t + 1))).2.2)) sw_b ?_
  refine j_iload C dL_law_1263 1 rfl ?_
  refine j_icmp_eq C 1270 dL_law_1265 (by decide) (fun c1265 => ?_) (fun c1265 => by exact absurd rfl c1265)
  refine j_iload C dL_law_1270 1 rfl ?_
  refine j_if_ne C 1287 dL_law_1272 (by decide) (fun c1272 => ?_) (fun c1272 => ?_)
  · refine j_goto C 1482 dL_law_1287 (by decide) ?_
    exact j_lvs [2, 3, 4, 5, 6] rfl (j_widen (k1 := k + 800) (n1 := n + 4800) (by omega) (by omega) (kk _ _ _ _ _ _ (i1_pass hi) ha))
  · refine j_aload_n (i := 3) C dL_law_1275 rfl 5 rfl ?_
    refine j_iconst (v := nI 0) C dL_law_1276 (by decide) ?_
    refine j_lald C ((WX ct sa ad2 mcn2 φ2 (f_pass σ (xs (4 * t + 1))).2.2).length) th_at0 (0) rfl (by decide) (by decide) dL_law_1277 ?_
    refine j_iload C dL_law_1278 0 rfl ?_
    refine j_i2l C dL_law_1280 rfl ?_
    refine j_lcmpE C (hg c1272) dL_law_1281 ?_
    refine j_if_eq C 1287 dL_law_1282 (by decide) (fun c1282 => ?_) (fun c1282 => by exact absurd (by decide) c1282)
    refine j_goto C 1482 dL_law_1287 (by decide) ?_
    exact j_lvs [2, 3, 4, 5, 6] rfl (j_widen (k1 := k + 800) (n1 := n + 4800) (by omega) (by omega) (kk _ _ _ _ _ _ (i1_pass hi) ha))
set_option maxRecDepth 100000 in
set_option maxHeartbeats 800000 in
theorem kLaw_foresee {X : Ctx} {l : Launch} {D : va_G} {ct : Nat → ClassId} {sa : Nat → Nat} (htr : l.stackTraces = false) (C : jC X l D ct sa cL_law 9 "LetterLocksLaw" rmL) {b L : Nat} {xs : Nat → Int32} (SC : jScr X b L xs) (hL : L ≤ 2048) (t : Nat) (ht : 4 * t + 4 ≤ L) (ad a : Nat → Nat) (mcn thr : Int32) (φ : LD) (σ : St) (qo : Nat) (g : Nat → Int64) (hi : Inv1 σ) (k n : Nat) (hk : k + 800 ≤ 601024) (hn : n + 4800 ≤ 7293034) (kk : ∀ (ad' : Nat → Nat) (mcn' thr' : Int32) (φ' : LD) (σ' : St) (g' : Nat → Int64), Inv1 σ' → ad' 0 = ad 0 → J X (WX ct sa ad' mcn' φ' σ' ++ (oC ct qo g' :: WM ct a thr' σ')) (k + 800) (n + 4800) 1482 (lvL b (ad 0) (a 0) qo (nI (4 * t))) []) : J X (WX ct sa ad mcn φ σ ++ (oC ct qo g :: WM ct a thr σ)) k n 1290 (lvL b (ad 0) (a 0) qo (nI (4 * t))) [] := by
  refine j_aload_n (i := 1) C dL_law_1290 rfl 1 rfl ?_
  refine j_aload_n (i := 0) C dL_law_1291 rfl 0 rfl ?_
  refine j_iload C dL_law_1292 4 rfl ?_
  refine j_iconst (v := nI 1) C dL_law_1294 (by decide) ?_
  refine j_iadd C dL_law_1295 ?_
  refine j_sld C SC (4 * t + 1) (nI_add (4 * t) 1) (by omega) hL dL_law_1296 ?_
  refine j_aload_n (i := 0) C dL_law_1297 rfl 0 rfl ?_
  refine j_iload C dL_law_1298 4 rfl ?_
  refine j_iconst (v := nI 2) C dL_law_1300 (by decide) ?_
  refine j_iadd C dL_law_1301 ?_
  refine j_sld C SC (4 * t + 2) (nI_add (4 * t) 2) (by omega) hL dL_law_1302 ?_
  refine j_aload_n (i := 3) C dL_law_1303 rfl 3 rfl ?_
  refine j_callSW (nargs := 4) (As := [_, _, _, _]) C gw652 gw653 gw41 (kL_foresee l htr D ct sa ad mcn φ σ qo g (WM ct a thr σ) (xs (4 * t + 1)) (xs (4 * t + 2)) hi) gw654 (by decide +kernel) rfl dL_law_1304 ⟨Nat.le_of_ble_eq_true rfl, Nat.le_of_ble_eq_true rfl⟩ ⟨by show (_ : Nat) ≤ 601024; omega, by show (_ : Nat) ≤ 7293034; omega⟩ (Nat.le_of_ble_eq_true rfl) (fun r w hk2 => ?_)
  obtain ⟨rfl, ad2, mcn2, φ2, g2, ha, hg, rfl⟩ := hk2
  refine j_st (st1 := .int (f_foresee σ (xs (4 * t + 1)) (xs (4 * t + 2))).1 :: []) rfl ?_
  refine j_swap (a := []) (b := WX ct sa ad2 mcn2 φ2 (f_foresee σ (xs (4 * t + 1)) (xs (4 * t + 2))).2.2 ++ [oC ct qo g2]) (c0 := WM ct a thr σ) sw_a ?_
  refine j_istore (lv' := [(5, .int _), (0, .ref _), (1, .ref _), (2, .ref _), (3, .ref _), (4, .int _)]) C dL_law_1307 (by decide) rfl ?_
  refine j_aload_n (i := 2) C dL_law_1309 rfl 3 rfl ?_
  refine j_aload_n (i := 0) C dL_law_1310 rfl 1 rfl ?_
  refine j_iload C dL_law_1311 5 rfl ?_
  refine j_iconst (v := nI 1) C dL_law_1313 (by decide) ?_
  refine j_iadd C dL_law_1314 ?_
  refine j_sld C SC (4 * t + 1) (nI_add (4 * t) 1) (by omega) hL dL_law_1315 ?_
  refine j_aload_n (i := 0) C dL_law_1316 rfl 1 rfl ?_
  refine j_iload C dL_law_1317 5 rfl ?_
  refine j_iconst (v := nI 2) C dL_law_1319 (by decide) ?_
  refine j_iadd C dL_law_1320 ?_
  refine j_sld C SC (4 * t + 2) (nI_add (4 * t) 2) (by omega) hL dL_law_1321 ?_
  refine j_callV (nargs := 2) (As := [_, _]) (Cn := RX4) C (0) rfl rfl rfl gw870 gw871 gw872 gw49 (kX4_foresee l D ct sa a thr σ (WX ct sa ad2 mcn2 φ2 (f_foresee σ (xs (4 * t + 1)) (xs (4 * t + 2))).2.2 ++ [oC ct qo g2]) (xs (4 * t + 1)) (xs (4 * t + 2)) hi.1) gw873 (by decide +kernel) rfl dL_law_1322 ⟨Nat.le_of_ble_eq_true rfl, Nat.le_of_ble_eq_true rfl⟩ ⟨by show (_ : Nat) ≤ 601024; omega, by show (_ : Nat) ≤ 7293034; omega⟩ (Nat.le_of_ble_eq_true rfl) (dki ?_)
  refine j_istore (lv' := [(6, .int _), (5, .int _), (0, .ref _), (1, .ref _), (2, .ref _), (3, .ref _), (4, .int _)]) C dL_law_1325 (by decide) rfl ?_
  refine j_aload_n (i := 2) C dL_law_1327 rfl 4 rfl ?_
  refine j_callV (nargs := 0) (As := []) (Cn := RX4) C (0) rfl rfl rfl gw699 gw700 gw701 gw49 (kX4_thrown l D ct sa a (f_foresee σ (xs (4 * t + 1)) (xs (4 * t + 2))).1 (f_foresee σ (xs (4 * t + 1)) (xs (4 * t + 2))).2.2 (WX ct sa ad2 mcn2 φ2 (f_foresee σ (xs (4 * t + 1)) (xs (4 * t + 2))).2.2 ++ [oC ct qo g2])) gw702 (by decide +kernel) rfl dL_law_1328 ⟨Nat.le_of_ble_eq_true rfl, Nat.le_of_ble_eq_true rfl⟩ ⟨by show (_ : Nat) ≤ 601024; omega, by show (_ : Nat) ≤ 7293034; omega⟩ (Nat.le_of_ble_eq_true rfl) (dki ?_)
  refine j_swap (a := []) (b := WM ct a (f_foresee σ (xs (4 * t + 1)) (xs (4 * t + 2))).1 (f_foresee σ (xs (4 * t + 1)) (xs (4 * t + 2))).2.2) (c0 := WX ct sa ad2 mcn2 φ2 (f_foresee σ (xs (4 * t + 1)) (xs (4 * t + 2))).2.2 ++ [oC ct qo g2]) rfl ?_
  refine j_ws (ws1 := WX ct sa ad2 mcn2 φ2 (f_foresee σ (xs (4 * t + 1)) (xs (4 * t + 2))).2.2 ++ (oC ct qo g2 :: WM ct a (f_foresee σ (xs (4 * t + 1)) (xs (4 * t + 2))).1 (f_foresee σ (xs (4 * t + 1)) (xs (4 * t + 2))).2.2)) sw_b ?_
  refine j_iload C dL_law_1331 1 rfl ?_
  refine j_icmp_eq C 1338 dL_law_1333 (by decide) (fun c1333 => ?_) (fun c1333 => by exact absurd rfl c1333)
  refine j_iload C dL_law_1338 1 rfl ?_
  refine j_if_ne C 1355 dL_law_1340 (by decide) (fun c1340 => ?_) (fun c1340 => ?_)
  · refine j_goto C 1482 dL_law_1355 (by decide) ?_
    exact j_lvs [2, 3, 4, 5, 6] rfl (j_widen (k1 := k + 800) (n1 := n + 4800) (by omega) (by omega) (kk _ _ _ _ _ _ (i1_foresee hi) ha))
  · refine j_aload_n (i := 3) C dL_law_1343 rfl 5 rfl ?_
    refine j_iconst (v := nI 0) C dL_law_1344 (by decide) ?_
    refine j_lald C ((WX ct sa ad2 mcn2 φ2 (f_foresee σ (xs (4 * t + 1)) (xs (4 * t + 2))).2.2).length) th_at0 (0) rfl (by decide) (by decide) dL_law_1345 ?_
    refine j_iload C dL_law_1346 0 rfl ?_
    refine j_i2l C dL_law_1348 rfl ?_
    refine j_lcmpE C (hg c1340) dL_law_1349 ?_
    refine j_if_eq C 1355 dL_law_1350 (by decide) (fun c1350 => ?_) (fun c1350 => by exact absurd (by decide) c1350)
    refine j_goto C 1482 dL_law_1355 (by decide) ?_
    exact j_lvs [2, 3, 4, 5, 6] rfl (j_widen (k1 := k + 800) (n1 := n + 4800) (by omega) (by omega) (kk _ _ _ _ _ _ (i1_foresee hi) ha))
set_option maxRecDepth 100000 in
set_option maxHeartbeats 800000 in
theorem kLaw_until {X : Ctx} {l : Launch} {D : va_G} {ct : Nat → ClassId} {sa : Nat → Nat} (htr : l.stackTraces = false) (C : jC X l D ct sa cL_law 9 "LetterLocksLaw" rmL) {b L : Nat} {xs : Nat → Int32} (SC : jScr X b L xs) (hL : L ≤ 2048) (t : Nat) (ht : 4 * t + 4 ≤ L) (ad a : Nat → Nat) (mcn thr : Int32) (φ : LD) (σ : St) (qo : Nat) (g : Nat → Int64) (hi : Inv1 σ) (k n : Nat) (hk : k + 800 ≤ 601024) (hn : n + 4800 ≤ 7293034) (kk : ∀ (ad' : Nat → Nat) (mcn' thr' : Int32) (φ' : LD) (σ' : St) (g' : Nat → Int64), Inv1 σ' → ad' 0 = ad 0 → J X (WX ct sa ad' mcn' φ' σ' ++ (oC ct qo g' :: WM ct a thr' σ')) (k + 800) (n + 4800) 1482 (lvL b (ad 0) (a 0) qo (nI (4 * t))) []) : J X (WX ct sa ad mcn φ σ ++ (oC ct qo g :: WM ct a thr σ)) k n 1358 (lvL b (ad 0) (a 0) qo (nI (4 * t))) [] := by
  refine j_aload_n (i := 1) C dL_law_1358 rfl 1 rfl ?_
  refine j_aload_n (i := 0) C dL_law_1359 rfl 0 rfl ?_
  refine j_iload C dL_law_1360 4 rfl ?_
  refine j_iconst (v := nI 1) C dL_law_1362 (by decide) ?_
  refine j_iadd C dL_law_1363 ?_
  refine j_sld C SC (4 * t + 1) (nI_add (4 * t) 1) (by omega) hL dL_law_1364 ?_
  refine j_aload_n (i := 3) C dL_law_1365 rfl 3 rfl ?_
  refine j_callSW (nargs := 3) (As := [_, _, _]) C gw664 gw665 gw41 (kL_until l htr D ct sa ad mcn φ σ qo g (WM ct a thr σ) (xs (4 * t + 1)) hi) gw666 (by decide +kernel) rfl dL_law_1366 ⟨Nat.le_of_ble_eq_true rfl, Nat.le_of_ble_eq_true rfl⟩ ⟨by show (_ : Nat) ≤ 601024; omega, by show (_ : Nat) ≤ 7293034; omega⟩ (Nat.le_of_ble_eq_true rfl) (fun r w hk2 => ?_)
  obtain ⟨rfl, ad2, mcn2, φ2, g2, ha, hg, rfl⟩ := hk2
  refine j_st (st1 := .int (f_until σ (xs (4 * t + 1))).1 :: []) rfl ?_
  refine j_swap (a := []) (b := WX ct sa ad2 mcn2 φ2 (f_until σ (xs (4 * t + 1))).2.2 ++ [oC ct qo g2]) (c0 := WM ct a thr σ) sw_a ?_
  refine j_istore (lv' := [(5, .int _), (0, .ref _), (1, .ref _), (2, .ref _), (3, .ref _), (4, .int _)]) C dL_law_1369 (by decide) rfl ?_
  refine j_aload_n (i := 2) C dL_law_1371 rfl 3 rfl ?_
  refine j_aload_n (i := 0) C dL_law_1372 rfl 1 rfl ?_
  refine j_iload C dL_law_1373 5 rfl ?_
  refine j_iconst (v := nI 1) C dL_law_1375 (by decide) ?_
  refine j_iadd C dL_law_1376 ?_
  refine j_sld C SC (4 * t + 1) (nI_add (4 * t) 1) (by omega) hL dL_law_1377 ?_
  refine j_callV (nargs := 1) (As := [_]) (Cn := RX4) C (0) rfl rfl rfl gw886 gw887 gw888 gw49 (kX4_until l D ct sa a thr σ (WX ct sa ad2 mcn2 φ2 (f_until σ (xs (4 * t + 1))).2.2 ++ [oC ct qo g2]) (xs (4 * t + 1)) hi.1) gw889 (by decide +kernel) rfl dL_law_1378 ⟨Nat.le_of_ble_eq_true rfl, Nat.le_of_ble_eq_true rfl⟩ ⟨by show (_ : Nat) ≤ 601024; omega, by show (_ : Nat) ≤ 7293034; omega⟩ (Nat.le_of_ble_eq_true rfl) (dki ?_)
  refine j_istore (lv' := [(6, .int _), (5, .int _), (0, .ref _), (1, .ref _), (2, .ref _), (3, .ref _), (4, .int _)]) C dL_law_1381 (by decide) rfl ?_
  refine j_aload_n (i := 2) C dL_law_1383 rfl 4 rfl ?_
  refine j_callV (nargs := 0) (As := []) (Cn := RX4) C (0) rfl rfl rfl gw699 gw700 gw701 gw49 (kX4_thrown l D ct sa a (f_until σ (xs (4 * t + 1))).1 (f_until σ (xs (4 * t + 1))).2.2 (WX ct sa ad2 mcn2 φ2 (f_until σ (xs (4 * t + 1))).2.2 ++ [oC ct qo g2])) gw702 (by decide +kernel) rfl dL_law_1384 ⟨Nat.le_of_ble_eq_true rfl, Nat.le_of_ble_eq_true rfl⟩ ⟨by show (_ : Nat) ≤ 601024; omega, by show (_ : Nat) ≤ 7293034; omega⟩ (Nat.le_of_ble_eq_true rfl) (dki ?_)
  refine j_swap (a := []) (b := WM ct a (f_until σ (xs (4 * t + 1))).1 (f_until σ (xs (4 * t + 1))).2.2) (c0 := WX ct sa ad2 mcn2 φ2 (f_until σ (xs (4 * t + 1))).2.2 ++ [oC ct qo g2]) rfl ?_
  refine j_ws (ws1 := WX ct sa ad2 mcn2 φ2 (f_until σ (xs (4 * t + 1))).2.2 ++ (oC ct qo g2 :: WM ct a (f_until σ (xs (4 * t + 1))).1 (f_until σ (xs (4 * t + 1))).2.2)) sw_b ?_
  refine j_iload C dL_law_1387 1 rfl ?_
  refine j_icmp_eq C 1394 dL_law_1389 (by decide) (fun c1389 => ?_) (fun c1389 => by exact absurd rfl c1389)
  refine j_iload C dL_law_1394 1 rfl ?_
  refine j_if_ne C 1411 dL_law_1396 (by decide) (fun c1396 => ?_) (fun c1396 => ?_)
  · refine j_goto C 1482 dL_law_1411 (by decide) ?_
    exact j_lvs [2, 3, 4, 5, 6] rfl (j_widen (k1 := k + 800) (n1 := n + 4800) (by omega) (by omega) (kk _ _ _ _ _ _ (i1_until hi) ha))
  · refine j_aload_n (i := 3) C dL_law_1399 rfl 5 rfl ?_
    refine j_iconst (v := nI 0) C dL_law_1400 (by decide) ?_
    refine j_lald C ((WX ct sa ad2 mcn2 φ2 (f_until σ (xs (4 * t + 1))).2.2).length) th_at0 (0) rfl (by decide) (by decide) dL_law_1401 ?_
    refine j_iload C dL_law_1402 0 rfl ?_
    refine j_i2l C dL_law_1404 rfl ?_
    refine j_lcmpE C (hg c1396) dL_law_1405 ?_
    refine j_if_eq C 1411 dL_law_1406 (by decide) (fun c1406 => ?_) (fun c1406 => by exact absurd (by decide) c1406)
    refine j_goto C 1482 dL_law_1411 (by decide) ?_
    exact j_lvs [2, 3, 4, 5, 6] rfl (j_widen (k1 := k + 800) (n1 := n + 4800) (by omega) (by omega) (kk _ _ _ _ _ _ (i1_until hi) ha))
set_option maxRecDepth 100000 in
set_option maxHeartbeats 800000 in
theorem kLaw_weakest {X : Ctx} {l : Launch} {D : va_G} {ct : Nat → ClassId} {sa : Nat → Nat} (htr : l.stackTraces = false) (C : jC X l D ct sa cL_law 9 "LetterLocksLaw" rmL) {b L : Nat} {xs : Nat → Int32} (SC : jScr X b L xs) (hL : L ≤ 2048) (t : Nat) (ht : 4 * t + 4 ≤ L) (ad a : Nat → Nat) (mcn thr : Int32) (φ : LD) (σ : St) (qo : Nat) (g : Nat → Int64) (hi : Inv1 σ) (k n : Nat) (hk : k + 800 ≤ 601024) (hn : n + 4800 ≤ 7293034) (kk : ∀ (ad' : Nat → Nat) (mcn' thr' : Int32) (φ' : LD) (σ' : St) (g' : Nat → Int64), Inv1 σ' → ad' 0 = ad 0 → J X (WX ct sa ad' mcn' φ' σ' ++ (oC ct qo g' :: WM ct a thr' σ')) (k + 800) (n + 4800) 1482 (lvL b (ad 0) (a 0) qo (nI (4 * t))) []) : J X (WX ct sa ad mcn φ σ ++ (oC ct qo g :: WM ct a thr σ)) k n 1414 (lvL b (ad 0) (a 0) qo (nI (4 * t))) [] := by
  refine j_aload_n (i := 1) C dL_law_1414 rfl 1 rfl ?_
  refine j_callV (nargs := 0) (As := []) (Cn := RX3) C (0) rfl rfl rfl gw177 gw178 gw179 gw42 (kX3_weakest l htr D ct sa ad mcn φ σ (oC ct qo g :: WM ct a thr σ) hi) gw180 (by decide +kernel) rfl dL_law_1415 ⟨Nat.le_of_ble_eq_true rfl, Nat.le_of_ble_eq_true rfl⟩ ⟨by show (_ : Nat) ≤ 601024; omega, by show (_ : Nat) ≤ 7293034; omega⟩ (Nat.le_of_ble_eq_true rfl) (dki ?_)
  refine j_swap (a := []) (b := WX ct sa ad mcn φ σ ++ [oC ct qo g]) (c0 := WM ct a thr σ) sw_a ?_
  refine j_aload_n (i := 2) C dL_law_1418 rfl 2 rfl ?_
  refine j_callV (nargs := 0) (As := []) (Cn := RX4) C (0) rfl rfl rfl gw890 gw891 gw892 gw49 (kX4_weakest l D ct sa a thr σ (WX ct sa ad mcn φ σ ++ [oC ct qo g]) hi.1) gw893 (by decide +kernel) rfl dL_law_1419 ⟨Nat.le_of_ble_eq_true rfl, Nat.le_of_ble_eq_true rfl⟩ ⟨by show (_ : Nat) ≤ 601024; omega, by show (_ : Nat) ≤ 7293034; omega⟩ (Nat.le_of_ble_eq_true rfl) (dki ?_)
  refine j_swap (a := []) (b := WM ct a (nI 0) σ) (c0 := WX ct sa ad mcn φ σ ++ [oC ct qo g]) rfl ?_
  refine j_ws (ws1 := WX ct sa ad mcn φ σ ++ (oC ct qo g :: WM ct a (nI 0) σ)) sw_b ?_
  refine j_icmp_eq C 1482 dL_law_1422 (by decide) (fun c1422 => ?_) (fun c1422 => by exact absurd rfl c1422)
  exact j_lvs [0, 1, 2, 3, 4] rfl (j_widen (k1 := k + 800) (n1 := n + 4800) (by omega) (by omega) (kk _ _ _ _ _ _ hi rfl))
set_option maxRecDepth 100000 in
set_option maxHeartbeats 800000 in
theorem kLaw_mean {X : Ctx} {l : Launch} {D : va_G} {ct : Nat → ClassId} {sa : Nat → Nat} (htr : l.stackTraces = false) (C : jC X l D ct sa cL_law 9 "LetterLocksLaw" rmL) {b L : Nat} {xs : Nat → Int32} (SC : jScr X b L xs) (hL : L ≤ 2048) (t : Nat) (ht : 4 * t + 4 ≤ L) (ad a : Nat → Nat) (mcn thr : Int32) (φ : LD) (σ : St) (qo : Nat) (g : Nat → Int64) (hi : Inv1 σ) (k n : Nat) (hk : k + 800 ≤ 601024) (hn : n + 4800 ≤ 7293034) (kk : ∀ (ad' : Nat → Nat) (mcn' thr' : Int32) (φ' : LD) (σ' : St) (g' : Nat → Int64), Inv1 σ' → ad' 0 = ad 0 → J X (WX ct sa ad' mcn' φ' σ' ++ (oC ct qo g' :: WM ct a thr' σ')) (k + 800) (n + 4800) 1482 (lvL b (ad 0) (a 0) qo (nI (4 * t))) []) : J X (WX ct sa ad mcn φ σ ++ (oC ct qo g :: WM ct a thr σ)) k n 1427 (lvL b (ad 0) (a 0) qo (nI (4 * t))) [] := by
  refine j_aload_n (i := 1) C dL_law_1427 rfl 1 rfl ?_
  refine j_callV (nargs := 0) (As := []) (Cn := RX3) C (0) rfl rfl rfl gw307 gw308 gw309 gw42 (kX3_mean l D ct sa ad mcn φ σ (oC ct qo g :: WM ct a thr σ) hi) gw310 (by decide +kernel) rfl dL_law_1428 ⟨Nat.le_of_ble_eq_true rfl, Nat.le_of_ble_eq_true rfl⟩ ⟨by show (_ : Nat) ≤ 601024; omega, by show (_ : Nat) ≤ 7293034; omega⟩ (Nat.le_of_ble_eq_true rfl) (dkd ?_)
  refine j_swap (a := []) (b := WX ct sa ad mcn φ σ ++ [oC ct qo g]) (c0 := WM ct a thr σ) sw_a ?_
  refine j_dstore (lv' := [(5, .double _), (0, .ref _), (1, .ref _), (2, .ref _), (3, .ref _), (4, .int _)]) C dL_law_1431 (by decide) rfl ?_
  refine j_aload_n (i := 2) C dL_law_1433 rfl 3 rfl ?_
  refine j_callV (nargs := 0) (As := []) (Cn := RX4) C (0) rfl rfl rfl gw894 gw895 gw896 gw49 (kX4_mean l D ct sa a thr σ (WX ct sa ad mcn φ σ ++ [oC ct qo g]) hi.1) gw897 (by decide +kernel) rfl dL_law_1434 ⟨Nat.le_of_ble_eq_true rfl, Nat.le_of_ble_eq_true rfl⟩ ⟨by show (_ : Nat) ≤ 601024; omega, by show (_ : Nat) ≤ 7293034; omega⟩ (Nat.le_of_ble_eq_true rfl) (dkd ?_)
  refine j_swap (a := []) (b := WM ct a (nI 0) σ) (c0 := WX ct sa ad mcn φ σ ++ [oC ct qo g]) rfl ?_
  refine j_ws (ws1 := WX ct sa ad mcn φ σ ++ (oC ct qo g :: WM ct a (nI 0) σ)) sw_b ?_
  refine j_dstore (lv' := [(7, .double _), (5, .double _), (0, .ref _), (1, .ref _), (2, .ref _), (3, .ref _), (4, .int _)]) C dL_law_1437 (by decide) rfl ?_
  refine j_dload C dL_law_1439 1 rfl ?_
  refine j_dload C dL_law_1441 0 rfl ?_
  refine j_dcmp C dL_law_1443 ?_
  refine j_if_eq C 1465 dL_law_1444 (by decide) (fun c1444 => ?_) (fun c1444 => ?_)
  · refine j_goto C 1482 dL_law_1465 (by decide) ?_
    exact j_lvs [2, 3, 4, 5, 6] rfl (j_widen (k1 := k + 800) (n1 := n + 4800) (by omega) (by omega) (kk _ _ _ _ _ _ hi rfl))
  · refine j_dload C dL_law_1447 1 rfl ?_
    refine j_dload C dL_law_1449 1 rfl ?_
    refine j_dcmp C dL_law_1451 ?_
    refine j_if_eq C 1463 dL_law_1452 (by decide) (fun c1452 => by exact absurd c1452 c1444) (fun c1452 => ?_)
    refine j_dload C dL_law_1455 0 rfl ?_
    refine j_dload C dL_law_1457 0 rfl ?_
    refine j_dcmp C dL_law_1459 ?_
    refine j_if_ne C 1465 dL_law_1460 (by decide) (fun c1460 => ?_) (fun c1460 => by exact absurd c1460 c1444)
    refine j_goto C 1482 dL_law_1465 (by decide) ?_
    exact j_lvs [2, 3, 4, 5, 6] rfl (j_widen (k1 := k + 800) (n1 := n + 4800) (by omega) (by omega) (kk _ _ _ _ _ _ hi rfl))
set_option maxRecDepth 100000 in
set_option maxHeartbeats 800000 in
theorem kLaw_digest {X : Ctx} {l : Launch} {D : va_G} {ct : Nat → ClassId} {sa : Nat → Nat} (htr : l.stackTraces = false) (C : jC X l D ct sa cL_law 9 "LetterLocksLaw" rmL) {b L : Nat} {xs : Nat → Int32} (SC : jScr X b L xs) (hL : L ≤ 2048) (t : Nat) (ht : 4 * t + 4 ≤ L) (ad a : Nat → Nat) (mcn thr : Int32) (φ : LD) (σ : St) (qo : Nat) (g : Nat → Int64) (hi : Inv1 σ) (k n : Nat) (hk : k + 800 ≤ 601024) (hn : n + 4800 ≤ 7293034) (kk : ∀ (ad' : Nat → Nat) (mcn' thr' : Int32) (φ' : LD) (σ' : St) (g' : Nat → Int64), Inv1 σ' → ad' 0 = ad 0 → J X (WX ct sa ad' mcn' φ' σ' ++ (oC ct qo g' :: WM ct a thr' σ')) (k + 800) (n + 4800) 1482 (lvL b (ad 0) (a 0) qo (nI (4 * t))) []) : J X (WX ct sa ad mcn φ σ ++ (oC ct qo g :: WM ct a thr σ)) k n 1468 (lvL b (ad 0) (a 0) qo (nI (4 * t))) [] := by
  refine j_aload_n (i := 1) C dL_law_1468 rfl 1 rfl ?_
  refine j_callV (nargs := 0) (As := []) (Cn := RX3) C (0) rfl rfl rfl gw319 gw320 gw321 gw42 (kX3_digest l htr D ct sa ad mcn φ σ (oC ct qo g :: WM ct a thr σ) hi) gw322 (by decide +kernel) rfl dL_law_1469 ⟨Nat.le_of_ble_eq_true rfl, Nat.le_of_ble_eq_true rfl⟩ ⟨by show (_ : Nat) ≤ 601024; omega, by show (_ : Nat) ≤ 7293034; omega⟩ (Nat.le_of_ble_eq_true rfl) (dkl ?_)
  refine j_swap (a := []) (b := WX ct sa ad mcn φ σ ++ [oC ct qo g]) (c0 := WM ct a thr σ) sw_a ?_
  refine j_aload_n (i := 2) C dL_law_1472 rfl 2 rfl ?_
  refine j_callV (nargs := 0) (As := []) (Cn := RX4) C (0) rfl rfl rfl gw898 gw899 gw900 gw49 (kX4_digest l D ct sa a thr σ (WX ct sa ad mcn φ σ ++ [oC ct qo g]) hi.1) gw901 (by decide +kernel) rfl dL_law_1473 ⟨Nat.le_of_ble_eq_true rfl, Nat.le_of_ble_eq_true rfl⟩ ⟨by show (_ : Nat) ≤ 601024; omega, by show (_ : Nat) ≤ 7293034; omega⟩ (Nat.le_of_ble_eq_true rfl) (dkl ?_)
  refine j_swap (a := []) (b := WM ct a (nI 0) σ) (c0 := WX ct sa ad mcn φ σ ++ [oC ct qo g]) rfl ?_
  refine j_ws (ws1 := WX ct sa ad mcn φ σ ++ (oC ct qo g :: WM ct a (nI 0) σ)) sw_b ?_
  refine j_lcmpE C rfl dL_law_1476 ?_
  refine j_if_eq C 1482 dL_law_1477 (by decide) (fun c1477 => ?_) (fun c1477 => by exact absurd (by decide) c1477)
  exact j_lvs [0, 1, 2, 3, 4] rfl (j_widen (k1 := k + 800) (n1 := n + 4800) (by omega) (by omega) (kk _ _ _ _ _ _ hi rfl))
