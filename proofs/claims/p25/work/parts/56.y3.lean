/-- the law's step: both stations in one state -/
abbrev RA : Room := rM 8 20 120 160
abbrev kAc (ct : Nat → ClassId) (sa sd ad : Nat → Nat) (φ : LD) (h : Nat) : Option Value → va_W → Prop := fun r w => ∃ (sd' ad' : Nat → Nat) (mcn' : Int32) (σ' : St), r = some (.int (nI 1)) ∧ InvL h σ' ∧ sd' 0 = sd 0 ∧ ad' 0 = ad 0 ∧ w = SWs ct sd' σ' ++ WX ct sa ad' mcn' φ σ'
theorem k3_e {K : Nat → Int32} {r : Nat} {a b c : Int32} (h0 : K (3 * r + 0) = a) (h1 : K (3 * r + 1) = b) (h2 : K (3 * r + 2) = c) : ∀ i, i < 3 → upd (upd (upd (fun _ => nI 0) 0 a) 1 b) 2 c i = rkr K r i
  | 0, _ => h0.symm
  | 1, _ => h1.symm
  | 2, _ => h2.symm
theorem rfs_0 {f : Nat → Nat} : (fun _ => none) = rfs 0 f := funext fun i => (if_neg (Nat.not_lt_zero i)).symm
theorem rfs_u {f : Nat → Nat} {i : Nat} : va_up (rfs i f) i (some (f i)) = rfs (i + 1) f := by
  funext q
  by_cases e : q = i
  · subst e
    rw [va_up_self]
    exact (if_pos (Nat.lt_succ_self q)).symm
  · rw [va_up_ne _ _ e]
    show (if q < i then some (f q) else none) = if q < i + 1 then some (f q) else none
    by_cases c : q < i
    · rw [if_pos c, if_pos (by omega)]
    · rw [if_neg c, if_neg (by omega)]
theorem nw_f {sd : Nat → Nat} {n q h qw q1 q2 : Nat} {rw : Nat → Nat} : va_up (rfs n (fun t => sd (10 + 8 * t))) n (some h) = rfs (n + 1) (fun i => sdN sd n q h qw q1 q2 rw (10 + 8 * i)) := by
  funext i
  by_cases e : i = n
  · subst e
    rw [va_up_self]
    show some h = if i < i + 1 then some (sdN sd i q h qw q1 q2 rw (10 + 8 * i)) else none
    rw [if_pos (Nat.lt_succ_self i), sn_h]
  · rw [va_up_ne _ _ e]
    show (if i < n then some (sd (10 + 8 * i)) else none) = if i < n + 1 then some (sdN sd n q h qw q1 q2 rw (10 + 8 * i)) else none
    by_cases c : i < n
    · rw [if_pos c, if_pos (by omega), sn_o (by omega) (by omega)]
    · rw [if_neg c, if_neg (by omega)]
theorem ld_a {σ : St} {k r a : Nat} (hr : r < 4) (ea : sR σ (8 * k + (4 + r)) = nI a) : (ldS σ k).1 r = nI a := by
  show (if r < 4 then sR σ (8 * k + (4 + r)) else nI 0) = _
  rw [if_pos hr, ea]
theorem nw_w {σ : St} {w : Int32} : sR (nwS σ w) (8 * sN σ + 0) = w := (pk_un (by omega)).trans ((pk_un (by omega)).trans pk_us)

set_option maxRecDepth 100000 in
set_option maxHeartbeats 1000000 in
theorem kA_turn2 {X : Ctx} {l : Launch} {D : va_G} {ct : Nat → ClassId} {sa : Nat → Nat} (htr : l.stackTraces = false) (C : jC X l D ct sa cL_act 18 "LetterLocksLaw" RA) {ws0 : va_W} {sd ad : Nat → Nat} {mcn : Int32} {φ : LD} {h : Nat} (E : jE X ws0 (kAc ct sa sd ad φ h) (fun _ => False) 20 120 (Option.some Jvm.ClassFile.FieldType.boolean)) (hh : h < 2 ^ 20) {σ : St} (hi : InvL h σ) {k r q : Nat} {x : Int32} (hj : k < sN σ) (hr4 : r < 4) (hq : q < 6) : J X (SWs ct sd σ ++ WX ct sa ad mcn φ σ) (0) (0) 275 [(0, .ref (ad 0)), (1, .ref (sd 0)), (2, .int x), (3, .int (nI (sN σ))), (4, .int (nI k)), (5, .ref (sd (10 + 8 * k))), (8, .int (nI r))] [.int (nI q)] := by
  have h8 := hi.1.1.1
  obtain ⟨a, ha6, ea⟩ := okI_of ((hi.1.1.2 k (by omega)).2.2 r hr4) (by decide)
  refine j_istore (lv' := [(9, .int _), (0, .ref _), (1, .ref _), (2, .int _), (3, .int _), (4, .int _), (5, .ref _), (8, .int _)]) C dL_act_275 (by decide) rfl ?_
  refine j_aload C dL_act_277 6 rfl ?_
  refine j_get (Cn := RX4) (T := TX4) (N := 6) (ci := 5) C iX4 rfl (6 + 8 * k) (sw_o hj) 1 (by decide) gw499 rfl rfl dL_act_279 ?_
  refine j_iload C dL_act_282 7 rfl ?_
  refine j_iald C (6 + 8 * k + 1) (sw_r hj) (r) rfl hr4 (by decide) dL_act_284 ?_
  refine j_st (st1 := .int (nI a) :: _) (congrArg (fun z => Value.int z :: _) (ld_a hr4 ea)) ?_
  refine j_iload C dL_act_285 0 rfl ?_
  refine j_callS (nargs := 2) (As := [_, _]) C gw601 gw602 gw20 (kL_far l D ct sa _ _ _ a q rfl rfl ha6 hq) gw603 (by decide +kernel) rfl dL_act_287 ⟨Nat.le_of_ble_eq_true rfl, Nat.le_of_ble_eq_true rfl⟩ ⟨Nat.le_of_ble_eq_true rfl, Nat.le_of_ble_eq_true rfl⟩ (Nat.le_of_ble_eq_true rfl) (dki ?_)
  refine j_istore (lv' := [(10, .int _), (9, .int _), (0, .ref _), (1, .ref _), (2, .int _), (3, .int _), (4, .int _), (5, .ref _), (8, .int _)]) C dL_act_290 (by decide) rfl ?_
  refine j_aload C dL_act_292 7 rfl ?_
  refine j_get (Cn := RX4) (T := TX4) (N := 6) (ci := 5) C iX4 rfl (6 + 8 * k) (sw_o hj) 1 (by decide) gw499 rfl rfl dL_act_294 ?_
  refine j_iload C dL_act_297 8 rfl ?_
  refine j_iload C dL_act_299 1 rfl ?_
  refine j_iast (ws2 := SW ct sd (sH σ) (sT σ) (sN σ) (sK σ) (updD (ldS σ) k (upd (ldS σ k).1 r (nI q), (ldS σ k).2)) ++ WX ct sa ad mcn φ σ) C (6 + 8 * k + 1) (sw_r hj) (r) rfl hr4 (by decide) (sw_sr hj) dL_act_301 ?_
  refine j_aload_n (i := 1) C dL_act_302 rfl 3 rfl ?_
  refine j_dup C dL_act_303 rfl ?_
  refine j_get (Cn := RX5) (T := TX5) (N := 4) (ci := 6) C iX5 rfl (0) rfl 1 (by decide) gw655 rfl rfl dL_act_304 ?_
  refine j_iload C dL_act_307 0 rfl ?_
  refine j_iadd C dL_act_309 ?_
  refine j_put (Cn := RX5) (T := TX5) (N := 4) (ci := 6) (ws2 := SW ct sd (sH σ) (sT σ + farF (nI a) (nI q)) (sN σ) (sK σ) (updD (ldS σ) k (upd (ldS σ k).1 r (nI q), (ldS σ k).2)) ++ WX ct sa ad mcn φ σ) C iX5 tyX5 tyX5_ok nmX5 rfl (0) rfl 1 (by decide) gw655 rfl rfl rfl rfl rfl (Nat.le_of_ble_eq_true rfl) rfl dL_act_310 ?_
  refine j_ws (ws1 := SWs ct sd (uT (uR σ (upd (sR σ) (8 * k + (4 + r)) (nI q))) (sT σ + farF (nI a) (nI q))) ++ WX ct sa ad mcn φ (σ)) (congrArg (fun w => w ++ _) (sw_u (fun i hne => ld_o hne (by omega)) (ld_l hr4))) ?_
  refine j_aload_n (i := 0) C dL_act_313 rfl 2 rfl ?_
  refine j_iload C dL_act_314 6 rfl ?_
  refine j_iload C dL_act_316 8 rfl ?_
  refine j_iload C dL_act_318 1 rfl ?_
  have ef := tn_v hj hi.1.1.1 hr4 hq ea
  refine j_sw (A := SWs ct sd (uT (uR σ (upd (sR σ) (8 * k + (4 + r)) (nI q))) (sT σ + farF (nI a) (nI q)))) (B := WX ct sa ad mcn φ (σ)) ?_
  refine j_callVX (nargs := 3) (As := [_, _, _]) (Cn := RX3) C (0) rfl rfl rfl gw157 gw158 gw159 gw21 (kX3_turn l htr D ct sa ad mcn φ (σ) (SWs ct sd (uT (uR σ (upd (sR σ) (8 * k + (4 + r)) (nI q))) (sT σ + farF (nI a) (nI q)))) (nI k) (nI r) (nI q) hi.1) gw160 (by decide +kernel) rfl dL_act_320 ⟨Nat.le_of_ble_eq_true rfl, Nat.le_of_ble_eq_true rfl⟩ ⟨Nat.le_of_ble_eq_true rfl, Nat.le_of_ble_eq_true rfl⟩ (Nat.le_of_ble_eq_true rfl) (fun En hx => (kx_no hx (congrArg (fun f => f.1) ef) (by decide)).elim) (fun r w hk => ?_)
  obtain ⟨-, rfl, rfl⟩ := hk
  refine j_st (st1 := .int (farF (nI a) (nI q)) :: _) (by rw [ef]; rfl) ?_
  refine j_ws (ws1 := WX ct sa ad mcn φ (uT (uR σ (upd (sR σ) (8 * k + (4 + r)) (nI q))) (sT σ + farF (nI a) (nI q))) ++ SWs ct sd (uT (uR σ (upd (sR σ) (8 * k + (4 + r)) (nI q))) (sT σ + farF (nI a) (nI q)))) (by rw [ef]) ?_
  refine j_sw (A := WX ct sa ad mcn φ (uT (uR σ (upd (sR σ) (8 * k + (4 + r)) (nI q))) (sT σ + farF (nI a) (nI q)))) (B := SWs ct sd (uT (uR σ (upd (sR σ) (8 * k + (4 + r)) (nI q))) (sT σ + farF (nI a) (nI q)))) ?_
  refine j_iload C dL_act_323 0 rfl ?_
  refine j_icmp_ne C 332 dL_act_325 (by decide) (fun c325 => by exact absurd rfl c325) (fun c325 => ?_)
  refine j_iconst (v := nI 1) C dL_act_328 (by decide) ?_
  refine j_goto C 333 dL_act_329 (by decide) ?_
  exact j_ireturn C E (by first | exact nr_b | rfl) dL_act_333 (Nat.le_of_ble_eq_true rfl) (Nat.le_of_ble_eq_true rfl) (⟨sd, ad, mcn, uT (uR σ (upd (sR σ) (8 * k + (4 + r)) (nI q))) (sT σ + farF (nI a) (nI q)), rfl, il_turn hi hj hr4 hq ea, rfl, rfl, rfl⟩)
set_option maxRecDepth 100000 in
set_option maxHeartbeats 1000000 in
theorem kA_turn {X : Ctx} {l : Launch} {D : va_G} {ct : Nat → ClassId} {sa : Nat → Nat} (htr : l.stackTraces = false) (C : jC X l D ct sa cL_act 18 "LetterLocksLaw" RA) {ws0 : va_W} {sd ad : Nat → Nat} {mcn : Int32} {φ : LD} {h : Nat} (E : jE X ws0 (kAc ct sa sd ad φ h) (fun _ => False) 20 120 (Option.some Jvm.ClassFile.FieldType.boolean)) (hh : h < 2 ^ 20) {σ : St} (hi : InvL h σ) {k : Nat} {x : Int32} (hj : k < sN σ) : J X (SWs ct sd σ ++ WX ct sa ad mcn φ σ) (0) (0) 231 [(0, .ref (ad 0)), (1, .ref (sd 0)), (2, .int x), (3, .int (nI (sN σ))), (4, .int (nI k)), (5, .ref (sd (10 + 8 * k)))] [] := by
  have h8 := hi.1.1.1
  refine j_iload_n (i := 3) C dL_act_231 rfl 3 rfl ?_
  refine j_if_ne C 237 dL_act_232 (by decide) (fun c232 => ?_) (fun c232 => by exact absurd c232 (nI_ne0 (by omega) (by omega)))
  refine j_iload_n (i := 2) C dL_act_237 rfl 2 rfl ?_
  refine j_iconst (v := nI 3) C dL_act_238 (by decide) ?_
  refine j_ishr C dL_act_239 (fun z239 => ?_)
  refine j_iconst (v := nI 4) C dL_act_240 (by decide) ?_
  refine j_callS (nargs := 2) (As := [_, _]) C gw475 gw476 gw20 (kL_below l D ct sa _ _ _ 4 rfl (by decide) (by decide)) gw477 (by decide +kernel) rfl dL_act_241 ⟨Nat.le_of_ble_eq_true rfl, Nat.le_of_ble_eq_true rfl⟩ ⟨Nat.le_of_ble_eq_true rfl, Nat.le_of_ble_eq_true rfl⟩ (Nat.le_of_ble_eq_true rfl) (fun r w hk => ?_)
  obtain ⟨r, h_r, rfl, rfl⟩ := hk
  refine j_st (st1 := .int (nI r) :: _) rfl ?_
  refine j_istore (lv' := [(8, .int _), (0, .ref _), (1, .ref _), (2, .int _), (3, .int _), (4, .int _), (5, .ref _)]) C dL_act_244 (by decide) rfl ?_
  refine j_iload_n (i := 2) C dL_act_246 rfl 3 rfl ?_
  refine j_iconst (v := nI 4) C dL_act_247 (by decide) ?_
  refine j_ishr C dL_act_248 (fun z248 => ?_)
  refine j_iconst (v := nI 3) C dL_act_249 (by decide) ?_
  refine j_callS (nargs := 2) (As := [_, _]) C gw475 gw476 gw20 (kL_below l D ct sa _ _ _ 3 rfl (by decide) (by decide)) gw477 (by decide +kernel) rfl dL_act_250 ⟨Nat.le_of_ble_eq_true rfl, Nat.le_of_ble_eq_true rfl⟩ ⟨Nat.le_of_ble_eq_true rfl, Nat.le_of_ble_eq_true rfl⟩ (Nat.le_of_ble_eq_true rfl) (fun r w hk => ?_)
  obtain ⟨j3, h_j3, rfl, rfl⟩ := hk
  refine j_st (st1 := .int (nI j3) :: _) rfl ?_
  refine j_if_ne C 267 dL_act_253 (by decide) (fun c253 => ?_) (fun c253 => ?_)
  · refine j_aload C dL_act_267 6 rfl ?_
    refine j_get (Cn := RX4) (T := TX4) (N := 6) (ci := 5) C iX4 rfl (6 + 8 * k) (sw_o hj) 0 (by decide) gw496 rfl rfl dL_act_269 ?_
    refine j_iload C dL_act_272 0 rfl ?_
    obtain ⟨w6, h_w6, ew6⟩ := okI_of (lt_ok (r := r) (hi.1.1.2 k (by omega)).1) (by decide)
    refine j_iald C (6 + 8 * k + 7) (sw_w hj) (r) rfl h_r (by decide) dL_act_274 ?_
    refine j_st (st1 := .int (nI w6) :: _) (congrArg (fun z => Value.int z :: _) ((cut_in h_r).trans ew6)) ?_
    exact j_lvs [1, 2, 3, 4, 5, 6, 0] rfl (kA_turn2 htr C E hh hi hj h_r (by first | exact h_q | exact h_w6))
  · refine j_iload_n (i := 2) C dL_act_256 rfl 3 rfl ?_
    refine j_iconst (v := nI 1) C dL_act_257 (by decide) ?_
    refine j_ishr C dL_act_258 (fun z258 => ?_)
    refine j_bipush (v := nI 6) C dL_act_259 (by decide) ?_
    refine j_callS (nargs := 2) (As := [_, _]) C gw475 gw476 gw20 (kL_below l D ct sa _ _ _ 6 rfl (by decide) (by decide)) gw477 (by decide +kernel) rfl dL_act_261 ⟨Nat.le_of_ble_eq_true rfl, Nat.le_of_ble_eq_true rfl⟩ ⟨Nat.le_of_ble_eq_true rfl, Nat.le_of_ble_eq_true rfl⟩ (Nat.le_of_ble_eq_true rfl) (fun r w hk => ?_)
    obtain ⟨q, h_q, rfl, rfl⟩ := hk
    refine j_st (st1 := .int (nI q) :: _) rfl ?_
    refine j_goto C 275 dL_act_264 (by decide) ?_
    exact j_lvs [1, 2, 3, 4, 5, 6, 0] rfl (kA_turn2 htr C E hh hi hj h_r (by first | exact h_q | exact h_w6))
set_option maxRecDepth 100000 in
set_option maxHeartbeats 1000000 in
theorem kA_op1 {X : Ctx} {l : Launch} {D : va_G} {ct : Nat → ClassId} {sa : Nat → Nat} (htr : l.stackTraces = false) (C : jC X l D ct sa cL_act 18 "LetterLocksLaw" RA) {ws0 : va_W} {sd ad : Nat → Nat} {mcn : Int32} {φ : LD} {h : Nat} (E : jE X ws0 (kAc ct sa sd ad φ h) (fun _ => False) 20 120 (Option.some Jvm.ClassFile.FieldType.boolean)) (hh : h < 2 ^ 20) {k : Nat} {x : Int32} (kc : ∀ τ : St, InvL h τ → k < sN τ → J X (SWs ct sd τ ++ WX ct sa ad mcn φ τ) 12 72 436 [(0, .ref (ad 0)), (1, .ref (sd 0)), (2, .int x), (4, .int (nI k)), (5, .ref (sd (10 + 8 * k)))] []) : ∀ (d r : Nat) (σ : St), r + d = 4 → InvL h σ → k < sN σ → J X (SWs ct sd σ ++ WX ct sa ad mcn φ σ) (3 * r) (18 * r) 343 [(0, .ref (ad 0)), (1, .ref (sd 0)), (2, .int x), (4, .int (nI k)), (5, .ref (sd (10 + 8 * k))), (11, .int (nI r))] [] := by
  intro d
  induction d with
  | zero =>
    intro r σ hd hi hj
    have h8 := hi.1.1.1
    have hr : r = 4 := by omega
    subst hr
    refine j_iload C dL_act_343 5 rfl ?_
    refine j_iconst (v := nI 4) C dL_act_345 (by decide) ?_
    refine j_icmp_ge C 436 dL_act_346 (by decide) (fun c346 => ?_) (fun c346 => by first | exact absurd c346 (by decide) | exact absurd c346 (nI_ge (by omega) (by omega)) | exact absurd (nI_le (by omega) (by omega)) c346 | exact absurd c346 (nI_nlt (by omega) (by omega)) | exact absurd (nI_lt (by omega) (by omega)) c346 | exact absurd c346 (nI_nle0 (by omega) (by omega)))
    exact j_lvs [0, 1, 2, 3, 4] rfl (j_widen (by omega) (by omega) (kc σ hi hj))
  | succ d ih =>
    intro r σ hd hi hj
    have h8 := hi.1.1.1
    have hr4 : r < 4 := by omega
    obtain ⟨a, ha6, ea⟩ := okI_of ((hi.1.1.2 k (by omega)).2.2 r hr4) (by decide)
    obtain ⟨q, hq, eq6⟩ := okI_of (lt_ok (r := r) (hi.1.1.2 k (by omega)).1) (by decide)
    refine j_iload C dL_act_343 5 rfl ?_
    refine j_iconst (v := nI 4) C dL_act_345 (by decide) ?_
    refine j_icmp_ge C 436 dL_act_346 (by decide) (fun c346 => by first | exact absurd c346 (by decide) | exact absurd c346 (nI_ge (by omega) (by omega)) | exact absurd (nI_le (by omega) (by omega)) c346 | exact absurd c346 (nI_nlt (by omega) (by omega)) | exact absurd (nI_lt (by omega) (by omega)) c346 | exact absurd c346 (nI_nle0 (by omega) (by omega))) (fun c346 => ?_)
    refine j_iload_n (i := 2) C dL_act_349 rfl 2 rfl ?_
    refine j_iconst (v := nI 5) C dL_act_350 (by decide) ?_
    refine j_ishr C dL_act_351 (fun z351 => ?_)
    refine j_iconst (v := nI 2) C dL_act_352 (by decide) ?_
    refine j_callS (nargs := 2) (As := [_, _]) C gw475 gw476 gw20 (kL_below l D ct sa _ _ _ 2 rfl (by decide) (by decide)) gw477 (by decide +kernel) rfl dL_act_353 ⟨Nat.le_of_ble_eq_true rfl, Nat.le_of_ble_eq_true rfl⟩ ⟨by show 3 * r + 0 ≤ 20; omega, by show 18 * r + 0 ≤ 120; omega⟩ (Nat.le_of_ble_eq_true rfl) (fun r w hk => ?_)
    obtain ⟨j2, h_j2, rfl, rfl⟩ := hk
    refine j_st (st1 := .int (nI j2) :: _) rfl ?_
    refine j_if_ne C 436 dL_act_356 (by decide) (fun c356 => ?_) (fun c356 => ?_)
    · exact j_lvs [0, 1, 2, 3, 4] rfl (j_widen (by omega) (by omega) (kc σ hi hj))
    · refine j_aload C dL_act_359 4 rfl ?_
      refine j_get (Cn := RX4) (T := TX4) (N := 6) (ci := 5) C iX4 rfl (6 + 8 * k) (sw_o hj) 1 (by decide) gw499 rfl rfl dL_act_361 ?_
      refine j_iload C dL_act_364 5 rfl ?_
      refine j_iald C (6 + 8 * k + 1) (sw_r hj) (r) rfl hr4 (by decide) dL_act_366 ?_
      refine j_st (st1 := .int (nI a) :: _) (congrArg (fun z => Value.int z :: _) (ld_a hr4 ea)) ?_
      refine j_aload C dL_act_367 4 rfl ?_
      refine j_get (Cn := RX4) (T := TX4) (N := 6) (ci := 5) C iX4 rfl (6 + 8 * k) (sw_o hj) 0 (by decide) gw496 rfl rfl dL_act_369 ?_
      refine j_iload C dL_act_372 5 rfl ?_
      refine j_iald C (6 + 8 * k + 7) (sw_w hj) (r) rfl hr4 (by decide) dL_act_374 ?_
      refine j_st (st1 := .int (nI q) :: _) (congrArg (fun z => Value.int z :: _) ((cut_in hr4).trans eq6)) ?_
      refine j_callS (nargs := 2) (As := [_, _]) C gw601 gw602 gw20 (kL_far l D ct sa _ _ _ a q rfl rfl ha6 hq) gw603 (by decide +kernel) rfl dL_act_375 ⟨Nat.le_of_ble_eq_true rfl, Nat.le_of_ble_eq_true rfl⟩ ⟨by show 3 * r + 0 ≤ 20; omega, by show 18 * r + 0 ≤ 120; omega⟩ (Nat.le_of_ble_eq_true rfl) (dki ?_)
      refine j_istore (lv' := [(12, .int _), (0, .ref _), (1, .ref _), (2, .int _), (4, .int _), (5, .ref _), (11, .int _)]) C dL_act_378 (by decide) rfl ?_
      refine j_aload_n (i := 1) C dL_act_380 rfl 2 rfl ?_
      refine j_dup C dL_act_381 rfl ?_
      refine j_get (Cn := RX5) (T := TX5) (N := 4) (ci := 6) C iX5 rfl (0) rfl 1 (by decide) gw655 rfl rfl dL_act_382 ?_
      refine j_iload C dL_act_385 0 rfl ?_
      refine j_iadd C dL_act_387 ?_
      refine j_put (Cn := RX5) (T := TX5) (N := 4) (ci := 6) (ws2 := SW ct sd (sH σ) (sT σ + farF (nI a) (nI q)) (sN σ) (sK σ) (ldS σ) ++ WX ct sa ad mcn φ σ) C iX5 tyX5 tyX5_ok nmX5 rfl (0) rfl 1 (by decide) gw655 rfl rfl rfl rfl rfl (Nat.le_of_ble_eq_true rfl) rfl dL_act_388 ?_
      refine j_aload C dL_act_391 5 rfl ?_
      refine j_get (Cn := RX4) (T := TX4) (N := 6) (ci := 5) C iX4 rfl (6 + 8 * k) (sw_o hj) 1 (by decide) gw499 rfl rfl dL_act_393 ?_
      refine j_iload C dL_act_396 6 rfl ?_
      refine j_aload C dL_act_398 5 rfl ?_
      refine j_get (Cn := RX4) (T := TX4) (N := 6) (ci := 5) C iX4 rfl (6 + 8 * k) (sw_o hj) 0 (by decide) gw496 rfl rfl dL_act_400 ?_
      refine j_iload C dL_act_403 6 rfl ?_
      refine j_iald C (6 + 8 * k + 7) (sw_w hj) (r) rfl hr4 (by decide) dL_act_405 ?_
      refine j_st (st1 := .int (nI q) :: _) (congrArg (fun z => Value.int z :: _) ((cut_in hr4).trans eq6)) ?_
      refine j_iast (ws2 := SW ct sd (sH σ) (sT σ + farF (nI a) (nI q)) (sN σ) (sK σ) (updD (ldS σ) k (upd (ldS σ k).1 r (nI q), (ldS σ k).2)) ++ WX ct sa ad mcn φ σ) C (6 + 8 * k + 1) (sw_r hj) (r) rfl hr4 (by decide) (sw_sr hj) dL_act_406 ?_
      refine j_ws (ws1 := SWs ct sd (uT (uR σ (upd (sR σ) (8 * k + (4 + r)) (nI q))) (sT σ + farF (nI a) (nI q))) ++ WX ct sa ad mcn φ (σ)) (congrArg (fun w => w ++ _) (sw_u (fun i hne => ld_o hne (by omega)) (ld_l hr4))) ?_
      refine j_aload_n (i := 0) C dL_act_407 rfl 1 rfl ?_
      refine j_iload C dL_act_408 4 rfl ?_
      refine j_iload C dL_act_410 6 rfl ?_
      refine j_aload C dL_act_412 5 rfl ?_
      refine j_get (Cn := RX4) (T := TX4) (N := 6) (ci := 5) C iX4 rfl (6 + 8 * k) (sw_o hj) 0 (by decide) gw496 rfl rfl dL_act_414 ?_
      refine j_iload C dL_act_417 6 rfl ?_
      refine j_iald C (6 + 8 * k + 7) (sw_w hj) (r) rfl hr4 (by decide) dL_act_419 ?_
      refine j_st (st1 := .int (nI q) :: _) (congrArg (fun z => Value.int z :: _) ((cut_in hr4).trans (by rw [show (ldS (uT (uR σ (upd (sR σ) (8 * k + (4 + r)) (nI q))) (sT σ + farF (nI a) (nI q))) k).2.2.1 = sR σ (8 * k + 0) from pk_un (by omega)]; exact eq6))) ?_
      have ef := tn_v hj hi.1.1.1 hr4 hq ea
      refine j_sw (A := SWs ct sd (uT (uR σ (upd (sR σ) (8 * k + (4 + r)) (nI q))) (sT σ + farF (nI a) (nI q)))) (B := WX ct sa ad mcn φ (σ)) ?_
      refine j_callVX (nargs := 3) (As := [_, _, _]) (Cn := RX3) C (0) rfl rfl rfl gw157 gw158 gw159 gw21 (kX3_turn l htr D ct sa ad mcn φ (σ) (SWs ct sd (uT (uR σ (upd (sR σ) (8 * k + (4 + r)) (nI q))) (sT σ + farF (nI a) (nI q)))) (nI k) (nI r) (nI q) hi.1) gw160 (by decide +kernel) rfl dL_act_420 ⟨Nat.le_of_ble_eq_true rfl, Nat.le_of_ble_eq_true rfl⟩ ⟨by show 3 * r + 3 ≤ 20; omega, by show 18 * r + 18 ≤ 120; omega⟩ (Nat.le_of_ble_eq_true rfl) (fun En hx => (kx_no hx (congrArg (fun f => f.1) ef) (by decide)).elim) (fun r w hk => ?_)
      obtain ⟨-, rfl, rfl⟩ := hk
      refine j_st (st1 := .int (farF (nI a) (nI q)) :: _) (by rw [ef]; rfl) ?_
      refine j_ws (ws1 := WX ct sa ad mcn φ (uT (uR σ (upd (sR σ) (8 * k + (4 + r)) (nI q))) (sT σ + farF (nI a) (nI q))) ++ SWs ct sd (uT (uR σ (upd (sR σ) (8 * k + (4 + r)) (nI q))) (sT σ + farF (nI a) (nI q)))) (by rw [ef]) ?_
      refine j_sw (A := WX ct sa ad mcn φ (uT (uR σ (upd (sR σ) (8 * k + (4 + r)) (nI q))) (sT σ + farF (nI a) (nI q)))) (B := SWs ct sd (uT (uR σ (upd (sR σ) (8 * k + (4 + r)) (nI q))) (sT σ + farF (nI a) (nI q)))) ?_
      refine j_iload C dL_act_423 0 rfl ?_
      refine j_icmp_eq C 430 dL_act_425 (by decide) (fun c425 => ?_) (fun c425 => by exact absurd rfl c425)
      refine j_iinc (v := nI (r + 1)) (z := 6) (lv' := [(11, .int _), (12, .int _), (0, .ref _), (1, .ref _), (2, .int _), (4, .int _), (5, .ref _)]) C dL_act_430 rfl (nI_1 r) (by decide) rfl ?_
      refine j_goto C 343 dL_act_433 (by decide) ?_
      exact j_lvs [2, 3, 4, 5, 6, 0] rfl (ih (r + 1) (uT (uR σ (upd (sR σ) (8 * k + (4 + r)) (nI q))) (sT σ + farF (nI a) (nI q))) (by omega) (il_turn hi hj hr4 hq ea) hj)
set_option maxRecDepth 100000 in
set_option maxHeartbeats 1000000 in
theorem kA_op3 {X : Ctx} {l : Launch} {D : va_G} {ct : Nat → ClassId} {sa : Nat → Nat} (htr : l.stackTraces = false) (C : jC X l D ct sa cL_act 18 "LetterLocksLaw" RA) {ws0 : va_W} {sd ad : Nat → Nat} {mcn : Int32} {φ : LD} {h : Nat} (E : jE X ws0 (kAc ct sa sd ad φ h) (fun _ => False) 20 120 (Option.some Jvm.ClassFile.FieldType.boolean)) (hh : h < 2 ^ 20) {σ : St} (hi : InvL h σ) {k : Nat} {x v : Int32} (hj : k < sN σ) (hv : v = opV σ k) : J X (SWs ct sd σ ++ WX ct sa ad mcn φ σ) (12) (72) 470 [(0, .ref (ad 0)), (1, .ref (sd 0)), (2, .int x), (4, .int (nI k)), (5, .ref (sd (10 + 8 * k)))] [.int v, .ref (sd (10 + 8 * k))] := by
  have h8 := hi.1.1.1
  subst hv
  refine j_put (Cn := RX4) (T := TX4) (N := 6) (ci := 5) (ws2 := SWs ct sd (uR σ (upd (sR σ) (8 * k + 1) (opV σ k))) ++ WX ct sa ad mcn φ (σ)) C iX4 tyX4 tyX4_ok nmX4 rfl (6 + 8 * k) (sw_o hj) 3 (by decide) gw504 rfl rfl rfl (nar_b b2i_01) (fit_b b2i_01) (Nat.le_of_ble_eq_true rfl) ((sw_so hj).trans (congrArg (fun w => w ++ _) (sw_u (σ' := uR σ (upd (sR σ) (8 * k + 1) (opV σ k))) (fun i hne => ld_o hne (by decide)) (by rw [ld_h (by decide)]; rfl)))) dL_act_470 ?_
  refine j_aload_n (i := 0) C dL_act_473 rfl 0 rfl ?_
  refine j_iload C dL_act_474 3 rfl ?_
  have ef := op_v hi.1 hj
  refine j_sw (A := SWs ct sd (uR σ (upd (sR σ) (8 * k + 1) (opV σ k)))) (B := WX ct sa ad mcn φ (σ)) ?_
  refine j_callVX (nargs := 1) (As := [_]) (Cn := RX3) C (0) rfl rfl rfl gw295 gw296 gw297 gw21 (kX3_open l htr D ct sa ad mcn φ (σ) (SWs ct sd (uR σ (upd (sR σ) (8 * k + 1) (opV σ k)))) (nI k) hi.1) gw298 (by decide +kernel) rfl dL_act_476 ⟨Nat.le_of_ble_eq_true rfl, Nat.le_of_ble_eq_true rfl⟩ ⟨Nat.le_of_ble_eq_true rfl, Nat.le_of_ble_eq_true rfl⟩ (Nat.le_of_ble_eq_true rfl) (fun En hx => (kx_no hx (congrArg (fun f => f.1) ef) (by decide)).elim) (fun r w hk => ?_)
  obtain ⟨-, rfl, rfl⟩ := hk
  refine j_st (st1 := .int (opV σ k) :: _) (by rw [ef]; rfl) ?_
  refine j_ws (ws1 := WX ct sa ad mcn φ (uR σ (upd (sR σ) (8 * k + 1) (opV σ k))) ++ SWs ct sd (uR σ (upd (sR σ) (8 * k + 1) (opV σ k)))) (by rw [ef]) ?_
  refine j_sw (A := WX ct sa ad mcn φ (uR σ (upd (sR σ) (8 * k + 1) (opV σ k)))) (B := SWs ct sd (uR σ (upd (sR σ) (8 * k + 1) (opV σ k)))) ?_
  refine j_aload C dL_act_479 4 rfl ?_
  refine j_get (Cn := RX4) (T := TX4) (N := 6) (ci := 5) C iX4 rfl (6 + 8 * k) (sw_o (show k < sN (uR σ (upd (sR σ) (8 * k + 1) (opV σ k))) from hj)) 3 (by decide) gw504 rfl rfl dL_act_481 ?_
  refine j_st (st1 := .int (opV σ k) :: _) (congrArg (fun z => Value.int z :: _) pk_us) ?_
  refine j_icmp_ne C 491 dL_act_484 (by decide) (fun c484 => by exact absurd rfl c484) (fun c484 => ?_)
  refine j_iconst (v := nI 1) C dL_act_487 (by decide) ?_
  refine j_goto C 492 dL_act_488 (by decide) ?_
  exact j_ireturn C E (by first | exact nr_b | rfl) dL_act_492 (Nat.le_of_ble_eq_true rfl) (Nat.le_of_ble_eq_true rfl) (⟨sd, ad, mcn, uR σ (upd (sR σ) (8 * k + 1) (opV σ k)), rfl, il_open hi hj, rfl, rfl, rfl⟩)
set_option maxRecDepth 100000 in
set_option maxHeartbeats 1000000 in
theorem kA_op2 {X : Ctx} {l : Launch} {D : va_G} {ct : Nat → ClassId} {sa : Nat → Nat} (htr : l.stackTraces = false) (C : jC X l D ct sa cL_act 18 "LetterLocksLaw" RA) {ws0 : va_W} {sd ad : Nat → Nat} {mcn : Int32} {φ : LD} {h : Nat} (E : jE X ws0 (kAc ct sa sd ad φ h) (fun _ => False) 20 120 (Option.some Jvm.ClassFile.FieldType.boolean)) (hh : h < 2 ^ 20) {σ : St} (hi : InvL h σ) {k : Nat} {x : Int32} (hj : k < sN σ) : J X (SWs ct sd σ ++ WX ct sa ad mcn φ σ) (12) (72) 436 [(0, .ref (ad 0)), (1, .ref (sd 0)), (2, .int x), (4, .int (nI k)), (5, .ref (sd (10 + 8 * k)))] [] := by
  have h8 := hi.1.1.1
  refine j_aload C dL_act_436 4 rfl ?_
  refine j_aload C dL_act_438 4 rfl ?_
  refine j_get (Cn := RX4) (T := TX4) (N := 6) (ci := 5) C iX4 rfl (6 + 8 * k) (sw_o hj) 3 (by decide) gw504 rfl rfl dL_act_440 ?_
  refine j_if_ne C 465 dL_act_443 (by decide) (fun c443 => ?_) (fun c443 => ?_)
  · refine j_iconst (v := nI 1) C dL_act_465 (by decide) ?_
    refine j_goto C 470 dL_act_466 (by decide) ?_
    exact j_lvs [0, 1, 2, 3, 4] rfl (kA_op3 htr C E hh hi hj (by first | exact (b2i_y (Or.inl c443)).symm | exact (b2i_y (Or.inr c462)).symm | exact (b2i_n (fun z => z.elim (fun q => q c443) c462)).symm))
  · refine j_aload C dL_act_446 4 rfl ?_
    refine j_get (Cn := RX4) (T := TX4) (N := 6) (ci := 5) C iX4 rfl (6 + 8 * k) (sw_o hj) 1 (by decide) gw499 rfl rfl dL_act_448 ?_
    refine j_callS (nargs := 1) (As := [_]) C gw483 gw462 gw20 (kL_word l D ct sa _ (6 + 8 * k + 1) _ _ (sw_r hj) (ld_let hi.1.1 (by omega)).1) gw463 (by decide +kernel) rfl dL_act_451 ⟨Nat.le_of_ble_eq_true rfl, Nat.le_of_ble_eq_true rfl⟩ ⟨Nat.le_of_ble_eq_true rfl, Nat.le_of_ble_eq_true rfl⟩ (Nat.le_of_ble_eq_true rfl) (dki ?_)
    refine j_st (st1 := .int (stR (sR σ) k) :: _) (congrArg (fun z => Value.int z :: _) (st_l σ k)) ?_
    refine j_aload C dL_act_454 4 rfl ?_
    refine j_get (Cn := RX4) (T := TX4) (N := 6) (ci := 5) C iX4 rfl (6 + 8 * k) (sw_o hj) 0 (by decide) gw496 rfl rfl dL_act_456 ?_
    refine j_callS (nargs := 1) (As := [_]) C gw483 gw462 gw20 (kL_word l D ct sa _ (6 + 8 * k + 7) _ _ (sw_w hj) (ok_ltc (ld_let hi.1.1 (by omega)).2)) gw463 (by decide +kernel) rfl dL_act_459 ⟨Nat.le_of_ble_eq_true rfl, Nat.le_of_ble_eq_true rfl⟩ ⟨Nat.le_of_ble_eq_true rfl, Nat.le_of_ble_eq_true rfl⟩ (Nat.le_of_ble_eq_true rfl) (dki ?_)
    refine j_st (st1 := .int (sR σ (8 * k + 0)) :: _) (congrArg (fun z => Value.int z :: _) (st_ltc (ld_let hi.1.1 (by omega)).2)) ?_
    refine j_icmp_ne C 469 dL_act_462 (by decide) (fun c462 => ?_) (fun c462 => ?_)
    · refine j_iconst (v := nI 0) C dL_act_469 (by decide) ?_
      exact j_lvs [0, 1, 2, 3, 4] rfl (kA_op3 htr C E hh hi hj (by first | exact (b2i_y (Or.inl c443)).symm | exact (b2i_y (Or.inr c462)).symm | exact (b2i_n (fun z => z.elim (fun q => q c443) c462)).symm))
    · refine j_iconst (v := nI 1) C dL_act_465 (by decide) ?_
      refine j_goto C 470 dL_act_466 (by decide) ?_
      exact j_lvs [0, 1, 2, 3, 4] rfl (kA_op3 htr C E hh hi hj (by first | exact (b2i_y (Or.inl c443)).symm | exact (b2i_y (Or.inr c462)).symm | exact (b2i_n (fun z => z.elim (fun q => q c443) c462)).symm))
set_option maxRecDepth 100000 in
set_option maxHeartbeats 1000000 in
theorem kA_open {X : Ctx} {l : Launch} {D : va_G} {ct : Nat → ClassId} {sa : Nat → Nat} (htr : l.stackTraces = false) (C : jC X l D ct sa cL_act 18 "LetterLocksLaw" RA) {ws0 : va_W} {sd ad : Nat → Nat} {mcn : Int32} {φ : LD} {h : Nat} (E : jE X ws0 (kAc ct sa sd ad φ h) (fun _ => False) 20 120 (Option.some Jvm.ClassFile.FieldType.boolean)) (hh : h < 2 ^ 20) {σ : St} (hi : InvL h σ) {k : Nat} {x : Int32} (hj : k < sN σ) : J X (SWs ct sd σ ++ WX ct sa ad mcn φ σ) (0) (0) 334 [(0, .ref (ad 0)), (1, .ref (sd 0)), (2, .int x), (3, .int (nI (sN σ))), (4, .int (nI k)), (5, .ref (sd (10 + 8 * k)))] [] := by
  have h8 := hi.1.1.1
  refine j_iload_n (i := 3) C dL_act_334 rfl 3 rfl ?_
  refine j_if_ne C 340 dL_act_335 (by decide) (fun c335 => ?_) (fun c335 => by exact absurd c335 (nI_ne0 (by omega) (by omega)))
  refine j_iconst (v := nI 0) C dL_act_340 (by decide) ?_
  refine j_istore (lv' := [(11, .int _), (0, .ref _), (1, .ref _), (2, .int _), (3, .int _), (4, .int _), (5, .ref _)]) C dL_act_341 (by decide) rfl ?_
  exact j_lvs [1, 2, 3, 5, 6, 0] rfl (kA_op1 htr C E hh (fun τ hτ hjτ => kA_op2 htr C E hh hτ hjτ) 4 0 σ (by omega) hi hj)
set_option maxRecDepth 100000 in
set_option maxHeartbeats 1000000 in
theorem kA_shut {X : Ctx} {l : Launch} {D : va_G} {ct : Nat → ClassId} {sa : Nat → Nat} (htr : l.stackTraces = false) (C : jC X l D ct sa cL_act 18 "LetterLocksLaw" RA) {ws0 : va_W} {sd ad : Nat → Nat} {mcn : Int32} {φ : LD} {h : Nat} (E : jE X ws0 (kAc ct sa sd ad φ h) (fun _ => False) 20 120 (Option.some Jvm.ClassFile.FieldType.boolean)) (hh : h < 2 ^ 20) {σ : St} (hi : InvL h σ) {k : Nat} {x : Int32} (hj : k < sN σ) : J X (SWs ct sd σ ++ WX ct sa ad mcn φ σ) (0) (0) 493 [(0, .ref (ad 0)), (1, .ref (sd 0)), (2, .int x), (3, .int (nI (sN σ))), (4, .int (nI k)), (5, .ref (sd (10 + 8 * k)))] [] := by
  have h8 := hi.1.1.1
  refine j_iload_n (i := 3) C dL_act_493 rfl 3 rfl ?_
  refine j_if_eq C 505 dL_act_494 (by decide) (fun c494 => by exact absurd c494 (nI_ne0 (by omega) (by omega))) (fun c494 => ?_)
  refine j_aload C dL_act_497 5 rfl ?_
  refine j_get (Cn := RX4) (T := TX4) (N := 6) (ci := 5) C iX4 rfl (6 + 8 * k) (sw_o hj) 3 (by decide) gw504 rfl rfl dL_act_499 ?_
  refine j_if_ne C 507 dL_act_502 (by decide) (fun c502 => ?_) (fun c502 => ?_)
  · refine j_aload C dL_act_507 5 rfl ?_
    refine j_callV (nargs := 0) (As := []) (Cn := RX4) C (6 + 8 * k) (sw_o hj) rfl rfl gw604 gw450 gw451 gw29 (kX4_shut l D ct sa _ (6 + 8 * k) (6 + 8 * k + 1) _ _ _ _ _ _ _ _ (sw_o hj) (sw_r hj) (by omega) (ld_let hi.1.1 (by omega)).1) gw452 (by decide +kernel) rfl dL_act_509 ⟨Nat.le_of_ble_eq_true rfl, Nat.le_of_ble_eq_true rfl⟩ ⟨Nat.le_of_ble_eq_true rfl, Nat.le_of_ble_eq_true rfl⟩ (Nat.le_of_ble_eq_true rfl) (dkv ?_)
    refine j_ws (ws1 := SWs ct sd (uR σ (clF (sR σ) k 4)) ++ WX ct sa ad mcn φ (σ)) ((sx_sh hj rfl).trans (congrArg (fun w => w ++ _) (sw_u (σ' := uR σ (clF (sR σ) k 4)) (fun i hne => ld_clo hne) ld_cl))) ?_
    refine j_aload_n (i := 0) C dL_act_512 rfl 0 rfl ?_
    refine j_iload C dL_act_513 4 rfl ?_
    have ef := sh_v hi.1 hj c502
    refine j_sw (A := SWs ct sd (uR σ (clF (sR σ) k 4))) (B := WX ct sa ad mcn φ (σ)) ?_
    refine j_callVX (nargs := 1) (As := [_]) (Cn := RX3) C (0) rfl rfl rfl gw605 gw606 gw607 gw21 (kX3_shut l htr D ct sa ad mcn φ (σ) (SWs ct sd (uR σ (clF (sR σ) k 4))) (nI k) hi.1) gw608 (by decide +kernel) rfl dL_act_515 ⟨Nat.le_of_ble_eq_true rfl, Nat.le_of_ble_eq_true rfl⟩ ⟨Nat.le_of_ble_eq_true rfl, Nat.le_of_ble_eq_true rfl⟩ (Nat.le_of_ble_eq_true rfl) (fun En hx => (kx_no hx (congrArg (fun f => f.1) ef) (by decide)).elim) (fun r w hk => ?_)
    obtain ⟨-, rfl, rfl⟩ := hk
    refine j_st (st1 := .int (stR (clF (sR σ) k 4) k) :: _) (by rw [ef]; rfl) ?_
    refine j_ws (ws1 := WX ct sa ad mcn φ (uR σ (clF (sR σ) k 4)) ++ SWs ct sd (uR σ (clF (sR σ) k 4))) (by rw [ef]) ?_
    refine j_sw (A := WX ct sa ad mcn φ (uR σ (clF (sR σ) k 4))) (B := SWs ct sd (uR σ (clF (sR σ) k 4))) ?_
    refine j_aload C dL_act_518 5 rfl ?_
    refine j_get (Cn := RX4) (T := TX4) (N := 6) (ci := 5) C iX4 rfl (6 + 8 * k) (sw_o (show k < sN (uR σ (clF (sR σ) k 4)) from hj)) 1 (by decide) gw499 rfl rfl dL_act_520 ?_
    refine j_callS (nargs := 1) (As := [_]) C gw483 gw462 gw20 (kL_word l D ct sa _ (6 + 8 * k + 1) _ _ (sw_r (show k < sN (uR σ (clF (sR σ) k 4)) from hj)) (ld_let (il_shut hi hj).1.1 (by omega)).1) gw463 (by decide +kernel) rfl dL_act_523 ⟨Nat.le_of_ble_eq_true rfl, Nat.le_of_ble_eq_true rfl⟩ ⟨Nat.le_of_ble_eq_true rfl, Nat.le_of_ble_eq_true rfl⟩ (Nat.le_of_ble_eq_true rfl) (dki ?_)
    refine j_st (st1 := .int (stR (clF (sR σ) k 4) k) :: _) (congrArg (fun z => Value.int z :: _) (st_l (uR σ (clF (sR σ) k 4)) k)) ?_
    refine j_icmp_ne C 533 dL_act_526 (by decide) (fun c526 => by exact absurd rfl c526) (fun c526 => ?_)
    refine j_iconst (v := nI 1) C dL_act_529 (by decide) ?_
    refine j_goto C 534 dL_act_530 (by decide) ?_
    exact j_ireturn C E (by first | exact nr_b | rfl) dL_act_534 (Nat.le_of_ble_eq_true rfl) (Nat.le_of_ble_eq_true rfl) (⟨sd, ad, mcn, uR σ (clF (sR σ) k 4), rfl, il_shut hi hj, rfl, rfl, rfl⟩)
  · refine j_iconst (v := nI 1) C dL_act_505 (by decide) ?_
    exact j_ireturn C E (by first | exact nr_b | rfl) dL_act_506 (Nat.le_of_ble_eq_true rfl) (Nat.le_of_ble_eq_true rfl) (⟨sd, ad, mcn, σ, rfl, hi, rfl, rfl, rfl⟩)
set_option maxRecDepth 100000 in
set_option maxHeartbeats 1000000 in
theorem kA_rename {X : Ctx} {l : Launch} {D : va_G} {ct : Nat → ClassId} {sa : Nat → Nat} (htr : l.stackTraces = false) (C : jC X l D ct sa cL_act 18 "LetterLocksLaw" RA) {ws0 : va_W} {sd ad : Nat → Nat} {mcn : Int32} {φ : LD} {h : Nat} (E : jE X ws0 (kAc ct sa sd ad φ h) (fun _ => False) 20 120 (Option.some Jvm.ClassFile.FieldType.boolean)) (hh : h < 2 ^ 20) {σ : St} (hi : InvL h σ) {k : Nat} {x : Int32} (hj : k < sN σ) : J X (SWs ct sd σ ++ WX ct sa ad mcn φ σ) (0) (0) 535 [(0, .ref (ad 0)), (1, .ref (sd 0)), (2, .int x), (3, .int (nI (sN σ))), (4, .int (nI k)), (5, .ref (sd (10 + 8 * k)))] [] := by
  have h8 := hi.1.1.1
  refine j_iload_n (i := 3) C dL_act_535 rfl 3 rfl ?_
  refine j_if_eq C 547 dL_act_536 (by decide) (fun c536 => by exact absurd c536 (nI_ne0 (by omega) (by omega))) (fun c536 => ?_)
  refine j_aload C dL_act_539 5 rfl ?_
  refine j_get (Cn := RX4) (T := TX4) (N := 6) (ci := 5) C iX4 rfl (6 + 8 * k) (sw_o hj) 3 (by decide) gw504 rfl rfl dL_act_541 ?_
  refine j_if_ne C 549 dL_act_544 (by decide) (fun c544 => ?_) (fun c544 => ?_)
  · refine j_aload C dL_act_549 5 rfl ?_
    refine j_get (Cn := RX4) (T := TX4) (N := 6) (ci := 5) C iX4 rfl (6 + 8 * k) (sw_o hj) 0 (by decide) gw496 rfl rfl dL_act_551 ?_
    refine j_callS (nargs := 1) (As := [_]) C gw483 gw462 gw20 (kL_word l D ct sa _ (6 + 8 * k + 7) _ _ (sw_w hj) (ok_ltc (ld_let hi.1.1 (by omega)).2)) gw463 (by decide +kernel) rfl dL_act_554 ⟨Nat.le_of_ble_eq_true rfl, Nat.le_of_ble_eq_true rfl⟩ ⟨Nat.le_of_ble_eq_true rfl, Nat.le_of_ble_eq_true rfl⟩ (Nat.le_of_ble_eq_true rfl) (dki ?_)
    refine j_st (st1 := .int (sR σ (8 * k + 0)) :: _) (congrArg (fun z => Value.int z :: _) (st_ltc (ld_let hi.1.1 (by omega)).2)) ?_
    refine j_istore (lv' := [(11, .int _), (0, .ref _), (1, .ref _), (2, .int _), (3, .int _), (4, .int _), (5, .ref _)]) C dL_act_557 (by decide) rfl ?_
    refine j_aload C dL_act_559 6 rfl ?_
    refine j_iload_n (i := 2) C dL_act_561 rfl 3 rfl ?_
    refine j_iconst (v := nI 3) C dL_act_562 (by decide) ?_
    refine j_ishr C dL_act_563 (fun z563 => ?_)
    refine j_sipush (v := nI 1296) C dL_act_564 (by decide) ?_
    refine j_callS (nargs := 2) (As := [_, _]) C gw475 gw476 gw20 (kL_below l D ct sa _ _ _ 1296 rfl (by decide) (by decide)) gw477 (by decide +kernel) rfl dL_act_567 ⟨Nat.le_of_ble_eq_true rfl, Nat.le_of_ble_eq_true rfl⟩ ⟨Nat.le_of_ble_eq_true rfl, Nat.le_of_ble_eq_true rfl⟩ (Nat.le_of_ble_eq_true rfl) (fun r w hk => ?_)
    obtain ⟨m, h_m, rfl, rfl⟩ := hk
    refine j_st (st1 := .int (nI m) :: _) rfl ?_
    refine j_callS (nargs := 1) (As := [_]) C gw523 gw524 gw20 (kL_letters l D ct sa _ (nI m) (okI_n h_m (by decide))) gw525 (by decide +kernel) rfl dL_act_570 ⟨Nat.le_of_ble_eq_true rfl, Nat.le_of_ble_eq_true rfl⟩ ⟨Nat.le_of_ble_eq_true rfl, Nat.le_of_ble_eq_true rfl⟩ (Nat.le_of_ble_eq_true rfl) (fun r w hk => ?_)
    obtain ⟨qn, rfl, rfl⟩ := hk
    refine j_st (st1 := .ref qn :: _) rfl ?_
    refine j_put (Cn := RX4) (T := TX4) (N := 6) (ci := 5) (ws2 := (SWs ct sd σ ++ WX ct sa ad mcn φ σ).set (6 + 8 * k) (obL (sd (10 + 8 * k)) qn (sd (12 + 8 * k)) (sd (13 + 8 * k)) (sR σ (8 * k + 1)) (sR σ (8 * k + 3)) (sR σ (8 * k + 2))) ++ [arI ct qn 4 (cut 4 (ltF (nI m)))]) C iX4 tyX4 tyX4_ok nmX4 rfl (6 + 8 * k) (app_at (sw_o hj)) 0 (by decide) gw496 rfl rfl rfl rfl rfl (Nat.le_of_ble_eq_true rfl) (app_set (sw_o hj)) dL_act_573 ?_
    refine j_repl (6 + 8 * k + 7) (by rw [List.length_set, List.length_append, sw_len]; omega) ?_
    refine j_ws (ws1 := SWs ct (sdU sd (11 + 8 * k) qn) (uR σ (upd (sR σ) (8 * k + 0) (nI m))) ++ WX ct sa ad mcn φ (σ)) ((sw_rn hj rfl).trans (congrArg (fun w => w ++ _) (sw_u (σ' := uR σ (upd (sR σ) (8 * k + 0) (nI m))) (fun i hne => ld_o hne (by decide)) (by rw [ld_h (by decide)]; rfl)))) ?_
    have e0 : (sdU sd (11 + 8 * k) qn) 0 = sd 0 := su_n (by omega)
    have e10 : (sdU sd (11 + 8 * k) qn) (10 + 8 * k) = sd (10 + 8 * k) := su_n (by omega)
    obtain ⟨s2, hs2⟩ : ∃ s2, s2 = (sdU sd (11 + 8 * k) qn) := ⟨_, rfl⟩
    rw [← hs2] at e0 e10 ⊢
    rw [← e10]
    have hj1 : k < sN (uR σ (upd (sR σ) (8 * k + 0) (nI m))) := hj
    refine j_aload C dL_act_576 6 rfl ?_
    refine j_iconst (v := nI 0) C dL_act_578 (by decide) ?_
    refine j_put (Cn := RX4) (T := TX4) (N := 6) (ci := 5) (ws2 := SWs ct s2 (uR σ (upd (upd (sR σ) (8 * k + 0) (nI m)) (8 * k + 3) (nI 0))) ++ WX ct sa ad mcn φ (σ)) C iX4 tyX4 tyX4_ok nmX4 rfl (6 + 8 * k) (sw_o hj1) 4 (by decide) gw505 rfl rfl rfl rfl rfl (Nat.le_of_ble_eq_true rfl) ((sw_so hj1).trans (congrArg (fun w => w ++ _) (sw_u (σ := uR σ (upd (sR σ) (8 * k + 0) (nI m))) (σ' := uR σ (upd (upd (sR σ) (8 * k + 0) (nI m)) (8 * k + 3) (nI 0))) (fun i hne => ld_o (σ := uR σ (upd (sR σ) (8 * k + 0) (nI m))) hne (by decide)) (by rw [ld_h (σ := uR σ (upd (sR σ) (8 * k + 0) (nI m))) (by decide)]; rfl)))) dL_act_579 ?_
    refine j_aload_n (i := 0) C dL_act_582 rfl 1 rfl ?_
    refine j_iload C dL_act_583 5 rfl ?_
    refine j_aload C dL_act_585 6 rfl ?_
    refine j_get (Cn := RX4) (T := TX4) (N := 6) (ci := 5) C iX4 rfl (6 + 8 * k) (sw_o (show k < sN (uR σ (upd (upd (sR σ) (8 * k + 0) (nI m)) (8 * k + 3) (nI 0))) from hj)) 0 (by decide) gw496 rfl rfl dL_act_587 ?_
    refine j_callS (nargs := 1) (As := [_]) C gw483 gw462 gw20 (kL_word l D ct sa _ (6 + 8 * k + 7) _ _ (sw_w (show k < sN (uR σ (upd (upd (sR σ) (8 * k + 0) (nI m)) (8 * k + 3) (nI 0))) from hj)) (ok_ltc (ld_let (il_ren hi hj h_m c544).1.1 (by omega)).2)) gw463 (by decide +kernel) rfl dL_act_590 ⟨Nat.le_of_ble_eq_true rfl, Nat.le_of_ble_eq_true rfl⟩ ⟨Nat.le_of_ble_eq_true rfl, Nat.le_of_ble_eq_true rfl⟩ (Nat.le_of_ble_eq_true rfl) (dki ?_)
    refine j_st (st1 := .int (nI m) :: _) (congrArg (fun z => Value.int z :: _) ((st_ltc (ld_let (il_ren hi hj h_m c544).1.1 (by omega)).2).trans ((pk_un (by omega)).trans pk_us))) ?_
    have ef := rn_v hi.1 hj h_m c544
    refine j_sw (A := SWs ct s2 (uR σ (upd (upd (sR σ) (8 * k + 0) (nI m)) (8 * k + 3) (nI 0)))) (B := WX ct sa ad mcn φ (σ)) ?_
    refine j_callVX (nargs := 2) (As := [_, _]) (Cn := RX3) C (0) rfl rfl rfl gw613 gw614 gw615 gw21 (kX3_rename l htr D ct sa ad mcn φ (σ) (SWs ct s2 (uR σ (upd (upd (sR σ) (8 * k + 0) (nI m)) (8 * k + 3) (nI 0)))) (nI k) (nI m) hi.1) gw616 (by decide +kernel) rfl dL_act_593 ⟨Nat.le_of_ble_eq_true rfl, Nat.le_of_ble_eq_true rfl⟩ ⟨Nat.le_of_ble_eq_true rfl, Nat.le_of_ble_eq_true rfl⟩ (Nat.le_of_ble_eq_true rfl) (fun En hx => (kx_no hx (congrArg (fun f => f.1) ef) (by decide)).elim) (fun r w hk => ?_)
    obtain ⟨-, rfl, rfl⟩ := hk
    refine j_st (st1 := .int (sR σ (8 * k + 0)) :: _) (by rw [ef]; rfl) ?_
    refine j_ws (ws1 := WX ct sa ad mcn φ (uR σ (upd (upd (sR σ) (8 * k + 0) (nI m)) (8 * k + 3) (nI 0))) ++ SWs ct s2 (uR σ (upd (upd (sR σ) (8 * k + 0) (nI m)) (8 * k + 3) (nI 0)))) (by rw [ef]) ?_
    refine j_sw (A := WX ct sa ad mcn φ (uR σ (upd (upd (sR σ) (8 * k + 0) (nI m)) (8 * k + 3) (nI 0)))) (B := SWs ct s2 (uR σ (upd (upd (sR σ) (8 * k + 0) (nI m)) (8 * k + 3) (nI 0)))) ?_
    refine j_iload C dL_act_596 0 rfl ?_
    refine j_icmp_ne C 605 dL_act_598 (by decide) (fun c598 => by exact absurd rfl c598) (fun c598 => ?_)
    refine j_iconst (v := nI 1) C dL_act_601 (by decide) ?_
    refine j_goto C 606 dL_act_602 (by decide) ?_
    exact j_ireturn C E (by first | exact nr_b | rfl) dL_act_606 (Nat.le_of_ble_eq_true rfl) (Nat.le_of_ble_eq_true rfl) (⟨s2, ad, mcn, uR σ (upd (upd (sR σ) (8 * k + 0) (nI m)) (8 * k + 3) (nI 0)), rfl, il_ren hi hj h_m c544, e0, rfl, rfl⟩)
  · refine j_iconst (v := nI 1) C dL_act_547 (by decide) ?_
    exact j_ireturn C E (by first | exact nr_b | rfl) dL_act_548 (Nat.le_of_ble_eq_true rfl) (Nat.le_of_ble_eq_true rfl) (⟨sd, ad, mcn, σ, rfl, hi, rfl, rfl, rfl⟩)
set_option maxRecDepth 100000 in
set_option maxHeartbeats 1000000 in
theorem kA_lose {X : Ctx} {l : Launch} {D : va_G} {ct : Nat → ClassId} {sa : Nat → Nat} (htr : l.stackTraces = false) (C : jC X l D ct sa cL_act 18 "LetterLocksLaw" RA) {ws0 : va_W} {sd ad : Nat → Nat} {mcn : Int32} {φ : LD} {h : Nat} (E : jE X ws0 (kAc ct sa sd ad φ h) (fun _ => False) 20 120 (Option.some Jvm.ClassFile.FieldType.boolean)) (hh : h < 2 ^ 20) {σ : St} (hi : InvL h σ) {k : Nat} {x : Int32} (hj : k < sN σ) : J X (SWs ct sd σ ++ WX ct sa ad mcn φ σ) (0) (0) 607 [(0, .ref (ad 0)), (1, .ref (sd 0)), (2, .int x), (3, .int (nI (sN σ))), (4, .int (nI k)), (5, .ref (sd (10 + 8 * k)))] [] := by
  have h8 := hi.1.1.1
  refine j_iload_n (i := 3) C dL_act_607 rfl 3 rfl ?_
  refine j_if_ne C 613 dL_act_608 (by decide) (fun c608 => ?_) (fun c608 => by exact absurd c608 (nI_ne0 (by omega) (by omega)))
  refine j_aload C dL_act_613 5 rfl ?_
  refine j_get (Cn := RX4) (T := TX4) (N := 6) (ci := 5) C iX4 rfl (6 + 8 * k) (sw_o hj) 4 (by decide) gw505 rfl rfl dL_act_615 ?_
  refine j_istore (lv' := [(12, .int _), (0, .ref _), (1, .ref _), (2, .int _), (3, .int _), (4, .int _), (5, .ref _)]) C dL_act_618 (by decide) rfl ?_
  refine j_aload C dL_act_620 6 rfl ?_
  refine j_iload_n (i := 2) C dL_act_622 rfl 3 rfl ?_
  refine j_iconst (v := nI 3) C dL_act_623 (by decide) ?_
  refine j_ishr C dL_act_624 (fun z624 => ?_)
  refine j_iconst (v := nI 2) C dL_act_625 (by decide) ?_
  refine j_callS (nargs := 2) (As := [_, _]) C gw475 gw476 gw20 (kL_below l D ct sa _ _ _ 2 rfl (by decide) (by decide)) gw477 (by decide +kernel) rfl dL_act_626 ⟨Nat.le_of_ble_eq_true rfl, Nat.le_of_ble_eq_true rfl⟩ ⟨Nat.le_of_ble_eq_true rfl, Nat.le_of_ble_eq_true rfl⟩ (Nat.le_of_ble_eq_true rfl) (fun r w hk => ?_)
  obtain ⟨j2, h_j2, rfl, rfl⟩ := hk
  refine j_st (st1 := .int (nI j2) :: _) rfl ?_
  refine j_if_ne C 636 dL_act_629 (by decide) (fun c629 => ?_) (fun c629 => ?_)
  · refine j_iconst (v := nI 0) C dL_act_636 (by decide) ?_
    refine j_put (Cn := RX4) (T := TX4) (N := 6) (ci := 5) (ws2 := SWs ct sd (uR σ (upd (sR σ) (8 * k + 3) (nI 0))) ++ WX ct sa ad mcn φ (σ)) C iX4 tyX4 tyX4_ok nmX4 rfl (6 + 8 * k) (sw_o hj) 4 (by decide) gw505 rfl rfl rfl rfl rfl (Nat.le_of_ble_eq_true rfl) ((sw_so hj).trans (congrArg (fun w => w ++ _) (sw_u (σ' := uR σ (upd (sR σ) (8 * k + 3) (nI 0))) (fun i hne => ld_o hne (by decide)) (by rw [ld_h (by decide)]; rfl)))) dL_act_637 ?_
    refine j_aload_n (i := 0) C dL_act_640 rfl 1 rfl ?_
    refine j_iload C dL_act_641 5 rfl ?_
    refine j_aload C dL_act_643 6 rfl ?_
    refine j_get (Cn := RX4) (T := TX4) (N := 6) (ci := 5) C iX4 rfl (6 + 8 * k) (sw_o (show k < sN (uR σ (upd (sR σ) (8 * k + 3) (nI 0))) from hj)) 4 (by decide) gw505 rfl rfl dL_act_645 ?_
    refine j_st (st1 := .int (nI 0) :: _) (congrArg (fun z => Value.int z :: _) pk_us) ?_
    have ef := lo_v (v := nI 0) hi.1 hj (Or.inl rfl)
    refine j_sw (A := SWs ct sd (uR σ (upd (sR σ) (8 * k + 3) (nI 0)))) (B := WX ct sa ad mcn φ (σ)) ?_
    refine j_callVX (nargs := 2) (As := [_, _]) (Cn := RX3) C (0) rfl rfl rfl gw617 gw618 gw619 gw21 (kX3_lose l htr D ct sa ad mcn φ (σ) (SWs ct sd (uR σ (upd (sR σ) (8 * k + 3) (nI 0)))) (nI k) (nI 0) hi.1 (Or.inl rfl)) gw620 (by decide +kernel) rfl dL_act_648 ⟨Nat.le_of_ble_eq_true rfl, Nat.le_of_ble_eq_true rfl⟩ ⟨Nat.le_of_ble_eq_true rfl, Nat.le_of_ble_eq_true rfl⟩ (Nat.le_of_ble_eq_true rfl) (fun En hx => (kx_no hx (congrArg (fun f => f.1) ef) (by decide)).elim) (fun r w hk => ?_)
    obtain ⟨-, rfl, rfl⟩ := hk
    refine j_st (st1 := .int (sR σ (8 * k + 3)) :: _) (by rw [ef]; rfl) ?_
    refine j_ws (ws1 := WX ct sa ad mcn φ (uR σ (upd (sR σ) (8 * k + 3) (nI 0))) ++ SWs ct sd (uR σ (upd (sR σ) (8 * k + 3) (nI 0)))) (by rw [ef]) ?_
    refine j_sw (A := WX ct sa ad mcn φ (uR σ (upd (sR σ) (8 * k + 3) (nI 0)))) (B := SWs ct sd (uR σ (upd (sR σ) (8 * k + 3) (nI 0)))) ?_
    refine j_iload C dL_act_651 0 rfl ?_
    refine j_icmp_ne C 660 dL_act_653 (by decide) (fun c653 => by exact absurd rfl c653) (fun c653 => ?_)
    refine j_iconst (v := nI 1) C dL_act_656 (by decide) ?_
    refine j_goto C 661 dL_act_657 (by decide) ?_
    exact j_ireturn C E (by first | exact nr_b | rfl) dL_act_661 (Nat.le_of_ble_eq_true rfl) (Nat.le_of_ble_eq_true rfl) (⟨sd, ad, mcn, uR σ (upd (sR σ) (8 * k + 3) (nI 0)), rfl, il_lose hi hj (Or.inl rfl), rfl, rfl, rfl⟩)
  · refine j_iconst (v := nI 1) C dL_act_632 (by decide) ?_
    refine j_goto C 637 dL_act_633 (by decide) ?_
    refine j_put (Cn := RX4) (T := TX4) (N := 6) (ci := 5) (ws2 := SWs ct sd (uR σ (upd (sR σ) (8 * k + 3) (nI 1))) ++ WX ct sa ad mcn φ (σ)) C iX4 tyX4 tyX4_ok nmX4 rfl (6 + 8 * k) (sw_o hj) 4 (by decide) gw505 rfl rfl rfl rfl rfl (Nat.le_of_ble_eq_true rfl) ((sw_so hj).trans (congrArg (fun w => w ++ _) (sw_u (σ' := uR σ (upd (sR σ) (8 * k + 3) (nI 1))) (fun i hne => ld_o hne (by decide)) (by rw [ld_h (by decide)]; rfl)))) dL_act_637 ?_
    refine j_aload_n (i := 0) C dL_act_640 rfl 1 rfl ?_
    refine j_iload C dL_act_641 5 rfl ?_
    refine j_aload C dL_act_643 6 rfl ?_
    refine j_get (Cn := RX4) (T := TX4) (N := 6) (ci := 5) C iX4 rfl (6 + 8 * k) (sw_o (show k < sN (uR σ (upd (sR σ) (8 * k + 3) (nI 1))) from hj)) 4 (by decide) gw505 rfl rfl dL_act_645 ?_
    refine j_st (st1 := .int (nI 1) :: _) (congrArg (fun z => Value.int z :: _) pk_us) ?_
    have ef := lo_v (v := nI 1) hi.1 hj (Or.inr rfl)
    refine j_sw (A := SWs ct sd (uR σ (upd (sR σ) (8 * k + 3) (nI 1)))) (B := WX ct sa ad mcn φ (σ)) ?_
    refine j_callVX (nargs := 2) (As := [_, _]) (Cn := RX3) C (0) rfl rfl rfl gw617 gw618 gw619 gw21 (kX3_lose l htr D ct sa ad mcn φ (σ) (SWs ct sd (uR σ (upd (sR σ) (8 * k + 3) (nI 1)))) (nI k) (nI 1) hi.1 (Or.inr rfl)) gw620 (by decide +kernel) rfl dL_act_648 ⟨Nat.le_of_ble_eq_true rfl, Nat.le_of_ble_eq_true rfl⟩ ⟨Nat.le_of_ble_eq_true rfl, Nat.le_of_ble_eq_true rfl⟩ (Nat.le_of_ble_eq_true rfl) (fun En hx => (kx_no hx (congrArg (fun f => f.1) ef) (by decide)).elim) (fun r w hk => ?_)
    obtain ⟨-, rfl, rfl⟩ := hk
    refine j_st (st1 := .int (sR σ (8 * k + 3)) :: _) (by rw [ef]; rfl) ?_
    refine j_ws (ws1 := WX ct sa ad mcn φ (uR σ (upd (sR σ) (8 * k + 3) (nI 1))) ++ SWs ct sd (uR σ (upd (sR σ) (8 * k + 3) (nI 1)))) (by rw [ef]) ?_
    refine j_sw (A := WX ct sa ad mcn φ (uR σ (upd (sR σ) (8 * k + 3) (nI 1)))) (B := SWs ct sd (uR σ (upd (sR σ) (8 * k + 3) (nI 1)))) ?_
    refine j_iload C dL_act_651 0 rfl ?_
    refine j_icmp_ne C 660 dL_act_653 (by decide) (fun c653 => by exact absurd rfl c653) (fun c653 => ?_)
    refine j_iconst (v := nI 1) C dL_act_656 (by decide) ?_
    refine j_goto C 661 dL_act_657 (by decide) ?_
    exact j_ireturn C E (by first | exact nr_b | rfl) dL_act_661 (Nat.le_of_ble_eq_true rfl) (Nat.le_of_ble_eq_true rfl) (⟨sd, ad, mcn, uR σ (upd (sR σ) (8 * k + 3) (nI 1)), rfl, il_lose hi hj (Or.inr rfl), rfl, rfl, rfl⟩)
set_option maxRecDepth 100000 in
set_option maxHeartbeats 1000000 in
theorem kA_places {X : Ctx} {l : Launch} {D : va_G} {ct : Nat → ClassId} {sa : Nat → Nat} (htr : l.stackTraces = false) (C : jC X l D ct sa cL_act 18 "LetterLocksLaw" RA) {ws0 : va_W} {sd ad : Nat → Nat} {mcn : Int32} {φ : LD} {h : Nat} (E : jE X ws0 (kAc ct sa sd ad φ h) (fun _ => False) 20 120 (Option.some Jvm.ClassFile.FieldType.boolean)) (hh : h < 2 ^ 20) {σ : St} (hi : InvL h σ) {rr : Nat} {x : Int32} (hr3 : rr < 3) : J X (SWs ct sd σ ++ WX ct sa ad mcn φ σ) (0) (0) 662 [(0, .ref (ad 0)), (1, .ref (sd 0)), (2, .int x), (3, .int (nI (sN σ))), (6, .int (nI rr))] [] := by
  have h8 := hi.1.1.1
  refine j_iconst (v := nI 1) C dL_act_662 (by decide) ?_
  refine j_iload_n (i := 2) C dL_act_663 rfl 2 rfl ?_
  refine j_iconst (v := nI 3) C dL_act_664 (by decide) ?_
  refine j_ishr C dL_act_665 (fun z665 => ?_)
  refine j_bipush (v := nI 6) C dL_act_666 (by decide) ?_
  refine j_callS (nargs := 2) (As := [_, _]) C gw475 gw476 gw20 (kL_below l D ct sa _ _ _ 6 rfl (by decide) (by decide)) gw477 (by decide +kernel) rfl dL_act_668 ⟨Nat.le_of_ble_eq_true rfl, Nat.le_of_ble_eq_true rfl⟩ ⟨Nat.le_of_ble_eq_true rfl, Nat.le_of_ble_eq_true rfl⟩ (Nat.le_of_ble_eq_true rfl) (fun r w hk => ?_)
  obtain ⟨j, h_j, rfl, rfl⟩ := hk
  refine j_st (st1 := .int (nI j) :: _) rfl ?_
  refine j_iadd C dL_act_671 ?_
  refine j_st (st1 := .int (nI (1 + j)) :: _) (by rw [nI_add]) ?_
  refine j_istore (lv' := [(13, .int _), (0, .ref _), (1, .ref _), (2, .int _), (3, .int _), (6, .int _)]) C dL_act_672 (by decide) rfl ?_
  refine j_aload_n (i := 1) C dL_act_674 rfl 2 rfl ?_
  refine j_iload C dL_act_675 5 rfl ?_
  refine j_callV (nargs := 1) (As := [_]) (Cn := RX5) C (0) rfl rfl rfl gw621 gw466 gw467 gw28 (kX5_in l D ct sa sd (sH σ) (sT σ) (sN σ) (sK σ) (ldS σ) (WX ct sa ad mcn φ σ) (nI rr) h8) gw468 (by decide +kernel) rfl dL_act_677 ⟨Nat.le_of_ble_eq_true rfl, Nat.le_of_ble_eq_true rfl⟩ ⟨Nat.le_of_ble_eq_true rfl, Nat.le_of_ble_eq_true rfl⟩ (Nat.le_of_ble_eq_true rfl) (dki ?_)
  refine j_st (st1 := .int (inF σ (nI rr)) :: _) rfl ?_
  refine j_iload C dL_act_680 0 rfl ?_
  refine j_icmp_le C 687 dL_act_682 (by decide) (fun c682 => ?_) (fun c682 => ?_)
  · refine j_aload_n (i := 1) C dL_act_687 rfl 2 rfl ?_
    refine j_get (Cn := RX5) (T := TX5) (N := 4) (ci := 6) C iX5 rfl (0) rfl 3 (by decide) gw660 rfl rfl dL_act_688 ?_
    refine j_iload C dL_act_691 5 rfl ?_
    refine j_aald C (2) 3 rfl rfl rfl (rr) rfl hr3 (by decide) (if_pos hr3) dL_act_693 ?_
    refine j_iconst (v := nI 0) C dL_act_694 (by decide) ?_
    refine j_iald C (3 + rr) (sw_k hr3) (0) rfl (by decide) (by decide) dL_act_695 ?_
    refine j_st (st1 := .int (sK σ (3 * rr + 0)) :: _) (congrArg (fun z => Value.int z :: _) (cut_in (by decide))) ?_
    refine j_istore (lv' := [(14, .int _), (13, .int _), (0, .ref _), (1, .ref _), (2, .int _), (3, .int _), (6, .int _)]) C dL_act_696 (by decide) rfl ?_
    refine j_aload_n (i := 1) C dL_act_698 rfl 3 rfl ?_
    refine j_get (Cn := RX5) (T := TX5) (N := 4) (ci := 6) C iX5 rfl (0) rfl 3 (by decide) gw660 rfl rfl dL_act_699 ?_
    refine j_iload C dL_act_702 6 rfl ?_
    refine j_iconst (v := nI 3) C dL_act_704 (by decide) ?_
    refine j_newaI C rfl (by decide) (Nat.le_of_ble_eq_true rfl) (Nat.le_of_ble_eq_true rfl) dL_act_705 (fun qn => ?_)
    refine j_dup C dL_act_707 rfl ?_
    refine j_iconst (v := nI 0) C dL_act_708 (by decide) ?_
    refine j_iload C dL_act_709 1 rfl ?_
    refine j_iast (ws2 := (SWs ct sd σ ++ WX ct sa ad mcn φ σ) ++ [arI ct qn 3 (upd (fun _ => nI 0) 0 (nI (1 + j)))]) C ((SWs ct sd σ ++ WX ct sa ad mcn φ σ).length) gA (0) rfl (by decide) (by decide) sA dL_act_711 ?_
    refine j_dup C dL_act_712 rfl ?_
    refine j_iconst (v := nI 1) C dL_act_713 (by decide) ?_
    refine j_aload_n (i := 1) C dL_act_714 rfl 3 rfl ?_
    refine j_get (Cn := RX5) (T := TX5) (N := 4) (ci := 6) C iX5 rfl (0) (app_at rfl) 3 (by decide) gw660 rfl rfl dL_act_715 ?_
    refine j_iload C dL_act_718 6 rfl ?_
    refine j_aald C (2) 3 (app_at rfl) rfl rfl (rr) rfl hr3 (by decide) (if_pos hr3) dL_act_720 ?_
    refine j_iconst (v := nI 1) C dL_act_721 (by decide) ?_
    refine j_iald C (3 + rr) (app_at (sw_k hr3)) (1) rfl (by decide) (by decide) dL_act_722 ?_
    refine j_st (st1 := .int (sK σ (3 * rr + 1)) :: _) (congrArg (fun z => Value.int z :: _) (cut_in (by decide))) ?_
    refine j_iast (ws2 := (SWs ct sd σ ++ WX ct sa ad mcn φ σ) ++ [arI ct qn 3 (upd (upd (fun _ => nI 0) 0 (nI (1 + j))) 1 (sK σ (3 * rr + 1)))]) C ((SWs ct sd σ ++ WX ct sa ad mcn φ σ).length) gA (1) rfl (by decide) (by decide) sA dL_act_723 ?_
    refine j_dup C dL_act_724 rfl ?_
    refine j_iconst (v := nI 2) C dL_act_725 (by decide) ?_
    refine j_aload_n (i := 1) C dL_act_726 rfl 3 rfl ?_
    refine j_get (Cn := RX5) (T := TX5) (N := 4) (ci := 6) C iX5 rfl (0) (app_at rfl) 3 (by decide) gw660 rfl rfl dL_act_727 ?_
    refine j_iload C dL_act_730 6 rfl ?_
    refine j_aald C (2) 3 (app_at rfl) rfl rfl (rr) rfl hr3 (by decide) (if_pos hr3) dL_act_732 ?_
    refine j_iconst (v := nI 2) C dL_act_733 (by decide) ?_
    refine j_iald C (3 + rr) (app_at (sw_k hr3)) (2) rfl (by decide) (by decide) dL_act_734 ?_
    refine j_st (st1 := .int (sK σ (3 * rr + 2)) :: _) (congrArg (fun z => Value.int z :: _) (cut_in (by decide))) ?_
    refine j_iast (ws2 := (SWs ct sd σ ++ WX ct sa ad mcn φ σ) ++ [arI ct qn 3 (upd (upd (upd (fun _ => nI 0) 0 (nI (1 + j))) 1 (sK σ (3 * rr + 1))) 2 (sK σ (3 * rr + 2)))]) C ((SWs ct sd σ ++ WX ct sa ad mcn φ σ).length) gA (2) rfl (by decide) (by decide) sA dL_act_735 ?_
    refine j_astqA (ws2 := (SWs ct sd σ ++ WX ct sa ad mcn φ σ).set 2 (arR (ct 3) (sd 2) 3 (va_up (rfs 3 (fun i => sd (3 + i))) rr (some qn))) ++ [arI ct qn 3 (upd (upd (upd (fun _ => nI 0) 0 (nI (1 + j))) 1 (sK σ (3 * rr + 1))) 2 (sK σ (3 * rr + 2)))]) C 2 (SWs ct sd σ ++ WX ct sa ad mcn φ σ).length (app_at rfl) gA rr rfl hr3 (by decide) (app_set rfl) dL_act_736 ?_
    refine j_cong (g := rkr (upd (sK σ) (3 * rr + 0) (nI (1 + j))) rr) (q0 := ((SWs ct sd σ ++ WX ct sa ad mcn φ σ).set 2 (arR (ct 3) (sd 2) 3 (va_up (rfs 3 (fun i => sd (3 + i))) rr (some qn)))).length) gA (k3_e pk_us (pk_un (by omega)) (pk_un (by omega))) ?_
    refine j_ws (ws1 := (SWs ct sd σ ++ WX ct sa ad mcn φ σ).set 2 (arR (ct 3) (sd 2) 3 (va_up (rfs 3 (fun i => sd (3 + i))) rr (some qn))) ++ [arI ct qn 3 (rkr (upd (sK σ) (3 * rr + 0) (nI (1 + j))) rr)]) sA ?_
    refine j_repl (3 + rr) (by rw [List.length_set, List.length_append, sw_len]; omega) ?_
    refine j_ws (ws1 := SWs ct (sdU sd (3 + rr) qn) (uK σ (upd (sK σ) (3 * rr + 0) (nI (1 + j)))) ++ WX ct sa ad mcn φ (σ)) (sw_rk (K' := upd (sK σ) (3 * rr + 0) (nI (1 + j))) hr3 (fun i hi9 hne => cut_ext (fun q hq => pk_un (by omega)))) ?_
    refine j_aload_n (i := 0) C dL_act_737 rfl 2 rfl ?_
    refine j_iload C dL_act_738 6 rfl ?_
    refine j_iload C dL_act_740 1 rfl ?_
    have ef := pl_v (σ := σ) hr3 h_j c682
    refine j_sw (A := SWs ct (sdU sd (3 + rr) qn) (uK σ (upd (sK σ) (3 * rr + 0) (nI (1 + j))))) (B := WX ct sa ad mcn φ (σ)) ?_
    refine j_callVX (nargs := 2) (As := [_, _]) (Cn := RX3) C (0) rfl rfl rfl gw622 gw623 gw624 gw21 (kX3_setPlaces l htr D ct sa ad mcn φ (σ) (SWs ct (sdU sd (3 + rr) qn) (uK σ (upd (sK σ) (3 * rr + 0) (nI (1 + j))))) (nI rr) (nI (1 + j)) hi.1) gw625 (by decide +kernel) rfl dL_act_742 ⟨Nat.le_of_ble_eq_true rfl, Nat.le_of_ble_eq_true rfl⟩ ⟨Nat.le_of_ble_eq_true rfl, Nat.le_of_ble_eq_true rfl⟩ (Nat.le_of_ble_eq_true rfl) (fun En hx => (kx_no hx (congrArg (fun f => f.1) ef) (by decide)).elim) (fun r w hk => ?_)
    obtain ⟨-, rfl, rfl⟩ := hk
    refine j_st (st1 := .int (sK σ (3 * rr + 0)) :: _) (by rw [ef]; rfl) ?_
    refine j_ws (ws1 := WX ct sa ad mcn φ (uK σ (upd (sK σ) (3 * rr + 0) (nI (1 + j)))) ++ SWs ct (sdU sd (3 + rr) qn) (uK σ (upd (sK σ) (3 * rr + 0) (nI (1 + j))))) (by rw [ef]) ?_
    refine j_sw (A := WX ct sa ad mcn φ (uK σ (upd (sK σ) (3 * rr + 0) (nI (1 + j))))) (B := SWs ct (sdU sd (3 + rr) qn) (uK σ (upd (sK σ) (3 * rr + 0) (nI (1 + j))))) ?_
    refine j_iload C dL_act_745 0 rfl ?_
    refine j_icmp_ne C 754 dL_act_747 (by decide) (fun c747 => by exact absurd rfl c747) (fun c747 => ?_)
    refine j_iconst (v := nI 1) C dL_act_750 (by decide) ?_
    refine j_goto C 755 dL_act_751 (by decide) ?_
    exact j_ireturn C E (by first | exact nr_b | rfl) dL_act_755 (Nat.le_of_ble_eq_true rfl) (Nat.le_of_ble_eq_true rfl) (⟨(sdU sd (3 + rr) qn), ad, mcn, uK σ (upd (sK σ) (3 * rr + 0) (nI (1 + j))), rfl, il_pl hi hr3 h_j c682, su_n (by omega), rfl, rfl⟩)
  · refine j_iconst (v := nI 1) C dL_act_685 (by decide) ?_
    exact j_ireturn C E (by first | exact nr_b | rfl) dL_act_686 (Nat.le_of_ble_eq_true rfl) (Nat.le_of_ble_eq_true rfl) (⟨sd, ad, mcn, σ, rfl, hi, rfl, rfl, rfl⟩)
set_option maxRecDepth 100000 in
set_option maxHeartbeats 1000000 in
theorem kA_hours {X : Ctx} {l : Launch} {D : va_G} {ct : Nat → ClassId} {sa : Nat → Nat} (htr : l.stackTraces = false) (C : jC X l D ct sa cL_act 18 "LetterLocksLaw" RA) {ws0 : va_W} {sd ad : Nat → Nat} {mcn : Int32} {φ : LD} {h : Nat} (E : jE X ws0 (kAc ct sa sd ad φ h) (fun _ => False) 20 120 (Option.some Jvm.ClassFile.FieldType.boolean)) (hh : h < 2 ^ 20) {σ : St} (hi : InvL h σ) {rr : Nat} {x : Int32} (hr3 : rr < 3) : J X (SWs ct sd σ ++ WX ct sa ad mcn φ σ) (0) (0) 756 [(0, .ref (ad 0)), (1, .ref (sd 0)), (2, .int x), (3, .int (nI (sN σ))), (6, .int (nI rr))] [] := by
  have h8 := hi.1.1.1
  refine j_bipush (v := nI 25) C dL_act_756 (by decide) ?_
  refine j_aload_n (i := 1) C dL_act_758 rfl 1 rfl ?_
  refine j_get (Cn := RX5) (T := TX5) (N := 4) (ci := 6) C iX5 rfl (0) rfl 3 (by decide) gw660 rfl rfl dL_act_759 ?_
  refine j_iload C dL_act_762 4 rfl ?_
  refine j_aald C (2) 3 rfl rfl rfl (rr) rfl hr3 (by decide) (if_pos hr3) dL_act_764 ?_
  refine j_iconst (v := nI 1) C dL_act_765 (by decide) ?_
  refine j_iald C (3 + rr) (sw_k hr3) (1) rfl (by decide) (by decide) dL_act_766 ?_
  refine j_st (st1 := .int (sK σ (3 * rr + 1)) :: _) (congrArg (fun z => Value.int z :: _) (cut_in (by decide))) ?_
  refine j_imul C dL_act_767 ?_
  refine j_aload_n (i := 1) C dL_act_768 rfl 1 rfl ?_
  refine j_get (Cn := RX5) (T := TX5) (N := 4) (ci := 6) C iX5 rfl (0) rfl 3 (by decide) gw660 rfl rfl dL_act_769 ?_
  refine j_iload C dL_act_772 4 rfl ?_
  refine j_aald C (2) 3 rfl rfl rfl (rr) rfl hr3 (by decide) (if_pos hr3) dL_act_774 ?_
  refine j_iconst (v := nI 2) C dL_act_775 (by decide) ?_
  refine j_iald C (3 + rr) (sw_k hr3) (2) rfl (by decide) (by decide) dL_act_776 ?_
  refine j_st (st1 := .int (sK σ (3 * rr + 2)) :: _) (congrArg (fun z => Value.int z :: _) (cut_in (by decide))) ?_
  refine j_iadd C dL_act_777 ?_
  refine j_istore (lv' := [(15, .int _), (0, .ref _), (1, .ref _), (2, .int _), (3, .int _), (6, .int _)]) C dL_act_778 (by decide) rfl ?_
  refine j_aload_n (i := 1) C dL_act_780 rfl 2 rfl ?_
  refine j_get (Cn := RX5) (T := TX5) (N := 4) (ci := 6) C iX5 rfl (0) rfl 3 (by decide) gw660 rfl rfl dL_act_781 ?_
  refine j_iload C dL_act_784 5 rfl ?_
  refine j_iconst (v := nI 3) C dL_act_786 (by decide) ?_
  refine j_newaI C rfl (by decide) (Nat.le_of_ble_eq_true rfl) (Nat.le_of_ble_eq_true rfl) dL_act_787 (fun qn => ?_)
  refine j_dup C dL_act_789 rfl ?_
  refine j_iconst (v := nI 0) C dL_act_790 (by decide) ?_
  refine j_aload_n (i := 1) C dL_act_791 rfl 2 rfl ?_
  refine j_get (Cn := RX5) (T := TX5) (N := 4) (ci := 6) C iX5 rfl (0) (app_at rfl) 3 (by decide) gw660 rfl rfl dL_act_792 ?_
  refine j_iload C dL_act_795 5 rfl ?_
  refine j_aald C (2) 3 (app_at rfl) rfl rfl (rr) rfl hr3 (by decide) (if_pos hr3) dL_act_797 ?_
  refine j_iconst (v := nI 0) C dL_act_798 (by decide) ?_
  refine j_iald C (3 + rr) (app_at (sw_k hr3)) (0) rfl (by decide) (by decide) dL_act_799 ?_
  refine j_st (st1 := .int (sK σ (3 * rr + 0)) :: _) (congrArg (fun z => Value.int z :: _) (cut_in (by decide))) ?_
  refine j_iast (ws2 := (SWs ct sd σ ++ WX ct sa ad mcn φ σ) ++ [arI ct qn 3 (upd (fun _ => nI 0) 0 (sK σ (3 * rr + 0)))]) C ((SWs ct sd σ ++ WX ct sa ad mcn φ σ).length) gA (0) rfl (by decide) (by decide) sA dL_act_800 ?_
  refine j_dup C dL_act_801 rfl ?_
  refine j_iconst (v := nI 1) C dL_act_802 (by decide) ?_
  refine j_iload_n (i := 2) C dL_act_803 rfl 3 rfl ?_
  refine j_iconst (v := nI 3) C dL_act_804 (by decide) ?_
  refine j_ishr C dL_act_805 (fun z805 => ?_)
  refine j_bipush (v := nI 24) C dL_act_806 (by decide) ?_
  refine j_callS (nargs := 2) (As := [_, _]) C gw475 gw476 gw20 (kL_below l D ct sa _ _ _ 24 rfl (by decide) (by decide)) gw477 (by decide +kernel) rfl dL_act_808 ⟨Nat.le_of_ble_eq_true rfl, Nat.le_of_ble_eq_true rfl⟩ ⟨Nat.le_of_ble_eq_true rfl, Nat.le_of_ble_eq_true rfl⟩ (Nat.le_of_ble_eq_true rfl) (fun r w hk => ?_)
  obtain ⟨f, h_f, rfl, rfl⟩ := hk
  refine j_st (st1 := .int (nI f) :: _) rfl ?_
  refine j_iast (ws2 := (SWs ct sd σ ++ WX ct sa ad mcn φ σ) ++ [arI ct qn 3 (upd (upd (fun _ => nI 0) 0 (sK σ (3 * rr + 0))) 1 (nI f))]) C ((SWs ct sd σ ++ WX ct sa ad mcn φ σ).length) gA (1) rfl (by decide) (by decide) sA dL_act_811 ?_
  refine j_dup C dL_act_812 rfl ?_
  refine j_iconst (v := nI 2) C dL_act_813 (by decide) ?_
  refine j_iload_n (i := 2) C dL_act_814 rfl 3 rfl ?_
  refine j_iconst (v := nI 4) C dL_act_815 (by decide) ?_
  refine j_ishr C dL_act_816 (fun z816 => ?_)
  refine j_bipush (v := nI 25) C dL_act_817 (by decide) ?_
  refine j_callS (nargs := 2) (As := [_, _]) C gw475 gw476 gw20 (kL_below l D ct sa _ _ _ 25 rfl (by decide) (by decide)) gw477 (by decide +kernel) rfl dL_act_819 ⟨Nat.le_of_ble_eq_true rfl, Nat.le_of_ble_eq_true rfl⟩ ⟨Nat.le_of_ble_eq_true rfl, Nat.le_of_ble_eq_true rfl⟩ (Nat.le_of_ble_eq_true rfl) (fun r w hk => ?_)
  obtain ⟨t, h_t, rfl, rfl⟩ := hk
  refine j_st (st1 := .int (nI t) :: _) rfl ?_
  refine j_iast (ws2 := (SWs ct sd σ ++ WX ct sa ad mcn φ σ) ++ [arI ct qn 3 (upd (upd (upd (fun _ => nI 0) 0 (sK σ (3 * rr + 0))) 1 (nI f)) 2 (nI t))]) C ((SWs ct sd σ ++ WX ct sa ad mcn φ σ).length) gA (2) rfl (by decide) (by decide) sA dL_act_822 ?_
  refine j_astqA (ws2 := (SWs ct sd σ ++ WX ct sa ad mcn φ σ).set 2 (arR (ct 3) (sd 2) 3 (va_up (rfs 3 (fun i => sd (3 + i))) rr (some qn))) ++ [arI ct qn 3 (upd (upd (upd (fun _ => nI 0) 0 (sK σ (3 * rr + 0))) 1 (nI f)) 2 (nI t))]) C 2 (SWs ct sd σ ++ WX ct sa ad mcn φ σ).length (app_at rfl) gA rr rfl hr3 (by decide) (app_set rfl) dL_act_823 ?_
  refine j_cong (g := rkr (upd (upd (sK σ) (3 * rr + 1) (nI f)) (3 * rr + 2) (nI t)) rr) (q0 := ((SWs ct sd σ ++ WX ct sa ad mcn φ σ).set 2 (arR (ct 3) (sd 2) 3 (va_up (rfs 3 (fun i => sd (3 + i))) rr (some qn)))).length) gA (k3_e ((pk_un (by omega)).trans (pk_un (by omega))) ((pk_un (by omega)).trans pk_us) pk_us) ?_
  refine j_ws (ws1 := (SWs ct sd σ ++ WX ct sa ad mcn φ σ).set 2 (arR (ct 3) (sd 2) 3 (va_up (rfs 3 (fun i => sd (3 + i))) rr (some qn))) ++ [arI ct qn 3 (rkr (upd (upd (sK σ) (3 * rr + 1) (nI f)) (3 * rr + 2) (nI t)) rr)]) sA ?_
  refine j_repl (3 + rr) (by rw [List.length_set, List.length_append, sw_len]; omega) ?_
  refine j_ws (ws1 := SWs ct (sdU sd (3 + rr) qn) (uK σ (upd (upd (sK σ) (3 * rr + 1) (nI f)) (3 * rr + 2) (nI t))) ++ WX ct sa ad mcn φ (σ)) (sw_rk (K' := upd (upd (sK σ) (3 * rr + 1) (nI f)) (3 * rr + 2) (nI t)) hr3 (fun i hi9 hne => cut_ext (fun q hq => (pk_un (by omega)).trans (pk_un (by omega))))) ?_
  have e0 : (sdU sd (3 + rr) qn) 0 = sd 0 := su_n (by omega)
  rw [← e0]
  refine j_aload_n (i := 0) C dL_act_824 rfl 1 rfl ?_
  refine j_iload C dL_act_825 5 rfl ?_
  refine j_aload_n (i := 1) C dL_act_827 rfl 2 rfl ?_
  refine j_get (Cn := RX5) (T := TX5) (N := 4) (ci := 6) C iX5 rfl (0) rfl 3 (by decide) gw660 rfl rfl dL_act_828 ?_
  refine j_iload C dL_act_831 5 rfl ?_
  refine j_aald C (2) 3 rfl rfl rfl (rr) rfl hr3 (by decide) (if_pos hr3) dL_act_833 ?_
  refine j_iconst (v := nI 1) C dL_act_834 (by decide) ?_
  refine j_iald C (3 + rr) (sw_k hr3) (1) rfl (by decide) (by decide) dL_act_835 ?_
  refine j_st (st1 := .int (nI f) :: _) (congrArg (fun z => Value.int z :: _) ((cut_in (by decide)).trans ((pk_un (by omega)).trans pk_us))) ?_
  refine j_aload_n (i := 1) C dL_act_836 rfl 2 rfl ?_
  refine j_get (Cn := RX5) (T := TX5) (N := 4) (ci := 6) C iX5 rfl (0) rfl 3 (by decide) gw660 rfl rfl dL_act_837 ?_
  refine j_iload C dL_act_840 5 rfl ?_
  refine j_aald C (2) 3 rfl rfl rfl (rr) rfl hr3 (by decide) (if_pos hr3) dL_act_842 ?_
  refine j_iconst (v := nI 2) C dL_act_843 (by decide) ?_
  refine j_iald C (3 + rr) (sw_k hr3) (2) rfl (by decide) (by decide) dL_act_844 ?_
  refine j_st (st1 := .int (nI t) :: _) (congrArg (fun z => Value.int z :: _) ((cut_in (by decide)).trans pk_us)) ?_
  have ef := hu_v (σ := σ) hr3 h_f h_t
  refine j_sw (A := SWs ct (sdU sd (3 + rr) qn) (uK σ (upd (upd (sK σ) (3 * rr + 1) (nI f)) (3 * rr + 2) (nI t)))) (B := WX ct sa ad mcn φ (σ)) ?_
  refine j_callVX (nargs := 3) (As := [_, _, _]) (Cn := RX3) C (0) rfl rfl rfl gw628 gw629 gw630 gw21 (kX3_setHours l htr D ct sa ad mcn φ (σ) (SWs ct (sdU sd (3 + rr) qn) (uK σ (upd (upd (sK σ) (3 * rr + 1) (nI f)) (3 * rr + 2) (nI t)))) (nI rr) (nI f) (nI t) hi.1) gw631 (by decide +kernel) rfl dL_act_845 ⟨Nat.le_of_ble_eq_true rfl, Nat.le_of_ble_eq_true rfl⟩ ⟨Nat.le_of_ble_eq_true rfl, Nat.le_of_ble_eq_true rfl⟩ (Nat.le_of_ble_eq_true rfl) (fun En hx => (kx_no hx (congrArg (fun f => f.1) ef) (by decide)).elim) (fun r w hk => ?_)
  obtain ⟨-, rfl, rfl⟩ := hk
  refine j_st (st1 := .int (nI 25 * sK σ (3 * rr + 1) + sK σ (3 * rr + 2)) :: _) (by rw [ef]; rfl) ?_
  refine j_ws (ws1 := WX ct sa ad mcn φ (uK σ (upd (upd (sK σ) (3 * rr + 1) (nI f)) (3 * rr + 2) (nI t))) ++ SWs ct (sdU sd (3 + rr) qn) (uK σ (upd (upd (sK σ) (3 * rr + 1) (nI f)) (3 * rr + 2) (nI t)))) (by rw [ef]) ?_
  refine j_sw (A := WX ct sa ad mcn φ (uK σ (upd (upd (sK σ) (3 * rr + 1) (nI f)) (3 * rr + 2) (nI t)))) (B := SWs ct (sdU sd (3 + rr) qn) (uK σ (upd (upd (sK σ) (3 * rr + 1) (nI f)) (3 * rr + 2) (nI t)))) ?_
  refine j_iload C dL_act_848 0 rfl ?_
  refine j_icmp_ne C 857 dL_act_850 (by decide) (fun c850 => by exact absurd rfl c850) (fun c850 => ?_)
  refine j_iconst (v := nI 1) C dL_act_853 (by decide) ?_
  refine j_goto C 858 dL_act_854 (by decide) ?_
  exact j_ireturn C E (by first | exact nr_b | rfl) dL_act_858 (Nat.le_of_ble_eq_true rfl) (Nat.le_of_ble_eq_true rfl) (⟨(sdU sd (3 + rr) qn), ad, mcn, uK σ (upd (upd (sK σ) (3 * rr + 1) (nI f)) (3 * rr + 2) (nI t)), rfl, il_hu hi hr3 h_f h_t, su_n (by omega), rfl, rfl⟩)
set_option maxRecDepth 100000 in
set_option maxHeartbeats 1000000 in
theorem kA_put3 {X : Ctx} {l : Launch} {D : va_G} {ct : Nat → ClassId} {sa : Nat → Nat} (htr : l.stackTraces = false) (C : jC X l D ct sa cL_act 18 "LetterLocksLaw" RA) {ws0 : va_W} {sd ad : Nat → Nat} {mcn : Int32} {φ : LD} {h : Nat} (E : jE X ws0 (kAc ct sa sd ad φ h) (fun _ => False) 20 120 (Option.some Jvm.ClassFile.FieldType.boolean)) (hh : h < 2 ^ 20) {σ : St} (hi : InvL h σ) {k : Nat} {x y : Int32} (hj : k < sN σ) (hc : ptC σ k y) : J X (SWs ct sd σ ++ WX ct sa ad mcn φ σ) (0) (0) 935 [(0, .ref (ad 0)), (1, .ref (sd 0)), (2, .int x), (4, .int (nI k)), (5, .ref (sd (10 + 8 * k))), (16, .int y)] [] := by
  have h8 := hi.1.1.1
  refine j_aload C dL_act_935 4 rfl ?_
  refine j_get (Cn := RX4) (T := TX4) (N := 6) (ci := 5) C iX4 rfl (6 + 8 * k) (sw_o hj) 5 (by decide) gw509 rfl rfl dL_act_937 ?_
  refine j_istore (lv' := [(17, .int _), (0, .ref _), (1, .ref _), (2, .int _), (4, .int _), (5, .ref _), (16, .int _)]) C dL_act_940 (by decide) rfl ?_
  refine j_aload C dL_act_942 5 rfl ?_
  refine j_iload C dL_act_944 6 rfl ?_
  refine j_put (Cn := RX4) (T := TX4) (N := 6) (ci := 5) (ws2 := SWs ct sd (uR σ (upd (sR σ) (8 * k + 2) y)) ++ WX ct sa ad mcn φ (σ)) C iX4 tyX4 tyX4_ok nmX4 rfl (6 + 8 * k) (sw_o hj) 5 (by decide) gw509 rfl rfl rfl rfl rfl (Nat.le_of_ble_eq_true rfl) ((sw_so hj).trans (congrArg (fun w => w ++ _) (sw_u (σ' := uR σ (upd (sR σ) (8 * k + 2) y)) (fun i hne => ld_o hne (by decide)) (by rw [ld_h (by decide)]; rfl)))) dL_act_946 ?_
  refine j_aload_n (i := 0) C dL_act_949 rfl 1 rfl ?_
  refine j_iload C dL_act_950 4 rfl ?_
  refine j_iload C dL_act_952 6 rfl ?_
  have ef := pt_v hi.1 hj hc
  refine j_sw (A := SWs ct sd (uR σ (upd (sR σ) (8 * k + 2) y))) (B := WX ct sa ad mcn φ (σ)) ?_
  refine j_callVX (nargs := 2) (As := [_, _]) (Cn := RX3) C (0) rfl rfl rfl gw634 gw635 gw636 gw21 (kX3_put l htr D ct sa ad mcn φ (σ) (SWs ct sd (uR σ (upd (sR σ) (8 * k + 2) y))) (nI k) y hi.1) gw637 (by decide +kernel) rfl dL_act_954 ⟨Nat.le_of_ble_eq_true rfl, Nat.le_of_ble_eq_true rfl⟩ ⟨Nat.le_of_ble_eq_true rfl, Nat.le_of_ble_eq_true rfl⟩ (Nat.le_of_ble_eq_true rfl) (fun En hx => (kx_no hx (congrArg (fun f => f.1) ef) (by decide)).elim) (fun r w hk => ?_)
  obtain ⟨-, rfl, rfl⟩ := hk
  refine j_st (st1 := .int (sR σ (8 * k + 2)) :: _) (by rw [ef]; rfl) ?_
  refine j_ws (ws1 := WX ct sa ad mcn φ (uR σ (upd (sR σ) (8 * k + 2) y)) ++ SWs ct sd (uR σ (upd (sR σ) (8 * k + 2) y))) (by rw [ef]) ?_
  refine j_sw (A := WX ct sa ad mcn φ (uR σ (upd (sR σ) (8 * k + 2) y))) (B := SWs ct sd (uR σ (upd (sR σ) (8 * k + 2) y))) ?_
  refine j_iload C dL_act_957 0 rfl ?_
  refine j_icmp_ne C 966 dL_act_959 (by decide) (fun c959 => by exact absurd rfl c959) (fun c959 => ?_)
  refine j_iconst (v := nI 1) C dL_act_962 (by decide) ?_
  refine j_goto C 967 dL_act_963 (by decide) ?_
  exact j_ireturn C E (by first | exact nr_b | rfl) dL_act_967 (Nat.le_of_ble_eq_true rfl) (Nat.le_of_ble_eq_true rfl) (⟨sd, ad, mcn, uR σ (upd (sR σ) (8 * k + 2) y), rfl, il_put hi hj hc, rfl, rfl, rfl⟩)
set_option maxRecDepth 100000 in
set_option maxHeartbeats 1000000 in
theorem kA_put2 {X : Ctx} {l : Launch} {D : va_G} {ct : Nat → ClassId} {sa : Nat → Nat} (htr : l.stackTraces = false) (C : jC X l D ct sa cL_act 18 "LetterLocksLaw" RA) {ws0 : va_W} {sd ad : Nat → Nat} {mcn : Int32} {φ : LD} {h : Nat} (E : jE X ws0 (kAc ct sa sd ad φ h) (fun _ => False) 20 120 (Option.some Jvm.ClassFile.FieldType.boolean)) (hh : h < 2 ^ 20) {σ : St} (hi : InvL h σ) {k : Nat} {x y : Int32} (hj : k < sN σ) (hy : y = -1 ∨ okI 3 y) : J X (SWs ct sd σ ++ WX ct sa ad mcn φ σ) (0) (0) 881 [(0, .ref (ad 0)), (1, .ref (sd 0)), (2, .int x), (4, .int (nI k)), (5, .ref (sd (10 + 8 * k)))] [.int y] := by
  have h8 := hi.1.1.1
  refine j_istore (lv' := [(16, .int _), (0, .ref _), (1, .ref _), (2, .int _), (4, .int _), (5, .ref _)]) C dL_act_881 (by decide) rfl ?_
  refine j_iload C dL_act_883 0 rfl ?_
  refine j_aload C dL_act_885 5 rfl ?_
  refine j_get (Cn := RX4) (T := TX4) (N := 6) (ci := 5) C iX4 rfl (6 + 8 * k) (sw_o hj) 5 (by decide) gw509 rfl rfl dL_act_887 ?_
  refine j_icmp_eq C 935 dL_act_890 (by decide) (fun c890 => ?_) (fun c890 => ?_)
  · exact j_lvs [1, 2, 3, 4, 5, 0] rfl (kA_put3 htr C E hh hi hj (by first | exact Or.inl c890 | exact Or.inr ⟨c890, c898, Or.inl ((rk_lt hy).1 c903)⟩ | exact Or.inr ⟨c890, c898, Or.inr ⟨hy3, b2i_t c912, c930⟩⟩))
  · refine j_aload C dL_act_893 5 rfl ?_
    refine j_get (Cn := RX4) (T := TX4) (N := 6) (ci := 5) C iX4 rfl (6 + 8 * k) (sw_o hj) 3 (by decide) gw504 rfl rfl dL_act_895 ?_
    refine j_if_eq C 933 dL_act_898 (by decide) (fun c898 => ?_) (fun c898 => ?_)
    · refine j_iconst (v := nI 1) C dL_act_933 (by decide) ?_
      exact j_ireturn C E (by first | exact nr_b | rfl) dL_act_934 (Nat.le_of_ble_eq_true rfl) (Nat.le_of_ble_eq_true rfl) (⟨sd, ad, mcn, σ, rfl, hi, rfl, rfl, rfl⟩)
    · refine j_iload C dL_act_901 0 rfl ?_
      refine j_if_lt C 935 dL_act_903 (by decide) (fun c903 => ?_) (fun c903 => ?_)
      · exact j_lvs [1, 2, 3, 4, 5, 0] rfl (kA_put3 htr C E hh hi hj (by first | exact Or.inl c890 | exact Or.inr ⟨c890, c898, Or.inl ((rk_lt hy).1 c903)⟩ | exact Or.inr ⟨c890, c898, Or.inr ⟨hy3, b2i_t c912, c930⟩⟩))
      · obtain ⟨hy3, hyn⟩ := (rk_lt hy).2 c903
        obtain ⟨hr3, er⟩ := okI_ix hy3 (by decide)
        obtain ⟨f, f24, hf⟩ := okI_of (hi.2.2 _ hr3).1 (by decide)
        obtain ⟨t, t25, ht⟩ := okI_of (hi.2.2 _ hr3).2.1 (by decide)
        refine j_aload_n (i := 1) C dL_act_906 rfl 2 rfl ?_
        refine j_iload C dL_act_907 0 rfl ?_
        refine j_callV (nargs := 1) (As := [_]) (Cn := RX5) C (0) rfl rfl rfl gw633 gw446 gw447 gw28 (kX5_isOpen l D ct sa sd (sH σ) (sT σ) (sN σ) (sK σ) (ldS σ) (WX ct sa ad mcn φ σ) y (ix y) f t h er hr3 hf ht hi.2.1 f24 t25 hh) gw448 (by decide +kernel) rfl dL_act_909 ⟨Nat.le_of_ble_eq_true rfl, Nat.le_of_ble_eq_true rfl⟩ ⟨Nat.le_of_ble_eq_true rfl, Nat.le_of_ble_eq_true rfl⟩ (Nat.le_of_ble_eq_true rfl) (dki ?_)
        refine j_if_eq C 933 dL_act_912 (by decide) (fun c912 => ?_) (fun c912 => ?_)
        · refine j_iconst (v := nI 1) C dL_act_933 (by decide) ?_
          exact j_ireturn C E (by first | exact nr_b | rfl) dL_act_934 (Nat.le_of_ble_eq_true rfl) (Nat.le_of_ble_eq_true rfl) (⟨sd, ad, mcn, σ, rfl, hi, rfl, rfl, rfl⟩)
        · refine j_aload_n (i := 1) C dL_act_915 rfl 2 rfl ?_
          refine j_iload C dL_act_916 0 rfl ?_
          refine j_callV (nargs := 1) (As := [_]) (Cn := RX5) C (0) rfl rfl rfl gw621 gw466 gw467 gw28 (kX5_in l D ct sa sd (sH σ) (sT σ) (sN σ) (sK σ) (ldS σ) (WX ct sa ad mcn φ σ) y h8) gw468 (by decide +kernel) rfl dL_act_918 ⟨Nat.le_of_ble_eq_true rfl, Nat.le_of_ble_eq_true rfl⟩ ⟨Nat.le_of_ble_eq_true rfl, Nat.le_of_ble_eq_true rfl⟩ (Nat.le_of_ble_eq_true rfl) (dki ?_)
          refine j_st (st1 := .int (inF σ y) :: _) rfl ?_
          refine j_aload_n (i := 1) C dL_act_921 rfl 2 rfl ?_
          refine j_get (Cn := RX5) (T := TX5) (N := 4) (ci := 6) C iX5 rfl (0) rfl 3 (by decide) gw660 rfl rfl dL_act_922 ?_
          refine j_iload C dL_act_925 0 rfl ?_
          refine j_aald C (2) 3 rfl rfl rfl (ix y) er hr3 (by decide) (if_pos hr3) dL_act_927 ?_
          refine j_iconst (v := nI 0) C dL_act_928 (by decide) ?_
          refine j_iald C (3 + ix y) (sw_k hr3) (0) rfl (by decide) (by decide) dL_act_929 ?_
          refine j_st (st1 := .int (sK σ (3 * ix y + 0)) :: _) (congrArg (fun z => Value.int z :: _) (cut_in (by decide))) ?_
          refine j_icmp_lt C 935 dL_act_930 (by decide) (fun c930 => ?_) (fun c930 => ?_)
          · exact j_lvs [1, 2, 3, 4, 5, 0] rfl (kA_put3 htr C E hh hi hj (by first | exact Or.inl c890 | exact Or.inr ⟨c890, c898, Or.inl ((rk_lt hy).1 c903)⟩ | exact Or.inr ⟨c890, c898, Or.inr ⟨hy3, b2i_t c912, c930⟩⟩))
          · refine j_iconst (v := nI 1) C dL_act_933 (by decide) ?_
            exact j_ireturn C E (by first | exact nr_b | rfl) dL_act_934 (Nat.le_of_ble_eq_true rfl) (Nat.le_of_ble_eq_true rfl) (⟨sd, ad, mcn, σ, rfl, hi, rfl, rfl, rfl⟩)
set_option maxRecDepth 100000 in
set_option maxHeartbeats 1000000 in
theorem kA_put {X : Ctx} {l : Launch} {D : va_G} {ct : Nat → ClassId} {sa : Nat → Nat} (htr : l.stackTraces = false) (C : jC X l D ct sa cL_act 18 "LetterLocksLaw" RA) {ws0 : va_W} {sd ad : Nat → Nat} {mcn : Int32} {φ : LD} {h : Nat} (E : jE X ws0 (kAc ct sa sd ad φ h) (fun _ => False) 20 120 (Option.some Jvm.ClassFile.FieldType.boolean)) (hh : h < 2 ^ 20) {σ : St} (hi : InvL h σ) {k rr : Nat} {x : Int32} (hj : k < sN σ) (hr3 : rr < 3) : J X (SWs ct sd σ ++ WX ct sa ad mcn φ σ) (0) (0) 859 [(0, .ref (ad 0)), (1, .ref (sd 0)), (2, .int x), (3, .int (nI (sN σ))), (4, .int (nI k)), (5, .ref (sd (10 + 8 * k))), (6, .int (nI rr))] [] := by
  have h8 := hi.1.1.1
  refine j_iload_n (i := 3) C dL_act_859 rfl 3 rfl ?_
  refine j_if_ne C 865 dL_act_860 (by decide) (fun c860 => ?_) (fun c860 => by exact absurd c860 (nI_ne0 (by omega) (by omega)))
  refine j_iload_n (i := 2) C dL_act_865 rfl 2 rfl ?_
  refine j_iconst (v := nI 3) C dL_act_866 (by decide) ?_
  refine j_ishr C dL_act_867 (fun z867 => ?_)
  refine j_iconst (v := nI 5) C dL_act_868 (by decide) ?_
  refine j_callS (nargs := 2) (As := [_, _]) C gw475 gw476 gw20 (kL_below l D ct sa _ _ _ 5 rfl (by decide) (by decide)) gw477 (by decide +kernel) rfl dL_act_869 ⟨Nat.le_of_ble_eq_true rfl, Nat.le_of_ble_eq_true rfl⟩ ⟨Nat.le_of_ble_eq_true rfl, Nat.le_of_ble_eq_true rfl⟩ (Nat.le_of_ble_eq_true rfl) (fun r w hk => ?_)
  obtain ⟨j5, h_j5, rfl, rfl⟩ := hk
  refine j_st (st1 := .int (nI j5) :: _) rfl ?_
  refine j_if_ne C 879 dL_act_872 (by decide) (fun c872 => ?_) (fun c872 => ?_)
  · refine j_iload C dL_act_879 6 rfl ?_
    exact j_lvs [0, 1, 2, 4, 5] rfl (kA_put2 htr C E hh hi hj (by first | exact Or.inl rfl | exact Or.inr (okI_n hr3 (by decide))))
  · refine j_iconst (v := (-1)) C dL_act_875 (by decide) ?_
    refine j_goto C 881 dL_act_876 (by decide) ?_
    exact j_lvs [0, 1, 2, 4, 5] rfl (kA_put2 htr C E hh hi hj (by first | exact Or.inl rfl | exact Or.inr (okI_n hr3 (by decide))))
set_option maxRecDepth 100000 in
set_option maxHeartbeats 1000000 in
theorem kA_lock {X : Ctx} {l : Launch} {D : va_G} {ct : Nat → ClassId} {sa : Nat → Nat} (htr : l.stackTraces = false) (C : jC X l D ct sa cL_act 18 "LetterLocksLaw" RA) {ws0 : va_W} {sd ad : Nat → Nat} {mcn : Int32} {φ : LD} {h : Nat} (E : jE X ws0 (kAc ct sa sd ad φ h) (fun _ => False) 20 120 (Option.some Jvm.ClassFile.FieldType.boolean)) (hh : h < 2 ^ 20) {σ : St} (hi : InvL h σ) {x : Int32}  : J X (SWs ct sd σ ++ WX ct sa ad mcn φ σ) (0) (0) 128 [(0, .ref (ad 0)), (1, .ref (sd 0)), (2, .int x), (3, .int (nI (sN σ)))] [] := by
  have h8 := hi.1.1.1
  refine j_iload_n (i := 3) C dL_act_128 rfl 3 rfl ?_
  refine j_bipush (v := nI 8) C dL_act_129 (by decide) ?_
  refine j_icmp_ne C 136 dL_act_131 (by decide) (fun c131 => ?_) (fun c131 => ?_)
  · have h88 : sN σ < 8 := by
      rcases Nat.lt_or_ge (sN σ) 8 with z | z
      · exact z
      · exact absurd (congrArg nI (show sN σ = 8 by omega)) c131
    refine j_iload_n (i := 3) C dL_act_136 rfl 3 rfl ?_
    refine j_iconst (v := nI 1) C dL_act_137 (by decide) ?_
    refine j_iadd C dL_act_138 ?_
    refine j_st (st1 := .int (nI (sN σ + 1)) :: _) (by rw [nI_add]) ?_
    refine j_newqL C gw487 (N := sN σ + 1) rfl (by omega) (Nat.le_of_ble_eq_true rfl) (by show 0 + (sN σ + 1) ≤ 120; omega) dL_act_139 (fun qa => ?_)
    refine j_widen (k1 := 1) (n1 := 9) (by omega) (by omega) ?_
    refine j_astore (lv' := [(7, .ref _), (0, .ref _), (1, .ref _), (2, .int _), (3, .int _)]) C dL_act_142 (by decide) rfl ?_
    refine j_iconst (v := nI 0) C dL_act_144 (by decide) ?_
    refine j_istore (lv' := [(8, .int _), (7, .ref _), (0, .ref _), (1, .ref _), (2, .int _), (3, .int _)]) C dL_act_145 (by decide) rfl ?_
    have L147 : ∀ (d i : Nat) (x8 : Int32) (w : va_W), i + d = sN σ → x8 = nI i → w = (SWs ct sd σ ++ WX ct sa ad mcn φ σ) ++ [arR (ct 4) qa (sN σ + 1) (rfs i (fun t => sd (10 + 8 * t)))] → J X (w) (1) (9) 147 [(0, .ref (ad 0)), (1, .ref (sd 0)), (2, .int x), (3, .int (nI (sN σ))), (7, .ref qa), (8, .int x8)] [] := by
      intro d
      induction d with
      | zero =>
        intro i x8 w hd e_x8 e_w 
        subst e_x8
        subst e_w
        have hi9 : i = sN σ := by omega
        rw [hi9]
        refine j_iload C dL_act_147 5 rfl ?_
        refine j_iload_n (i := 3) C dL_act_149 rfl 3 rfl ?_
        refine j_icmp_ge C 171 dL_act_150 (by decide) (fun c150 => ?_) (fun c150 => by first | exact absurd c150 (nI_ge (b := sN σ) (by omega) (by omega)) | exact (c150 (nI_le (Nat.le_refl (sN σ)) (by omega))).elim)
        refine j_aload C dL_act_171 4 rfl ?_
        refine j_iload_n (i := 3) C dL_act_173 rfl 3 rfl ?_
        refine j_new (Cn := RX4) (T := TX4) (N := 6) (ci := 5) (fs := [.null, .null, .null, .int (nI 0), .int (nI 0), .int (nI 0)]) C iX4 tyX4 tyX4_ok gw487 gw489 gw29 rfl (fun j hj => by match j, hj with | 0, _ => rfl | 1, _ => rfl | 2, _ => rfl | 3, _ => rfl | 4, _ => rfl | 5, _ => rfl) (Nat.le_of_ble_eq_true rfl) (Nat.le_of_ble_eq_true rfl) dL_act_174 (fun hq => ?_)
        refine j_dup C dL_act_177 rfl ?_
        refine j_callIN (nargs := 0) (As := []) C nw490 gw491 gw29 rfl (kX4_init l D ct sa _ ((SWs ct sd σ ++ WX ct sa ad mcn φ σ) ++ [arR (ct 4) qa (sN σ + 1) (rfs (sN σ) (fun t => sd (10 + 8 * t)))]).length hq gA) gw492 (by decide +kernel) rfl dL_act_178 ⟨Nat.le_of_ble_eq_true rfl, Nat.le_of_ble_eq_true rfl⟩ ⟨Nat.le_of_ble_eq_true rfl, Nat.le_of_ble_eq_true rfl⟩ (Nat.le_of_ble_eq_true rfl) (fun r w hk => ?_)
        obtain ⟨q1, q2, rw, rfl, rfl⟩ := hk
        refine j_ws (ws1 := ((SWs ct sd σ ++ WX ct sa ad mcn φ σ) ++ [arR (ct 4) qa (sN σ + 1) (rfs (sN σ) (fun t => sd (10 + 8 * t)))]) ++ ((hq, .inr (5, [.null, .ref q1, .ref q2, .int (nI 1), .int (nI 0), .int (-1)])) :: arI ct q1 4 (fun _ => nI 0) :: arR (ct 3) q2 4 (rfs 4 rw) :: (List.range 4).map (fun i => arI ct (rw i) 6 (fun _ => nI 0)))) (by rw [sA, List.append_assoc]; rfl) ?_
        refine j_st (st1 := .ref hq :: .int (nI (sN σ)) :: .ref qa :: []) rfl ?_
        refine j_astqL (ws2 := ((SWs ct sd σ ++ WX ct sa ad mcn φ σ) ++ [arR (ct 4) qa (sN σ + 1) (va_up (rfs (sN σ) (fun t => sd (10 + 8 * t))) (sN σ) (some hq))]) ++ ((hq, .inr (5, [.null, .ref q1, .ref q2, .int (nI 1), .int (nI 0), .int (-1)])) :: arI ct q1 4 (fun _ => nI 0) :: arR (ct 3) q2 4 (rfs 4 rw) :: (List.range 4).map (fun i => arI ct (rw i) 6 (fun _ => nI 0)))) C (SWs ct sd σ ++ WX ct sa ad mcn φ σ).length ((SWs ct sd σ ++ WX ct sa ad mcn φ σ) ++ [arR (ct 4) qa (sN σ + 1) (rfs (sN σ) (fun t => sd (10 + 8 * t)))]).length (app_at gA) th_at0 (sN σ) rfl (by omega) (by omega) ((app_set gA).trans (by rw [sA])) dL_act_181 ?_
        refine j_aload C dL_act_182 4 rfl ?_
        refine j_iload_n (i := 3) C dL_act_184 rfl 3 rfl ?_
        refine j_aald C ((SWs ct sd σ ++ WX ct sa ad mcn φ σ).length) 4 (app_at gA) rfl rfl (sN σ) rfl (by omega) (by omega) (va_up_self _ _ _) dL_act_185 ?_
        refine j_iload_n (i := 2) C dL_act_186 rfl 2 rfl ?_
        refine j_iconst (v := nI 1) C dL_act_187 (by decide) ?_
        refine j_ishr C dL_act_188 (fun z188 => ?_)
        refine j_sipush (v := nI 1296) C dL_act_189 (by decide) ?_
        refine j_callS (nargs := 2) (As := [_, _]) C gw475 gw476 gw20 (kL_below l D ct sa _ _ _ 1296 rfl (by decide) (by decide)) gw477 (by decide +kernel) rfl dL_act_192 ⟨Nat.le_of_ble_eq_true rfl, Nat.le_of_ble_eq_true rfl⟩ ⟨Nat.le_of_ble_eq_true rfl, Nat.le_of_ble_eq_true rfl⟩ (Nat.le_of_ble_eq_true rfl) (fun r w hk => ?_)
        obtain ⟨m, h_m, rfl, rfl⟩ := hk
        refine j_st (st1 := .int (nI m) :: _) rfl ?_
        refine j_callS (nargs := 1) (As := [_]) C gw523 gw524 gw20 (kL_letters l D ct sa _ (nI m) (okI_n h_m (by decide))) gw525 (by decide +kernel) rfl dL_act_195 ⟨Nat.le_of_ble_eq_true rfl, Nat.le_of_ble_eq_true rfl⟩ ⟨Nat.le_of_ble_eq_true rfl, Nat.le_of_ble_eq_true rfl⟩ (Nat.le_of_ble_eq_true rfl) (fun r w hk => ?_)
        obtain ⟨qw, rfl, rfl⟩ := hk
        refine j_st (st1 := .ref qw :: _) rfl ?_
        refine j_put (Cn := RX4) (T := TX4) (N := 6) (ci := 5) (ws2 := (((SWs ct sd σ ++ WX ct sa ad mcn φ σ) ++ [arR (ct 4) qa (sN σ + 1) (va_up (rfs (sN σ) (fun t => sd (10 + 8 * t))) (sN σ) (some hq))]) ++ (obL hq qw q1 q2 (nI 1) (nI 0) (-1) :: arI ct q1 4 (fun _ => nI 0) :: arR (ct 3) q2 4 (rfs 4 rw) :: (List.range 4).map (fun i => arI ct (rw i) 6 (fun _ => nI 0)))) ++ [arI ct qw 4 (cut 4 (ltF (nI m)))]) C iX4 tyX4 tyX4_ok nmX4 rfl (((SWs ct sd σ ++ WX ct sa ad mcn φ σ) ++ [arR (ct 4) qa (sN σ + 1) (va_up (rfs (sN σ) (fun t => sd (10 + 8 * t))) (sN σ) (some hq))]).length) (app_at th_at0) 0 (by decide) gw496 rfl rfl rfl rfl rfl (Nat.le_of_ble_eq_true rfl) ((app_set th_at0).trans (by rw [th_set0]; rfl)) dL_act_198 ?_
        refine j_aload_n (i := 1) C dL_act_201 rfl 1 rfl ?_
        refine j_aload C dL_act_202 4 rfl ?_
        have hS0 : (SWs ct sd σ)[0]? = some (sd 0, .inr (6, [.int (sH σ), .int (sT σ), .ref (sd 1), .ref (sd 2)])) := rfl
        have hS1 : ((SWs ct sd σ).set 0 (sd 0, .inr (6, [.int (sH σ), .int (sT σ), .ref qa, .ref (sd 2)])))[1]? = some (arR (ct 4) (sd 1) (sN σ) (rfs (sN σ) (fun i => sd (10 + 8 * i)))) := rfl
        refine j_put (Cn := RX5) (T := TX5) (N := 4) (ci := 6) (ws2 := (((((SWs ct sd σ).set 0 (sd 0, .inr (6, [.int (sH σ), .int (sT σ), .ref qa, .ref (sd 2)]))) ++ WX ct sa ad mcn φ σ) ++ [arR (ct 4) qa (sN σ + 1) (va_up (rfs (sN σ) (fun t => sd (10 + 8 * t))) (sN σ) (some hq))]) ++ (obL hq qw q1 q2 (nI 1) (nI 0) (-1) :: arI ct q1 4 (fun _ => nI 0) :: arR (ct 3) q2 4 (rfs 4 rw) :: (List.range 4).map (fun i => arI ct (rw i) 6 (fun _ => nI 0)))) ++ [arI ct qw 4 (cut 4 (ltF (nI m)))]) C iX5 tyX5 tyX5_ok nmX5 rfl (0) (app_at (app_at (app_at (app_at hS0)))) 2 (by decide) gw658 rfl rfl rfl rfl rfl (Nat.le_of_ble_eq_true rfl) (by rw [app_set (app_at (app_at (app_at hS0))), app_set (app_at (app_at hS0)), app_set (app_at hS0), app_set hS0]; rfl) dL_act_204 ?_
        refine j_ws (ws1 := ((((SWs ct sd σ).set 0 (sd 0, .inr (6, [.int (sH σ), .int (sT σ), .ref qa, .ref (sd 2)]))) ++ WX ct sa ad mcn φ σ) ++ [arR (ct 4) qa (sN σ + 1) (va_up (rfs (sN σ) (fun t => sd (10 + 8 * t))) (sN σ) (some hq))]) ++ (obL hq qw q1 q2 (nI 1) (nI 0) (-1) :: arI ct q1 4 (fun _ => nI 0) :: arR (ct 3) q2 4 (rfs 4 rw) :: ((List.range 4).map (fun i => arI ct (rw i) 6 (fun _ => nI 0)) ++ [arI ct qw 4 (cut 4 (ltF (nI m)))]))) (List.append_assoc ..) ?_
        refine j_swap (a := ((SWs ct sd σ).set 0 (sd 0, .inr (6, [.int (sH σ), .int (sT σ), .ref qa, .ref (sd 2)]))) ++ WX ct sa ad mcn φ σ) (b := [arR (ct 4) qa (sN σ + 1) (va_up (rfs (sN σ) (fun t => sd (10 + 8 * t))) (sN σ) (some hq))]) (c0 := (obL hq qw q1 q2 (nI 1) (nI 0) (-1) :: arI ct q1 4 (fun _ => nI 0) :: arR (ct 3) q2 4 (rfs 4 rw) :: ((List.range 4).map (fun i => arI ct (rw i) 6 (fun _ => nI 0)) ++ [arI ct qw 4 (cut 4 (ltF (nI m)))]))) rfl ?_
        refine j_repl 1 (by rw [List.length_append, List.length_append, List.length_set, sw_len]; omega) ?_
        refine j_ws (ws1 := ((((SWs ct sd σ).set 0 (sd 0, .inr (6, [.int (sH σ), .int (sT σ), .ref qa, .ref (sd 2)]))).set 1 (arR (ct 4) qa (sN σ + 1) (va_up (rfs (sN σ) (fun t => sd (10 + 8 * t))) (sN σ) (some hq)))) ++ WX ct sa ad mcn φ σ) ++ (obL hq qw q1 q2 (nI 1) (nI 0) (-1) :: arI ct q1 4 (fun _ => nI 0) :: arR (ct 3) q2 4 (rfs 4 rw) :: ((List.range 4).map (fun i => arI ct (rw i) 6 (fun _ => nI 0)) ++ [arI ct qw 4 (cut 4 (ltF (nI m)))]))) (by rw [app_set (app_at hS1), app_set hS1]) ?_
        refine j_swap (a := ((SWs ct sd σ).set 0 (sd 0, .inr (6, [.int (sH σ), .int (sT σ), .ref qa, .ref (sd 2)]))).set 1 (arR (ct 4) qa (sN σ + 1) (va_up (rfs (sN σ) (fun t => sd (10 + 8 * t))) (sN σ) (some hq)))) (b := WX ct sa ad mcn φ σ) (c0 := (obL hq qw q1 q2 (nI 1) (nI 0) (-1) :: arI ct q1 4 (fun _ => nI 0) :: arR (ct 3) q2 4 (rfs 4 rw) :: ((List.range 4).map (fun i => arI ct (rw i) 6 (fun _ => nI 0)) ++ [arI ct qw 4 (cut 4 (ltF (nI m)))]))) rfl ?_
        refine j_ws (ws1 := SWs ct (sdN sd (sN σ) qa hq qw q1 q2 rw) (nwS σ (nI m)) ++ WX ct sa ad mcn φ (σ)) (congrArg (fun w => w ++ _) (sw_nw (dat' := ldS (nwS σ (nI m))) (nw_f (q := qa)) (fun i hin => nw_ldo hin) (nw_lds hi.1 h88))) ?_
        have e0 : (sdN sd (sN σ) qa hq qw q1 q2 rw) 0 = sd 0 := sn_o (by decide) (by omega)
        have e1 : (sdN sd (sN σ) qa hq qw q1 q2 rw) 1 = qa := sn_1
        obtain ⟨s2, hs2⟩ : ∃ s2, s2 = (sdN sd (sN σ) qa hq qw q1 q2 rw) := ⟨_, rfl⟩
        rw [← hs2] at e0 e1 ⊢
        rw [← e1]
        refine j_aload_n (i := 0) C dL_act_207 rfl 0 rfl ?_
        refine j_aload C dL_act_208 4 rfl ?_
        refine j_iload_n (i := 3) C dL_act_210 rfl 3 rfl ?_
        refine j_aald C (1) 4 rfl rfl rfl (sN σ) rfl (by show sN σ < sN σ + 1; omega) (by show sN σ + 1 < 2 ^ 31; omega) (if_pos (Nat.lt_succ_self _)) dL_act_211 ?_
        refine j_get (Cn := RX4) (T := TX4) (N := 6) (ci := 5) C iX4 rfl (6 + 8 * sN σ) (sw_o (show sN σ < sN (nwS σ (nI m)) from Nat.lt_succ_self _)) 0 (by decide) gw496 rfl rfl dL_act_212 ?_
        refine j_callS (nargs := 1) (As := [_]) C gw483 gw462 gw20 (kL_word l D ct sa _ (6 + 8 * sN σ + 7) _ _ (sw_w (show sN σ < sN (nwS σ (nI m)) from Nat.lt_succ_self _)) (ok_ltc (ld_let (il_lock hi h88 h_m).1.1 h88).2)) gw463 (by decide +kernel) rfl dL_act_215 ⟨Nat.le_of_ble_eq_true rfl, Nat.le_of_ble_eq_true rfl⟩ ⟨Nat.le_of_ble_eq_true rfl, Nat.le_of_ble_eq_true rfl⟩ (Nat.le_of_ble_eq_true rfl) (dki ?_)
        refine j_st (st1 := .int (nI m) :: _) (congrArg (fun z => Value.int z :: _) ((st_ltc (ld_let (il_lock hi h88 h_m).1.1 h88).2).trans nw_w)) ?_
        have ef := lk_v h88 h_m
        refine j_sw (A := SWs ct s2 (nwS σ (nI m))) (B := WX ct sa ad mcn φ (σ)) ?_
        refine j_callVX (nargs := 1) (As := [_]) (Cn := RX3) C (0) rfl rfl rfl gw526 gw527 gw528 gw21 (kX3_lock l htr D ct sa ad mcn φ (σ) (SWs ct s2 (nwS σ (nI m))) (nI m) hi.1) gw529 (by decide +kernel) rfl dL_act_218 ⟨Nat.le_of_ble_eq_true rfl, Nat.le_of_ble_eq_true rfl⟩ ⟨Nat.le_of_ble_eq_true rfl, Nat.le_of_ble_eq_true rfl⟩ (Nat.le_of_ble_eq_true rfl) (fun En hx => (kx_no hx (congrArg (fun f => f.1) ef) (by decide)).elim) (fun r w hk => ?_)
        obtain ⟨-, rfl, ad2, mcn2, had, rfl⟩ := hk
        refine j_st (st1 := .int (nI (sN σ)) :: _) (by rw [ef]; rfl) ?_
        refine j_ws (ws1 := WX ct sa ad2 mcn2 φ (nwS σ (nI m)) ++ SWs ct s2 (nwS σ (nI m))) (by rw [ef]) ?_
        refine j_sw (A := WX ct sa ad2 mcn2 φ (nwS σ (nI m))) (B := SWs ct s2 (nwS σ (nI m))) ?_
        refine j_iload_n (i := 3) C dL_act_221 rfl 3 rfl ?_
        refine j_icmp_ne C 229 dL_act_222 (by decide) (fun c222 => by exact absurd rfl c222) (fun c222 => ?_)
        refine j_iconst (v := nI 1) C dL_act_225 (by decide) ?_
        refine j_goto C 230 dL_act_226 (by decide) ?_
        exact j_ireturn C E (by first | exact nr_b | rfl) dL_act_230 (Nat.le_of_ble_eq_true rfl) (Nat.le_of_ble_eq_true rfl) (⟨s2, ad2, mcn2, nwS σ (nI m), rfl, il_lock hi h88 h_m, e0, had, rfl⟩)
      | succ d ih =>
        intro i x8 w hd e_x8 e_w 
        subst e_x8
        subst e_w
        have hil : i < sN σ := by omega
        refine j_iload C dL_act_147 5 rfl ?_
        refine j_iload_n (i := 3) C dL_act_149 rfl 3 rfl ?_
        refine j_icmp_ge C 171 dL_act_150 (by decide) (fun c150 => by first | exact absurd c150 (nI_ge (b := sN σ) (by omega) (by omega)) | exact (c150 (nI_le (Nat.le_refl (sN σ)) (by omega))).elim) (fun c150 => ?_)
        refine j_aload C dL_act_153 4 rfl ?_
        refine j_iload C dL_act_155 5 rfl ?_
        refine j_aload_n (i := 1) C dL_act_157 rfl 1 rfl ?_
        refine j_get (Cn := RX5) (T := TX5) (N := 4) (ci := 6) C iX5 rfl (0) (app_at rfl) 2 (by decide) gw658 rfl rfl dL_act_158 ?_
        refine j_iload C dL_act_161 5 rfl ?_
        refine j_aald C (1) 4 (app_at rfl) rfl rfl (i) rfl hil (by omega) (if_pos hil) dL_act_163 ?_
        refine j_astqL (ws2 := (SWs ct sd σ ++ WX ct sa ad mcn φ σ) ++ [arR (ct 4) qa (sN σ + 1) (rfs (i + 1) (fun t => sd (10 + 8 * t)))]) C (SWs ct sd σ ++ WX ct sa ad mcn φ σ).length (6 + 8 * i) gA (app_at (sw_o hil)) i rfl (by omega) (by omega) (sA.trans (by rw [rfs_u])) dL_act_164 ?_
        refine j_iinc (z := 5) (lv' := [(8, .int _), (0, .ref _), (1, .ref _), (2, .int _), (3, .int _), (7, .ref _)]) C dL_act_165 rfl rfl (by decide) rfl ?_
        refine j_goto C 147 dL_act_168 (by decide) ?_
        exact j_lvs [1, 2, 3, 4, 5, 0] rfl (ih (i + 1) _ _ (by omega) (nI_1 i) (rfl))
    exact j_lvs [2, 3, 4, 5, 1, 0] rfl (L147 (sN σ) (0) _ _ (by omega) (rfl) (by rw [rfs_0]))
  · refine j_iconst (v := nI 1) C dL_act_134 (by decide) ?_
    exact j_ireturn C E (by first | exact nr_b | rfl) dL_act_135 (Nat.le_of_ble_eq_true rfl) (Nat.le_of_ble_eq_true rfl) (⟨sd, ad, mcn, σ, rfl, hi, rfl, rfl, rfl⟩)
