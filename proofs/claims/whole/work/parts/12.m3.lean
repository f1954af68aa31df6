set_option maxRecDepth 100000 in
set_option maxHeartbeats 4000000 in
theorem kX4_places (l : Launch) (D : va_G) (ct : Nat → ClassId) (sa : Nat → Nat) (a : Nat → Nat) (thr : Int32) (σ : St) (wr : va_W) (x : Int32) (j : Nat) (hx : x = nI j) (hj : j < 8) : jM l yX4_places (Cond.code yX4_places cX4_places 7 (Option.some (Jvm.ClassFile.FieldType.array Jvm.ClassFile.FieldType.int)) :: GW) (rM 1 1 24 23) D ct sa [.ref (a 0), .int x] (WM ct a thr σ ++ wr) (fun r w => ∃ q : Nat, r = some (.ref q) ∧ w = WM ct a thr σ ++ ((q, .inl (ct 0, 24, .inl (plA (sW σ) j 24))) :: wr)) 1 24 := by
  refine jMX.plain (jBody (own := RX4) (by decide) rfl rfl (Nat.le_of_ble_eq_true rfl) ?_)
  intro X C E T0
  refine j_lv (lv1 := [(0, .ref _), (1, .int _)]) rfl ?_
  refine j_bipush (v := nI 24) C dX4_places_0 (by decide) ?_
  refine j_newaI C rfl (by decide) (Nat.le_of_ble_eq_true rfl) (Nat.le_of_ble_eq_true rfl) dX4_places_2 (fun q => ?_)
  refine j_swap (a := WM ct a thr σ) (b := wr) (c0 := [_]) rfl ?_
  refine j_ws (ws1 := WM ct a thr σ ++ ((q, .inl (ct 0, 24, .inl (plA (sW σ) j 0))) :: wr)) (by rw [← plA_0]; rfl) ?_
  refine j_astore_n (lv' := [(2, .ref _), (0, .ref _), (1, .int _)]) C dX4_places_4 rfl (by decide) rfl ?_
  refine j_iconst (v := nI 0) C dX4_places_5 (by decide) ?_
  refine j_istore_n (lv' := [(3, .int _), (2, .ref _), (0, .ref _), (1, .int _)]) C dX4_places_6 rfl (by decide) rfl ?_
  have L7 : ∀ (d i : Nat) (x3 : Int32) (w : va_W), i + d = 4 → x3 = nI i → w = WM ct a thr σ ++ ((q, .inl (ct 0, 24, .inl (plA (sW σ) j (6 * i)))) :: wr) → J X (w) (0 + 1) (0 + 24) 7 [(0, .ref (a 0)), (1, .int x), (2, .ref q), (3, .int x3)] [] := by
    intro d
    induction d with
    | zero =>
      intro i x3 w hd e_x3 e_w 
      subst e_x3
      subst e_w
      have hi : i = 4 := by omega
      subst hi
      refine j_iload_n (i := 3) C dX4_places_7 rfl 3 rfl ?_
      refine j_iconst (v := nI 4) C dX4_places_8 (by decide) ?_
      refine j_icmp_ge C 103 dX4_places_9 (by decide) (fun c9 => ?_) (fun c9 => by first | exact absurd c9 (by decide) | exact absurd c9 (nI_ge (by omega) (by omega)) | exact absurd (nI_le (by omega) (by omega)) c9 | exact absurd c9 (nI_nlt (by omega) (by omega)) | exact absurd (nI_lt (by omega) (by omega)) c9 | exact absurd c9 (nI_nle0 (by omega) (by omega)))
      refine j_aload_n (i := 2) C dX4_places_103 rfl 2 rfl ?_
      exact j_areturn C E (Or.inr ⟨_, rfl⟩) dX4_places_104 (Nat.le_of_ble_eq_true rfl) (Nat.le_of_ble_eq_true rfl) (⟨q, rfl, rfl⟩)
    | succ d ih =>
      intro i x3 w hd e_x3 e_w 
      subst e_x3
      subst e_w
      refine j_iload_n (i := 3) C dX4_places_7 rfl 3 rfl ?_
      refine j_iconst (v := nI 4) C dX4_places_8 (by decide) ?_
      refine j_icmp_ge C 103 dX4_places_9 (by decide) (fun c9 => by first | exact absurd c9 (by decide) | exact absurd c9 (nI_ge (by omega) (by omega)) | exact absurd (nI_le (by omega) (by omega)) c9 | exact absurd c9 (nI_nlt (by omega) (by omega)) | exact absurd (nI_lt (by omega) (by omega)) c9 | exact absurd c9 (nI_nle0 (by omega) (by omega))) (fun c9 => ?_)
      refine j_iconst (v := nI 0) C dX4_places_12 (by decide) ?_
      refine j_istore (lv' := [(4, .int _), (0, .ref _), (1, .int _), (2, .ref _), (3, .int _)]) C dX4_places_13 (by decide) rfl ?_
      have L15 : ∀ (d u : Nat) (x4 : Int32) (w : va_W), u + d = 6 → x4 = nI u → w = WM ct a thr σ ++ ((q, .inl (ct 0, 24, .inl (plA (sW σ) j (6 * i + u)))) :: wr) → J X (w) (0 + 1) (0 + 24) 15 [(0, .ref (a 0)), (1, .int x), (2, .ref q), (3, .int (nI i)), (4, .int x4)] [] := by
        intro d
        induction d with
        | zero =>
          intro u x4 w hd e_x4 e_w 
          subst e_x4
          subst e_w
          have hu : u = 6 := by omega
          subst hu
          refine j_iload C dX4_places_15 4 rfl ?_
          refine j_bipush (v := nI 6) C dX4_places_17 (by decide) ?_
          refine j_icmp_ge C 97 dX4_places_19 (by decide) (fun c19 => ?_) (fun c19 => by first | exact absurd c19 (by decide) | exact absurd c19 (nI_ge (by omega) (by omega)) | exact absurd (nI_le (by omega) (by omega)) c19 | exact absurd c19 (nI_nlt (by omega) (by omega)) | exact absurd (nI_lt (by omega) (by omega)) c19 | exact absurd c19 (nI_nle0 (by omega) (by omega)))
          refine j_iinc (z := 3) (lv' := [(3, .int _), (0, .ref _), (1, .int _), (2, .ref _), (4, .int _)]) C dX4_places_97 rfl rfl (by decide) rfl ?_
          refine j_goto C 7 dX4_places_100 (by decide) ?_
          exact j_lvs [1, 2, 3, 0] rfl (ih (i + 1) _ _ (by omega) (nI_1 i) (rfl))
        | succ d ih =>
          intro u x4 w hd e_x4 e_w 
          subst e_x4
          subst e_w
          refine j_iload C dX4_places_15 4 rfl ?_
          refine j_bipush (v := nI 6) C dX4_places_17 (by decide) ?_
          refine j_icmp_ge C 97 dX4_places_19 (by decide) (fun c19 => by first | exact absurd c19 (by decide) | exact absurd c19 (nI_ge (by omega) (by omega)) | exact absurd (nI_le (by omega) (by omega)) c19 | exact absurd c19 (nI_nlt (by omega) (by omega)) | exact absurd (nI_lt (by omega) (by omega)) c19 | exact absurd c19 (nI_nle0 (by omega) (by omega))) (fun c19 => ?_)
          refine j_iconst (v := nI 0) C dX4_places_22 (by decide) ?_
          refine j_istore (lv' := [(5, .int _), (0, .ref _), (1, .int _), (2, .ref _), (3, .int _), (4, .int _)]) C dX4_places_23 (by decide) rfl ?_
          have L25 : ∀ (d t : Nat) (x5 : Int32) (w : va_W), t + d = 6 → x5 = nI t → w = WM ct a thr σ ++ ((q, .inl (ct 0, 24, .inl (upd (plA (sW σ) j (6 * i + u)) (6 * i + u) (plN (wrow (sW σ) j i) u t)))) :: wr) → J X (w) (0 + 1) (0 + 24) 25 [(0, .ref (a 0)), (1, .int x), (2, .ref q), (3, .int (nI i)), (4, .int (nI u)), (5, .int x5)] [] := by
            intro d
            induction d with
            | zero =>
              intro t x5 w hd e_x5 e_w 
              subst e_x5
              subst e_w
              have ht : t = 6 := by omega
              subst ht
              refine j_ws (ws1 := WM ct a thr σ ++ ((q, .inl (ct 0, 24, .inl (plA (sW σ) j (6 * i + (u + 1))))) :: wr)) (by rw [plA_s _ _ _ _ (by omega)]) ?_
              refine j_iload C dX4_places_25 5 rfl ?_
              refine j_bipush (v := nI 6) C dX4_places_27 (by decide) ?_
              refine j_icmp_ge C 91 dX4_places_29 (by decide) (fun c29 => ?_) (fun c29 => by first | exact absurd c29 (by decide) | exact absurd c29 (nI_ge (by omega) (by omega)) | exact absurd (nI_le (by omega) (by omega)) c29 | exact absurd c29 (nI_nlt (by omega) (by omega)) | exact absurd (nI_lt (by omega) (by omega)) c29 | exact absurd c29 (nI_nle0 (by omega) (by omega)))
              refine j_iinc (z := 4) (lv' := [(4, .int _), (0, .ref _), (1, .int _), (2, .ref _), (3, .int _), (5, .int _)]) C dX4_places_91 rfl rfl (by decide) rfl ?_
              refine j_goto C 15 dX4_places_94 (by decide) ?_
              exact j_lvs [1, 2, 3, 4, 0] rfl (ih (u + 1) _ _ (by omega) (nI_1 u) (rfl))
            | succ d ih =>
              intro t x5 w hd e_x5 e_w 
              subst e_x5
              subst e_w
              refine j_iload C dX4_places_25 5 rfl ?_
              refine j_bipush (v := nI 6) C dX4_places_27 (by decide) ?_
              refine j_icmp_ge C 91 dX4_places_29 (by decide) (fun c29 => by first | exact absurd c29 (by decide) | exact absurd c29 (nI_ge (by omega) (by omega)) | exact absurd (nI_le (by omega) (by omega)) c29 | exact absurd c29 (nI_nlt (by omega) (by omega)) | exact absurd (nI_lt (by omega) (by omega)) c29 | exact absurd c29 (nI_nle0 (by omega) (by omega))) (fun c29 => ?_)
              refine j_aload_n (i := 0) C dX4_places_32 rfl 0 rfl ?_
              refine j_iload_n (i := 1) C dX4_places_33 rfl 1 rfl ?_
              refine j_iload_n (i := 3) C dX4_places_34 rfl 3 rfl ?_
              refine j_iload C dX4_places_35 5 rfl ?_
              refine j_callV (nargs := 3) (As := [_, _, _]) (Cn := RX4) C (0) rfl rfl rfl gw801 gw803 gw32 gw49 (kX4_we l D ct sa a thr σ _ _ _ _ j i t hx rfl rfl hj (by omega) (by omega)) gw804 (by decide +kernel) rfl dX4_places_37 ⟨Nat.le_of_ble_eq_true rfl, Nat.le_of_ble_eq_true rfl⟩ ⟨Nat.le_of_ble_eq_true rfl, Nat.le_of_ble_eq_true rfl⟩ (Nat.le_of_ble_eq_true rfl) (dki ?_)
              refine j_aload_n (i := 0) C dX4_places_40 rfl 0 rfl ?_
              refine j_iload_n (i := 1) C dX4_places_41 rfl 1 rfl ?_
              refine j_iload_n (i := 3) C dX4_places_42 rfl 3 rfl ?_
              refine j_iload C dX4_places_43 4 rfl ?_
              refine j_callV (nargs := 3) (As := [_, _, _]) (Cn := RX4) C (0) rfl rfl rfl gw801 gw803 gw32 gw49 (kX4_we l D ct sa a thr σ _ _ _ _ j i u hx rfl rfl hj (by omega) (by omega)) gw804 (by decide +kernel) rfl dX4_places_45 ⟨Nat.le_of_ble_eq_true rfl, Nat.le_of_ble_eq_true rfl⟩ ⟨Nat.le_of_ble_eq_true rfl, Nat.le_of_ble_eq_true rfl⟩ (Nat.le_of_ble_eq_true rfl) (dki ?_)
              refine j_isub C dX4_places_48 ?_
              refine j_istore (lv' := [(6, .int _), (0, .ref _), (1, .int _), (2, .ref _), (3, .int _), (4, .int _), (5, .int _)]) C dX4_places_49 (by decide) rfl ?_
              refine j_aload_n (i := 2) C dX4_places_51 rfl 3 rfl ?_
              refine j_bipush (v := nI 6) C dX4_places_52 (by decide) ?_
              refine j_iload_n (i := 3) C dX4_places_54 rfl 4 rfl ?_
              refine j_imul C dX4_places_55 ?_
              refine j_iload C dX4_places_56 5 rfl ?_
              refine j_iadd C dX4_places_58 ?_
              refine j_dup2 C dX4_places_59 rfl rfl ?_
              refine j_iald C (4) rfl (6 * i + u) (by rw [pk_mul, nI_add]) (by omega) (by decide) dX4_places_60 ?_
              refine j_iload C dX4_places_61 0 rfl ?_
              refine j_if_gt C 78 dX4_places_63 (by decide) (fun c63 => ?_) (fun c63 => ?_)
              · refine j_iconst (v := nI 1) C dX4_places_78 (by decide) ?_
                refine j_goto C 83 dX4_places_79 (by decide) ?_
                refine j_iadd C dX4_places_83 ?_
                refine j_iast (ws2 := WM ct a thr σ ++ ((q, .inl (ct 0, 24, .inl (upd (plA (sW σ) j (6 * i + u)) (6 * i + u) (plN (wrow (sW σ) j i) u (t + 1))))) :: wr)) C (4) rfl (6 * i + u) (by rw [pk_mul, nI_add]) (by omega) (by decide) (by first | exact congrArg (fun f => WM ct a thr σ ++ ((q, .inl (ct 0, 24, .inl f)) :: wr)) (pl_y (Or.inl c63)) | exact congrArg (fun f => WM ct a thr σ ++ ((q, .inl (ct 0, 24, .inl f)) :: wr)) (pl_y (Or.inr ⟨c68, ilt_of c75⟩)) | exact congrArg (fun f => WM ct a thr σ ++ ((q, .inl (ct 0, 24, .inl f)) :: wr)) (pl_n (fun z => z.elim c63 (fun q => c68 q.1))) | exact congrArg (fun f => WM ct a thr σ ++ ((q, .inl (ct 0, 24, .inl f)) :: wr)) (pl_n (fun z => z.elim c63 (fun q => inle q.2 c75)))) dX4_places_84 ?_
                refine j_iinc (z := 6) (lv' := [(5, .int _), (6, .int _), (0, .ref _), (1, .int _), (2, .ref _), (3, .int _), (4, .int _)]) C dX4_places_85 rfl rfl (by decide) rfl ?_
                refine j_goto C 25 dX4_places_88 (by decide) ?_
                exact j_lvs [2, 3, 4, 5, 6, 0] rfl (ih (t + 1) _ _ (by omega) (nI_1 t) (rfl))
              · refine j_iload C dX4_places_66 0 rfl ?_
                refine j_if_ne C 82 dX4_places_68 (by decide) (fun c68 => ?_) (fun c68 => ?_)
                · refine j_iconst (v := nI 0) C dX4_places_82 (by decide) ?_
                  refine j_iadd C dX4_places_83 ?_
                  refine j_iast (ws2 := WM ct a thr σ ++ ((q, .inl (ct 0, 24, .inl (upd (plA (sW σ) j (6 * i + u)) (6 * i + u) (plN (wrow (sW σ) j i) u (t + 1))))) :: wr)) C (4) rfl (6 * i + u) (by rw [pk_mul, nI_add]) (by omega) (by decide) (by first | exact congrArg (fun f => WM ct a thr σ ++ ((q, .inl (ct 0, 24, .inl f)) :: wr)) (pl_y (Or.inl c63)) | exact congrArg (fun f => WM ct a thr σ ++ ((q, .inl (ct 0, 24, .inl f)) :: wr)) (pl_y (Or.inr ⟨c68, ilt_of c75⟩)) | exact congrArg (fun f => WM ct a thr σ ++ ((q, .inl (ct 0, 24, .inl f)) :: wr)) (pl_n (fun z => z.elim c63 (fun q => c68 q.1))) | exact congrArg (fun f => WM ct a thr σ ++ ((q, .inl (ct 0, 24, .inl f)) :: wr)) (pl_n (fun z => z.elim c63 (fun q => inle q.2 c75)))) dX4_places_84 ?_
                  refine j_iinc (z := 6) (lv' := [(5, .int _), (6, .int _), (0, .ref _), (1, .int _), (2, .ref _), (3, .int _), (4, .int _)]) C dX4_places_85 rfl rfl (by decide) rfl ?_
                  refine j_goto C 25 dX4_places_88 (by decide) ?_
                  exact j_lvs [2, 3, 4, 5, 6, 0] rfl (ih (t + 1) _ _ (by omega) (nI_1 t) (rfl))
                · refine j_iload C dX4_places_71 6 rfl ?_
                  refine j_iload C dX4_places_73 5 rfl ?_
                  refine j_icmp_ge C 82 dX4_places_75 (by decide) (fun c75 => ?_) (fun c75 => ?_)
                  · refine j_iconst (v := nI 0) C dX4_places_82 (by decide) ?_
                    refine j_iadd C dX4_places_83 ?_
                    refine j_iast (ws2 := WM ct a thr σ ++ ((q, .inl (ct 0, 24, .inl (upd (plA (sW σ) j (6 * i + u)) (6 * i + u) (plN (wrow (sW σ) j i) u (t + 1))))) :: wr)) C (4) rfl (6 * i + u) (by rw [pk_mul, nI_add]) (by omega) (by decide) (by first | exact congrArg (fun f => WM ct a thr σ ++ ((q, .inl (ct 0, 24, .inl f)) :: wr)) (pl_y (Or.inl c63)) | exact congrArg (fun f => WM ct a thr σ ++ ((q, .inl (ct 0, 24, .inl f)) :: wr)) (pl_y (Or.inr ⟨c68, ilt_of c75⟩)) | exact congrArg (fun f => WM ct a thr σ ++ ((q, .inl (ct 0, 24, .inl f)) :: wr)) (pl_n (fun z => z.elim c63 (fun q => c68 q.1))) | exact congrArg (fun f => WM ct a thr σ ++ ((q, .inl (ct 0, 24, .inl f)) :: wr)) (pl_n (fun z => z.elim c63 (fun q => inle q.2 c75)))) dX4_places_84 ?_
                    refine j_iinc (z := 6) (lv' := [(5, .int _), (6, .int _), (0, .ref _), (1, .int _), (2, .ref _), (3, .int _), (4, .int _)]) C dX4_places_85 rfl rfl (by decide) rfl ?_
                    refine j_goto C 25 dX4_places_88 (by decide) ?_
                    exact j_lvs [2, 3, 4, 5, 6, 0] rfl (ih (t + 1) _ _ (by omega) (nI_1 t) (rfl))
                  · refine j_iconst (v := nI 1) C dX4_places_78 (by decide) ?_
                    refine j_goto C 83 dX4_places_79 (by decide) ?_
                    refine j_iadd C dX4_places_83 ?_
                    refine j_iast (ws2 := WM ct a thr σ ++ ((q, .inl (ct 0, 24, .inl (upd (plA (sW σ) j (6 * i + u)) (6 * i + u) (plN (wrow (sW σ) j i) u (t + 1))))) :: wr)) C (4) rfl (6 * i + u) (by rw [pk_mul, nI_add]) (by omega) (by decide) (by first | exact congrArg (fun f => WM ct a thr σ ++ ((q, .inl (ct 0, 24, .inl f)) :: wr)) (pl_y (Or.inl c63)) | exact congrArg (fun f => WM ct a thr σ ++ ((q, .inl (ct 0, 24, .inl f)) :: wr)) (pl_y (Or.inr ⟨c68, ilt_of c75⟩)) | exact congrArg (fun f => WM ct a thr σ ++ ((q, .inl (ct 0, 24, .inl f)) :: wr)) (pl_n (fun z => z.elim c63 (fun q => c68 q.1))) | exact congrArg (fun f => WM ct a thr σ ++ ((q, .inl (ct 0, 24, .inl f)) :: wr)) (pl_n (fun z => z.elim c63 (fun q => inle q.2 c75)))) dX4_places_84 ?_
                    refine j_iinc (z := 6) (lv' := [(5, .int _), (6, .int _), (0, .ref _), (1, .int _), (2, .ref _), (3, .int _), (4, .int _)]) C dX4_places_85 rfl rfl (by decide) rfl ?_
                    refine j_goto C 25 dX4_places_88 (by decide) ?_
                    exact j_lvs [2, 3, 4, 5, 6, 0] rfl (ih (t + 1) _ _ (by omega) (nI_1 t) (rfl))
          exact j_lvs [1, 2, 3, 4, 5, 0] rfl (L25 (6) (0) _ _ (by omega) (rfl) (congrArg (fun f => WM ct a thr σ ++ ((q, .inl (ct 0, 24, .inl f)) :: wr)) (upd_self _ _ (plN (wrow (sW σ) j i) u 0) (if_neg (Nat.lt_irrefl _))).symm))
      exact j_lvs [1, 2, 3, 4, 0] rfl (L15 (6) (0) _ _ (by omega) (rfl) (rfl))
  exact j_lvs [2, 3, 1, 0] rfl (L7 (4) (0) _ _ (by omega) (rfl) (rfl))
set_option maxRecDepth 100000 in
set_option maxHeartbeats 4000000 in
theorem kX4_sum (l : Launch) (D : va_G) (ct : Nat → ClassId) (sa : Nat → Nat) (ws : va_W) (q q0 : Nat) (P : Nat → Int32) (x : Int32) (v : Nat) (hx : x = nI v) (hv : v < 1296) (hq : ws[q0]? = some (q, .inl (ct 0, 24, .inl P))) : jM l yX4_sum (Cond.code yX4_sum cX4_sum 5 (Option.some Jvm.ClassFile.FieldType.int) :: GW) (rM 0 0 0 0) D ct sa [.ref q, .int x] (ws) (dK (some (.int (smI P v 4))) ws) 0 0 := by
  refine jMX.plain (jBody (own := RX4) (by decide) rfl rfl (Nat.le_of_ble_eq_true rfl) ?_)
  intro X C E T0
  refine j_lv (lv1 := [(0, .ref _), (1, .int _)]) rfl ?_
  refine j_iconst (v := nI 0) C dX4_sum_0 (by decide) ?_
  refine j_istore_n (lv' := [(2, .int _), (0, .ref _), (1, .int _)]) C dX4_sum_1 rfl (by decide) rfl ?_
  refine j_iload_n (i := 1) C dX4_sum_2 rfl 2 rfl ?_
  refine j_istore_n (lv' := [(3, .int _), (2, .int _), (0, .ref _), (1, .int _)]) C dX4_sum_3 rfl (by decide) rfl ?_
  refine j_iconst (v := nI 3) C dX4_sum_4 (by decide) ?_
  refine j_istore (lv' := [(4, .int _), (3, .int _), (2, .int _), (0, .ref _), (1, .int _)]) C dX4_sum_5 (by decide) rfl ?_
  have L7 : ∀ (d i : Nat) (x2 : Int32) (x3 : Int32) (x4 : Int32), i + d = 4 → x2 = smI P v i → x3 = nI (v / 6 ^ i) → x4 = rgF i → J X (ws) (0) (0) 7 [(0, .ref q), (2, .int x2), (3, .int x3), (4, .int x4)] [] := by
    intro d
    induction d with
    | zero =>
      intro i x2 x3 x4 hd e_x2 e_x3 e_x4 
      subst e_x2
      subst e_x3
      subst e_x4
      have hi : i = 4 := by omega
      subst hi
      refine j_iload C dX4_sum_7 3 rfl ?_
      refine j_if_lt C 38 dX4_sum_9 (by decide) (fun c9 => ?_) (fun c9 => by first | exact absurd (by decide) c9 | (rw [rg_n _ (by omega)] at c9; exact absurd c9 (nI_pos (by omega))))
      refine j_iload_n (i := 2) C dX4_sum_38 rfl 1 rfl ?_
      exact j_ireturn C E rfl dX4_sum_39 (Nat.le_of_ble_eq_true rfl) (Nat.le_of_ble_eq_true rfl) (⟨rfl, rfl⟩)
    | succ d ih =>
      intro i x2 x3 x4 hd e_x2 e_x3 e_x4 
      subst e_x2
      subst e_x3
      subst e_x4
      have hvi : v / 6 ^ i < 2 ^ 31 := Nat.lt_of_le_of_lt (Nat.div_le_self _ _) (by omega)
      refine j_iload C dX4_sum_7 3 rfl ?_
      refine j_if_lt C 38 dX4_sum_9 (by decide) (fun c9 => by first | exact absurd (by decide) c9 | (rw [rg_n _ (by omega)] at c9; exact absurd c9 (nI_pos (by omega)))) (fun c9 => ?_)
      refine j_iload_n (i := 2) C dX4_sum_12 rfl 1 rfl ?_
      refine j_aload_n (i := 0) C dX4_sum_13 rfl 0 rfl ?_
      refine j_bipush (v := nI 6) C dX4_sum_14 (by decide) ?_
      refine j_iload C dX4_sum_16 3 rfl ?_
      refine j_imul C dX4_sum_18 ?_
      refine j_iload_n (i := 3) C dX4_sum_19 rfl 2 rfl ?_
      refine j_bipush (v := nI 6) C dX4_sum_20 (by decide) ?_
      refine j_irem C dX4_sum_22 (by decide) ?_
      refine j_iadd C dX4_sum_23 ?_
      refine j_iald C (q0) hq (6 * (3 - i) + v / 6 ^ i % 6) (by rw [rg_n i (by omega), pk_rem hvi (by decide) (by decide), pk_mul, nI_add]) (by have := Nat.mod_lt (v / 6 ^ i) (show 0 < 6 by decide); omega) (by decide) dX4_sum_24 ?_
      refine j_iadd C dX4_sum_25 ?_
      refine j_istore_n (lv' := [(2, .int _), (0, .ref _), (3, .int _), (4, .int _)]) C dX4_sum_26 rfl (by decide) rfl ?_
      refine j_iload_n (i := 3) C dX4_sum_27 rfl 2 rfl ?_
      refine j_bipush (v := nI 6) C dX4_sum_28 (by decide) ?_
      refine j_idiv C dX4_sum_30 (by decide) ?_
      refine j_istore_n (lv' := [(3, .int _), (2, .int _), (0, .ref _), (4, .int _)]) C dX4_sum_31 rfl (by decide) rfl ?_
      refine j_iinc (z := 3) (lv' := [(4, .int _), (3, .int _), (2, .int _), (0, .ref _)]) C dX4_sum_32 rfl rfl (by decide) rfl ?_
      refine j_goto C 7 dX4_sum_35 (by decide) ?_
      exact j_lvs [3, 2, 1, 0] rfl (ih (i + 1) _ _ _ (by omega) (rfl) (by rw [pk_div hvi (by decide) (by decide), Nat.div_div_eq_div_mul, Nat.pow_succ]) (rfl))
  exact j_lvs [3, 2, 1, 0] rfl (L7 (4) (0) _ _ _ (by omega) (rfl) (by rw [hx, Nat.pow_zero, Nat.div_one]) (rfl))
set_option maxRecDepth 100000 in
set_option maxHeartbeats 4000000 in
theorem kX4_tried (l : Launch) (D : va_G) (ct : Nat → ClassId) (sa : Nat → Nat) (a : Nat → Nat) (thr : Int32) (σ : St) (wr : va_W) (x y : Int32) (j v : Nat) (hx : x = nI j) (hy : y = nI v) (hj : j < 8) (hv : v < 1296) : jM l yX4_tried (Cond.code yX4_tried cX4_tried 8 (Option.some Jvm.ClassFile.FieldType.int) :: GW) (rM 2 1 24 49) D ct sa [.ref (a 0), .int x, .int y] (WM ct a thr σ ++ wr) (dK (some (.int (trL (sW σ) j v))) (WM ct a thr σ ++ wr)) 1 24 := by
  refine jMX.plain (jBody (own := RX4) (by decide) rfl rfl (Nat.le_of_ble_eq_true rfl) ?_)
  intro X C E T0
  refine j_lv (lv1 := [(0, .ref _), (1, .int _), (2, .int _)]) rfl ?_
  subst hy
  refine j_aload_n (i := 0) C dX4_tried_0 rfl 0 rfl ?_
  refine j_iload_n (i := 1) C dX4_tried_1 rfl 1 rfl ?_
  refine j_callV (nargs := 1) (As := [_]) (Cn := RX4) C (0) rfl rfl rfl gw843 gw845 gw36 gw49 (kX4_places l D ct sa a thr σ wr _ j hx hj) gw846 (by decide +kernel) rfl dX4_tried_2 ⟨Nat.le_of_ble_eq_true rfl, Nat.le_of_ble_eq_true rfl⟩ ⟨Nat.le_of_ble_eq_true rfl, Nat.le_of_ble_eq_true rfl⟩ (Nat.le_of_ble_eq_true rfl) (fun r w hk => ?_)
  obtain ⟨q, rfl, rfl⟩ := hk
  refine j_st (st1 := .ref q :: _) rfl ?_
  refine j_astore_n (lv' := [(3, .ref _), (0, .ref _), (1, .int _), (2, .int _)]) C dX4_tried_5 rfl (by decide) rfl ?_
  refine j_aload_n (i := 3) C dX4_tried_6 rfl 0 rfl ?_
  refine j_iload_n (i := 2) C dX4_tried_7 rfl 3 rfl ?_
  refine j_callS (nargs := 2) (As := [_, _]) C gw847 gw848 gw49 (kX4_sum l D ct sa _ q 4 _ _ v rfl hv rfl) gw849 (by decide +kernel) rfl dX4_tried_8 ⟨Nat.le_of_ble_eq_true rfl, Nat.le_of_ble_eq_true rfl⟩ ⟨Nat.le_of_ble_eq_true rfl, Nat.le_of_ble_eq_true rfl⟩ (Nat.le_of_ble_eq_true rfl) (dki ?_)
  refine j_istore (lv' := [(4, .int _), (3, .ref _), (0, .ref _), (1, .int _), (2, .int _)]) C dX4_tried_11 (by decide) rfl ?_
  refine j_iconst (v := nI 1) C dX4_tried_13 (by decide) ?_
  refine j_istore (lv' := [(5, .int _), (4, .int _), (3, .ref _), (0, .ref _), (1, .int _), (2, .int _)]) C dX4_tried_14 (by decide) rfl ?_
  refine j_iconst (v := nI 0) C dX4_tried_16 (by decide) ?_
  refine j_istore (lv' := [(6, .int _), (5, .int _), (4, .int _), (3, .ref _), (0, .ref _), (1, .int _), (2, .int _)]) C dX4_tried_17 (by decide) rfl ?_
  have L19 : ∀ (d i : Nat) (x5 : Int32) (x6 : Int32), i + d = 1296 → x5 = accF (nI 1) (fun o => b2i (trC (plA (sW σ) j 24) v o)) i → x6 = nI i → J X (WM ct a thr σ ++ ((q, .inl (ct 0, 24, .inl (plA (sW σ) j 24))) :: wr)) (0 + 1 + 0) (0 + 24 + 0) 19 [(2, .int (nI v)), (3, .ref q), (4, .int (smI (plA (sW σ) j 24) v 4)), (5, .int x5), (6, .int x6)] [] := by
    intro d
    induction d with
    | zero =>
      intro i x5 x6 hd e_x5 e_x6 
      subst e_x5
      subst e_x6
      have hi : i = 1296 := by omega
      subst hi
      refine j_iload C dX4_tried_19 4 rfl ?_
      refine j_sipush (v := nI 1296) C dX4_tried_21 (by decide) ?_
      refine j_icmp_ge C 71 dX4_tried_24 (by decide) (fun c24 => ?_) (fun c24 => by first | exact absurd c24 (by decide) | exact absurd c24 (nI_ge (by omega) (by omega)) | exact absurd (nI_le (by omega) (by omega)) c24 | exact absurd c24 (nI_nlt (by omega) (by omega)) | exact absurd (nI_lt (by omega) (by omega)) c24 | exact absurd c24 (nI_nle0 (by omega) (by omega)))
      refine j_swap (a := WM ct a thr σ) (b := [_]) (c0 := wr) rfl ?_
      refine j_drop (a := WM ct a thr σ ++ wr) (b := [_]) rfl ?_
      refine j_iload C dX4_tried_71 3 rfl ?_
      exact j_ireturn C E rfl dX4_tried_73 (Nat.le_of_ble_eq_true rfl) (Nat.le_of_ble_eq_true rfl) (⟨rfl, rfl⟩)
    | succ d ih =>
      intro i x5 x6 hd e_x5 e_x6 
      subst e_x5
      subst e_x6
      refine j_iload C dX4_tried_19 4 rfl ?_
      refine j_sipush (v := nI 1296) C dX4_tried_21 (by decide) ?_
      refine j_icmp_ge C 71 dX4_tried_24 (by decide) (fun c24 => by first | exact absurd c24 (by decide) | exact absurd c24 (nI_ge (by omega) (by omega)) | exact absurd (nI_le (by omega) (by omega)) c24 | exact absurd c24 (nI_nlt (by omega) (by omega)) | exact absurd (nI_lt (by omega) (by omega)) c24 | exact absurd c24 (nI_nle0 (by omega) (by omega))) (fun c24 => ?_)
      refine j_aload_n (i := 3) C dX4_tried_27 rfl 1 rfl ?_
      refine j_iload C dX4_tried_28 4 rfl ?_
      refine j_callS (nargs := 2) (As := [_, _]) C gw847 gw848 gw49 (kX4_sum l D ct sa _ q 4 _ _ i rfl (by omega) rfl) gw849 (by decide +kernel) rfl dX4_tried_30 ⟨Nat.le_of_ble_eq_true rfl, Nat.le_of_ble_eq_true rfl⟩ ⟨Nat.le_of_ble_eq_true rfl, Nat.le_of_ble_eq_true rfl⟩ (Nat.le_of_ble_eq_true rfl) (dki ?_)
      refine j_istore (lv' := [(7, .int _), (2, .int _), (3, .ref _), (4, .int _), (5, .int _), (6, .int _)]) C dX4_tried_33 (by decide) rfl ?_
      refine j_iload C dX4_tried_35 4 rfl ?_
      refine j_iload C dX4_tried_37 0 rfl ?_
      refine j_iload C dX4_tried_39 3 rfl ?_
      refine j_icmp_lt C 57 dX4_tried_41 (by decide) (fun c41 => ?_) (fun c41 => ?_)
      · refine j_iconst (v := nI 1) C dX4_tried_57 (by decide) ?_
        refine j_goto C 62 dX4_tried_58 (by decide) ?_
        refine j_iadd C dX4_tried_62 ?_
        refine j_istore (lv' := [(5, .int _), (7, .int _), (2, .int _), (3, .ref _), (4, .int _), (6, .int _)]) C dX4_tried_63 (by decide) rfl ?_
        refine j_iinc (z := 5) (lv' := [(6, .int _), (5, .int _), (7, .int _), (2, .int _), (3, .ref _), (4, .int _)]) C dX4_tried_65 rfl rfl (by decide) rfl ?_
        refine j_goto C 19 dX4_tried_68 (by decide) ?_
        exact j_lvs [3, 4, 5, 1, 0] rfl (ih (i + 1) _ _ (by omega) (by show _ = accF (nI 1) (fun o => b2i (trC (plA (sW σ) j 24) v o)) i + b2i (trC (plA (sW σ) j 24) v i); refine congrArg (fun z => accF (nI 1) (fun o => b2i (trC (plA (sW σ) j 24) v o)) i + z) (Eq.symm ?_); first | exact b2i_y (Or.inl c41) | exact b2i_y (Or.inr ⟨c48, ilt_of c54⟩) | exact b2i_n (fun z => z.elim c41 (fun q => c48 q.1)) | exact b2i_n (fun z => z.elim c41 (fun q => inle q.2 c54))) (nI_1 i))
      · refine j_iload C dX4_tried_44 0 rfl ?_
        refine j_iload C dX4_tried_46 3 rfl ?_
        refine j_icmp_ne C 61 dX4_tried_48 (by decide) (fun c48 => ?_) (fun c48 => ?_)
        · refine j_iconst (v := nI 0) C dX4_tried_61 (by decide) ?_
          refine j_iadd C dX4_tried_62 ?_
          refine j_istore (lv' := [(5, .int _), (7, .int _), (2, .int _), (3, .ref _), (4, .int _), (6, .int _)]) C dX4_tried_63 (by decide) rfl ?_
          refine j_iinc (z := 5) (lv' := [(6, .int _), (5, .int _), (7, .int _), (2, .int _), (3, .ref _), (4, .int _)]) C dX4_tried_65 rfl rfl (by decide) rfl ?_
          refine j_goto C 19 dX4_tried_68 (by decide) ?_
          exact j_lvs [3, 4, 5, 1, 0] rfl (ih (i + 1) _ _ (by omega) (by show _ = accF (nI 1) (fun o => b2i (trC (plA (sW σ) j 24) v o)) i + b2i (trC (plA (sW σ) j 24) v i); refine congrArg (fun z => accF (nI 1) (fun o => b2i (trC (plA (sW σ) j 24) v o)) i + z) (Eq.symm ?_); first | exact b2i_y (Or.inl c41) | exact b2i_y (Or.inr ⟨c48, ilt_of c54⟩) | exact b2i_n (fun z => z.elim c41 (fun q => c48 q.1)) | exact b2i_n (fun z => z.elim c41 (fun q => inle q.2 c54))) (nI_1 i))
        · refine j_iload C dX4_tried_51 5 rfl ?_
          refine j_iload_n (i := 2) C dX4_tried_53 rfl 1 rfl ?_
          refine j_icmp_ge C 61 dX4_tried_54 (by decide) (fun c54 => ?_) (fun c54 => ?_)
          · refine j_iconst (v := nI 0) C dX4_tried_61 (by decide) ?_
            refine j_iadd C dX4_tried_62 ?_
            refine j_istore (lv' := [(5, .int _), (7, .int _), (2, .int _), (3, .ref _), (4, .int _), (6, .int _)]) C dX4_tried_63 (by decide) rfl ?_
            refine j_iinc (z := 5) (lv' := [(6, .int _), (5, .int _), (7, .int _), (2, .int _), (3, .ref _), (4, .int _)]) C dX4_tried_65 rfl rfl (by decide) rfl ?_
            refine j_goto C 19 dX4_tried_68 (by decide) ?_
            exact j_lvs [3, 4, 5, 1, 0] rfl (ih (i + 1) _ _ (by omega) (by show _ = accF (nI 1) (fun o => b2i (trC (plA (sW σ) j 24) v o)) i + b2i (trC (plA (sW σ) j 24) v i); refine congrArg (fun z => accF (nI 1) (fun o => b2i (trC (plA (sW σ) j 24) v o)) i + z) (Eq.symm ?_); first | exact b2i_y (Or.inl c41) | exact b2i_y (Or.inr ⟨c48, ilt_of c54⟩) | exact b2i_n (fun z => z.elim c41 (fun q => c48 q.1)) | exact b2i_n (fun z => z.elim c41 (fun q => inle q.2 c54))) (nI_1 i))
          · refine j_iconst (v := nI 1) C dX4_tried_57 (by decide) ?_
            refine j_goto C 62 dX4_tried_58 (by decide) ?_
            refine j_iadd C dX4_tried_62 ?_
            refine j_istore (lv' := [(5, .int _), (7, .int _), (2, .int _), (3, .ref _), (4, .int _), (6, .int _)]) C dX4_tried_63 (by decide) rfl ?_
            refine j_iinc (z := 5) (lv' := [(6, .int _), (5, .int _), (7, .int _), (2, .int _), (3, .ref _), (4, .int _)]) C dX4_tried_65 rfl rfl (by decide) rfl ?_
            refine j_goto C 19 dX4_tried_68 (by decide) ?_
            exact j_lvs [3, 4, 5, 1, 0] rfl (ih (i + 1) _ _ (by omega) (by show _ = accF (nI 1) (fun o => b2i (trC (plA (sW σ) j 24) v o)) i + b2i (trC (plA (sW σ) j 24) v i); refine congrArg (fun z => accF (nI 1) (fun o => b2i (trC (plA (sW σ) j 24) v o)) i + z) (Eq.symm ?_); first | exact b2i_y (Or.inl c41) | exact b2i_y (Or.inr ⟨c48, ilt_of c54⟩) | exact b2i_n (fun z => z.elim c41 (fun q => c48 q.1)) | exact b2i_n (fun z => z.elim c41 (fun q => inle q.2 c54))) (nI_1 i))
  exact j_lvs [6, 3, 2, 1, 0] rfl (L19 (1296) (0) _ _ (by omega) (rfl) (rfl))
set_option maxRecDepth 100000 in
set_option maxHeartbeats 4000000 in
theorem kX4_trial (l : Launch) (D : va_G) (ct : Nat → ClassId) (sa : Nat → Nat) (a : Nat → Nat) (thr : Int32) (σ : St) (wr : va_W) (x y : Int32) (hi : Inv0 σ) : jM l yX4_trial (Cond.code yX4_trial cX4_trial 3 (Option.some Jvm.ClassFile.FieldType.int) :: GW) (rM 3 1 24 76) D ct sa [.ref (a 0), .int x, .int y] (WM ct a thr σ ++ wr) (fD ct a wr (f_trial σ x y)) 1 24 := by
  refine jMX.plain (jBody (own := RX4) (by decide) rfl rfl (Nat.le_of_ble_eq_true rfl) ?_)
  intro X C E T0
  refine j_lv (lv1 := [(0, .ref _), (1, .int _), (2, .int _)]) rfl ?_
  refine j_aload_n (i := 0) C dX4_trial_0 rfl 0 rfl ?_
  refine j_iconst (v := nI 0) C dX4_trial_1 (by decide) ?_
  refine j_put (Cn := RX4) (T := TX4) (N := 7) (ci := 5) (ws2 := WM ct a (nI 0) σ ++ wr) C iX4 tyX4 tyX4_ok nmX4 rfl (0) rfl 0 (by decide) gw677 rfl rfl rfl rfl rfl (Nat.le_of_ble_eq_true rfl) rfl dX4_trial_2 ?_
  refine j_aload_n (i := 0) C dX4_trial_5 rfl 0 rfl ?_
  refine j_iload_n (i := 1) C dX4_trial_6 rfl 1 rfl ?_
  refine j_callV (nargs := 1) (As := [_]) (Cn := RX4) C (0) rfl rfl rfl gw725 gw727 gw23 gw49 (kX4_isLock l D ct sa _ _ _ _ _ hi.1) gw728 (by decide +kernel) rfl dX4_trial_7 ⟨Nat.le_of_ble_eq_true rfl, Nat.le_of_ble_eq_true rfl⟩ ⟨Nat.le_of_ble_eq_true rfl, Nat.le_of_ble_eq_true rfl⟩ (Nat.le_of_ble_eq_true rfl) (dki ?_)
  refine j_if_ne C 19 dX4_trial_10 (by decide) (fun c10 => ?_) (fun c10 => ?_)
  · obtain ⟨hj_x, e_x⟩ := okI_ix (b2i_t c10) (by omega)
    refine j_iload_n (i := 2) C dX4_trial_19 rfl 2 rfl ?_
    refine j_callS (nargs := 1) (As := [_]) C gw707 gw708 gw49 (kX4_isWord l D ct sa _ _) gw709 (by decide +kernel) rfl dX4_trial_20 ⟨Nat.le_of_ble_eq_true rfl, Nat.le_of_ble_eq_true rfl⟩ ⟨Nat.le_of_ble_eq_true rfl, Nat.le_of_ble_eq_true rfl⟩ (Nat.le_of_ble_eq_true rfl) (dki ?_)
    refine j_if_eq C 35 dX4_trial_23 (by decide) (fun c23 => ?_) (fun c23 => ?_)
    · refine j_aload_n (i := 0) C dX4_trial_35 rfl 0 rfl ?_
      refine j_iconst (v := nI 2) C dX4_trial_36 (by decide) ?_
      refine j_callV (nargs := 1) (As := [_]) (Cn := RX4) C (0) rfl rfl rfl gw713 gw715 gw21 gw49 (kX4_fail l D ct sa _ _ _ _ _) gw716 (by decide +kernel) rfl dX4_trial_37 ⟨Nat.le_of_ble_eq_true rfl, Nat.le_of_ble_eq_true rfl⟩ ⟨Nat.le_of_ble_eq_true rfl, Nat.le_of_ble_eq_true rfl⟩ (Nat.le_of_ble_eq_true rfl) (dki ?_)
      exact j_ireturn C E rfl dX4_trial_40 (Nat.le_of_ble_eq_true rfl) (Nat.le_of_ble_eq_true rfl) (fK (by rw [f_trial, if_pos (b2i_t c10)]; first | exact if_pos (b2i_t c23) | exact if_neg (b2i_f c23)))
    · obtain ⟨hj_y, e_y⟩ := okI_ix (b2i_t c23) (by omega)
      refine j_aload_n (i := 0) C dX4_trial_26 rfl 0 rfl ?_
      refine j_iload_n (i := 1) C dX4_trial_27 rfl 1 rfl ?_
      refine j_iload_n (i := 2) C dX4_trial_28 rfl 2 rfl ?_
      refine j_callV (nargs := 2) (As := [_, _]) (Cn := RX4) C (0) rfl rfl rfl gw839 gw841 gw35 gw49 (kX4_tried l D ct sa a (nI 0) σ wr _ _ (ix x) (ix y) e_x e_y (by have := hi.1; omega) hj_y) gw842 (by decide +kernel) rfl dX4_trial_29 ⟨Nat.le_of_ble_eq_true rfl, Nat.le_of_ble_eq_true rfl⟩ ⟨Nat.le_of_ble_eq_true rfl, Nat.le_of_ble_eq_true rfl⟩ (Nat.le_of_ble_eq_true rfl) (dki ?_)
      refine j_goto C 40 dX4_trial_32 (by decide) ?_
      exact j_ireturn C E rfl dX4_trial_40 (Nat.le_of_ble_eq_true rfl) (Nat.le_of_ble_eq_true rfl) (fK (by rw [f_trial, if_pos (b2i_t c10)]; first | exact if_pos (b2i_t c23) | exact if_neg (b2i_f c23)))
  · refine j_aload_n (i := 0) C dX4_trial_13 rfl 0 rfl ?_
    refine j_iconst (v := nI 1) C dX4_trial_14 (by decide) ?_
    refine j_callV (nargs := 1) (As := [_]) (Cn := RX4) C (0) rfl rfl rfl gw713 gw715 gw21 gw49 (kX4_fail l D ct sa _ _ _ _ _) gw716 (by decide +kernel) rfl dX4_trial_15 ⟨Nat.le_of_ble_eq_true rfl, Nat.le_of_ble_eq_true rfl⟩ ⟨Nat.le_of_ble_eq_true rfl, Nat.le_of_ble_eq_true rfl⟩ (Nat.le_of_ble_eq_true rfl) (dki ?_)
    exact j_ireturn C E rfl dX4_trial_18 (Nat.le_of_ble_eq_true rfl) (Nat.le_of_ble_eq_true rfl) (fK (by rw [f_trial, if_neg (b2i_f c10)]))
set_option maxRecDepth 100000 in
set_option maxHeartbeats 4000000 in
theorem kX4_safe (l : Launch) (D : va_G) (ct : Nat → ClassId) (sa : Nat → Nat) (a : Nat → Nat) (thr : Int32) (σ : St) (wr : va_W) (x : Int32) (hi : Inv0 σ) : jM l yX4_safe (Cond.code yX4_safe cX4_safe 2 (Option.some Jvm.ClassFile.FieldType.int) :: GW) (rM 3 1 24 76) D ct sa [.ref (a 0), .int x] (WM ct a thr σ ++ wr) (fD ct a wr (f_safe σ x)) 1 24 := by
  refine jMX.plain (jBody (own := RX4) (by decide) rfl rfl (Nat.le_of_ble_eq_true rfl) ?_)
  intro X C E T0
  refine j_lv (lv1 := [(0, .ref _), (1, .int _)]) rfl ?_
  refine j_aload_n (i := 0) C dX4_safe_0 rfl 0 rfl ?_
  refine j_iconst (v := nI 0) C dX4_safe_1 (by decide) ?_
  refine j_put (Cn := RX4) (T := TX4) (N := 7) (ci := 5) (ws2 := WM ct a (nI 0) σ ++ wr) C iX4 tyX4 tyX4_ok nmX4 rfl (0) rfl 0 (by decide) gw677 rfl rfl rfl rfl rfl (Nat.le_of_ble_eq_true rfl) rfl dX4_safe_2 ?_
  refine j_aload_n (i := 0) C dX4_safe_5 rfl 0 rfl ?_
  refine j_iload_n (i := 1) C dX4_safe_6 rfl 1 rfl ?_
  refine j_callV (nargs := 1) (As := [_]) (Cn := RX4) C (0) rfl rfl rfl gw725 gw727 gw23 gw49 (kX4_isLock l D ct sa _ _ _ _ _ hi.1) gw728 (by decide +kernel) rfl dX4_safe_7 ⟨Nat.le_of_ble_eq_true rfl, Nat.le_of_ble_eq_true rfl⟩ ⟨Nat.le_of_ble_eq_true rfl, Nat.le_of_ble_eq_true rfl⟩ (Nat.le_of_ble_eq_true rfl) (dki ?_)
  refine j_if_eq C 27 dX4_safe_10 (by decide) (fun c10 => ?_) (fun c10 => ?_)
  · refine j_aload_n (i := 0) C dX4_safe_27 rfl 0 rfl ?_
    refine j_iconst (v := nI 1) C dX4_safe_28 (by decide) ?_
    refine j_callV (nargs := 1) (As := [_]) (Cn := RX4) C (0) rfl rfl rfl gw713 gw715 gw21 gw49 (kX4_fail l D ct sa _ _ _ _ _) gw716 (by decide +kernel) rfl dX4_safe_29 ⟨Nat.le_of_ble_eq_true rfl, Nat.le_of_ble_eq_true rfl⟩ ⟨Nat.le_of_ble_eq_true rfl, Nat.le_of_ble_eq_true rfl⟩ (Nat.le_of_ble_eq_true rfl) (dki ?_)
    exact j_ireturn C E rfl dX4_safe_32 (Nat.le_of_ble_eq_true rfl) (Nat.le_of_ble_eq_true rfl) (fK (by rw [f_safe]; first | exact if_pos (b2i_t c10) | exact if_neg (b2i_f c10)))
  · obtain ⟨hj_x, e_x⟩ := okI_ix (b2i_t c10) (by omega)
    obtain ⟨hv, e_v⟩ := okI_ix (hi.2 (ix x) (by have := hi.1; omega)).1 (by decide)
    refine j_aload_n (i := 0) C dX4_safe_13 rfl 0 rfl ?_
    refine j_iload_n (i := 1) C dX4_safe_14 rfl 1 rfl ?_
    refine j_aload_n (i := 0) C dX4_safe_15 rfl 0 rfl ?_
    refine j_iload_n (i := 1) C dX4_safe_16 rfl 1 rfl ?_
    refine j_iconst (v := nI 0) C dX4_safe_17 (by decide) ?_
    refine j_callV (nargs := 2) (As := [_, _]) (Cn := RX4) C (0) rfl rfl rfl gw729 gw731 gw24 gw49 (kX4_lo l D ct sa a (nI 0) σ wr _ _ (ix x) 0 e_x rfl (by have := hi.1; omega) (by decide)) gw732 (by decide +kernel) rfl dX4_safe_18 ⟨Nat.le_of_ble_eq_true rfl, Nat.le_of_ble_eq_true rfl⟩ ⟨Nat.le_of_ble_eq_true rfl, Nat.le_of_ble_eq_true rfl⟩ (Nat.le_of_ble_eq_true rfl) (dki ?_)
    refine j_callV (nargs := 2) (As := [_, _]) (Cn := RX4) C (0) rfl rfl rfl gw839 gw841 gw35 gw49 (kX4_tried l D ct sa a (nI 0) σ wr _ _ (ix x) _ e_x e_v (by have := hi.1; omega) hv) gw842 (by decide +kernel) rfl dX4_safe_21 ⟨Nat.le_of_ble_eq_true rfl, Nat.le_of_ble_eq_true rfl⟩ ⟨Nat.le_of_ble_eq_true rfl, Nat.le_of_ble_eq_true rfl⟩ (Nat.le_of_ble_eq_true rfl) (dki ?_)
    refine j_goto C 32 dX4_safe_24 (by decide) ?_
    exact j_ireturn C E rfl dX4_safe_32 (Nat.le_of_ble_eq_true rfl) (Nat.le_of_ble_eq_true rfl) (fK (by rw [f_safe]; first | exact if_pos (b2i_t c10) | exact if_neg (b2i_f c10)))
set_option maxRecDepth 100000 in
set_option maxHeartbeats 4000000 in
theorem kX4_wearAt (l : Launch) (D : va_G) (ct : Nat → ClassId) (sa : Nat → Nat) (a : Nat → Nat) (thr : Int32) (σ : St) (wr : va_W) (x y z b : Int32) (j r q : Nat) (hx : x = nI j) (hy : y = nI r) (hz : z = nI q) (hj : j < 8) (hr : r < 4) (hq : q < 6) : jM l yX4_wearAt (Cond.code yX4_wearAt cX4_wearAt 6 (Option.none : Option Jvm.ClassFile.FieldType) :: GW) (rM 1 0 0 19) D ct sa [.ref (a 0), .int x, .int y, .int z, .int b] (WM ct a thr σ ++ wr) (dK none (WM ct a thr (uW σ (wup (sW σ) j r q b)) ++ wr)) 0 0 := by
  refine jMX.plain (jBody (own := RX4) (by decide) rfl rfl (Nat.le_of_ble_eq_true rfl) ?_)
  intro X C E T0
  refine j_lv (lv1 := [(0, .ref _), (1, .int _), (2, .int _), (3, .int _), (4, .int _)]) rfl ?_
  refine j_bipush (v := nI 6) C dX4_wearAt_0 (by decide) ?_
  refine j_iconst (v := nI 4) C dX4_wearAt_2 (by decide) ?_
  refine j_iload_n (i := 1) C dX4_wearAt_3 rfl 1 rfl ?_
  refine j_imul C dX4_wearAt_4 ?_
  refine j_iload_n (i := 2) C dX4_wearAt_5 rfl 2 rfl ?_
  refine j_iadd C dX4_wearAt_6 ?_
  refine j_imul C dX4_wearAt_7 ?_
  refine j_iload_n (i := 3) C dX4_wearAt_8 rfl 3 rfl ?_
  refine j_iadd C dX4_wearAt_9 ?_
  refine j_istore (lv' := [(5, .int _), (0, .ref _), (1, .int _), (2, .int _), (3, .int _), (4, .int _)]) C dX4_wearAt_10 (by decide) rfl ?_
  refine j_aload_n (i := 0) C dX4_wearAt_12 rfl 1 rfl ?_
  refine j_get (Cn := RX4) (T := TX4) (N := 7) (ci := 5) C iX4 rfl (0) rfl 5 (by decide) gw682 rfl rfl dX4_wearAt_13 ?_
  refine j_iload C dX4_wearAt_16 0 rfl ?_
  refine j_bipush (v := nI 99) C dX4_wearAt_18 (by decide) ?_
  refine j_aload_n (i := 0) C dX4_wearAt_20 rfl 1 rfl ?_
  refine j_get (Cn := RX4) (T := TX4) (N := 7) (ci := 5) C iX4 rfl (0) rfl 5 (by decide) gw682 rfl rfl dX4_wearAt_21 ?_
  refine j_iload C dX4_wearAt_24 0 rfl ?_
  refine j_iald C (2) rfl (6 * (4 * j + r) + q) (by rw [hx, hy, hz, pk_mul, nI_add, pk_mul, nI_add]) (by omega) (by decide) dX4_wearAt_26 ?_
  refine j_iload C dX4_wearAt_27 5 rfl ?_
  refine j_iadd C dX4_wearAt_29 ?_
  refine j_mmin C gw737 gw493 gw56 gw494 ⟨Nat.le_of_ble_eq_true rfl, Nat.le_of_ble_eq_true rfl⟩ ⟨Nat.le_of_ble_eq_true rfl, Nat.le_of_ble_eq_true rfl⟩ dX4_wearAt_30 ?_
  refine j_iast (ws2 := WM ct a thr (uW σ (wup (sW σ) j r q b)) ++ wr) C (2) rfl (6 * (4 * j + r) + q) (by rw [hx, hy, hz, pk_mul, nI_add, pk_mul, nI_add]) (by omega) (by decide) rfl dX4_wearAt_33 ?_
  exact j_return C E dX4_wearAt_34 (Nat.le_of_ble_eq_true rfl) (Nat.le_of_ble_eq_true rfl) (⟨rfl, rfl⟩)
set_option maxRecDepth 100000 in
set_option maxHeartbeats 4000000 in
theorem kX4_hourOn (l : Launch) (D : va_G) (ct : Nat → ClassId) (sa : Nat → Nat) (a : Nat → Nat) (thr : Int32) (σ : St) (wr : va_W) (hi : Inv0 σ) : jM l yX4_hourOn (Cond.code yX4_hourOn cX4_hourOn 3 (Option.some Jvm.ClassFile.FieldType.int) :: GW) (rM 2 0 0 46) D ct sa [.ref (a 0)] (WM ct a thr σ ++ wr) (dK (some (.int (hrC σ))) (WM ct a thr (hrS σ) ++ wr)) 0 0 := by
  refine jMX.plain (jBody (own := RX4) (by decide) rfl rfl (Nat.le_of_ble_eq_true rfl) ?_)
  intro X C E T0
  refine j_lv (lv1 := [(0, .ref _)]) rfl ?_
  refine j_iconst (v := nI 0) C dX4_hourOn_0 (by decide) ?_
  refine j_istore_n (lv' := [(1, .int _), (0, .ref _)]) C dX4_hourOn_1 rfl (by decide) rfl ?_
  have L2 : ∀ (d i : Nat) (x1 : Int32) (w : va_W), i + d = sN σ → x1 = nI i → w = WM ct a thr (uW σ (wAF (sR σ) (sW σ) i)) ++ wr → J X (w) (0) (0) 2 [(0, .ref (a 0)), (1, .int x1)] [] := by
    intro d
    induction d with
    | zero =>
      intro i x1 w hd e_x1 e_w 
      subst e_x1
      subst e_w
      have hi9 : i = sN σ := by omega
      rw [hi9]
      refine j_iload_n (i := 1) C dX4_hourOn_2 rfl 1 rfl ?_
      refine j_aload_n (i := 0) C dX4_hourOn_3 rfl 0 rfl ?_
      refine j_get (Cn := RX4) (T := TX4) (N := 7) (ci := 5) C iX4 rfl (0) rfl 1 (by decide) gw678 rfl rfl dX4_hourOn_4 ?_
      refine j_icmp_ge C 83 dX4_hourOn_7 (by decide) (fun c7 => ?_) (fun c7 => by first | exact absurd c7 (nI_ge (b := sN σ) (by omega) (by have := hi.1; omega)) | exact (c7 (nI_le (Nat.le_refl (sN σ)) (by have := hi.1; omega))).elim)
      refine j_iconst (v := nI 0) C dX4_hourOn_83 (by decide) ?_
      refine j_istore_n (lv' := [(1, .int _), (0, .ref _)]) C dX4_hourOn_84 rfl (by decide) rfl ?_
      refine j_iconst (v := nI 0) C dX4_hourOn_85 (by decide) ?_
      refine j_istore_n (lv' := [(2, .int _), (1, .int _), (0, .ref _)]) C dX4_hourOn_86 rfl (by decide) rfl ?_
      have L87 : ∀ (d i : Nat) (x1 : Int32) (x2 : Int32) (w : va_W), i + d = sN σ → x1 = cCF (sK σ) (sH σ) (sR σ) i → x2 = nI i → w = WM ct a thr (uR (uW σ (wAF (sR σ) (sW σ) (sN σ))) (cAF (sK σ) (sH σ) (sR σ) i)) ++ wr → J X (w) (0) (0) 87 [(0, .ref (a 0)), (1, .int x1), (2, .int x2)] [] := by
        intro d
        induction d with
        | zero =>
          intro i x1 x2 w hd e_x1 e_x2 e_w 
          subst e_x1
          subst e_x2
          subst e_w
          have hi9 : i = sN σ := by omega
          rw [hi9]
          refine j_iload_n (i := 2) C dX4_hourOn_87 rfl 2 rfl ?_
          refine j_aload_n (i := 0) C dX4_hourOn_88 rfl 0 rfl ?_
          refine j_get (Cn := RX4) (T := TX4) (N := 7) (ci := 5) C iX4 rfl (0) rfl 1 (by decide) gw678 rfl rfl dX4_hourOn_89 ?_
          refine j_icmp_ge C 144 dX4_hourOn_92 (by decide) (fun c92 => ?_) (fun c92 => by first | exact absurd c92 (nI_ge (b := sN σ) (by omega) (by have := hi.1; omega)) | exact (c92 (nI_le (Nat.le_refl (sN σ)) (by have := hi.1; omega))).elim)
          refine j_aload_n (i := 0) C dX4_hourOn_144 rfl 0 rfl ?_
          refine j_dup C dX4_hourOn_145 rfl ?_
          refine j_get (Cn := RX4) (T := TX4) (N := 7) (ci := 5) C iX4 rfl (0) rfl 2 (by decide) gw679 rfl rfl dX4_hourOn_146 ?_
          refine j_iconst (v := nI 1) C dX4_hourOn_149 (by decide) ?_
          refine j_iadd C dX4_hourOn_150 ?_
          refine j_put (Cn := RX4) (T := TX4) (N := 7) (ci := 5) (ws2 := WM ct a thr (hrS σ) ++ wr) C iX4 tyX4 tyX4_ok nmX4 rfl (0) rfl 2 (by decide) gw679 rfl rfl rfl rfl rfl (Nat.le_of_ble_eq_true rfl) rfl dX4_hourOn_151 ?_
          refine j_iload_n (i := 1) C dX4_hourOn_154 rfl 1 rfl ?_
          exact j_ireturn C E rfl dX4_hourOn_155 (Nat.le_of_ble_eq_true rfl) (Nat.le_of_ble_eq_true rfl) (⟨rfl, rfl⟩)
        | succ d ih =>
          intro i x1 x2 w hd e_x1 e_x2 e_w 
          subst e_x1
          subst e_x2
          subst e_w
          have hi8 : i < 8 := by have := hi.1; omega
          have hrk := (rok_cA (K := sK σ) (h := sH σ) hi.2 i (by omega)) i hi8
          refine j_iload_n (i := 2) C dX4_hourOn_87 rfl 2 rfl ?_
          refine j_aload_n (i := 0) C dX4_hourOn_88 rfl 0 rfl ?_
          refine j_get (Cn := RX4) (T := TX4) (N := 7) (ci := 5) C iX4 rfl (0) rfl 1 (by decide) gw678 rfl rfl dX4_hourOn_89 ?_
          refine j_icmp_ge C 144 dX4_hourOn_92 (by decide) (fun c92 => by first | exact absurd c92 (nI_ge (b := sN σ) (by omega) (by have := hi.1; omega)) | exact (c92 (nI_le (Nat.le_refl (sN σ)) (by have := hi.1; omega))).elim) (fun c92 => ?_)
          refine j_aload_n (i := 0) C dX4_hourOn_95 rfl 0 rfl ?_
          refine j_iload_n (i := 2) C dX4_hourOn_96 rfl 2 rfl ?_
          refine j_iconst (v := nI 2) C dX4_hourOn_97 (by decide) ?_
          refine j_callV (nargs := 2) (As := [_, _]) (Cn := RX4) C (0) rfl rfl rfl gw729 gw731 gw24 gw49 (kX4_lo l D ct sa a thr _ wr _ _ i 2 rfl rfl hi8 (by decide)) gw732 (by decide +kernel) rfl dX4_hourOn_98 ⟨Nat.le_of_ble_eq_true rfl, Nat.le_of_ble_eq_true rfl⟩ ⟨Nat.le_of_ble_eq_true rfl, Nat.le_of_ble_eq_true rfl⟩ (Nat.le_of_ble_eq_true rfl) (dki ?_)
          refine j_iconst (v := (-1)) C dX4_hourOn_101 (by decide) ?_
          refine j_icmp_eq C 138 dX4_hourOn_102 (by decide) (fun c102 => ?_) (fun c102 => ?_)
          · refine j_iinc (z := 2) (lv' := [(2, .int _), (0, .ref _), (1, .int _)]) C dX4_hourOn_138 rfl rfl (by decide) rfl ?_
            refine j_goto C 87 dX4_hourOn_141 (by decide) ?_
            exact j_lvs [1, 2, 0] rfl (ih (i + 1) _ _ _ (by omega) (by show _ = if shutC (sK σ) (sH σ) (cAF (sK σ) (sH σ) (sR σ) i) i then cCF (sK σ) (sH σ) (sR σ) i + nI 1 else cCF (sK σ) (sH σ) (sR σ) i; refine Eq.symm ?_; first | exact if_pos ⟨c102, c111, b2i_f c124⟩ | (refine if_neg ?_; rintro ⟨h1, h2, h3⟩; first | exact h1 c102 | exact h2 c111 | exact h3 (b2i_t c124))) (nI_1 i) (by refine congrArg (fun f => WM ct a thr (uR (uW σ (wAF (sR σ) (sW σ) (sN σ))) f) ++ wr) (show _ = (if shutC (sK σ) (sH σ) (cAF (sK σ) (sH σ) (sR σ) i) i then clF (cAF (sK σ) (sH σ) (sR σ) i) i 4 else cAF (sK σ) (sH σ) (sR σ) i) from Eq.symm ?_); first | exact if_pos ⟨c102, c111, b2i_f c124⟩ | (refine if_neg ?_; rintro ⟨h1, h2, h3⟩; first | exact h1 c102 | exact h2 c111 | exact h3 (b2i_t c124))))
          · refine j_aload_n (i := 0) C dX4_hourOn_105 rfl 0 rfl ?_
            refine j_iload_n (i := 2) C dX4_hourOn_106 rfl 2 rfl ?_
            refine j_iconst (v := nI 1) C dX4_hourOn_107 (by decide) ?_
            refine j_callV (nargs := 2) (As := [_, _]) (Cn := RX4) C (0) rfl rfl rfl gw729 gw731 gw24 gw49 (kX4_lo l D ct sa a thr _ wr _ _ i 1 rfl rfl hi8 (by decide)) gw732 (by decide +kernel) rfl dX4_hourOn_108 ⟨Nat.le_of_ble_eq_true rfl, Nat.le_of_ble_eq_true rfl⟩ ⟨Nat.le_of_ble_eq_true rfl, Nat.le_of_ble_eq_true rfl⟩ (Nat.le_of_ble_eq_true rfl) (dki ?_)
            refine j_if_eq C 138 dX4_hourOn_111 (by decide) (fun c111 => ?_) (fun c111 => ?_)
            · refine j_iinc (z := 2) (lv' := [(2, .int _), (0, .ref _), (1, .int _)]) C dX4_hourOn_138 rfl rfl (by decide) rfl ?_
              refine j_goto C 87 dX4_hourOn_141 (by decide) ?_
              exact j_lvs [1, 2, 0] rfl (ih (i + 1) _ _ _ (by omega) (by show _ = if shutC (sK σ) (sH σ) (cAF (sK σ) (sH σ) (sR σ) i) i then cCF (sK σ) (sH σ) (sR σ) i + nI 1 else cCF (sK σ) (sH σ) (sR σ) i; refine Eq.symm ?_; first | exact if_pos ⟨c102, c111, b2i_f c124⟩ | (refine if_neg ?_; rintro ⟨h1, h2, h3⟩; first | exact h1 c102 | exact h2 c111 | exact h3 (b2i_t c124))) (nI_1 i) (by refine congrArg (fun f => WM ct a thr (uR (uW σ (wAF (sR σ) (sW σ) (sN σ))) f) ++ wr) (show _ = (if shutC (sK σ) (sH σ) (cAF (sK σ) (sH σ) (sR σ) i) i then clF (cAF (sK σ) (sH σ) (sR σ) i) i 4 else cAF (sK σ) (sH σ) (sR σ) i) from Eq.symm ?_); first | exact if_pos ⟨c102, c111, b2i_f c124⟩ | (refine if_neg ?_; rintro ⟨h1, h2, h3⟩; first | exact h1 c102 | exact h2 c111 | exact h3 (b2i_t c124))))
            · obtain ⟨hr3, er3⟩ := okI_ix (hrk.2.1.resolve_left c102) (by decide)
              refine j_aload_n (i := 0) C dX4_hourOn_114 rfl 0 rfl ?_
              refine j_aload_n (i := 0) C dX4_hourOn_115 rfl 0 rfl ?_
              refine j_iload_n (i := 2) C dX4_hourOn_116 rfl 2 rfl ?_
              refine j_iconst (v := nI 2) C dX4_hourOn_117 (by decide) ?_
              refine j_callV (nargs := 2) (As := [_, _]) (Cn := RX4) C (0) rfl rfl rfl gw729 gw731 gw24 gw49 (kX4_lo l D ct sa a thr _ wr _ _ i 2 rfl rfl hi8 (by decide)) gw732 (by decide +kernel) rfl dX4_hourOn_118 ⟨Nat.le_of_ble_eq_true rfl, Nat.le_of_ble_eq_true rfl⟩ ⟨Nat.le_of_ble_eq_true rfl, Nat.le_of_ble_eq_true rfl⟩ (Nat.le_of_ble_eq_true rfl) (dki ?_)
              refine j_callV (nargs := 1) (As := [_]) (Cn := RX4) C (0) rfl rfl rfl gw785 gw787 gw29 gw49 (kX4_isOpen l D ct sa a thr _ wr _ _ er3 hr3) gw788 (by decide +kernel) rfl dX4_hourOn_121 ⟨Nat.le_of_ble_eq_true rfl, Nat.le_of_ble_eq_true rfl⟩ ⟨Nat.le_of_ble_eq_true rfl, Nat.le_of_ble_eq_true rfl⟩ (Nat.le_of_ble_eq_true rfl) (dki ?_)
              refine j_if_eq C 130 dX4_hourOn_124 (by decide) (fun c124 => ?_) (fun c124 => ?_)
              · refine j_aload_n (i := 0) C dX4_hourOn_130 rfl 0 rfl ?_
                refine j_iload_n (i := 2) C dX4_hourOn_131 rfl 2 rfl ?_
                refine j_callV (nargs := 1) (As := [_]) (Cn := RX4) C (0) rfl rfl rfl gw750 gw752 gw26 gw49 (kX4_close l D ct sa a thr _ wr _ i rfl hi8) gw753 (by decide +kernel) rfl dX4_hourOn_132 ⟨Nat.le_of_ble_eq_true rfl, Nat.le_of_ble_eq_true rfl⟩ ⟨Nat.le_of_ble_eq_true rfl, Nat.le_of_ble_eq_true rfl⟩ (Nat.le_of_ble_eq_true rfl) (dkv ?_)
                refine j_iinc (z := 1) (lv' := [(1, .int _), (0, .ref _), (2, .int _)]) C dX4_hourOn_135 rfl rfl (by decide) rfl ?_
                refine j_iinc (z := 2) (lv' := [(2, .int _), (1, .int _), (0, .ref _)]) C dX4_hourOn_138 rfl rfl (by decide) rfl ?_
                refine j_goto C 87 dX4_hourOn_141 (by decide) ?_
                exact j_lvs [2, 1, 0] rfl (ih (i + 1) _ _ _ (by omega) (by show _ = if shutC (sK σ) (sH σ) (cAF (sK σ) (sH σ) (sR σ) i) i then cCF (sK σ) (sH σ) (sR σ) i + nI 1 else cCF (sK σ) (sH σ) (sR σ) i; refine Eq.symm ?_; first | exact if_pos ⟨c102, c111, b2i_f c124⟩ | (refine if_neg ?_; rintro ⟨h1, h2, h3⟩; first | exact h1 c102 | exact h2 c111 | exact h3 (b2i_t c124))) (nI_1 i) (by refine congrArg (fun f => WM ct a thr (uR (uW σ (wAF (sR σ) (sW σ) (sN σ))) f) ++ wr) (show _ = (if shutC (sK σ) (sH σ) (cAF (sK σ) (sH σ) (sR σ) i) i then clF (cAF (sK σ) (sH σ) (sR σ) i) i 4 else cAF (sK σ) (sH σ) (sR σ) i) from Eq.symm ?_); first | exact if_pos ⟨c102, c111, b2i_f c124⟩ | (refine if_neg ?_; rintro ⟨h1, h2, h3⟩; first | exact h1 c102 | exact h2 c111 | exact h3 (b2i_t c124))))
              · refine j_goto C 138 dX4_hourOn_127 (by decide) ?_
                refine j_iinc (z := 2) (lv' := [(2, .int _), (0, .ref _), (1, .int _)]) C dX4_hourOn_138 rfl rfl (by decide) rfl ?_
                refine j_goto C 87 dX4_hourOn_141 (by decide) ?_
                exact j_lvs [1, 2, 0] rfl (ih (i + 1) _ _ _ (by omega) (by show _ = if shutC (sK σ) (sH σ) (cAF (sK σ) (sH σ) (sR σ) i) i then cCF (sK σ) (sH σ) (sR σ) i + nI 1 else cCF (sK σ) (sH σ) (sR σ) i; refine Eq.symm ?_; first | exact if_pos ⟨c102, c111, b2i_f c124⟩ | (refine if_neg ?_; rintro ⟨h1, h2, h3⟩; first | exact h1 c102 | exact h2 c111 | exact h3 (b2i_t c124))) (nI_1 i) (by refine congrArg (fun f => WM ct a thr (uR (uW σ (wAF (sR σ) (sW σ) (sN σ))) f) ++ wr) (show _ = (if shutC (sK σ) (sH σ) (cAF (sK σ) (sH σ) (sR σ) i) i then clF (cAF (sK σ) (sH σ) (sR σ) i) i 4 else cAF (sK σ) (sH σ) (sR σ) i) from Eq.symm ?_); first | exact if_pos ⟨c102, c111, b2i_f c124⟩ | (refine if_neg ?_; rintro ⟨h1, h2, h3⟩; first | exact h1 c102 | exact h2 c111 | exact h3 (b2i_t c124))))
      exact j_lvs [2, 1, 0] rfl (L87 (sN σ) (0) _ _ _ (by omega) (rfl) (rfl) (rfl))
    | succ d ih =>
      intro i x1 w hd e_x1 e_w 
      subst e_x1
      subst e_w
      have hi8 : i < 8 := by have := hi.1; omega
      refine j_iload_n (i := 1) C dX4_hourOn_2 rfl 1 rfl ?_
      refine j_aload_n (i := 0) C dX4_hourOn_3 rfl 0 rfl ?_
      refine j_get (Cn := RX4) (T := TX4) (N := 7) (ci := 5) C iX4 rfl (0) rfl 1 (by decide) gw678 rfl rfl dX4_hourOn_4 ?_
      refine j_icmp_ge C 83 dX4_hourOn_7 (by decide) (fun c7 => by first | exact absurd c7 (nI_ge (b := sN σ) (by omega) (by have := hi.1; omega)) | exact (c7 (nI_le (Nat.le_refl (sN σ)) (by have := hi.1; omega))).elim) (fun c7 => ?_)
      refine j_iconst (v := nI 0) C dX4_hourOn_10 (by decide) ?_
      refine j_istore_n (lv' := [(2, .int _), (0, .ref _), (1, .int _)]) C dX4_hourOn_11 rfl (by decide) rfl ?_
      have L12 : ∀ (d r : Nat) (x2 : Int32) (w : va_W), r + d = 4 → x2 = nI r → w = WM ct a thr (uW σ (wLF (sR σ) (wAF (sR σ) (sW σ) i) i r)) ++ wr → J X (w) (0) (0) 12 [(0, .ref (a 0)), (1, .int (nI i)), (2, .int x2)] [] := by
        intro d
        induction d with
        | zero =>
          intro r x2 w hd e_x2 e_w 
          subst e_x2
          subst e_w
          have hr : r = 4 := by omega
          subst hr
          refine j_iload_n (i := 2) C dX4_hourOn_12 rfl 2 rfl ?_
          refine j_iconst (v := nI 4) C dX4_hourOn_13 (by decide) ?_
          refine j_icmp_ge C 77 dX4_hourOn_14 (by decide) (fun c14 => ?_) (fun c14 => by first | exact absurd c14 (by decide) | exact absurd c14 (nI_ge (by omega) (by omega)) | exact absurd (nI_le (by omega) (by omega)) c14 | exact absurd c14 (nI_nlt (by omega) (by omega)) | exact absurd (nI_lt (by omega) (by omega)) c14 | exact absurd c14 (nI_nle0 (by omega) (by omega)))
          refine j_iinc (z := 1) (lv' := [(1, .int _), (0, .ref _), (2, .int _)]) C dX4_hourOn_77 rfl rfl (by decide) rfl ?_
          refine j_goto C 2 dX4_hourOn_80 (by decide) ?_
          exact j_lvs [1, 0] rfl (ih (i + 1) _ _ (by omega) (nI_1 i) (rfl))
        | succ d ih =>
          intro r x2 w hd e_x2 e_w 
          subst e_x2
          subst e_w
          obtain ⟨h6, e6⟩ := okI_ix ((hi.2 i hi8).2.2 r (by omega)) (by decide)
          obtain ⟨h7, e7⟩ := okI_ix (lt_ok (r := r) (hi.2 i hi8).1) (by decide)
          refine j_iload_n (i := 2) C dX4_hourOn_12 rfl 2 rfl ?_
          refine j_iconst (v := nI 4) C dX4_hourOn_13 (by decide) ?_
          refine j_icmp_ge C 77 dX4_hourOn_14 (by decide) (fun c14 => by first | exact absurd c14 (by decide) | exact absurd c14 (nI_ge (by omega) (by omega)) | exact absurd (nI_le (by omega) (by omega)) c14 | exact absurd c14 (nI_nlt (by omega) (by omega)) | exact absurd (nI_lt (by omega) (by omega)) c14 | exact absurd c14 (nI_nle0 (by omega) (by omega))) (fun c14 => ?_)
          refine j_aload_n (i := 0) C dX4_hourOn_17 rfl 0 rfl ?_
          refine j_iload_n (i := 1) C dX4_hourOn_18 rfl 1 rfl ?_
          refine j_iconst (v := nI 1) C dX4_hourOn_19 (by decide) ?_
          refine j_callV (nargs := 2) (As := [_, _]) (Cn := RX4) C (0) rfl rfl rfl gw729 gw731 gw24 gw49 (kX4_lo l D ct sa a thr _ wr _ _ i 1 rfl rfl hi8 (by decide)) gw732 (by decide +kernel) rfl dX4_hourOn_20 ⟨Nat.le_of_ble_eq_true rfl, Nat.le_of_ble_eq_true rfl⟩ ⟨Nat.le_of_ble_eq_true rfl, Nat.le_of_ble_eq_true rfl⟩ (Nat.le_of_ble_eq_true rfl) (dki ?_)
          refine j_if_ne C 44 dX4_hourOn_23 (by decide) (fun c23 => ?_) (fun c23 => ?_)
          · refine j_aload_n (i := 0) C dX4_hourOn_44 rfl 0 rfl ?_
            refine j_iload_n (i := 1) C dX4_hourOn_45 rfl 1 rfl ?_
            refine j_iconst (v := nI 2) C dX4_hourOn_46 (by decide) ?_
            refine j_callV (nargs := 2) (As := [_, _]) (Cn := RX4) C (0) rfl rfl rfl gw729 gw731 gw24 gw49 (kX4_lo l D ct sa a thr _ wr _ _ i 2 rfl rfl hi8 (by decide)) gw732 (by decide +kernel) rfl dX4_hourOn_47 ⟨Nat.le_of_ble_eq_true rfl, Nat.le_of_ble_eq_true rfl⟩ ⟨Nat.le_of_ble_eq_true rfl, Nat.le_of_ble_eq_true rfl⟩ (Nat.le_of_ble_eq_true rfl) (dki ?_)
            refine j_iconst (v := (-1)) C dX4_hourOn_50 (by decide) ?_
            refine j_icmp_eq C 71 dX4_hourOn_51 (by decide) (fun c51 => ?_) (fun c51 => ?_)
            · refine j_iinc (z := 2) (lv' := [(2, .int _), (0, .ref _), (1, .int _)]) C dX4_hourOn_71 rfl rfl (by decide) rfl ?_
              refine j_goto C 12 dX4_hourOn_74 (by decide) ?_
              exact j_lvs [1, 2, 0] rfl (ih (r + 1) _ _ (by omega) (nI_1 r) (by first | exact congrArg (fun f => WM ct a thr (uW σ f) ++ wr) (if_pos c23).symm | exact congrArg (fun f => WM ct a thr (uW σ f) ++ wr) ((if_neg c23).trans (if_pos c51)).symm | exact congrArg (fun f => WM ct a thr (uW σ f) ++ wr) ((if_neg c23).trans (if_neg c51)).symm))
            · refine j_aload_n (i := 0) C dX4_hourOn_54 rfl 0 rfl ?_
              refine j_iload_n (i := 1) C dX4_hourOn_55 rfl 1 rfl ?_
              refine j_iload_n (i := 2) C dX4_hourOn_56 rfl 2 rfl ?_
              refine j_aload_n (i := 0) C dX4_hourOn_57 rfl 0 rfl ?_
              refine j_iload_n (i := 1) C dX4_hourOn_58 rfl 1 rfl ?_
              refine j_iconst (v := nI 0) C dX4_hourOn_59 (by decide) ?_
              refine j_callV (nargs := 2) (As := [_, _]) (Cn := RX4) C (0) rfl rfl rfl gw729 gw731 gw24 gw49 (kX4_lo l D ct sa a thr _ wr _ _ i 0 rfl rfl hi8 (by decide)) gw732 (by decide +kernel) rfl dX4_hourOn_60 ⟨Nat.le_of_ble_eq_true rfl, Nat.le_of_ble_eq_true rfl⟩ ⟨Nat.le_of_ble_eq_true rfl, Nat.le_of_ble_eq_true rfl⟩ (Nat.le_of_ble_eq_true rfl) (dki ?_)
              refine j_iload_n (i := 2) C dX4_hourOn_63 rfl 2 rfl ?_
              refine j_callS (nargs := 2) (As := [_, _]) C gw832 gw833 gw49 (kX4_letter l D ct sa _ _ _ r rfl (by omega)) gw834 (by decide +kernel) rfl dX4_hourOn_64 ⟨Nat.le_of_ble_eq_true rfl, Nat.le_of_ble_eq_true rfl⟩ ⟨Nat.le_of_ble_eq_true rfl, Nat.le_of_ble_eq_true rfl⟩ (Nat.le_of_ble_eq_true rfl) (dki ?_)
              refine j_iconst (v := nI 2) C dX4_hourOn_67 (by decide) ?_
              refine j_callV (nargs := 4) (As := [_, _, _, _]) (Cn := RX4) C (0) rfl rfl rfl gw866 gw868 gw39 gw49 (kX4_wearAt l D ct sa a thr _ wr _ _ _ _ i r _ rfl rfl e7 hi8 (by omega) h7) gw869 (by decide +kernel) rfl dX4_hourOn_68 ⟨Nat.le_of_ble_eq_true rfl, Nat.le_of_ble_eq_true rfl⟩ ⟨Nat.le_of_ble_eq_true rfl, Nat.le_of_ble_eq_true rfl⟩ (Nat.le_of_ble_eq_true rfl) (dkv ?_)
              refine j_iinc (z := 2) (lv' := [(2, .int _), (0, .ref _), (1, .int _)]) C dX4_hourOn_71 rfl rfl (by decide) rfl ?_
              refine j_goto C 12 dX4_hourOn_74 (by decide) ?_
              exact j_lvs [1, 2, 0] rfl (ih (r + 1) _ _ (by omega) (nI_1 r) (by first | exact congrArg (fun f => WM ct a thr (uW σ f) ++ wr) (if_pos c23).symm | exact congrArg (fun f => WM ct a thr (uW σ f) ++ wr) ((if_neg c23).trans (if_pos c51)).symm | exact congrArg (fun f => WM ct a thr (uW σ f) ++ wr) ((if_neg c23).trans (if_neg c51)).symm))
          · refine j_aload_n (i := 0) C dX4_hourOn_26 rfl 0 rfl ?_
            refine j_iload_n (i := 1) C dX4_hourOn_27 rfl 1 rfl ?_
            refine j_iload_n (i := 2) C dX4_hourOn_28 rfl 2 rfl ?_
            refine j_aload_n (i := 0) C dX4_hourOn_29 rfl 0 rfl ?_
            refine j_iload_n (i := 1) C dX4_hourOn_30 rfl 1 rfl ?_
            refine j_iconst (v := nI 4) C dX4_hourOn_31 (by decide) ?_
            refine j_iload_n (i := 2) C dX4_hourOn_32 rfl 2 rfl ?_
            refine j_iadd C dX4_hourOn_33 ?_
            refine j_callV (nargs := 2) (As := [_, _]) (Cn := RX4) C (0) rfl rfl rfl gw729 gw731 gw24 gw49 (kX4_lo l D ct sa a thr _ wr _ _ i (4 + r) rfl (nI_add 4 r) hi8 (by omega)) gw732 (by decide +kernel) rfl dX4_hourOn_34 ⟨Nat.le_of_ble_eq_true rfl, Nat.le_of_ble_eq_true rfl⟩ ⟨Nat.le_of_ble_eq_true rfl, Nat.le_of_ble_eq_true rfl⟩ (Nat.le_of_ble_eq_true rfl) (dki ?_)
            refine j_iconst (v := nI 1) C dX4_hourOn_37 (by decide) ?_
            refine j_callV (nargs := 4) (As := [_, _, _, _]) (Cn := RX4) C (0) rfl rfl rfl gw866 gw868 gw39 gw49 (kX4_wearAt l D ct sa a thr _ wr _ _ _ _ i r _ rfl rfl e6 hi8 (by omega) h6) gw869 (by decide +kernel) rfl dX4_hourOn_38 ⟨Nat.le_of_ble_eq_true rfl, Nat.le_of_ble_eq_true rfl⟩ ⟨Nat.le_of_ble_eq_true rfl, Nat.le_of_ble_eq_true rfl⟩ (Nat.le_of_ble_eq_true rfl) (dkv ?_)
            refine j_goto C 71 dX4_hourOn_41 (by decide) ?_
            refine j_iinc (z := 2) (lv' := [(2, .int _), (0, .ref _), (1, .int _)]) C dX4_hourOn_71 rfl rfl (by decide) rfl ?_
            refine j_goto C 12 dX4_hourOn_74 (by decide) ?_
            exact j_lvs [1, 2, 0] rfl (ih (r + 1) _ _ (by omega) (nI_1 r) (by first | exact congrArg (fun f => WM ct a thr (uW σ f) ++ wr) (if_pos c23).symm | exact congrArg (fun f => WM ct a thr (uW σ f) ++ wr) ((if_neg c23).trans (if_pos c51)).symm | exact congrArg (fun f => WM ct a thr (uW σ f) ++ wr) ((if_neg c23).trans (if_neg c51)).symm))
      exact j_lvs [1, 2, 0] rfl (L12 (4) (0) _ _ (by omega) (rfl) (rfl))
  exact j_lvs [1, 0] rfl (L2 (sN σ) (0) _ _ (by omega) (rfl) (rfl))
set_option maxRecDepth 100000 in
set_option maxHeartbeats 4000000 in
theorem kX4_hoursOn (l : Launch) (D : va_G) (ct : Nat → ClassId) (sa : Nat → Nat) (a : Nat → Nat) (thr : Int32) (σ : St) (wr : va_W) (x : Int32) (m : Nat) (hi : Inv0 σ) (hx : x = nI m) (hm : m ≤ 99) : jM l yX4_hoursOn (Cond.code yX4_hoursOn cX4_hoursOn 4 (Option.some Jvm.ClassFile.FieldType.int) :: GW) (rM 3 0 0 68) D ct sa [.ref (a 0), .int x] (WM ct a thr σ ++ wr) (dK (some (.int (hsC σ m))) (WM ct a thr (hsS σ m) ++ wr)) 0 0 := by
  refine jMX.plain (jBody (own := RX4) (by decide) rfl rfl (Nat.le_of_ble_eq_true rfl) ?_)
  intro X C E T0
  refine j_lv (lv1 := [(0, .ref _), (1, .int _)]) rfl ?_
  subst hx
  refine j_iconst (v := nI 0) C dX4_hoursOn_0 (by decide) ?_
  refine j_istore_n (lv' := [(2, .int _), (0, .ref _), (1, .int _)]) C dX4_hoursOn_1 rfl (by decide) rfl ?_
  refine j_iconst (v := nI 0) C dX4_hoursOn_2 (by decide) ?_
  refine j_istore_n (lv' := [(3, .int _), (2, .int _), (0, .ref _), (1, .int _)]) C dX4_hoursOn_3 rfl (by decide) rfl ?_
  have L4 : ∀ (d i : Nat) (x2 : Int32) (x3 : Int32) (w : va_W), i + d = m → x2 = hsC σ i → x3 = nI i → w = WM ct a thr (hsS σ i) ++ wr → J X (w) (0) (0) 4 [(0, .ref (a 0)), (1, .int (nI m)), (2, .int x2), (3, .int x3)] [] := by
    intro d
    induction d with
    | zero =>
      intro i x2 x3 w hd e_x2 e_x3 e_w 
      subst e_x2
      subst e_x3
      subst e_w
      have hi9 : i = m := by omega
      rw [hi9]
      refine j_iload_n (i := 3) C dX4_hoursOn_4 rfl 3 rfl ?_
      refine j_iload_n (i := 1) C dX4_hoursOn_5 rfl 1 rfl ?_
      refine j_icmp_ge C 22 dX4_hoursOn_6 (by decide) (fun c6 => ?_) (fun c6 => by first | exact absurd c6 (by decide) | exact absurd c6 (nI_ge (by omega) (by omega)) | exact absurd (nI_le (by omega) (by omega)) c6 | exact absurd c6 (nI_nlt (by omega) (by omega)) | exact absurd (nI_lt (by omega) (by omega)) c6 | exact absurd c6 (nI_nle0 (by omega) (by omega)))
      refine j_iload_n (i := 2) C dX4_hoursOn_22 rfl 2 rfl ?_
      exact j_ireturn C E rfl dX4_hoursOn_23 (Nat.le_of_ble_eq_true rfl) (Nat.le_of_ble_eq_true rfl) (⟨rfl, rfl⟩)
    | succ d ih =>
      intro i x2 x3 w hd e_x2 e_x3 e_w 
      subst e_x2
      subst e_x3
      subst e_w
      refine j_iload_n (i := 3) C dX4_hoursOn_4 rfl 3 rfl ?_
      refine j_iload_n (i := 1) C dX4_hoursOn_5 rfl 1 rfl ?_
      refine j_icmp_ge C 22 dX4_hoursOn_6 (by decide) (fun c6 => by first | exact absurd c6 (by decide) | exact absurd c6 (nI_ge (by omega) (by omega)) | exact absurd (nI_le (by omega) (by omega)) c6 | exact absurd c6 (nI_nlt (by omega) (by omega)) | exact absurd (nI_lt (by omega) (by omega)) c6 | exact absurd c6 (nI_nle0 (by omega) (by omega))) (fun c6 => ?_)
      refine j_iload_n (i := 2) C dX4_hoursOn_9 rfl 2 rfl ?_
      refine j_aload_n (i := 0) C dX4_hoursOn_10 rfl 0 rfl ?_
      refine j_callV (nargs := 0) (As := []) (Cn := RX4) C (0) rfl rfl rfl gw862 gw864 gw38 gw49 (kX4_hourOn l D ct sa a thr (hsS σ i) wr (inv_hs hi i)) gw865 (by decide +kernel) rfl dX4_hoursOn_11 ⟨Nat.le_of_ble_eq_true rfl, Nat.le_of_ble_eq_true rfl⟩ ⟨Nat.le_of_ble_eq_true rfl, Nat.le_of_ble_eq_true rfl⟩ (Nat.le_of_ble_eq_true rfl) (dki ?_)
      refine j_iadd C dX4_hoursOn_14 ?_
      refine j_istore_n (lv' := [(2, .int _), (0, .ref _), (1, .int _), (3, .int _)]) C dX4_hoursOn_15 rfl (by decide) rfl ?_
      refine j_iinc (z := 3) (lv' := [(3, .int _), (2, .int _), (0, .ref _), (1, .int _)]) C dX4_hoursOn_16 rfl rfl (by decide) rfl ?_
      refine j_goto C 4 dX4_hoursOn_19 (by decide) ?_
      exact j_lvs [2, 3, 1, 0] rfl (ih (i + 1) _ _ _ (by omega) (rfl) (nI_1 i) (rfl))
  exact j_lvs [2, 3, 1, 0] rfl (L4 (m) (0) _ _ _ (by omega) (rfl) (rfl) (rfl))
set_option maxRecDepth 100000 in
set_option maxHeartbeats 4000000 in
theorem kX4_pass (l : Launch) (D : va_G) (ct : Nat → ClassId) (sa : Nat → Nat) (a : Nat → Nat) (thr : Int32) (σ : St) (wr : va_W) (x : Int32) (hi : Inv0 σ) : jM l yX4_pass (Cond.code yX4_pass cX4_pass 2 (Option.some Jvm.ClassFile.FieldType.int) :: GW) (rM 4 0 0 91) D ct sa [.ref (a 0), .int x] (WM ct a thr σ ++ wr) (fD ct a wr (f_pass σ x)) 0 0 := by
  refine jMX.plain (jBody (own := RX4) (by decide) rfl rfl (Nat.le_of_ble_eq_true rfl) ?_)
  intro X C E T0
  refine j_lv (lv1 := [(0, .ref _), (1, .int _)]) rfl ?_
  refine j_aload_n (i := 0) C dX4_pass_0 rfl 0 rfl ?_
  refine j_iconst (v := nI 0) C dX4_pass_1 (by decide) ?_
  refine j_put (Cn := RX4) (T := TX4) (N := 7) (ci := 5) (ws2 := WM ct a (nI 0) σ ++ wr) C iX4 tyX4 tyX4_ok nmX4 rfl (0) rfl 0 (by decide) gw677 rfl rfl rfl rfl rfl (Nat.le_of_ble_eq_true rfl) rfl dX4_pass_2 ?_
  refine j_iload_n (i := 1) C dX4_pass_5 rfl 1 rfl ?_
  refine j_iconst (v := nI 1) C dX4_pass_6 (by decide) ?_
  refine j_bipush (v := nI 99) C dX4_pass_7 (by decide) ?_
  refine j_callS (nargs := 3) (As := [_, _, _]) C gw710 gw711 gw49 (kX4_isIn l D ct sa _ _ _ _) gw712 (by decide +kernel) rfl dX4_pass_9 ⟨Nat.le_of_ble_eq_true rfl, Nat.le_of_ble_eq_true rfl⟩ ⟨Nat.le_of_ble_eq_true rfl, Nat.le_of_ble_eq_true rfl⟩ (Nat.le_of_ble_eq_true rfl) (dki ?_)
  refine j_if_eq C 23 dX4_pass_12 (by decide) (fun c12 => ?_) (fun c12 => ?_)
  · refine j_aload_n (i := 0) C dX4_pass_23 rfl 0 rfl ?_
    refine j_iconst (v := nI 1) C dX4_pass_24 (by decide) ?_
    refine j_callV (nargs := 1) (As := [_]) (Cn := RX4) C (0) rfl rfl rfl gw713 gw715 gw21 gw49 (kX4_fail l D ct sa _ _ _ _ _) gw716 (by decide +kernel) rfl dX4_pass_25 ⟨Nat.le_of_ble_eq_true rfl, Nat.le_of_ble_eq_true rfl⟩ ⟨Nat.le_of_ble_eq_true rfl, Nat.le_of_ble_eq_true rfl⟩ (Nat.le_of_ble_eq_true rfl) (dki ?_)
    exact j_ireturn C E rfl dX4_pass_28 (Nat.le_of_ble_eq_true rfl) (Nat.le_of_ble_eq_true rfl) (fK (by rw [f_pass]; first | exact if_pos (b2i_t c12) | exact if_neg (b2i_f c12)))
  · obtain ⟨h1, h2, h3⟩ := ix_99 (b2i_t c12)
    refine j_aload_n (i := 0) C dX4_pass_15 rfl 0 rfl ?_
    refine j_iload_n (i := 1) C dX4_pass_16 rfl 1 rfl ?_
    refine j_callV (nargs := 1) (As := [_]) (Cn := RX4) C (0) rfl rfl rfl gw858 gw860 gw37 gw49 (kX4_hoursOn l D ct sa a (nI 0) σ wr _ (ix x) hi h3 h2) gw861 (by decide +kernel) rfl dX4_pass_17 ⟨Nat.le_of_ble_eq_true rfl, Nat.le_of_ble_eq_true rfl⟩ ⟨Nat.le_of_ble_eq_true rfl, Nat.le_of_ble_eq_true rfl⟩ (Nat.le_of_ble_eq_true rfl) (dki ?_)
    refine j_goto C 28 dX4_pass_20 (by decide) ?_
    exact j_ireturn C E rfl dX4_pass_28 (Nat.le_of_ble_eq_true rfl) (Nat.le_of_ble_eq_true rfl) (fK (by rw [f_pass]; first | exact if_pos (b2i_t c12) | exact if_neg (b2i_f c12)))
set_option maxRecDepth 100000 in
set_option maxHeartbeats 4000000 in
theorem kX4_bringBack (l : Launch) (D : va_G) (ct : Nat → ClassId) (sa : Nat → Nat) (a : Nat → Nat) (thr : Int32) (σ : St) (wr : va_W) (q1 q2 : Nat) (Rr W : Nat → Int32) (h : Int32) : jM l yX4_bringBack (Cond.code yX4_bringBack cX4_bringBack 4 (Option.none : Option Jvm.ClassFile.FieldType) :: GW) (rM 1 0 0 80) D ct sa [.ref (a 0), .ref q1, .ref q2, .int h] (WM ct a thr σ ++ ((q2, .inl (ct 0, 192, .inl W)) :: (q1, .inl (ct 0, 64, .inl Rr)) :: wr)) (dK none (WM ct a thr (uH (uW (uR σ Rr) W) h) ++ ((q2, .inl (ct 0, 192, .inl W)) :: (q1, .inl (ct 0, 64, .inl Rr)) :: wr))) 0 0 := by
  refine jMX.plain (jBody (own := RX4) (by decide) rfl rfl (Nat.le_of_ble_eq_true rfl) ?_)
  intro X C E T0
  refine j_lv (lv1 := [(0, .ref _), (1, .ref _), (2, .ref _), (3, .int _)]) rfl ?_
  refine j_aload_n (i := 1) C dX4_bringBack_0 rfl 1 rfl ?_
  refine j_iconst (v := nI 0) C dX4_bringBack_1 (by decide) ?_
  refine j_aload_n (i := 0) C dX4_bringBack_2 rfl 0 rfl ?_
  refine j_get (Cn := RX4) (T := TX4) (N := 7) (ci := 5) C iX4 rfl (0) rfl 4 (by decide) gw681 rfl rfl dX4_bringBack_3 ?_
  refine j_iconst (v := nI 0) C dX4_bringBack_6 (by decide) ?_
  refine j_aload_n (i := 0) C dX4_bringBack_7 rfl 0 rfl ?_
  refine j_get (Cn := RX4) (T := TX4) (N := 7) (ci := 5) C iX4 rfl (0) rfl 4 (by decide) gw681 rfl rfl dX4_bringBack_8 ?_
  refine j_alen (v := nI 64) C (1) 0 rfl rfl rfl dX4_bringBack_11 ?_
  refine j_copyi (ws2 := _) C gw885 gw497 gw496 gw58 5 1 rfl rfl (by decide) (by decide) (by decide) (by decide) (by decide) ⟨(Nat.le_of_ble_eq_true rfl), (Nat.le_of_ble_eq_true rfl)⟩ rfl dX4_bringBack_12 ?_
  refine j_cong (g := Rr) (q0 := 1) rfl (fun i h => cpy_all (by decide) h) ?_
  refine j_ws (ws1 := WM ct a thr (uR σ Rr) ++ ((q2, .inl (ct 0, 192, .inl W)) :: (q1, .inl (ct 0, 64, .inl Rr)) :: wr)) rfl ?_
  refine j_aload_n (i := 2) C dX4_bringBack_15 rfl 2 rfl ?_
  refine j_iconst (v := nI 0) C dX4_bringBack_16 (by decide) ?_
  refine j_aload_n (i := 0) C dX4_bringBack_17 rfl 0 rfl ?_
  refine j_get (Cn := RX4) (T := TX4) (N := 7) (ci := 5) C iX4 rfl (0) rfl 5 (by decide) gw682 rfl rfl dX4_bringBack_18 ?_
  refine j_iconst (v := nI 0) C dX4_bringBack_21 (by decide) ?_
  refine j_aload_n (i := 0) C dX4_bringBack_22 rfl 0 rfl ?_
  refine j_get (Cn := RX4) (T := TX4) (N := 7) (ci := 5) C iX4 rfl (0) rfl 5 (by decide) gw682 rfl rfl dX4_bringBack_23 ?_
  refine j_alen (v := nI 192) C (2) 0 rfl rfl rfl dX4_bringBack_26 ?_
  refine j_copyi (ws2 := _) C gw885 gw497 gw496 gw58 4 2 rfl rfl (by decide) (by decide) (by decide) (by decide) (by decide) ⟨(Nat.le_of_ble_eq_true rfl), (Nat.le_of_ble_eq_true rfl)⟩ rfl dX4_bringBack_27 ?_
  refine j_cong (g := W) (q0 := 2) rfl (fun i h => cpy_all (by decide) h) ?_
  refine j_ws (ws1 := WM ct a thr (uW (uR σ Rr) W) ++ ((q2, .inl (ct 0, 192, .inl W)) :: (q1, .inl (ct 0, 64, .inl Rr)) :: wr)) rfl ?_
  refine j_aload_n (i := 0) C dX4_bringBack_30 rfl 0 rfl ?_
  refine j_iload_n (i := 3) C dX4_bringBack_31 rfl 3 rfl ?_
  refine j_put (Cn := RX4) (T := TX4) (N := 7) (ci := 5) (ws2 := WM ct a thr (uH (uW (uR σ Rr) W) h) ++ ((q2, .inl (ct 0, 192, .inl W)) :: (q1, .inl (ct 0, 64, .inl Rr)) :: wr)) C iX4 tyX4 tyX4_ok nmX4 rfl (0) rfl 2 (by decide) gw679 rfl rfl rfl rfl rfl (Nat.le_of_ble_eq_true rfl) rfl dX4_bringBack_32 ?_
  exact j_return C E dX4_bringBack_35 (Nat.le_of_ble_eq_true rfl) (Nat.le_of_ble_eq_true rfl) (⟨rfl, rfl⟩)
set_option maxRecDepth 100000 in
set_option maxHeartbeats 4000000 in
theorem kX4_foresee (l : Launch) (D : va_G) (ct : Nat → ClassId) (sa : Nat → Nat) (a : Nat → Nat) (thr : Int32) (σ : St) (wr : va_W) (x y : Int32) (hi : Inv0 σ) : jM l yX4_foresee (Cond.code yX4_foresee cX4_foresee 7 (Option.some Jvm.ClassFile.FieldType.int) :: GW) (rM 4 3 280 103) D ct sa [.ref (a 0), .int x, .int y] (WM ct a thr σ ++ wr) (fD ct a wr (f_foresee σ x y)) 3 280 := by
  refine jMX.plain (jBody (own := RX4) (by decide) rfl rfl (Nat.le_of_ble_eq_true rfl) ?_)
  intro X C E T0
  refine j_lv (lv1 := [(0, .ref _), (1, .int _), (2, .int _)]) rfl ?_
  refine j_aload_n (i := 0) C dX4_foresee_0 rfl 0 rfl ?_
  refine j_iconst (v := nI 0) C dX4_foresee_1 (by decide) ?_
  refine j_put (Cn := RX4) (T := TX4) (N := 7) (ci := 5) (ws2 := WM ct a (nI 0) σ ++ wr) C iX4 tyX4 tyX4_ok nmX4 rfl (0) rfl 0 (by decide) gw677 rfl rfl rfl rfl rfl (Nat.le_of_ble_eq_true rfl) rfl dX4_foresee_2 ?_
  refine j_iload_n (i := 1) C dX4_foresee_5 rfl 1 rfl ?_
  refine j_iconst (v := nI 1) C dX4_foresee_6 (by decide) ?_
  refine j_bipush (v := nI 99) C dX4_foresee_7 (by decide) ?_
  refine j_callS (nargs := 3) (As := [_, _, _]) C gw710 gw711 gw49 (kX4_isIn l D ct sa _ _ _ _) gw712 (by decide +kernel) rfl dX4_foresee_9 ⟨Nat.le_of_ble_eq_true rfl, Nat.le_of_ble_eq_true rfl⟩ ⟨Nat.le_of_ble_eq_true rfl, Nat.le_of_ble_eq_true rfl⟩ (Nat.le_of_ble_eq_true rfl) (dki ?_)
  refine j_if_ne C 21 dX4_foresee_12 (by decide) (fun c12 => ?_) (fun c12 => ?_)
  · refine j_aload_n (i := 0) C dX4_foresee_21 rfl 0 rfl ?_
    refine j_iload_n (i := 2) C dX4_foresee_22 rfl 2 rfl ?_
    refine j_callV (nargs := 1) (As := [_]) (Cn := RX4) C (0) rfl rfl rfl gw725 gw727 gw23 gw49 (kX4_isLock l D ct sa _ _ _ _ _ hi.1) gw728 (by decide +kernel) rfl dX4_foresee_23 ⟨Nat.le_of_ble_eq_true rfl, Nat.le_of_ble_eq_true rfl⟩ ⟨Nat.le_of_ble_eq_true rfl, Nat.le_of_ble_eq_true rfl⟩ (Nat.le_of_ble_eq_true rfl) (dki ?_)
    refine j_if_ne C 35 dX4_foresee_26 (by decide) (fun c26 => ?_) (fun c26 => ?_)
    · obtain ⟨hj_y, e_y⟩ := okI_ix (b2i_t c26) (by omega)
      obtain ⟨h1, h2, h3⟩ := ix_99 (b2i_t c12)
      have hi2 := inv_hs hi (ix x)
      have hy8 : ix y < 8 := by have := hi.1; omega
      obtain ⟨hv, e_v⟩ := okI_ix (hi2.2 (ix y) hy8).1 (by decide)
      refine j_aload_n (i := 0) C dX4_foresee_35 rfl 0 rfl ?_
      refine j_get (Cn := RX4) (T := TX4) (N := 7) (ci := 5) C iX4 rfl (0) rfl 4 (by decide) gw681 rfl rfl dX4_foresee_36 ?_
      refine j_clone C gw874 1 rfl ⟨(Nat.le_of_ble_eq_true rfl), (Nat.le_of_ble_eq_true rfl)⟩ (Nat.le_of_ble_eq_true rfl) (Nat.le_of_ble_eq_true rfl) dX4_foresee_39 (fun q1 => ?_)
      refine j_swap (a := WM ct a (nI 0) σ) (b := wr) (c0 := [_]) rfl ?_
      refine j_ws (ws1 := WM ct a (nI 0) σ ++ ((q1, .inl (ct 0, 64, .inl (sR σ))) :: wr)) rfl ?_
      refine j_castI C gw880 4 rfl dX4_foresee_42 ?_
      refine j_astore_n (lv' := [(3, .ref _), (0, .ref _), (1, .int _), (2, .int _)]) C dX4_foresee_45 rfl (by decide) rfl ?_
      refine j_aload_n (i := 0) C dX4_foresee_46 rfl 1 rfl ?_
      refine j_get (Cn := RX4) (T := TX4) (N := 7) (ci := 5) C iX4 rfl (0) rfl 5 (by decide) gw682 rfl rfl dX4_foresee_47 ?_
      refine j_clone C gw874 2 rfl ⟨(Nat.le_of_ble_eq_true rfl), (Nat.le_of_ble_eq_true rfl)⟩ (Nat.le_of_ble_eq_true rfl) (Nat.le_of_ble_eq_true rfl) dX4_foresee_50 (fun q2 => ?_)
      refine j_swap (a := WM ct a (nI 0) σ) (b := ((q1, .inl (ct 0, 64, .inl (sR σ))) :: wr)) (c0 := [_]) rfl ?_
      refine j_ws (ws1 := WM ct a (nI 0) σ ++ ((q2, .inl (ct 0, 192, .inl (sW σ))) :: ((q1, .inl (ct 0, 64, .inl (sR σ))) :: wr))) rfl ?_
      refine j_castI C gw880 4 rfl dX4_foresee_53 ?_
      refine j_astore (lv' := [(4, .ref _), (3, .ref _), (0, .ref _), (1, .int _), (2, .int _)]) C dX4_foresee_56 (by decide) rfl ?_
      refine j_aload_n (i := 0) C dX4_foresee_58 rfl 2 rfl ?_
      refine j_get (Cn := RX4) (T := TX4) (N := 7) (ci := 5) C iX4 rfl (0) rfl 2 (by decide) gw679 rfl rfl dX4_foresee_59 ?_
      refine j_istore (lv' := [(5, .int _), (4, .ref _), (3, .ref _), (0, .ref _), (1, .int _), (2, .int _)]) C dX4_foresee_62 (by decide) rfl ?_
      refine j_aload_n (i := 0) C dX4_foresee_64 rfl 3 rfl ?_
      refine j_iload_n (i := 1) C dX4_foresee_65 rfl 4 rfl ?_
      refine j_callV (nargs := 1) (As := [_]) (Cn := RX4) C (0) rfl rfl rfl gw858 gw860 gw37 gw49 (kX4_hoursOn l D ct sa a (nI 0) σ _ _ (ix x) hi h3 h2) gw861 (by decide +kernel) rfl dX4_foresee_66 ⟨Nat.le_of_ble_eq_true rfl, Nat.le_of_ble_eq_true rfl⟩ ⟨Nat.le_of_ble_eq_true rfl, Nat.le_of_ble_eq_true rfl⟩ (Nat.le_of_ble_eq_true rfl) (dki ?_)
      refine j_pop C dX4_foresee_69 rfl ?_
      refine j_aload_n (i := 0) C dX4_foresee_70 rfl 3 rfl ?_
      refine j_iload_n (i := 2) C dX4_foresee_71 rfl 5 rfl ?_
      refine j_aload_n (i := 0) C dX4_foresee_72 rfl 3 rfl ?_
      refine j_iload_n (i := 2) C dX4_foresee_73 rfl 5 rfl ?_
      refine j_iconst (v := nI 0) C dX4_foresee_74 (by decide) ?_
      refine j_callV (nargs := 2) (As := [_, _]) (Cn := RX4) C (0) rfl rfl rfl gw729 gw731 gw24 gw49 (kX4_lo l D ct sa a (nI 0) _ _ _ _ (ix y) 0 e_y rfl hy8 (by decide)) gw732 (by decide +kernel) rfl dX4_foresee_75 ⟨Nat.le_of_ble_eq_true rfl, Nat.le_of_ble_eq_true rfl⟩ ⟨Nat.le_of_ble_eq_true rfl, Nat.le_of_ble_eq_true rfl⟩ (Nat.le_of_ble_eq_true rfl) (dki ?_)
      refine j_callV (nargs := 2) (As := [_, _]) (Cn := RX4) C (0) rfl rfl rfl gw839 gw841 gw35 gw49 (kX4_tried l D ct sa a (nI 0) _ _ _ _ (ix y) _ e_y e_v hy8 hv) gw842 (by decide +kernel) rfl dX4_foresee_78 ⟨Nat.le_of_ble_eq_true rfl, Nat.le_of_ble_eq_true rfl⟩ ⟨Nat.le_of_ble_eq_true rfl, Nat.le_of_ble_eq_true rfl⟩ (Nat.le_of_ble_eq_true rfl) (dki ?_)
      refine j_istore (lv' := [(6, .int _), (5, .int _), (4, .ref _), (3, .ref _), (0, .ref _), (1, .int _), (2, .int _)]) C dX4_foresee_81 (by decide) rfl ?_
      refine j_aload_n (i := 0) C dX4_foresee_83 rfl 4 rfl ?_
      refine j_aload_n (i := 3) C dX4_foresee_84 rfl 3 rfl ?_
      refine j_aload C dX4_foresee_85 2 rfl ?_
      refine j_iload C dX4_foresee_87 1 rfl ?_
      refine j_callV (nargs := 3) (As := [_, _, _]) (Cn := RX4) C (0) rfl rfl rfl gw881 gw883 gw40 gw49 (kX4_bringBack l D ct sa a (nI 0) (hsS σ (ix x)) wr q1 q2 (sR σ) (sW σ) (sH σ)) gw884 (by decide +kernel) rfl dX4_foresee_89 ⟨Nat.le_of_ble_eq_true rfl, Nat.le_of_ble_eq_true rfl⟩ ⟨Nat.le_of_ble_eq_true rfl, Nat.le_of_ble_eq_true rfl⟩ (Nat.le_of_ble_eq_true rfl) (dkv ?_)
      refine j_ws (ws1 := WM ct a (nI 0) σ ++ ((q2, .inl (ct 0, 192, .inl (sW σ))) :: (q1, .inl (ct 0, 64, .inl (sR σ))) :: wr)) (by rw [back_s]) ?_
      refine j_swap (a := WM ct a (nI 0) σ) (b := [(q2, .inl (ct 0, 192, .inl (sW σ))), (q1, .inl (ct 0, 64, .inl (sR σ)))]) (c0 := wr) rfl ?_
      refine j_drop (a := WM ct a (nI 0) σ ++ wr) (b := [_, _]) rfl ?_
      refine j_iload C dX4_foresee_92 0 rfl ?_
      exact j_ireturn C E rfl dX4_foresee_94 (Nat.le_of_ble_eq_true rfl) (Nat.le_of_ble_eq_true rfl) (fK (by rw [f_foresee, if_pos (b2i_t c12), if_pos (b2i_t c26)]))
    · refine j_aload_n (i := 0) C dX4_foresee_29 rfl 0 rfl ?_
      refine j_iconst (v := nI 2) C dX4_foresee_30 (by decide) ?_
      refine j_callV (nargs := 1) (As := [_]) (Cn := RX4) C (0) rfl rfl rfl gw713 gw715 gw21 gw49 (kX4_fail l D ct sa _ _ _ _ _) gw716 (by decide +kernel) rfl dX4_foresee_31 ⟨Nat.le_of_ble_eq_true rfl, Nat.le_of_ble_eq_true rfl⟩ ⟨Nat.le_of_ble_eq_true rfl, Nat.le_of_ble_eq_true rfl⟩ (Nat.le_of_ble_eq_true rfl) (dki ?_)
      exact j_ireturn C E rfl dX4_foresee_34 (Nat.le_of_ble_eq_true rfl) (Nat.le_of_ble_eq_true rfl) (fK (by rw [f_foresee, if_pos (b2i_t c12), if_neg (b2i_f c26)]))
  · refine j_aload_n (i := 0) C dX4_foresee_15 rfl 0 rfl ?_
    refine j_iconst (v := nI 1) C dX4_foresee_16 (by decide) ?_
    refine j_callV (nargs := 1) (As := [_]) (Cn := RX4) C (0) rfl rfl rfl gw713 gw715 gw21 gw49 (kX4_fail l D ct sa _ _ _ _ _) gw716 (by decide +kernel) rfl dX4_foresee_17 ⟨Nat.le_of_ble_eq_true rfl, Nat.le_of_ble_eq_true rfl⟩ ⟨Nat.le_of_ble_eq_true rfl, Nat.le_of_ble_eq_true rfl⟩ (Nat.le_of_ble_eq_true rfl) (dki ?_)
    exact j_ireturn C E rfl dX4_foresee_20 (Nat.le_of_ble_eq_true rfl) (Nat.le_of_ble_eq_true rfl) (fK (by rw [f_foresee, if_neg (b2i_f c12)]))
set_option maxRecDepth 100000 in
set_option maxHeartbeats 4000000 in
theorem kX4_until (l : Launch) (D : va_G) (ct : Nat → ClassId) (sa : Nat → Nat) (a : Nat → Nat) (thr : Int32) (σ : St) (wr : va_W) (x : Int32) (hi : Inv0 σ) : jM l yX4_until (Cond.code yX4_until cX4_until 6 (Option.some Jvm.ClassFile.FieldType.int) :: GW) (rM 3 2 256 103) D ct sa [.ref (a 0), .int x] (WM ct a thr σ ++ wr) (fD ct a wr (f_until σ x)) 2 256 := by
  refine jMX.plain (jBody (own := RX4) (by decide) rfl rfl (Nat.le_of_ble_eq_true rfl) ?_)
  intro X C E T0
  refine j_lv (lv1 := [(0, .ref _), (1, .int _)]) rfl ?_
  refine j_aload_n (i := 0) C dX4_until_0 rfl 0 rfl ?_
  refine j_iconst (v := nI 0) C dX4_until_1 (by decide) ?_
  refine j_put (Cn := RX4) (T := TX4) (N := 7) (ci := 5) (ws2 := WM ct a (nI 0) σ ++ wr) C iX4 tyX4 tyX4_ok nmX4 rfl (0) rfl 0 (by decide) gw677 rfl rfl rfl rfl rfl (Nat.le_of_ble_eq_true rfl) rfl dX4_until_2 ?_
  refine j_aload_n (i := 0) C dX4_until_5 rfl 0 rfl ?_
  refine j_iload_n (i := 1) C dX4_until_6 rfl 1 rfl ?_
  refine j_callV (nargs := 1) (As := [_]) (Cn := RX4) C (0) rfl rfl rfl gw725 gw727 gw23 gw49 (kX4_isLock l D ct sa _ _ _ _ _ hi.1) gw728 (by decide +kernel) rfl dX4_until_7 ⟨Nat.le_of_ble_eq_true rfl, Nat.le_of_ble_eq_true rfl⟩ ⟨Nat.le_of_ble_eq_true rfl, Nat.le_of_ble_eq_true rfl⟩ (Nat.le_of_ble_eq_true rfl) (dki ?_)
  refine j_if_ne C 19 dX4_until_10 (by decide) (fun c10 => ?_) (fun c10 => ?_)
  · have hl := b2i_t c10
    obtain ⟨hj_x, e_x⟩ := okI_ix (hl) (by omega)
    have hx8 : ix x < 8 := by have := hi.1; omega
    refine j_aload_n (i := 0) C dX4_until_19 rfl 0 rfl ?_
    refine j_get (Cn := RX4) (T := TX4) (N := 7) (ci := 5) C iX4 rfl (0) rfl 4 (by decide) gw681 rfl rfl dX4_until_20 ?_
    refine j_clone C gw874 1 rfl ⟨(Nat.le_of_ble_eq_true rfl), (Nat.le_of_ble_eq_true rfl)⟩ (Nat.le_of_ble_eq_true rfl) (Nat.le_of_ble_eq_true rfl) dX4_until_23 (fun q1 => ?_)
    refine j_swap (a := WM ct a (nI 0) σ) (b := wr) (c0 := [_]) rfl ?_
    refine j_ws (ws1 := WM ct a (nI 0) σ ++ ((q1, .inl (ct 0, 64, .inl (sR σ))) :: wr)) rfl ?_
    refine j_castI C gw880 4 rfl dX4_until_26 ?_
    refine j_astore_n (lv' := [(2, .ref _), (0, .ref _), (1, .int _)]) C dX4_until_29 rfl (by decide) rfl ?_
    refine j_aload_n (i := 0) C dX4_until_30 rfl 1 rfl ?_
    refine j_get (Cn := RX4) (T := TX4) (N := 7) (ci := 5) C iX4 rfl (0) rfl 5 (by decide) gw682 rfl rfl dX4_until_31 ?_
    refine j_clone C gw874 2 rfl ⟨(Nat.le_of_ble_eq_true rfl), (Nat.le_of_ble_eq_true rfl)⟩ (Nat.le_of_ble_eq_true rfl) (Nat.le_of_ble_eq_true rfl) dX4_until_34 (fun q2 => ?_)
    refine j_swap (a := WM ct a (nI 0) σ) (b := ((q1, .inl (ct 0, 64, .inl (sR σ))) :: wr)) (c0 := [_]) rfl ?_
    refine j_ws (ws1 := WM ct a (nI 0) σ ++ ((q2, .inl (ct 0, 192, .inl (sW σ))) :: ((q1, .inl (ct 0, 64, .inl (sR σ))) :: wr))) rfl ?_
    refine j_castI C gw880 4 rfl dX4_until_37 ?_
    refine j_astore_n (lv' := [(3, .ref _), (2, .ref _), (0, .ref _), (1, .int _)]) C dX4_until_40 rfl (by decide) rfl ?_
    refine j_aload_n (i := 0) C dX4_until_41 rfl 2 rfl ?_
    refine j_get (Cn := RX4) (T := TX4) (N := 7) (ci := 5) C iX4 rfl (0) rfl 2 (by decide) gw679 rfl rfl dX4_until_42 ?_
    refine j_istore (lv' := [(4, .int _), (3, .ref _), (2, .ref _), (0, .ref _), (1, .int _)]) C dX4_until_45 (by decide) rfl ?_
    refine j_iconst (v := nI 0) C dX4_until_47 (by decide) ?_
    refine j_istore (lv' := [(5, .int _), (4, .int _), (3, .ref _), (2, .ref _), (0, .ref _), (1, .int _)]) C dX4_until_48 (by decide) rfl ?_
    have L50 : ∀ (d i : Nat) (x5 : Int32) (w : va_W), i + d = 49 → x5 = nI i → w = WM ct a (nI 0) (hsS σ i) ++ ((q2, .inl (ct 0, 192, .inl (sW σ))) :: (q1, .inl (ct 0, 64, .inl (sR σ))) :: wr) → (utF (ix x) 49 σ = i + utF (ix x) d (hsS σ i)) → J X (w) (0 + 1 + 1) (0 + 64 + 192) 50 [(0, .ref (a 0)), (1, .int x), (2, .ref q1), (3, .ref q2), (4, .int (sH σ)), (5, .int x5)] [] := by
      intro d
      induction d with
      | zero =>
        intro i x5 w hd e_x5 e_w hT
        subst e_x5
        subst e_w
        have hi9 : i = 49 := by omega
        have hT9 : utF (ix x) 49 σ = i := hT
        refine j_iload C dX4_until_50 5 rfl ?_
        refine j_bipush (v := nI 48) C dX4_until_52 (by decide) ?_
        refine j_icmp_gt C 78 dX4_until_54 (by decide) (fun c54 => ?_) (fun c54 => by first | exact absurd c54 (by decide) | exact absurd c54 (nI_ge (by omega) (by omega)) | exact absurd (nI_le (by omega) (by omega)) c54 | exact absurd c54 (nI_nlt (by omega) (by omega)) | exact absurd (nI_lt (by omega) (by omega)) c54 | exact absurd c54 (nI_nle0 (by omega) (by omega)))
        refine j_aload_n (i := 0) C dX4_until_78 rfl 0 rfl ?_
        refine j_aload_n (i := 2) C dX4_until_79 rfl 2 rfl ?_
        refine j_aload_n (i := 3) C dX4_until_80 rfl 3 rfl ?_
        refine j_iload C dX4_until_81 4 rfl ?_
        refine j_callV (nargs := 3) (As := [_, _, _]) (Cn := RX4) C (0) rfl rfl rfl gw881 gw883 gw40 gw49 (kX4_bringBack l D ct sa a (nI 0) (hsS σ i) wr q1 q2 (sR σ) (sW σ) (sH σ)) gw884 (by decide +kernel) rfl dX4_until_83 ⟨Nat.le_of_ble_eq_true rfl, Nat.le_of_ble_eq_true rfl⟩ ⟨Nat.le_of_ble_eq_true rfl, Nat.le_of_ble_eq_true rfl⟩ (Nat.le_of_ble_eq_true rfl) (dkv ?_)
        refine j_ws (ws1 := WM ct a (nI 0) σ ++ ((q2, .inl (ct 0, 192, .inl (sW σ))) :: (q1, .inl (ct 0, 64, .inl (sR σ))) :: wr)) (by rw [back_s]) ?_
        refine j_swap (a := WM ct a (nI 0) σ) (b := [(q2, .inl (ct 0, 192, .inl (sW σ))), (q1, .inl (ct 0, 64, .inl (sR σ)))]) (c0 := wr) rfl ?_
        refine j_drop (a := WM ct a (nI 0) σ ++ wr) (b := [_, _]) rfl ?_
        refine j_iload C dX4_until_86 5 rfl ?_
        refine j_bipush (v := nI 48) C dX4_until_88 (by decide) ?_
        refine j_icmp_le C 97 dX4_until_90 (by decide) (fun c90 => ?_) (fun c90 => ?_)
        · refine j_iload C dX4_until_97 5 rfl ?_
          exact j_ireturn C E rfl dX4_until_99 (Nat.le_of_ble_eq_true rfl) (Nat.le_of_ble_eq_true rfl) (fK (by rw [f_until, if_pos hl, hT9]; first | rw [if_pos ((nI_leI (by omega) (by omega)).mp c90)] | rw [if_neg (fun z => c90 ((nI_leI (by omega) (by omega)).mpr z))]))
        · refine j_iconst (v := (-1)) C dX4_until_93 (by decide) ?_
          refine j_goto C 99 dX4_until_94 (by decide) ?_
          exact j_ireturn C E rfl dX4_until_99 (Nat.le_of_ble_eq_true rfl) (Nat.le_of_ble_eq_true rfl) (fK (by rw [f_until, if_pos hl, hT9]; first | rw [if_pos ((nI_leI (by omega) (by omega)).mp c90)] | rw [if_neg (fun z => c90 ((nI_leI (by omega) (by omega)).mpr z))]))
      | succ d ih =>
        intro i x5 w hd e_x5 e_w hT
        subst e_x5
        subst e_w
        refine j_iload C dX4_until_50 5 rfl ?_
        refine j_bipush (v := nI 48) C dX4_until_52 (by decide) ?_
        refine j_icmp_gt C 78 dX4_until_54 (by decide) (fun c54 => by first | exact absurd c54 (by decide) | exact absurd c54 (nI_ge (by omega) (by omega)) | exact absurd (nI_le (by omega) (by omega)) c54 | exact absurd c54 (nI_nlt (by omega) (by omega)) | exact absurd (nI_lt (by omega) (by omega)) c54 | exact absurd c54 (nI_nle0 (by omega) (by omega))) (fun c54 => ?_)
        refine j_aload_n (i := 0) C dX4_until_57 rfl 0 rfl ?_
        refine j_iload_n (i := 1) C dX4_until_58 rfl 1 rfl ?_
        refine j_iconst (v := nI 1) C dX4_until_59 (by decide) ?_
        refine j_callV (nargs := 2) (As := [_, _]) (Cn := RX4) C (0) rfl rfl rfl gw729 gw731 gw24 gw49 (kX4_lo l D ct sa a (nI 0) _ _ _ _ (ix x) 1 e_x rfl hx8 (by decide)) gw732 (by decide +kernel) rfl dX4_until_60 ⟨Nat.le_of_ble_eq_true rfl, Nat.le_of_ble_eq_true rfl⟩ ⟨Nat.le_of_ble_eq_true rfl, Nat.le_of_ble_eq_true rfl⟩ (Nat.le_of_ble_eq_true rfl) (dki ?_)
        refine j_iconst (v := nI 1) C dX4_until_63 (by decide) ?_
        refine j_icmp_ne C 78 dX4_until_64 (by decide) (fun c64 => ?_) (fun c64 => ?_)
        · have hT9 : utF (ix x) 49 σ = i := by rw [hT]; show i + (if _ then _ else _) = _; rw [if_neg c64]; rfl
          refine j_aload_n (i := 0) C dX4_until_78 rfl 0 rfl ?_
          refine j_aload_n (i := 2) C dX4_until_79 rfl 2 rfl ?_
          refine j_aload_n (i := 3) C dX4_until_80 rfl 3 rfl ?_
          refine j_iload C dX4_until_81 4 rfl ?_
          refine j_callV (nargs := 3) (As := [_, _, _]) (Cn := RX4) C (0) rfl rfl rfl gw881 gw883 gw40 gw49 (kX4_bringBack l D ct sa a (nI 0) (hsS σ i) wr q1 q2 (sR σ) (sW σ) (sH σ)) gw884 (by decide +kernel) rfl dX4_until_83 ⟨Nat.le_of_ble_eq_true rfl, Nat.le_of_ble_eq_true rfl⟩ ⟨Nat.le_of_ble_eq_true rfl, Nat.le_of_ble_eq_true rfl⟩ (Nat.le_of_ble_eq_true rfl) (dkv ?_)
          refine j_ws (ws1 := WM ct a (nI 0) σ ++ ((q2, .inl (ct 0, 192, .inl (sW σ))) :: (q1, .inl (ct 0, 64, .inl (sR σ))) :: wr)) (by rw [back_s]) ?_
          refine j_swap (a := WM ct a (nI 0) σ) (b := [(q2, .inl (ct 0, 192, .inl (sW σ))), (q1, .inl (ct 0, 64, .inl (sR σ)))]) (c0 := wr) rfl ?_
          refine j_drop (a := WM ct a (nI 0) σ ++ wr) (b := [_, _]) rfl ?_
          refine j_iload C dX4_until_86 5 rfl ?_
          refine j_bipush (v := nI 48) C dX4_until_88 (by decide) ?_
          refine j_icmp_le C 97 dX4_until_90 (by decide) (fun c90 => ?_) (fun c90 => ?_)
          · refine j_iload C dX4_until_97 5 rfl ?_
            exact j_ireturn C E rfl dX4_until_99 (Nat.le_of_ble_eq_true rfl) (Nat.le_of_ble_eq_true rfl) (fK (by rw [f_until, if_pos hl, hT9]; first | rw [if_pos ((nI_leI (by omega) (by omega)).mp c90)] | rw [if_neg (fun z => c90 ((nI_leI (by omega) (by omega)).mpr z))]))
          · refine j_iconst (v := (-1)) C dX4_until_93 (by decide) ?_
            refine j_goto C 99 dX4_until_94 (by decide) ?_
            exact j_ireturn C E rfl dX4_until_99 (Nat.le_of_ble_eq_true rfl) (Nat.le_of_ble_eq_true rfl) (fK (by rw [f_until, if_pos hl, hT9]; first | rw [if_pos ((nI_leI (by omega) (by omega)).mp c90)] | rw [if_neg (fun z => c90 ((nI_leI (by omega) (by omega)).mpr z))]))
        · refine j_aload_n (i := 0) C dX4_until_67 rfl 0 rfl ?_
          refine j_callV (nargs := 0) (As := []) (Cn := RX4) C (0) rfl rfl rfl gw862 gw864 gw38 gw49 (kX4_hourOn l D ct sa a (nI 0) (hsS σ i) _ (inv_hs hi i)) gw865 (by decide +kernel) rfl dX4_until_68 ⟨Nat.le_of_ble_eq_true rfl, Nat.le_of_ble_eq_true rfl⟩ ⟨Nat.le_of_ble_eq_true rfl, Nat.le_of_ble_eq_true rfl⟩ (Nat.le_of_ble_eq_true rfl) (dki ?_)
          refine j_pop C dX4_until_71 rfl ?_
          refine j_iinc (z := 5) (lv' := [(5, .int _), (0, .ref _), (1, .int _), (2, .ref _), (3, .ref _), (4, .int _)]) C dX4_until_72 rfl rfl (by decide) rfl ?_
          refine j_goto C 50 dX4_until_75 (by decide) ?_
          exact j_lvs [1, 2, 3, 4, 5, 0] rfl (ih (i + 1) _ _ (by omega) (nI_1 i) (rfl) (by rw [hT]; show i + (if _ then _ else _) = _; rw [if_pos c64]; show i + (utF (ix x) d (hsS σ (i + 1)) + 1) = _; omega))
    exact j_lvs [4, 5, 3, 2, 1, 0] rfl (L50 (49) (0) _ _ (by omega) (rfl) (rfl) ((Nat.zero_add _).symm))
  · refine j_aload_n (i := 0) C dX4_until_13 rfl 0 rfl ?_
    refine j_iconst (v := nI 1) C dX4_until_14 (by decide) ?_
    refine j_callV (nargs := 1) (As := [_]) (Cn := RX4) C (0) rfl rfl rfl gw713 gw715 gw21 gw49 (kX4_fail l D ct sa _ _ _ _ _) gw716 (by decide +kernel) rfl dX4_until_15 ⟨Nat.le_of_ble_eq_true rfl, Nat.le_of_ble_eq_true rfl⟩ ⟨Nat.le_of_ble_eq_true rfl, Nat.le_of_ble_eq_true rfl⟩ (Nat.le_of_ble_eq_true rfl) (dki ?_)
    exact j_ireturn C E rfl dX4_until_18 (Nat.le_of_ble_eq_true rfl) (Nat.le_of_ble_eq_true rfl) (fK (by rw [f_until, if_neg (b2i_f c10)]))
set_option maxRecDepth 100000 in
set_option maxHeartbeats 4000000 in
theorem kX4_weakest (l : Launch) (D : va_G) (ct : Nat → ClassId) (sa : Nat → Nat) (a : Nat → Nat) (thr : Int32) (σ : St) (wr : va_W) (hi : Inv0 σ) : jM l yX4_weakest (Cond.code yX4_weakest cX4_weakest 5 (Option.some Jvm.ClassFile.FieldType.int) :: GW) (rM 3 8 192 76) D ct sa [.ref (a 0)] (WM ct a thr σ ++ wr) (dK (some (.int (wkF σ (sN σ)).1)) (WM ct a (nI 0) σ ++ wr)) 8 192 := by
  refine jMX.plain (jBody (own := RX4) (by decide) rfl rfl (Nat.le_of_ble_eq_true rfl) ?_)
  intro X C E T0
  refine j_lv (lv1 := [(0, .ref _)]) rfl ?_
  refine j_aload_n (i := 0) C dX4_weakest_0 rfl 0 rfl ?_
  refine j_iconst (v := nI 0) C dX4_weakest_1 (by decide) ?_
  refine j_put (Cn := RX4) (T := TX4) (N := 7) (ci := 5) (ws2 := WM ct a (nI 0) σ ++ wr) C iX4 tyX4 tyX4_ok nmX4 rfl (0) rfl 0 (by decide) gw677 rfl rfl rfl rfl rfl (Nat.le_of_ble_eq_true rfl) rfl dX4_weakest_2 ?_
  refine j_iconst (v := (-1)) C dX4_weakest_5 (by decide) ?_
  refine j_istore_n (lv' := [(1, .int _), (0, .ref _)]) C dX4_weakest_6 rfl (by decide) rfl ?_
  refine j_sipush (v := nI 1297) C dX4_weakest_7 (by decide) ?_
  refine j_istore_n (lv' := [(2, .int _), (1, .int _), (0, .ref _)]) C dX4_weakest_10 rfl (by decide) rfl ?_
  refine j_iconst (v := nI 0) C dX4_weakest_11 (by decide) ?_
  refine j_istore_n (lv' := [(3, .int _), (2, .int _), (1, .int _), (0, .ref _)]) C dX4_weakest_12 rfl (by decide) rfl ?_
  have L13 : ∀ (d i : Nat) (x1 : Int32) (x2 : Int32) (x3 : Int32), i + d = sN σ → x1 = (wkF σ i).1 → x2 = (wkF σ i).2 → x3 = nI i → J X (WM ct a (nI 0) σ ++ wr) (i) (24 * i) 13 [(0, .ref (a 0)), (1, .int x1), (2, .int x2), (3, .int x3)] [] := by
    intro d
    induction d with
    | zero =>
      intro i x1 x2 x3 hd e_x1 e_x2 e_x3 
      subst e_x1
      subst e_x2
      subst e_x3
      have hi9 : i = sN σ := by omega
      rw [hi9]
      refine j_iload_n (i := 3) C dX4_weakest_13 rfl 3 rfl ?_
      refine j_aload_n (i := 0) C dX4_weakest_14 rfl 0 rfl ?_
      refine j_get (Cn := RX4) (T := TX4) (N := 7) (ci := 5) C iX4 rfl (0) rfl 1 (by decide) gw678 rfl rfl dX4_weakest_15 ?_
      refine j_icmp_ge C 54 dX4_weakest_18 (by decide) (fun c18 => ?_) (fun c18 => by first | exact absurd c18 (by decide) | exact absurd c18 (nI_ge (by omega) (by omega)) | exact absurd (nI_le (by omega) (by omega)) c18 | exact absurd c18 (nI_nlt (by omega) (by omega)) | exact absurd (nI_lt (by omega) (by omega)) c18 | exact absurd c18 (nI_nle0 (by omega) (by omega)))
      refine j_iload_n (i := 1) C dX4_weakest_54 rfl 1 rfl ?_
      exact j_ireturn C E rfl dX4_weakest_55 (by have := hi.1; omega) (by have := hi.1; omega) (⟨rfl, rfl⟩)
    | succ d ih =>
      intro i x1 x2 x3 hd e_x1 e_x2 e_x3 
      subst e_x1
      subst e_x2
      subst e_x3
      have hi8 : i < 8 := by have := hi.1; omega
      obtain ⟨hv, e_v⟩ := okI_ix (hi.2 i hi8).1 (by decide)
      refine j_iload_n (i := 3) C dX4_weakest_13 rfl 3 rfl ?_
      refine j_aload_n (i := 0) C dX4_weakest_14 rfl 0 rfl ?_
      refine j_get (Cn := RX4) (T := TX4) (N := 7) (ci := 5) C iX4 rfl (0) rfl 1 (by decide) gw678 rfl rfl dX4_weakest_15 ?_
      refine j_icmp_ge C 54 dX4_weakest_18 (by decide) (fun c18 => by first | exact absurd c18 (by decide) | exact absurd c18 (nI_ge (by omega) (by omega)) | exact absurd (nI_le (by omega) (by omega)) c18 | exact absurd c18 (nI_nlt (by omega) (by omega)) | exact absurd (nI_lt (by omega) (by omega)) c18 | exact absurd c18 (nI_nle0 (by omega) (by omega))) (fun c18 => ?_)
      refine j_aload_n (i := 0) C dX4_weakest_21 rfl 0 rfl ?_
      refine j_iload_n (i := 3) C dX4_weakest_22 rfl 3 rfl ?_
      refine j_aload_n (i := 0) C dX4_weakest_23 rfl 0 rfl ?_
      refine j_iload_n (i := 3) C dX4_weakest_24 rfl 3 rfl ?_
      refine j_iconst (v := nI 0) C dX4_weakest_25 (by decide) ?_
      refine j_callV (nargs := 2) (As := [_, _]) (Cn := RX4) C (0) rfl rfl rfl gw729 gw731 gw24 gw49 (kX4_lo l D ct sa a (nI 0) σ wr _ _ i 0 rfl rfl hi8 (by decide)) gw732 (by decide +kernel) rfl dX4_weakest_26 ⟨Nat.le_of_ble_eq_true rfl, Nat.le_of_ble_eq_true rfl⟩ ⟨by show i + 0 ≤ 8; omega, by show 24 * i + 0 ≤ 192; omega⟩ (Nat.le_of_ble_eq_true rfl) (dki ?_)
      refine j_callV (nargs := 2) (As := [_, _]) (Cn := RX4) C (0) rfl rfl rfl gw839 gw841 gw35 gw49 (kX4_tried l D ct sa a (nI 0) σ wr _ _ i _ rfl e_v hi8 hv) gw842 (by decide +kernel) rfl dX4_weakest_29 ⟨Nat.le_of_ble_eq_true rfl, Nat.le_of_ble_eq_true rfl⟩ ⟨by show i + 1 ≤ 8; omega, by show 24 * i + 24 ≤ 192; omega⟩ (Nat.le_of_ble_eq_true rfl) (dki ?_)
      refine j_istore (lv' := [(4, .int _), (0, .ref _), (1, .int _), (2, .int _), (3, .int _)]) C dX4_weakest_32 (by decide) rfl ?_
      refine j_iload C dX4_weakest_34 0 rfl ?_
      refine j_iload_n (i := 2) C dX4_weakest_36 rfl 3 rfl ?_
      refine j_icmp_lt C 43 dX4_weakest_37 (by decide) (fun c37 => ?_) (fun c37 => ?_)
      · refine j_iload_n (i := 3) C dX4_weakest_43 rfl 4 rfl ?_
        refine j_istore_n (lv' := [(1, .int _), (4, .int _), (0, .ref _), (2, .int _), (3, .int _)]) C dX4_weakest_44 rfl (by decide) rfl ?_
        refine j_iload C dX4_weakest_45 1 rfl ?_
        refine j_istore_n (lv' := [(2, .int _), (1, .int _), (4, .int _), (0, .ref _), (3, .int _)]) C dX4_weakest_47 rfl (by decide) rfl ?_
        refine j_iinc (z := 4) (lv' := [(3, .int _), (2, .int _), (1, .int _), (4, .int _), (0, .ref _)]) C dX4_weakest_48 rfl rfl (by decide) rfl ?_
        refine j_goto C 13 dX4_weakest_51 (by decide) ?_
        exact j_lvs [4, 2, 1, 0] rfl (ih (i + 1) _ _ _ (by omega) (by show _ = (if _ then _ else _ : Int32 × Int32).1; first | rw [if_pos c37] | rw [if_neg c37]) (by show _ = (if _ then _ else _ : Int32 × Int32).2; first | rw [if_pos c37] | rw [if_neg c37]) (nI_1 i))
      · refine j_goto C 48 dX4_weakest_40 (by decide) ?_
        refine j_iinc (z := 4) (lv' := [(3, .int _), (4, .int _), (0, .ref _), (1, .int _), (2, .int _)]) C dX4_weakest_48 rfl rfl (by decide) rfl ?_
        refine j_goto C 13 dX4_weakest_51 (by decide) ?_
        exact j_lvs [2, 3, 4, 0] rfl (ih (i + 1) _ _ _ (by omega) (by show _ = (if _ then _ else _ : Int32 × Int32).1; first | rw [if_pos c37] | rw [if_neg c37]) (by show _ = (if _ then _ else _ : Int32 × Int32).2; first | rw [if_pos c37] | rw [if_neg c37]) (nI_1 i))
  exact j_lvs [3, 2, 1, 0] rfl (L13 (sN σ) (0) _ _ _ (by omega) (rfl) (rfl) (rfl))
set_option maxRecDepth 100000 in
set_option maxHeartbeats 4000000 in
theorem kX4_digest (l : Launch) (D : va_G) (ct : Nat → ClassId) (sa : Nat → Nat) (a : Nat → Nat) (thr : Int32) (σ : St) (wr : va_W) (hi : Inv0 σ) : jM l yX4_digest (Cond.code yX4_digest cX4_digest 5 (Option.some Jvm.ClassFile.FieldType.long) :: GW) (rM 3 0 0 71) D ct sa [.ref (a 0)] (WM ct a thr σ ++ wr) (dK (some (.long (dgF σ))) (WM ct a (nI 0) σ ++ wr)) 0 0 := by
  refine jMX.plain (jBody (own := RX4) (by decide) rfl rfl (Nat.le_of_ble_eq_true rfl) ?_)
  intro X C E T0
  refine j_lv (lv1 := [(0, .ref _)]) rfl ?_
  refine j_aload_n (i := 0) C dX4_digest_0 rfl 0 rfl ?_
  refine j_iconst (v := nI 0) C dX4_digest_1 (by decide) ?_
  refine j_put (Cn := RX4) (T := TX4) (N := 7) (ci := 5) (ws2 := WM ct a (nI 0) σ ++ wr) C iX4 tyX4 tyX4_ok nmX4 rfl (0) rfl 0 (by decide) gw677 rfl rfl rfl rfl rfl (Nat.le_of_ble_eq_true rfl) rfl dX4_digest_2 ?_
  refine j_ldc2 C gw902 dX4_digest_5 ?_
  refine j_lstore_n (lv' := [(1, .long _), (0, .ref _)]) C dX4_digest_8 rfl (by decide) rfl ?_
  refine j_iconst (v := nI 0) C dX4_digest_9 (by decide) ?_
  refine j_istore_n (lv' := [(3, .int _), (1, .long _), (0, .ref _)]) C dX4_digest_10 rfl (by decide) rfl ?_
  have L11 : ∀ (d i : Nat) (x1 : Int64) (x3 : Int32), i + d = 7 → x1 = dLF 1471 (cnd σ) i → x3 = nI i → J X (WM ct a (nI 0) σ ++ wr) (0) (0) 11 [(0, .ref (a 0)), (1, .long x1), (3, .int x3)] [] := by
    intro d
    induction d with
    | zero =>
      intro i x1 x3 hd e_x1 e_x3 
      subst e_x1
      subst e_x3
      have hi9 : i = 7 := by omega
      subst hi9
      refine j_iload_n (i := 3) C dX4_digest_11 rfl 2 rfl ?_
      refine j_bipush (v := nI 7) C dX4_digest_12 (by decide) ?_
      refine j_icmp_ge C 36 dX4_digest_14 (by decide) (fun c14 => ?_) (fun c14 => by first | exact absurd c14 (by decide) | exact absurd c14 (nI_ge (by omega) (by omega)) | exact absurd (nI_le (by omega) (by omega)) c14 | exact absurd c14 (nI_nlt (by omega) (by omega)) | exact absurd (nI_lt (by omega) (by omega)) c14 | exact absurd c14 (nI_nle0 (by omega) (by omega)))
      refine j_iconst (v := nI 0) C dX4_digest_36 (by decide) ?_
      refine j_istore_n (lv' := [(3, .int _), (0, .ref _), (1, .long _)]) C dX4_digest_37 rfl (by decide) rfl ?_
      have L38 : ∀ (d i : Nat) (x1 : Int64) (x3 : Int32), i + d = 3 → x1 = dRF (dLF 1471 (cnd σ) 7) σ i → x3 = nI i → J X (WM ct a (nI 0) σ ++ wr) (0) (0) 38 [(0, .ref (a 0)), (1, .long x1), (3, .int x3)] [] := by
        intro d
        induction d with
        | zero =>
          intro i x1 x3 hd e_x1 e_x3 
          subst e_x1
          subst e_x3
          have hi9 : i = 3 := by omega
          subst hi9
          refine j_iload_n (i := 3) C dX4_digest_38 rfl 2 rfl ?_
          refine j_iconst (v := nI 3) C dX4_digest_39 (by decide) ?_
          refine j_icmp_ge C 80 dX4_digest_40 (by decide) (fun c40 => ?_) (fun c40 => by first | exact absurd c40 (by decide) | exact absurd c40 (nI_ge (by omega) (by omega)) | exact absurd (nI_le (by omega) (by omega)) c40 | exact absurd c40 (nI_nlt (by omega) (by omega)) | exact absurd (nI_lt (by omega) (by omega)) c40 | exact absurd c40 (nI_nle0 (by omega) (by omega)))
          refine j_iconst (v := nI 0) C dX4_digest_80 (by decide) ?_
          refine j_istore_n (lv' := [(3, .int _), (0, .ref _), (1, .long _)]) C dX4_digest_81 rfl (by decide) rfl ?_
          have L82 : ∀ (d i : Nat) (x1 : Int64) (x3 : Int32), i + d = sN σ → x1 = dKF (dRF (dLF 1471 (cnd σ) 7) σ 3) σ i → x3 = nI i → J X (WM ct a (nI 0) σ ++ wr) (0) (0) 82 [(0, .ref (a 0)), (1, .long x1), (3, .int x3)] [] := by
            intro d
            induction d with
            | zero =>
              intro i x1 x3 hd e_x1 e_x3 
              subst e_x1
              subst e_x3
              have hi9 : i = sN σ := by omega
              rw [hi9]
              refine j_iload_n (i := 3) C dX4_digest_82 rfl 2 rfl ?_
              refine j_aload_n (i := 0) C dX4_digest_83 rfl 0 rfl ?_
              refine j_get (Cn := RX4) (T := TX4) (N := 7) (ci := 5) C iX4 rfl (0) rfl 1 (by decide) gw678 rfl rfl dX4_digest_84 ?_
              refine j_icmp_ge C 163 dX4_digest_87 (by decide) (fun c87 => ?_) (fun c87 => by first | exact absurd c87 (by decide) | exact absurd c87 (nI_ge (by omega) (by omega)) | exact absurd (nI_le (by omega) (by omega)) c87 | exact absurd c87 (nI_nlt (by omega) (by omega)) | exact absurd (nI_lt (by omega) (by omega)) c87 | exact absurd c87 (nI_nle0 (by omega) (by omega)))
              refine j_lload_n (i := 1) C dX4_digest_163 rfl 1 rfl ?_
              exact j_lreturn C E dX4_digest_164 (Nat.le_of_ble_eq_true rfl) (Nat.le_of_ble_eq_true rfl) (⟨rfl, rfl⟩)
            | succ d ih =>
              intro i x1 x3 hd e_x1 e_x3 
              subst e_x1
              subst e_x3
              have hi8 : i < 8 := by have := hi.1; omega
              refine j_iload_n (i := 3) C dX4_digest_82 rfl 2 rfl ?_
              refine j_aload_n (i := 0) C dX4_digest_83 rfl 0 rfl ?_
              refine j_get (Cn := RX4) (T := TX4) (N := 7) (ci := 5) C iX4 rfl (0) rfl 1 (by decide) gw678 rfl rfl dX4_digest_84 ?_
              refine j_icmp_ge C 163 dX4_digest_87 (by decide) (fun c87 => by first | exact absurd c87 (by decide) | exact absurd c87 (nI_ge (by omega) (by omega)) | exact absurd (nI_le (by omega) (by omega)) c87 | exact absurd c87 (nI_nlt (by omega) (by omega)) | exact absurd (nI_lt (by omega) (by omega)) c87 | exact absurd c87 (nI_nle0 (by omega) (by omega))) (fun c87 => ?_)
              refine j_iconst (v := nI 0) C dX4_digest_90 (by decide) ?_
              refine j_istore (lv' := [(4, .int _), (0, .ref _), (1, .long _), (3, .int _)]) C dX4_digest_91 (by decide) rfl ?_
              have L93 : ∀ (d t : Nat) (x1 : Int64) (x4 : Int32), t + d = 6 → x1 = dLF (dKF (dRF (dLF 1471 (cnd σ) 7) σ 3) σ i) (tld σ i) t → x4 = nI t → J X (WM ct a (nI 0) σ ++ wr) (0) (0) 93 [(0, .ref (a 0)), (1, .long x1), (3, .int (nI i)), (4, .int x4)] [] := by
                intro d
                induction d with
                | zero =>
                  intro t x1 x4 hd e_x1 e_x4 
                  subst e_x1
                  subst e_x4
                  have ht : t = 6 := by omega
                  subst ht
                  refine j_iload C dX4_digest_93 3 rfl ?_
                  refine j_bipush (v := nI 6) C dX4_digest_95 (by decide) ?_
                  refine j_icmp_ge C 121 dX4_digest_97 (by decide) (fun c97 => ?_) (fun c97 => by first | exact absurd c97 (by decide) | exact absurd c97 (nI_ge (by omega) (by omega)) | exact absurd (nI_le (by omega) (by omega)) c97 | exact absurd c97 (nI_nlt (by omega) (by omega)) | exact absurd (nI_lt (by omega) (by omega)) c97 | exact absurd c97 (nI_nle0 (by omega) (by omega)))
                  refine j_iconst (v := nI 0) C dX4_digest_121 (by decide) ?_
                  refine j_istore (lv' := [(4, .int _), (0, .ref _), (1, .long _), (3, .int _)]) C dX4_digest_122 (by decide) rfl ?_
                  have L124 : ∀ (d t : Nat) (x1 : Int64) (x4 : Int32), t + d = 24 → x1 = dLF (dLF (dKF (dRF (dLF 1471 (cnd σ) 7) σ 3) σ i) (tld σ i) 6) (fun q => sW σ (24 * i + q)) t → x4 = nI t → J X (WM ct a (nI 0) σ ++ wr) (0) (0) 124 [(0, .ref (a 0)), (1, .long x1), (3, .int (nI i)), (4, .int x4)] [] := by
                    intro d
                    induction d with
                    | zero =>
                      intro t x1 x4 hd e_x1 e_x4 
                      subst e_x1
                      subst e_x4
                      have ht : t = 24 := by omega
                      subst ht
                      refine j_iload C dX4_digest_124 3 rfl ?_
                      refine j_bipush (v := nI 24) C dX4_digest_126 (by decide) ?_
                      refine j_icmp_ge C 157 dX4_digest_128 (by decide) (fun c128 => ?_) (fun c128 => by first | exact absurd c128 (by decide) | exact absurd c128 (nI_ge (by omega) (by omega)) | exact absurd (nI_le (by omega) (by omega)) c128 | exact absurd c128 (nI_nlt (by omega) (by omega)) | exact absurd (nI_lt (by omega) (by omega)) c128 | exact absurd c128 (nI_nle0 (by omega) (by omega)))
                      refine j_iinc (z := 2) (lv' := [(3, .int _), (0, .ref _), (1, .long _), (4, .int _)]) C dX4_digest_157 rfl rfl (by decide) rfl ?_
                      refine j_goto C 82 dX4_digest_160 (by decide) ?_
                      exact j_lvs [1, 2, 0] rfl (ih (i + 1) _ _ (by omega) (rfl) (nI_1 i))
                    | succ d ih =>
                      intro t x1 x4 hd e_x1 e_x4 
                      subst e_x1
                      subst e_x4
                      refine j_iload C dX4_digest_124 3 rfl ?_
                      refine j_bipush (v := nI 24) C dX4_digest_126 (by decide) ?_
                      refine j_icmp_ge C 157 dX4_digest_128 (by decide) (fun c128 => by first | exact absurd c128 (by decide) | exact absurd c128 (nI_ge (by omega) (by omega)) | exact absurd (nI_le (by omega) (by omega)) c128 | exact absurd c128 (nI_nlt (by omega) (by omega)) | exact absurd (nI_lt (by omega) (by omega)) c128 | exact absurd c128 (nI_nle0 (by omega) (by omega))) (fun c128 => ?_)
                      refine j_lload_n (i := 1) C dX4_digest_131 rfl 1 rfl ?_
                      refine j_ldc2 C gw903 dX4_digest_132 ?_
                      refine j_lmul C dX4_digest_135 ?_
                      refine j_aload_n (i := 0) C dX4_digest_136 rfl 0 rfl ?_
                      refine j_get (Cn := RX4) (T := TX4) (N := 7) (ci := 5) C iX4 rfl (0) rfl 5 (by decide) gw682 rfl rfl dX4_digest_137 ?_
                      refine j_bipush (v := nI 24) C dX4_digest_140 (by decide) ?_
                      refine j_iload_n (i := 3) C dX4_digest_142 rfl 2 rfl ?_
                      refine j_imul C dX4_digest_143 ?_
                      refine j_iload C dX4_digest_144 3 rfl ?_
                      refine j_iadd C dX4_digest_146 ?_
                      refine j_iald C (2) rfl (24 * i + t) (by rw [pk_mul, nI_add]) (by omega) (by decide) dX4_digest_147 ?_
                      refine j_i2l C dX4_digest_148 rfl ?_
                      refine j_ladd C dX4_digest_149 ?_
                      refine j_lstore_n (lv' := [(1, .long _), (0, .ref _), (3, .int _), (4, .int _)]) C dX4_digest_150 rfl (by decide) rfl ?_
                      refine j_iinc (z := 3) (lv' := [(4, .int _), (1, .long _), (0, .ref _), (3, .int _)]) C dX4_digest_151 rfl rfl (by decide) rfl ?_
                      refine j_goto C 124 dX4_digest_154 (by decide) ?_
                      exact j_lvs [2, 1, 3, 0] rfl (ih (t + 1) _ _ (by omega) (rfl) (nI_1 t))
                  exact j_lvs [1, 2, 3, 0] rfl (L124 (24) (0) _ _ (by omega) (rfl) (rfl))
                | succ d ih =>
                  intro t x1 x4 hd e_x1 e_x4 
                  subst e_x1
                  subst e_x4
                  refine j_iload C dX4_digest_93 3 rfl ?_
                  refine j_bipush (v := nI 6) C dX4_digest_95 (by decide) ?_
                  refine j_icmp_ge C 121 dX4_digest_97 (by decide) (fun c97 => by first | exact absurd c97 (by decide) | exact absurd c97 (nI_ge (by omega) (by omega)) | exact absurd (nI_le (by omega) (by omega)) c97 | exact absurd c97 (nI_nlt (by omega) (by omega)) | exact absurd (nI_lt (by omega) (by omega)) c97 | exact absurd c97 (nI_nle0 (by omega) (by omega))) (fun c97 => ?_)
                  refine j_lload_n (i := 1) C dX4_digest_100 rfl 1 rfl ?_
                  refine j_ldc2 C gw903 dX4_digest_101 ?_
                  refine j_lmul C dX4_digest_104 ?_
                  refine j_aload_n (i := 0) C dX4_digest_105 rfl 0 rfl ?_
                  refine j_iload_n (i := 3) C dX4_digest_106 rfl 2 rfl ?_
                  refine j_iload C dX4_digest_107 3 rfl ?_
                  refine j_callV (nargs := 2) (As := [_, _]) (Cn := RX4) C (0) rfl rfl rfl gw793 gw795 gw30 gw49 (kX4_lockTold l D ct sa a (nI 0) σ wr _ _ i t rfl rfl hi8 (by omega)) gw796 (by decide +kernel) rfl dX4_digest_109 ⟨Nat.le_of_ble_eq_true rfl, Nat.le_of_ble_eq_true rfl⟩ ⟨Nat.le_of_ble_eq_true rfl, Nat.le_of_ble_eq_true rfl⟩ (Nat.le_of_ble_eq_true rfl) (dki ?_)
                  refine j_i2l C dX4_digest_112 rfl ?_
                  refine j_ladd C dX4_digest_113 ?_
                  refine j_lstore_n (lv' := [(1, .long _), (0, .ref _), (3, .int _), (4, .int _)]) C dX4_digest_114 rfl (by decide) rfl ?_
                  refine j_iinc (z := 3) (lv' := [(4, .int _), (1, .long _), (0, .ref _), (3, .int _)]) C dX4_digest_115 rfl rfl (by decide) rfl ?_
                  refine j_goto C 93 dX4_digest_118 (by decide) ?_
                  exact j_lvs [2, 1, 3, 0] rfl (ih (t + 1) _ _ (by omega) (rfl) (nI_1 t))
              exact j_lvs [1, 2, 3, 0] rfl (L93 (6) (0) _ _ (by omega) (rfl) (rfl))
          exact j_lvs [1, 2, 0] rfl (L82 (sN σ) (0) _ _ (by omega) (rfl) (rfl))
        | succ d ih =>
          intro i x1 x3 hd e_x1 e_x3 
          subst e_x1
          subst e_x3
          refine j_iload_n (i := 3) C dX4_digest_38 rfl 2 rfl ?_
          refine j_iconst (v := nI 3) C dX4_digest_39 (by decide) ?_
          refine j_icmp_ge C 80 dX4_digest_40 (by decide) (fun c40 => by first | exact absurd c40 (by decide) | exact absurd c40 (nI_ge (by omega) (by omega)) | exact absurd (nI_le (by omega) (by omega)) c40 | exact absurd c40 (nI_nlt (by omega) (by omega)) | exact absurd (nI_lt (by omega) (by omega)) c40 | exact absurd c40 (nI_nle0 (by omega) (by omega))) (fun c40 => ?_)
          refine j_iconst (v := nI 0) C dX4_digest_43 (by decide) ?_
          refine j_istore (lv' := [(4, .int _), (0, .ref _), (1, .long _), (3, .int _)]) C dX4_digest_44 (by decide) rfl ?_
          have L46 : ∀ (d t : Nat) (x1 : Int64) (x4 : Int32), t + d = 6 → x1 = dLF (dRF (dLF 1471 (cnd σ) 7) σ i) (rtl σ i) t → x4 = nI t → J X (WM ct a (nI 0) σ ++ wr) (0) (0) 46 [(0, .ref (a 0)), (1, .long x1), (3, .int (nI i)), (4, .int x4)] [] := by
            intro d
            induction d with
            | zero =>
              intro t x1 x4 hd e_x1 e_x4 
              subst e_x1
              subst e_x4
              have ht : t = 6 := by omega
              subst ht
              refine j_iload C dX4_digest_46 3 rfl ?_
              refine j_bipush (v := nI 6) C dX4_digest_48 (by decide) ?_
              refine j_icmp_ge C 74 dX4_digest_50 (by decide) (fun c50 => ?_) (fun c50 => by first | exact absurd c50 (by decide) | exact absurd c50 (nI_ge (by omega) (by omega)) | exact absurd (nI_le (by omega) (by omega)) c50 | exact absurd c50 (nI_nlt (by omega) (by omega)) | exact absurd (nI_lt (by omega) (by omega)) c50 | exact absurd c50 (nI_nle0 (by omega) (by omega)))
              refine j_iinc (z := 2) (lv' := [(3, .int _), (0, .ref _), (1, .long _), (4, .int _)]) C dX4_digest_74 rfl rfl (by decide) rfl ?_
              refine j_goto C 38 dX4_digest_77 (by decide) ?_
              exact j_lvs [1, 2, 0] rfl (ih (i + 1) _ _ (by omega) (rfl) (nI_1 i))
            | succ d ih =>
              intro t x1 x4 hd e_x1 e_x4 
              subst e_x1
              subst e_x4
              refine j_iload C dX4_digest_46 3 rfl ?_
              refine j_bipush (v := nI 6) C dX4_digest_48 (by decide) ?_
              refine j_icmp_ge C 74 dX4_digest_50 (by decide) (fun c50 => by first | exact absurd c50 (by decide) | exact absurd c50 (nI_ge (by omega) (by omega)) | exact absurd (nI_le (by omega) (by omega)) c50 | exact absurd c50 (nI_nlt (by omega) (by omega)) | exact absurd (nI_lt (by omega) (by omega)) c50 | exact absurd c50 (nI_nle0 (by omega) (by omega))) (fun c50 => ?_)
              refine j_lload_n (i := 1) C dX4_digest_53 rfl 1 rfl ?_
              refine j_ldc2 C gw903 dX4_digest_54 ?_
              refine j_lmul C dX4_digest_57 ?_
              refine j_aload_n (i := 0) C dX4_digest_58 rfl 0 rfl ?_
              refine j_iload_n (i := 3) C dX4_digest_59 rfl 2 rfl ?_
              refine j_iload C dX4_digest_60 3 rfl ?_
              refine j_callV (nargs := 2) (As := [_, _]) (Cn := RX4) C (0) rfl rfl rfl gw813 gw815 gw33 gw49 (kX4_rackTold l D ct sa a (nI 0) σ wr _ _ i t hi.1 rfl rfl (by omega) (by omega)) gw816 (by decide +kernel) rfl dX4_digest_62 ⟨Nat.le_of_ble_eq_true rfl, Nat.le_of_ble_eq_true rfl⟩ ⟨Nat.le_of_ble_eq_true rfl, Nat.le_of_ble_eq_true rfl⟩ (Nat.le_of_ble_eq_true rfl) (dki ?_)
              refine j_i2l C dX4_digest_65 rfl ?_
              refine j_ladd C dX4_digest_66 ?_
              refine j_lstore_n (lv' := [(1, .long _), (0, .ref _), (3, .int _), (4, .int _)]) C dX4_digest_67 rfl (by decide) rfl ?_
              refine j_iinc (z := 3) (lv' := [(4, .int _), (1, .long _), (0, .ref _), (3, .int _)]) C dX4_digest_68 rfl rfl (by decide) rfl ?_
              refine j_goto C 46 dX4_digest_71 (by decide) ?_
              exact j_lvs [2, 1, 3, 0] rfl (ih (t + 1) _ _ (by omega) (rfl) (nI_1 t))
          exact j_lvs [1, 2, 3, 0] rfl (L46 (6) (0) _ _ (by omega) (rfl) (rfl))
      exact j_lvs [1, 2, 0] rfl (L38 (3) (0) _ _ (by omega) (rfl) (rfl))
    | succ d ih =>
      intro i x1 x3 hd e_x1 e_x3 
      subst e_x1
      subst e_x3
      refine j_iload_n (i := 3) C dX4_digest_11 rfl 2 rfl ?_
      refine j_bipush (v := nI 7) C dX4_digest_12 (by decide) ?_
      refine j_icmp_ge C 36 dX4_digest_14 (by decide) (fun c14 => by first | exact absurd c14 (by decide) | exact absurd c14 (nI_ge (by omega) (by omega)) | exact absurd (nI_le (by omega) (by omega)) c14 | exact absurd c14 (nI_nlt (by omega) (by omega)) | exact absurd (nI_lt (by omega) (by omega)) c14 | exact absurd c14 (nI_nle0 (by omega) (by omega))) (fun c14 => ?_)
      refine j_lload_n (i := 1) C dX4_digest_17 rfl 1 rfl ?_
      refine j_ldc2 C gw903 dX4_digest_18 ?_
      refine j_lmul C dX4_digest_21 ?_
      refine j_aload_n (i := 0) C dX4_digest_22 rfl 0 rfl ?_
      refine j_iload_n (i := 3) C dX4_digest_23 rfl 2 rfl ?_
      refine j_callV (nargs := 1) (As := [_]) (Cn := RX4) C (0) rfl rfl rfl gw821 gw823 gw34 gw49 (kX4_counted l D ct sa a (nI 0) σ wr _ i hi.1 rfl (by omega)) gw824 (by decide +kernel) rfl dX4_digest_24 ⟨Nat.le_of_ble_eq_true rfl, Nat.le_of_ble_eq_true rfl⟩ ⟨Nat.le_of_ble_eq_true rfl, Nat.le_of_ble_eq_true rfl⟩ (Nat.le_of_ble_eq_true rfl) (dki ?_)
      refine j_i2l C dX4_digest_27 rfl ?_
      refine j_ladd C dX4_digest_28 ?_
      refine j_lstore_n (lv' := [(1, .long _), (0, .ref _), (3, .int _)]) C dX4_digest_29 rfl (by decide) rfl ?_
      refine j_iinc (z := 2) (lv' := [(3, .int _), (1, .long _), (0, .ref _)]) C dX4_digest_30 rfl rfl (by decide) rfl ?_
      refine j_goto C 11 dX4_digest_33 (by decide) ?_
      exact j_lvs [2, 1, 0] rfl (ih (i + 1) _ _ (by omega) (rfl) (nI_1 i))
  exact j_lvs [2, 1, 0] rfl (L11 (7) (0) _ _ (by omega) (rfl) (rfl))
