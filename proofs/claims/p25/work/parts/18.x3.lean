set_option maxRecDepth 100000 in
set_option maxHeartbeats 4000000 in
theorem kX2_init (l : Launch) (D : va_G) (ct : Nat → ClassId) (sa : Nat → Nat) (ws : va_W) (k h : Nat) (hk : ws[k]? = some (h, .inr (3, [.null]))) : jM l yX2_init (Cond.code yX2_init cX2_init 4 (Option.none : Option Jvm.ClassFile.FieldType) :: GW) (rM 1 6 110 20) D ct sa [.ref h] (ws) (fun r w => ∃ (tt : Nat) (rw : Nat → Nat), r = none ∧ w = (ws.set k (h, .inr (3, [.ref tt])) ++ ((tt, .inl (ct 3, 5, .inr (.inr (.inr (.inr (fun i => if i < 5 then some (rw i) else none)))))) :: TR ct rw (tbl 5 0)))) 6 110 := by
  refine jMX.plain (jBodyN (own := RX2) (by decide) rfl rfl (Nat.le_of_ble_eq_true rfl) ?_)
  intro X N0 C E T0
  refine j_lv (lv1 := [(0, .ref _)]) rfl ?_
  refine j_aload_n (i := 0) C dX2_init_0 rfl 0 rfl ?_
  refine j_objInit C gw101 gw48 gw49 ⟨Nat.le_of_ble_eq_true rfl, Nat.le_of_ble_eq_true rfl⟩ dX2_init_1 ?_
  refine j_aload_n (i := 0) C dX2_init_4 rfl 0 rfl ?_
  refine j_iconst (v := nI 5) C dX2_init_5 (by decide) ?_
  refine j_bipush (v := nI 21) C dX2_init_6 (by decide) ?_
  refine j_mna C gw102 gw108 (Nat.le_of_ble_eq_true rfl) (Nat.le_of_ble_eq_true rfl) dX2_init_8 (fun tt rw => ?_)
  refine j_ws (ws1 := ws ++ ((tt, .inl (ct 3, 5, .inr (.inr (.inr (.inr (fun i => if i < 5 then some (rw i) else none)))))) :: TR ct rw (fun _ _ => nI 0))) rfl ?_
  refine j_putF (Cn := RX2) (T := TX2) (N := 1) (ci := 3) (ws2 := (ws.set k (h, .inr (3, [.ref tt])) ++ ((tt, .inl (ct 3, 5, .inr (.inr (.inr (.inr (fun i => if i < 5 then some (rw i) else none)))))) :: TR ct rw (fun _ _ => nI 0)))) C N0 iX2 tyX2 tyX2_ok nmX2 rfl (k) (app_at hk) 0 (by decide) gw104 rfl rfl rfl rfl rfl rfl (Nat.le_of_ble_eq_true rfl) (app_set hk) dX2_init_12 ?_
  refine j_aload_n (i := 0) C dX2_init_15 rfl 0 rfl ?_
  refine j_get (Cn := RX2) (T := TX2) (N := 1) (ci := 3) C iX2 rfl (k) (app_at (set_eq hk)) 0 (by decide) gw104 rfl rfl dX2_init_16 ?_
  refine j_iconst (v := nI 0) C dX2_init_19 (by decide) ?_
  refine j_aald C ((ws.set k (h, .inr (3, [.ref tt]))).length) 3 th_at0 rfl rfl (0) rfl (by decide) (by decide) (if_pos (by decide)) dX2_init_20 ?_
  refine j_iconst (v := nI 0) C dX2_init_21 (by decide) ?_
  refine j_iconst (v := nI 1) C dX2_init_22 (by decide) ?_
  refine j_iast (ws2 := (ws.set k (h, .inr (3, [.ref tt])) ++ ((tt, .inl (ct 3, 5, .inr (.inr (.inr (.inr (fun i => if i < 5 then some (rw i) else none)))))) :: TR ct rw (tbl 1 0)))) C ((ws.set k (h, .inr (3, [.ref tt]))).length + 1 + (0)) (th_at (TR_at ct rw _ (i := 0) (by decide))) (0) rfl (by decide) (by decide) (by rw [th_set, TR_set _ _ _ _ (by decide), tb_0]) dX2_init_23 ?_
  refine j_iconst (v := nI 1) C dX2_init_24 (by decide) ?_
  refine j_istore_n (lv' := [(1, .int _), (0, .ref _)]) C dX2_init_25 rfl (by decide) rfl ?_
  have L26 : ∀ (d i : Nat) (x1 : Int32) (w : va_W), i + d = 4 → x1 = nI (i + 1) → w = (ws.set k (h, .inr (3, [.ref tt])) ++ ((tt, .inl (ct 3, 5, .inr (.inr (.inr (.inr (fun i => if i < 5 then some (rw i) else none)))))) :: TR ct rw (tbl (i + 1) 0))) → J X (w) (0 + 6) (0 + 110) 26 [(0, .ref h), (1, .int x1)] [] := by
    intro d
    induction d with
    | zero =>
      intro i x1 w hd e_x1 e_w 
      subst e_x1
      subst e_w
      have hi9 : i = 4 := by omega
      subst hi9
      refine j_iload_n (i := 1) C dX2_init_26 rfl 1 rfl ?_
      refine j_iconst (v := nI 4) C dX2_init_27 (by decide) ?_
      refine j_icmp_gt C 93 dX2_init_28 (by decide) (fun c28 => ?_) (fun c28 => by first | exact absurd c28 (by decide) | exact absurd c28 (nI_ge (by omega) (by omega)) | exact absurd (nI_le (by omega) (by omega)) c28 | exact absurd c28 (nI_nlt (by omega) (by omega)) | exact absurd (nI_lt (by omega) (by omega)) c28 | exact absurd c28 (nI_nle0 (by omega) (by omega)))
      exact j_return C E dX2_init_93 (Nat.le_of_ble_eq_true rfl) (Nat.le_of_ble_eq_true rfl) (⟨tt, rw, rfl, rfl⟩)
    | succ d ih =>
      intro i x1 w hd e_x1 e_w 
      subst e_x1
      subst e_w
      refine j_iload_n (i := 1) C dX2_init_26 rfl 1 rfl ?_
      refine j_iconst (v := nI 4) C dX2_init_27 (by decide) ?_
      refine j_icmp_gt C 93 dX2_init_28 (by decide) (fun c28 => by first | exact absurd c28 (by decide) | exact absurd c28 (nI_ge (by omega) (by omega)) | exact absurd (nI_le (by omega) (by omega)) c28 | exact absurd c28 (nI_nlt (by omega) (by omega)) | exact absurd (nI_lt (by omega) (by omega)) c28 | exact absurd c28 (nI_nle0 (by omega) (by omega))) (fun c28 => ?_)
      refine j_iconst (v := nI 0) C dX2_init_31 (by decide) ?_
      refine j_istore_n (lv' := [(2, .int _), (0, .ref _), (1, .int _)]) C dX2_init_32 rfl (by decide) rfl ?_
      have L33 : ∀ (d t : Nat) (x2 : Int32) (w : va_W), t + d = 21 → x2 = nI t → w = (ws.set k (h, .inr (3, [.ref tt])) ++ ((tt, .inl (ct 3, 5, .inr (.inr (.inr (.inr (fun i => if i < 5 then some (rw i) else none)))))) :: TR ct rw (tbl (i + 1) t))) → J X (w) (0 + 6) (0 + 110) 33 [(0, .ref h), (1, .int (nI (i + 1))), (2, .int x2)] [] := by
        intro d
        induction d with
        | zero =>
          intro t x2 w hd e_x2 e_w 
          subst e_x2
          subst e_w
          have ht : t = 21 := by omega
          subst ht
          refine j_iload_n (i := 2) C dX2_init_33 rfl 2 rfl ?_
          refine j_bipush (v := nI 20) C dX2_init_34 (by decide) ?_
          refine j_icmp_gt C 87 dX2_init_36 (by decide) (fun c36 => ?_) (fun c36 => by first | exact absurd c36 (by decide) | exact absurd c36 (nI_ge (by omega) (by omega)) | exact absurd (nI_le (by omega) (by omega)) c36 | exact absurd c36 (nI_nlt (by omega) (by omega)) | exact absurd (nI_lt (by omega) (by omega)) c36 | exact absurd c36 (nI_nle0 (by omega) (by omega)))
          refine j_iinc (z := 1) (lv' := [(1, .int _), (0, .ref _), (2, .int _)]) C dX2_init_87 rfl rfl (by decide) rfl ?_
          refine j_goto C 26 dX2_init_90 (by decide) ?_
          exact j_lvs [1, 0] rfl (ih (i + 1) _ _ (by omega) (nI_1 (i + 1)) (by rw [tb_r _ (by omega)]))
        | succ d ih =>
          intro t x2 w hd e_x2 e_w 
          subst e_x2
          subst e_w
          refine j_iload_n (i := 2) C dX2_init_33 rfl 2 rfl ?_
          refine j_bipush (v := nI 20) C dX2_init_34 (by decide) ?_
          refine j_icmp_gt C 87 dX2_init_36 (by decide) (fun c36 => by first | exact absurd c36 (by decide) | exact absurd c36 (nI_ge (by omega) (by omega)) | exact absurd (nI_le (by omega) (by omega)) c36 | exact absurd c36 (nI_nlt (by omega) (by omega)) | exact absurd (nI_lt (by omega) (by omega)) c36 | exact absurd c36 (nI_nle0 (by omega) (by omega))) (fun c36 => ?_)
          refine j_iconst (v := nI 0) C dX2_init_39 (by decide) ?_
          refine j_istore_n (lv' := [(3, .int _), (0, .ref _), (1, .int _), (2, .int _)]) C dX2_init_40 rfl (by decide) rfl ?_
          have L41 : ∀ (d p : Nat) (x3 : Int32) (w : va_W), p + d = mnP t → x3 = nI p → w = (ws.set k (h, .inr (3, [.ref tt])) ++ ((tt, .inl (ct 3, 5, .inr (.inr (.inr (.inr (fun i => if i < 5 then some (rw i) else none)))))) :: TR ct rw (tbP (i + 1) t p))) → J X (w) (0 + 6) (0 + 110) 41 [(0, .ref h), (1, .int (nI (i + 1))), (2, .int (nI t)), (3, .int x3)] [] := by
            intro d
            induction d with
            | zero =>
              intro p x3 w hd e_x3 e_w 
              subst e_x3
              subst e_w
              have hm := mnP_le t
              have hp : p = mnP t := by omega
              rw [hp, tb_pe _ _ (Nat.succ_pos i)]
              have hm2 : mnP t ≤ 6 := hm.1
              refine j_iload_n (i := 3) C dX2_init_41 rfl 3 rfl ?_
              refine j_bipush (v := nI 6) C dX2_init_42 (by decide) ?_
              refine j_icmp_ge C 81 dX2_init_44 (by decide) (fun c44 => ?_) (fun c44 => ?_)
              · refine j_iinc (z := 2) (lv' := [(2, .int _), (0, .ref _), (1, .int _), (3, .int _)]) C dX2_init_81 rfl rfl (by decide) rfl ?_
                refine j_goto C 33 dX2_init_84 (by decide) ?_
                exact j_lvs [1, 2, 0] rfl (ih (t + 1) _ _ (by omega) (nI_1 t) (rfl))
              · refine j_iload_n (i := 3) C dX2_init_47 rfl 3 rfl ?_
                refine j_iload_n (i := 2) C dX2_init_48 rfl 2 rfl ?_
                refine j_icmp_gt C 81 dX2_init_49 (by decide) (fun c49 => ?_) (fun c49 => by first | exact absurd (nI_lt (by omega) (by omega)) c49 | (exfalso; rcases hm.2.2 with e | e <;> first | exact c44 (nI_le (by omega) (by omega)) | exact c49 (nI_lt (by omega) (by omega))))
                refine j_iinc (z := 2) (lv' := [(2, .int _), (0, .ref _), (1, .int _), (3, .int _)]) C dX2_init_81 rfl rfl (by decide) rfl ?_
                refine j_goto C 33 dX2_init_84 (by decide) ?_
                exact j_lvs [1, 2, 0] rfl (ih (t + 1) _ _ (by omega) (nI_1 t) (rfl))
            | succ d ih =>
              intro p x3 w hd e_x3 e_w 
              subst e_x3
              subst e_w
              have hm := mnP_le t
              refine j_iload_n (i := 3) C dX2_init_41 rfl 3 rfl ?_
              refine j_bipush (v := nI 6) C dX2_init_42 (by decide) ?_
              refine j_icmp_ge C 81 dX2_init_44 (by decide) (fun c44 => by first | exact absurd c44 (by decide) | exact absurd c44 (nI_ge (by omega) (by omega)) | exact absurd (nI_le (by omega) (by omega)) c44) (fun c44 => ?_)
              refine j_iload_n (i := 3) C dX2_init_47 rfl 3 rfl ?_
              refine j_iload_n (i := 2) C dX2_init_48 rfl 2 rfl ?_
              refine j_icmp_gt C 81 dX2_init_49 (by decide) (fun c49 => by first | exact absurd c49 (nI_nlt (by omega) (by omega))) (fun c49 => ?_)
              refine j_aload_n (i := 0) C dX2_init_52 rfl 0 rfl ?_
              refine j_get (Cn := RX2) (T := TX2) (N := 1) (ci := 3) C iX2 rfl (k) (app_at (set_eq hk)) 0 (by decide) gw104 rfl rfl dX2_init_53 ?_
              refine j_iload_n (i := 1) C dX2_init_56 rfl 1 rfl ?_
              refine j_aald C ((ws.set k (h, .inr (3, [.ref tt]))).length) 3 th_at0 rfl rfl (i + 1) rfl (by omega) (by decide) (if_pos (by omega)) dX2_init_57 ?_
              refine j_iload_n (i := 2) C dX2_init_58 rfl 2 rfl ?_
              refine j_dup2 C dX2_init_59 rfl rfl ?_
              refine j_iald C ((ws.set k (h, .inr (3, [.ref tt]))).length + 1 + (i + 1)) (th_at (TR_at ct rw _ (i := i + 1) (by omega))) (t) rfl (by omega) (by decide) dX2_init_60 ?_
              refine j_aload_n (i := 0) C dX2_init_61 rfl 0 rfl ?_
              refine j_get (Cn := RX2) (T := TX2) (N := 1) (ci := 3) C iX2 rfl (k) (app_at (set_eq hk)) 0 (by decide) gw104 rfl rfl dX2_init_62 ?_
              refine j_iload_n (i := 1) C dX2_init_65 rfl 1 rfl ?_
              refine j_iconst (v := nI 1) C dX2_init_66 (by decide) ?_
              refine j_isub C dX2_init_67 ?_
              refine j_st (st1 := .int (nI i) :: _) (by rw [← nI_add]; exact congrArg (fun z => Value.int z :: _) (Int32.add_sub_cancel _ _)) ?_
              refine j_aald C ((ws.set k (h, .inr (3, [.ref tt]))).length) 3 th_at0 rfl rfl (i) rfl (by omega) (by decide) (if_pos (by omega)) dX2_init_68 ?_
              refine j_iload_n (i := 2) C dX2_init_69 rfl 2 rfl ?_
              refine j_iload_n (i := 3) C dX2_init_70 rfl 3 rfl ?_
              refine j_isub C dX2_init_71 ?_
              refine j_st (st1 := .int (nI (t - p)) :: _) (by rw [pk_sub (by omega)]) ?_
              refine j_iald C ((ws.set k (h, .inr (3, [.ref tt]))).length + 1 + (i)) (th_at (TR_at ct rw _ (i := i) (by omega))) (t - p) rfl (by omega) (by decide) dX2_init_72 ?_
              refine j_iadd C dX2_init_73 ?_
              refine j_iast (ws2 := (ws.set k (h, .inr (3, [.ref tt])) ++ ((tt, .inl (ct 3, 5, .inr (.inr (.inr (.inr (fun i => if i < 5 then some (rw i) else none)))))) :: TR ct rw (tbP (i + 1) t (p + 1))))) C ((ws.set k (h, .inr (3, [.ref tt]))).length + 1 + (i + 1)) (th_at (TR_at ct rw _ (i := i + 1) (by omega))) (t) rfl (by omega) (by decide) (by rw [th_set, TR_set _ _ _ _ (by omega), tb_v, tb_pr _ _ _ _ _ (Nat.lt_succ_self i)]; exact congrArg (fun T => _ ++ (_ :: TR ct rw T)) (tb_ps (i + 1) t p (by omega))) dX2_init_74 ?_
              refine j_iinc (z := 3) (lv' := [(3, .int _), (0, .ref _), (1, .int _), (2, .int _)]) C dX2_init_75 rfl rfl (by decide) rfl ?_
              refine j_goto C 41 dX2_init_78 (by decide) ?_
              exact j_lvs [1, 2, 3, 0] rfl (ih (p + 1) _ _ (by omega) (nI_1 p) (rfl))
          exact j_lvs [1, 2, 3, 0] rfl (L41 (mnP t) (0) _ _ (by omega) (rfl) (by rw [tb_p0]))
      exact j_lvs [1, 2, 0] rfl (L33 (21) (0) _ _ (by omega) (rfl) (rfl))
  exact j_lvs [1, 0] rfl (L26 (4) (0) _ _ (by omega) (rfl) (rfl))
set_option maxRecDepth 100000 in
set_option maxHeartbeats 4000000 in
theorem kX2_wordsWith (l : Launch) (D : va_G) (ct : Nat → ClassId) (sa : Nat → Nat) (ws : va_W) (kt ht tt : Nat) (rw : Nat → Nat) (x y : Int32) (r : Nat) (hT : Tk ct ws kt ht tt rw (fun i s => nI (cwN i s))) (hx : x = nI r) (hr : r < 5) : jM l yX2_wordsWith (Cond.code yX2_wordsWith cX2_wordsWith 3 (Option.some Jvm.ClassFile.FieldType.int) :: GW) (rM 0 0 0 0) D ct sa [.ref ht, .int x, .int y] (ws) (dK (some (.int (wwF r y))) ws) 0 0 := by
  refine jMX.plain (jBody (own := RX2) (by decide) rfl rfl (Nat.le_of_ble_eq_true rfl) ?_)
  intro X C E T0
  refine j_lv (lv1 := [(0, .ref _), (1, .int _), (2, .int _)]) rfl ?_
  subst hx
  refine j_iload_n (i := 1) C dX2_wordsWith_0 rfl 1 rfl ?_
  refine j_if_lt C 19 dX2_wordsWith_1 (by decide) (fun c1 => by exact absurd c1 (nI_pos (by omega))) (fun c1 => ?_)
  refine j_iload_n (i := 1) C dX2_wordsWith_4 rfl 1 rfl ?_
  refine j_iconst (v := nI 4) C dX2_wordsWith_5 (by decide) ?_
  refine j_icmp_gt C 19 dX2_wordsWith_6 (by decide) (fun c6 => by exact absurd c6 (nI_nlt (by omega) (by omega))) (fun c6 => ?_)
  refine j_iload_n (i := 2) C dX2_wordsWith_9 rfl 2 rfl ?_
  refine j_if_lt C 19 dX2_wordsWith_10 (by decide) (fun c10 => ?_) (fun c10 => ?_)
  · refine j_iconst (v := nI 0) C dX2_wordsWith_19 (by decide) ?_
    exact j_ireturn C E rfl dX2_wordsWith_20 (Nat.le_of_ble_eq_true rfl) (Nat.le_of_ble_eq_true rfl) (⟨congrArg (fun z => some (Value.int z)) (by first | exact (if_neg (fun z => inlt z.1 c10)).symm | exact (if_neg (fun z => c16 ((in_ok (M := 20) (by decide)).mpr z).2)).symm), rfl⟩)
  · refine j_iload_n (i := 2) C dX2_wordsWith_13 rfl 2 rfl ?_
    refine j_bipush (v := nI 20) C dX2_wordsWith_14 (by decide) ?_
    refine j_icmp_le C 21 dX2_wordsWith_16 (by decide) (fun c16 => ?_) (fun c16 => ?_)
    · have hs : okI 21 y := (in_ok (M := 20) (by decide)).mp ⟨ile_of c10, c16⟩
      obtain ⟨hs1, hs2⟩ := okI_ix hs (by decide)
      refine j_aload_n (i := 0) C dX2_wordsWith_21 rfl 0 rfl ?_
      refine j_get (Cn := RX2) (T := TX2) (N := 1) (ci := 3) C iX2 rfl (kt) hT.1 0 (by decide) gw104 rfl rfl dX2_wordsWith_22 ?_
      refine j_iload_n (i := 1) C dX2_wordsWith_25 rfl 1 rfl ?_
      refine j_aald C (kt + 1) 3 hT.2.1 rfl rfl (r) rfl (by omega) (by decide) (if_pos (by omega)) dX2_wordsWith_26 ?_
      refine j_iload_n (i := 2) C dX2_wordsWith_27 rfl 2 rfl ?_
      refine j_iald C (kt + 2 + r) (hT.2.2 r hr) (ix y) hs2 hs1 (by decide) dX2_wordsWith_28 ?_
      exact j_ireturn C E rfl dX2_wordsWith_29 (Nat.le_of_ble_eq_true rfl) (Nat.le_of_ble_eq_true rfl) (⟨congrArg (fun z => some (Value.int z)) ((if_pos hs).symm), rfl⟩)
    · refine j_iconst (v := nI 0) C dX2_wordsWith_19 (by decide) ?_
      exact j_ireturn C E rfl dX2_wordsWith_20 (Nat.le_of_ble_eq_true rfl) (Nat.le_of_ble_eq_true rfl) (⟨congrArg (fun z => some (Value.int z)) (by first | exact (if_neg (fun z => inlt z.1 c10)).symm | exact (if_neg (fun z => c16 ((in_ok (M := 20) (by decide)).mpr z).2)).symm), rfl⟩)
set_option maxRecDepth 100000 in
set_option maxHeartbeats 4000000 in
theorem kX2_sumOfPlaces (l : Launch) (D : va_G) (ct : Nat → ClassId) (sa : Nat → Nat) (ws : va_W) (k h a b : Nat) (lt wr : Nat → Int32) (w rk op lo : Int32) (x : Int32) (v : Nat) (hk : Lk ct ws k h a b lt wr w rk op lo) (hx : x = nI v) (hv : v < 1296) : jM l yX2_sumOfPlaces (Cond.code yX2_sumOfPlaces cX2_sumOfPlaces 4 (Option.some Jvm.ClassFile.FieldType.int) :: GW) (rM 3 0 0 68) D ct sa [.ref h, .int x] (ws) (dK (some (.int (nI (spN wr v 4)))) ws) 0 0 := by
  refine jMX.plain (jBody (own := RX2) (by decide) rfl rfl (Nat.le_of_ble_eq_true rfl) ?_)
  intro X C E T0
  refine j_lv (lv1 := [(0, .ref _), (1, .int _)]) rfl ?_
  subst hx
  refine j_iconst (v := nI 0) C dX2_sumOfPlaces_0 (by decide) ?_
  refine j_istore_n (lv' := [(2, .int _), (0, .ref _), (1, .int _)]) C dX2_sumOfPlaces_1 rfl (by decide) rfl ?_
  refine j_iconst (v := nI 0) C dX2_sumOfPlaces_2 (by decide) ?_
  refine j_istore_n (lv' := [(3, .int _), (2, .int _), (0, .ref _), (1, .int _)]) C dX2_sumOfPlaces_3 rfl (by decide) rfl ?_
  have L4 : ∀ (d i : Nat) (x2 : Int32) (x3 : Int32), i + d = 4 → x2 = nI (spN wr v i) → x3 = nI i → J X (ws) (0) (0) 4 [(0, .ref h), (1, .int (nI v)), (2, .int x2), (3, .int x3)] [] := by
    intro d
    induction d with
    | zero =>
      intro i x2 x3 hd e_x2 e_x3 
      subst e_x2
      subst e_x3
      have hi9 : i = 4 := by omega
      subst hi9
      refine j_iload_n (i := 3) C dX2_sumOfPlaces_4 rfl 3 rfl ?_
      refine j_iconst (v := nI 4) C dX2_sumOfPlaces_5 (by decide) ?_
      refine j_icmp_ge C 28 dX2_sumOfPlaces_6 (by decide) (fun c6 => ?_) (fun c6 => by first | exact absurd c6 (by decide) | exact absurd c6 (nI_ge (by omega) (by omega)) | exact absurd (nI_le (by omega) (by omega)) c6 | exact absurd c6 (nI_nlt (by omega) (by omega)) | exact absurd (nI_lt (by omega) (by omega)) c6 | exact absurd c6 (nI_nle0 (by omega) (by omega)))
      refine j_iload_n (i := 2) C dX2_sumOfPlaces_28 rfl 2 rfl ?_
      exact j_ireturn C E rfl dX2_sumOfPlaces_29 (Nat.le_of_ble_eq_true rfl) (Nat.le_of_ble_eq_true rfl) (⟨rfl, rfl⟩)
    | succ d ih =>
      intro i x2 x3 hd e_x2 e_x3 
      subst e_x2
      subst e_x3
      refine j_iload_n (i := 3) C dX2_sumOfPlaces_4 rfl 3 rfl ?_
      refine j_iconst (v := nI 4) C dX2_sumOfPlaces_5 (by decide) ?_
      refine j_icmp_ge C 28 dX2_sumOfPlaces_6 (by decide) (fun c6 => by first | exact absurd c6 (by decide) | exact absurd c6 (nI_ge (by omega) (by omega)) | exact absurd (nI_le (by omega) (by omega)) c6 | exact absurd c6 (nI_nlt (by omega) (by omega)) | exact absurd (nI_lt (by omega) (by omega)) c6 | exact absurd c6 (nI_nle0 (by omega) (by omega))) (fun c6 => ?_)
      refine j_iload_n (i := 2) C dX2_sumOfPlaces_9 rfl 2 rfl ?_
      refine j_aload_n (i := 0) C dX2_sumOfPlaces_10 rfl 0 rfl ?_
      refine j_iload_n (i := 3) C dX2_sumOfPlaces_11 rfl 3 rfl ?_
      refine j_iload_n (i := 1) C dX2_sumOfPlaces_12 rfl 1 rfl ?_
      refine j_iload_n (i := 3) C dX2_sumOfPlaces_13 rfl 3 rfl ?_
      refine j_callSN (nargs := 2) (As := [_, _]) C nw391 gw392 gw21 (kX3_letterOf l D ct sa _ _ _ i rfl (by omega)) gw393 (by decide +kernel) rfl dX2_sumOfPlaces_14 ⟨Nat.le_of_ble_eq_true rfl, Nat.le_of_ble_eq_true rfl⟩ ⟨Nat.le_of_ble_eq_true rfl, Nat.le_of_ble_eq_true rfl⟩ (Nat.le_of_ble_eq_true rfl) (dki ?_)
      refine j_st (st1 := .int (nI (lN6 v i)) :: _) (by rw [lt_n (by omega)]) ?_
      refine j_callV (nargs := 2) (As := [_, _]) (Cn := RX0) C (k) hk.1 rfl rfl gw394 gw395 gw396 gw27 (kX0_placeInOrder l D ct sa _ k h a b lt wr w rk op lo _ _ i (lN6 v i) hk rfl rfl (by omega) (lN6_lt v i)) gw397 (by decide +kernel) rfl dX2_sumOfPlaces_17 ⟨Nat.le_of_ble_eq_true rfl, Nat.le_of_ble_eq_true rfl⟩ ⟨Nat.le_of_ble_eq_true rfl, Nat.le_of_ble_eq_true rfl⟩ (Nat.le_of_ble_eq_true rfl) (dki ?_)
      refine j_iadd C dX2_sumOfPlaces_20 ?_
      refine j_istore_n (lv' := [(2, .int _), (0, .ref _), (1, .int _), (3, .int _)]) C dX2_sumOfPlaces_21 rfl (by decide) rfl ?_
      refine j_iinc (z := 3) (lv' := [(3, .int _), (2, .int _), (0, .ref _), (1, .int _)]) C dX2_sumOfPlaces_22 rfl rfl (by decide) rfl ?_
      refine j_goto C 4 dX2_sumOfPlaces_25 (by decide) ?_
      exact j_lvs [2, 3, 1, 0] rfl (ih (i + 1) _ _ (by omega) (by rw [px_nn]; exact nI_add _ _) (nI_1 i))
  exact j_lvs [2, 3, 1, 0] rfl (L4 (4) (0) _ _ (by omega) (rfl) (rfl))
set_option maxRecDepth 100000 in
set_option maxHeartbeats 4000000 in
theorem kX2_lesserWordsOfSum (l : Launch) (D : va_G) (ct : Nat → ClassId) (sa : Nat → Nat) (ws : va_W) (kt ht tt : Nat) (rw : Nat → Nat) (k h a b : Nat) (lt wr : Nat → Int32) (w rk op lo : Int32) (x y : Int32) (v : Nat) (hT : Tk ct ws kt ht tt rw (fun i s => nI (cwN i s))) (hk : Lk ct ws k h a b lt wr w rk op lo) (hx : x = nI v) (hv : v < 1296) (hy : y = nI (spN wr v 4)) : jM l yX2_lesserWordsOfSum (Cond.code yX2_lesserWordsOfSum cX2_lesserWordsOfSum 10 (Option.some Jvm.ClassFile.FieldType.int) :: GW) (rM 3 0 0 68) D ct sa [.ref ht, .ref h, .int x, .int y] (ws) (dK (some (.int (nI (lsN wr v 4)))) ws) 0 0 := by
  refine jMX.plain (jBody (own := RX2) (by decide) rfl rfl (Nat.le_of_ble_eq_true rfl) ?_)
  intro X C E T0
  refine j_lv (lv1 := [(0, .ref _), (1, .ref _), (2, .int _), (3, .int _)]) rfl ?_
  subst hx
  subst hy
  refine j_iconst (v := nI 0) C dX2_lesserWordsOfSum_0 (by decide) ?_
  refine j_istore (lv' := [(4, .int _), (0, .ref _), (1, .ref _), (2, .int _), (3, .int _)]) C dX2_lesserWordsOfSum_1 (by decide) rfl ?_
  refine j_iload_n (i := 3) C dX2_lesserWordsOfSum_3 rfl 4 rfl ?_
  refine j_istore (lv' := [(5, .int _), (4, .int _), (0, .ref _), (1, .ref _), (2, .int _), (3, .int _)]) C dX2_lesserWordsOfSum_4 (by decide) rfl ?_
  refine j_iconst (v := nI 0) C dX2_lesserWordsOfSum_6 (by decide) ?_
  refine j_istore (lv' := [(6, .int _), (5, .int _), (4, .int _), (0, .ref _), (1, .ref _), (2, .int _), (3, .int _)]) C dX2_lesserWordsOfSum_7 (by decide) rfl ?_
  have L9 : ∀ (d i : Nat) (x4 : Int32) (x5 : Int32) (x6 : Int32), i + d = 4 → x4 = nI (lsN wr v i) → x5 = nI (srN wr v i) → x6 = nI i → J X (ws) (0) (0) 9 [(0, .ref ht), (1, .ref h), (2, .int (nI v)), (4, .int x4), (5, .int x5), (6, .int x6)] [] := by
    intro d
    induction d with
    | zero =>
      intro i x4 x5 x6 hd e_x4 e_x5 e_x6 
      subst e_x4
      subst e_x5
      subst e_x6
      have hi9 : i = 4 := by omega
      subst hi9
      refine j_iload C dX2_lesserWordsOfSum_9 5 rfl ?_
      refine j_iconst (v := nI 4) C dX2_lesserWordsOfSum_11 (by decide) ?_
      refine j_icmp_ge C 86 dX2_lesserWordsOfSum_12 (by decide) (fun c12 => ?_) (fun c12 => by first | exact absurd c12 (by decide) | exact absurd c12 (nI_ge (by omega) (by omega)) | exact absurd (nI_le (by omega) (by omega)) c12 | exact absurd c12 (nI_nlt (by omega) (by omega)) | exact absurd (nI_lt (by omega) (by omega)) c12 | exact absurd c12 (nI_nle0 (by omega) (by omega)))
      refine j_iload C dX2_lesserWordsOfSum_86 3 rfl ?_
      exact j_ireturn C E rfl dX2_lesserWordsOfSum_88 (Nat.le_of_ble_eq_true rfl) (Nat.le_of_ble_eq_true rfl) (⟨rfl, rfl⟩)
    | succ d ih =>
      intro i x4 x5 x6 hd e_x4 e_x5 e_x6 
      subst e_x4
      subst e_x5
      subst e_x6
      have hl6 := lN6_lt v i
      refine j_iload C dX2_lesserWordsOfSum_9 5 rfl ?_
      refine j_iconst (v := nI 4) C dX2_lesserWordsOfSum_11 (by decide) ?_
      refine j_icmp_ge C 86 dX2_lesserWordsOfSum_12 (by decide) (fun c12 => by first | exact absurd c12 (by decide) | exact absurd c12 (nI_ge (by omega) (by omega)) | exact absurd (nI_le (by omega) (by omega)) c12 | exact absurd c12 (nI_nlt (by omega) (by omega)) | exact absurd (nI_lt (by omega) (by omega)) c12 | exact absurd c12 (nI_nle0 (by omega) (by omega))) (fun c12 => ?_)
      refine j_iload_n (i := 2) C dX2_lesserWordsOfSum_15 rfl 2 rfl ?_
      refine j_iload C dX2_lesserWordsOfSum_16 5 rfl ?_
      refine j_callSN (nargs := 2) (As := [_, _]) C nw391 gw392 gw21 (kX3_letterOf l D ct sa _ _ _ i rfl (by omega)) gw393 (by decide +kernel) rfl dX2_lesserWordsOfSum_18 ⟨Nat.le_of_ble_eq_true rfl, Nat.le_of_ble_eq_true rfl⟩ ⟨Nat.le_of_ble_eq_true rfl, Nat.le_of_ble_eq_true rfl⟩ (Nat.le_of_ble_eq_true rfl) (dki ?_)
      refine j_st (st1 := .int (nI (lN6 v i)) :: _) (by rw [lt_n (by omega)]) ?_
      refine j_istore (lv' := [(7, .int _), (0, .ref _), (1, .ref _), (2, .int _), (4, .int _), (5, .int _), (6, .int _)]) C dX2_lesserWordsOfSum_21 (by decide) rfl ?_
      refine j_iconst (v := nI 3) C dX2_lesserWordsOfSum_23 (by decide) ?_
      refine j_iload C dX2_lesserWordsOfSum_24 6 rfl ?_
      refine j_isub C dX2_lesserWordsOfSum_26 ?_
      refine j_st (st1 := .int (nI (3 - i)) :: _) (by rw [← pk_sub (by omega)]) ?_
      refine j_istore (lv' := [(8, .int _), (7, .int _), (0, .ref _), (1, .ref _), (2, .int _), (4, .int _), (5, .int _), (6, .int _)]) C dX2_lesserWordsOfSum_27 (by decide) rfl ?_
      refine j_iconst (v := nI 0) C dX2_lesserWordsOfSum_29 (by decide) ?_
      refine j_istore (lv' := [(9, .int _), (8, .int _), (7, .int _), (0, .ref _), (1, .ref _), (2, .int _), (4, .int _), (5, .int _), (6, .int _)]) C dX2_lesserWordsOfSum_30 (by decide) rfl ?_
      have L32 : ∀ (d t : Nat) (x4 : Int32) (x9 : Int32), t + d = lN6 v i → x4 = nI (lsN wr v i + liN wr v i t) → x9 = nI t → J X (ws) (0) (0) 32 [(0, .ref ht), (1, .ref h), (2, .int (nI v)), (4, .int x4), (5, .int (nI (srN wr v i))), (6, .int (nI i)), (7, .int (nI (lN6 v i))), (8, .int (nI (3 - i))), (9, .int x9)] [] := by
        intro d
        induction d with
        | zero =>
          intro t x4 x9 hd e_x4 e_x9 
          subst e_x4
          subst e_x9
          have ht9 : t = lN6 v i := by omega
          subst ht9
          refine j_iload C dX2_lesserWordsOfSum_32 8 rfl ?_
          refine j_iload C dX2_lesserWordsOfSum_34 6 rfl ?_
          refine j_icmp_ge C 67 dX2_lesserWordsOfSum_36 (by decide) (fun c36 => ?_) (fun c36 => by first | exact absurd c36 (by decide) | exact absurd c36 (nI_ge (by omega) (by omega)) | exact absurd (nI_le (by omega) (by omega)) c36 | exact absurd c36 (nI_nlt (by omega) (by omega)) | exact absurd (nI_lt (by omega) (by omega)) c36 | exact absurd c36 (nI_nle0 (by omega) (by omega)))
          refine j_iload C dX2_lesserWordsOfSum_67 4 rfl ?_
          refine j_aload_n (i := 1) C dX2_lesserWordsOfSum_69 rfl 1 rfl ?_
          refine j_iload C dX2_lesserWordsOfSum_70 5 rfl ?_
          refine j_iload C dX2_lesserWordsOfSum_72 6 rfl ?_
          refine j_callV (nargs := 2) (As := [_, _]) (Cn := RX0) C (k) hk.1 rfl rfl gw394 gw395 gw396 gw27 (kX0_placeInOrder l D ct sa _ k h a b lt wr w rk op lo _ _ i (lN6 v i) hk rfl rfl (by omega) hl6) gw397 (by decide +kernel) rfl dX2_lesserWordsOfSum_74 ⟨Nat.le_of_ble_eq_true rfl, Nat.le_of_ble_eq_true rfl⟩ ⟨Nat.le_of_ble_eq_true rfl, Nat.le_of_ble_eq_true rfl⟩ (Nat.le_of_ble_eq_true rfl) (dki ?_)
          refine j_isub C dX2_lesserWordsOfSum_77 ?_
          refine j_istore (lv' := [(5, .int _), (0, .ref _), (1, .ref _), (2, .int _), (4, .int _), (6, .int _), (7, .int _), (8, .int _), (9, .int _)]) C dX2_lesserWordsOfSum_78 (by decide) rfl ?_
          refine j_iinc (z := 5) (lv' := [(6, .int _), (5, .int _), (0, .ref _), (1, .ref _), (2, .int _), (4, .int _), (7, .int _), (8, .int _), (9, .int _)]) C dX2_lesserWordsOfSum_80 rfl rfl (by decide) rfl ?_
          refine j_goto C 9 dX2_lesserWordsOfSum_83 (by decide) ?_
          exact j_lvs [2, 3, 4, 5, 1, 0] rfl (ih (i + 1) _ _ _ (by omega) (rfl) (by rw [px_nn]; exact sr_s wr v i (by omega)) (nI_1 i))
        | succ d ih =>
          intro t x4 x9 hd e_x4 e_x9 
          subst e_x4
          subst e_x9
          refine j_iload C dX2_lesserWordsOfSum_32 8 rfl ?_
          refine j_iload C dX2_lesserWordsOfSum_34 6 rfl ?_
          refine j_icmp_ge C 67 dX2_lesserWordsOfSum_36 (by decide) (fun c36 => by first | exact absurd c36 (by decide) | exact absurd c36 (nI_ge (by omega) (by omega)) | exact absurd (nI_le (by omega) (by omega)) c36 | exact absurd c36 (nI_nlt (by omega) (by omega)) | exact absurd (nI_lt (by omega) (by omega)) c36 | exact absurd c36 (nI_nle0 (by omega) (by omega))) (fun c36 => ?_)
          refine j_iload C dX2_lesserWordsOfSum_39 3 rfl ?_
          refine j_aload_n (i := 0) C dX2_lesserWordsOfSum_41 rfl 0 rfl ?_
          refine j_iload C dX2_lesserWordsOfSum_42 7 rfl ?_
          refine j_iload C dX2_lesserWordsOfSum_44 4 rfl ?_
          refine j_aload_n (i := 1) C dX2_lesserWordsOfSum_46 rfl 1 rfl ?_
          refine j_iload C dX2_lesserWordsOfSum_47 5 rfl ?_
          refine j_iload C dX2_lesserWordsOfSum_49 8 rfl ?_
          refine j_callV (nargs := 2) (As := [_, _]) (Cn := RX0) C (k) hk.1 rfl rfl gw394 gw395 gw396 gw27 (kX0_placeInOrder l D ct sa _ k h a b lt wr w rk op lo _ _ i t hk rfl rfl (by omega) (by omega)) gw397 (by decide +kernel) rfl dX2_lesserWordsOfSum_51 ⟨Nat.le_of_ble_eq_true rfl, Nat.le_of_ble_eq_true rfl⟩ ⟨Nat.le_of_ble_eq_true rfl, Nat.le_of_ble_eq_true rfl⟩ (Nat.le_of_ble_eq_true rfl) (dki ?_)
          refine j_isub C dX2_lesserWordsOfSum_54 ?_
          refine j_callV (nargs := 2) (As := [_, _]) (Cn := RX2) C (kt) hT.1 rfl rfl gw398 gw400 gw11 gw26 (kX2_wordsWith l D ct sa _ kt ht tt rw _ _ (3 - i) hT rfl (by omega)) gw401 (by decide +kernel) rfl dX2_lesserWordsOfSum_55 ⟨Nat.le_of_ble_eq_true rfl, Nat.le_of_ble_eq_true rfl⟩ ⟨Nat.le_of_ble_eq_true rfl, Nat.le_of_ble_eq_true rfl⟩ (Nat.le_of_ble_eq_true rfl) (dki ?_)
          refine j_iadd C dX2_lesserWordsOfSum_58 ?_
          refine j_istore (lv' := [(4, .int _), (0, .ref _), (1, .ref _), (2, .int _), (5, .int _), (6, .int _), (7, .int _), (8, .int _), (9, .int _)]) C dX2_lesserWordsOfSum_59 (by decide) rfl ?_
          refine j_iinc (z := 8) (lv' := [(9, .int _), (4, .int _), (0, .ref _), (1, .ref _), (2, .int _), (5, .int _), (6, .int _), (7, .int _), (8, .int _)]) C dX2_lesserWordsOfSum_61 rfl rfl (by decide) rfl ?_
          refine j_goto C 32 dX2_lesserWordsOfSum_64 (by decide) ?_
          exact j_lvs [2, 3, 4, 1, 5, 6, 7, 8, 0] rfl (ih (t + 1) _ _ (by omega) (by rw [px_nn, ww_n _ _ _ (sr_20 wr v i) (pn_lt _ (by omega))]; exact (nI_add _ _).trans (congrArg nI (Nat.add_assoc _ _ _))) (nI_1 t))
      exact j_lvs [3, 4, 5, 6, 7, 8, 2, 1, 0] rfl (L32 (lN6 v i) (0) _ _ (by omega) (rfl) (rfl))
  exact j_lvs [3, 4, 5, 2, 1, 0] rfl (L9 (4) (0) _ _ _ (by omega) (rfl) (rfl) (rfl))
set_option maxRecDepth 100000 in
set_option maxHeartbeats 4000000 in
theorem kX2_trialOf (l : Launch) (D : va_G) (ct : Nat → ClassId) (sa : Nat → Nat) (ws : va_W) (kt ht tt : Nat) (rw : Nat → Nat) (k h a b : Nat) (lt wr : Nat → Int32) (w rk op lo : Int32) (x : Int32) (v : Nat) (hT : Tk ct ws kt ht tt rw (fun i s => nI (cwN i s))) (hk : Lk ct ws k h a b lt wr w rk op lo) (hx : x = nI v) (hv : v < 1296) : jM l yX2_trialOf (Cond.code yX2_trialOf cX2_trialOf 6 (Option.some Jvm.ClassFile.FieldType.int) :: GW) (rM 4 0 0 97) D ct sa [.ref ht, .ref h, .int x] (ws) (dK (some (.int (nI (txN wr v)))) ws) 0 0 := by
  refine jMX.plain (jBody (own := RX2) (by decide) rfl rfl (Nat.le_of_ble_eq_true rfl) ?_)
  intro X C E T0
  refine j_lv (lv1 := [(0, .ref _), (1, .ref _), (2, .int _)]) rfl ?_
  subst hx
  refine j_aload_n (i := 1) C dX2_trialOf_0 rfl 1 rfl ?_
  refine j_iload_n (i := 2) C dX2_trialOf_1 rfl 2 rfl ?_
  refine j_callS (nargs := 2) (As := [_, _]) C gw388 gw389 gw26 (kX2_sumOfPlaces l D ct sa _ k h a b lt wr w rk op lo _ v hk rfl hv) gw390 (by decide +kernel) rfl dX2_trialOf_2 ⟨Nat.le_of_ble_eq_true rfl, Nat.le_of_ble_eq_true rfl⟩ ⟨Nat.le_of_ble_eq_true rfl, Nat.le_of_ble_eq_true rfl⟩ (Nat.le_of_ble_eq_true rfl) (dki ?_)
  refine j_istore_n (lv' := [(3, .int _), (0, .ref _), (1, .ref _), (2, .int _)]) C dX2_trialOf_5 rfl (by decide) rfl ?_
  refine j_iconst (v := nI 0) C dX2_trialOf_6 (by decide) ?_
  refine j_istore (lv' := [(4, .int _), (3, .int _), (0, .ref _), (1, .ref _), (2, .int _)]) C dX2_trialOf_7 (by decide) rfl ?_
  refine j_iconst (v := nI 0) C dX2_trialOf_9 (by decide) ?_
  refine j_istore (lv' := [(5, .int _), (4, .int _), (3, .int _), (0, .ref _), (1, .ref _), (2, .int _)]) C dX2_trialOf_10 (by decide) rfl ?_
  have L12 : ∀ (d i : Nat) (x4 : Int32) (x5 : Int32), i + d = spN wr v 4 → x4 = nI (ccN 4 i) → x5 = nI i → J X (ws) (0) (0) 12 [(0, .ref ht), (1, .ref h), (2, .int (nI v)), (3, .int (nI (spN wr v 4))), (4, .int x4), (5, .int x5)] [] := by
    intro d
    induction d with
    | zero =>
      intro i x4 x5 hd e_x4 e_x5 
      subst e_x4
      subst e_x5
      have hi9 : i = spN wr v 4 := by omega
      subst hi9
      have hs20 := sp_le wr v 4
      refine j_iload C dX2_trialOf_12 5 rfl ?_
      refine j_iload_n (i := 3) C dX2_trialOf_14 rfl 3 rfl ?_
      refine j_icmp_ge C 36 dX2_trialOf_15 (by decide) (fun c15 => ?_) (fun c15 => by first | exact absurd c15 (by decide) | exact absurd c15 (nI_ge (by omega) (by omega)) | exact absurd (nI_le (by omega) (by omega)) c15 | exact absurd c15 (nI_nlt (by omega) (by omega)) | exact absurd (nI_lt (by omega) (by omega)) c15 | exact absurd c15 (nI_nle0 (by omega) (by omega)))
      refine j_iload C dX2_trialOf_36 4 rfl ?_
      refine j_aload_n (i := 0) C dX2_trialOf_38 rfl 0 rfl ?_
      refine j_aload_n (i := 1) C dX2_trialOf_39 rfl 1 rfl ?_
      refine j_iload_n (i := 2) C dX2_trialOf_40 rfl 2 rfl ?_
      refine j_iload_n (i := 3) C dX2_trialOf_41 rfl 3 rfl ?_
      refine j_callV (nargs := 3) (As := [_, _, _]) (Cn := RX2) C (kt) hT.1 rfl rfl gw402 gw404 gw12 gw26 (kX2_lesserWordsOfSum l D ct sa _ kt ht tt rw k h a b lt wr w rk op lo _ _ v hT hk rfl hv rfl) gw405 (by decide +kernel) rfl dX2_trialOf_42 ⟨Nat.le_of_ble_eq_true rfl, Nat.le_of_ble_eq_true rfl⟩ ⟨Nat.le_of_ble_eq_true rfl, Nat.le_of_ble_eq_true rfl⟩ (Nat.le_of_ble_eq_true rfl) (dki ?_)
      refine j_iadd C dX2_trialOf_45 ?_
      refine j_iconst (v := nI 1) C dX2_trialOf_46 (by decide) ?_
      refine j_iadd C dX2_trialOf_47 ?_
      exact j_ireturn C E rfl dX2_trialOf_48 (Nat.le_of_ble_eq_true rfl) (Nat.le_of_ble_eq_true rfl) (⟨congrArg (fun z => some (Value.int z)) (by rw [nI_add, nI_add]), rfl⟩)
    | succ d ih =>
      intro i x4 x5 hd e_x4 e_x5 
      subst e_x4
      subst e_x5
      have hs20 := sp_le wr v 4
      refine j_iload C dX2_trialOf_12 5 rfl ?_
      refine j_iload_n (i := 3) C dX2_trialOf_14 rfl 3 rfl ?_
      refine j_icmp_ge C 36 dX2_trialOf_15 (by decide) (fun c15 => by first | exact absurd c15 (by decide) | exact absurd c15 (nI_ge (by omega) (by omega)) | exact absurd (nI_le (by omega) (by omega)) c15 | exact absurd c15 (nI_nlt (by omega) (by omega)) | exact absurd (nI_lt (by omega) (by omega)) c15 | exact absurd c15 (nI_nle0 (by omega) (by omega))) (fun c15 => ?_)
      refine j_iload C dX2_trialOf_18 4 rfl ?_
      refine j_aload_n (i := 0) C dX2_trialOf_20 rfl 0 rfl ?_
      refine j_iconst (v := nI 4) C dX2_trialOf_21 (by decide) ?_
      refine j_iload C dX2_trialOf_22 5 rfl ?_
      refine j_callV (nargs := 2) (As := [_, _]) (Cn := RX2) C (kt) hT.1 rfl rfl gw398 gw400 gw11 gw26 (kX2_wordsWith l D ct sa _ kt ht tt rw _ _ 4 hT rfl (by decide)) gw401 (by decide +kernel) rfl dX2_trialOf_24 ⟨Nat.le_of_ble_eq_true rfl, Nat.le_of_ble_eq_true rfl⟩ ⟨Nat.le_of_ble_eq_true rfl, Nat.le_of_ble_eq_true rfl⟩ (Nat.le_of_ble_eq_true rfl) (dki ?_)
      refine j_iadd C dX2_trialOf_27 ?_
      refine j_istore (lv' := [(4, .int _), (0, .ref _), (1, .ref _), (2, .int _), (3, .int _), (5, .int _)]) C dX2_trialOf_28 (by decide) rfl ?_
      refine j_iinc (z := 5) (lv' := [(5, .int _), (4, .int _), (0, .ref _), (1, .ref _), (2, .int _), (3, .int _)]) C dX2_trialOf_30 rfl rfl (by decide) rfl ?_
      refine j_goto C 12 dX2_trialOf_33 (by decide) ?_
      exact j_lvs [2, 3, 4, 5, 1, 0] rfl (ih (i + 1) _ _ (by omega) (by rw [show wwF 4 (nI i) = nI (cwN 4 i) from (if_pos (okI_n (by omega) (by decide))).trans (by rw [show ix (nI i) = i from nI_clamp (by omega)])]; exact nI_add _ _) (nI_1 i))
  exact j_lvs [3, 4, 5, 2, 1, 0] rfl (L12 (spN wr v 4) (0) _ _ (by omega) (rfl) (rfl))
