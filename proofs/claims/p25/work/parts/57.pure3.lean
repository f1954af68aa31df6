/-! what the law compares -/
theorem jn_p {X : Ctx} {ws : va_W} {k n pc : Nat} (j : Nat) {lv : List (Nat × Value)} {st : List Value} {x : Int32} (v : Int32) (h1 : J X ws k n j lv (.int v :: st) → J X ws k n pc lv (.int x :: st)) (h2 : J X ws k n j lv (.int v :: st)) : J X ws k n pc lv (.int x :: st) := h1 h2
theorem jn_e {X : Ctx} {ws : va_W} {k n pc : Nat} (j : Nat) {lv : List (Nat × Value)} {st : List Value} (v : Int32) (h1 : J X ws k n j lv (.int v :: st) → J X ws k n pc lv st) (h2 : J X ws k n j lv (.int v :: st)) : J X ws k n pc lv st := h1 h2
theorem l3_at {A B L : va_W} {i : Nat} {y : Nat × va_E} (h : L[i]? = some y) : (A ++ (B ++ L))[A.length + (B.length + i)]? = some y := by
  rw [List.getElem?_append_right (by omega), List.getElem?_append_right (by omega), show A.length + (B.length + i) - A.length - B.length = i by omega]
  exact h
theorem l3_set {A B L : va_W} {i : Nat} {y : Nat × va_E} : (A ++ (B ++ L)).set (A.length + (B.length + i)) y = A ++ (B ++ L.set i y) := by
  rw [List.set_append_right _ _ (by omega), List.set_append_right _ _ (by omega), show A.length + (B.length + i) - A.length - B.length = i by omega]
theorem l3_add {A B L : va_W} {x : Nat × va_E} : (A ++ (B ++ L)) ++ [x] = A ++ (B ++ (L ++ [x])) := by simp only [List.append_assoc]
/-- sums -/
theorem sum_z {f : Nat → Int32} {n : Nat} : ∀ d, (∀ k, n ≤ k → k < n + d → f k = nI 0) → sumF f (n + d) = sumF f n
  | 0, _ => rfl
  | d + 1, h => by
    show sumF f (n + d) + f (n + d) = _
    rw [h (n + d) (by omega) (by omega), i_add0]
    exact sum_z d (fun k h1 h2 => h k h1 (by omega))
theorem wr_n {σ : St} (hi : Inv1 σ) : sumF (sW σ) (24 * sN σ) = sumF (sW σ) 192 := by
  have h8 := hi.1.1
  have h := sum_z (f := sW σ) (n := 24 * sN σ) (192 - 24 * sN σ) (fun k h1 h2 => by
    have e := (hi.2.2.2 (k / 24) (by omega) (by omega)).2.2 (k % 24) (Nat.mod_lt _ (by decide))
    rwa [Nat.div_add_mod] at e)
  rw [show 24 * sN σ + (192 - 24 * sN σ) = 192 by omega] at h
  exact h.symm
/-- an array as far as it is written -/
def pfx (f : Nat → Int32) (i : Nat) : Nat → Int32 := fun t => if t < i then f t else nI 0
theorem pf_0 {f : Nat → Int32} : (fun _ => nI 0) = pfx f 0 := funext fun t => (if_neg (Nat.not_lt_zero t)).symm
theorem pf_s {f : Nat → Int32} {i : Nat} : upd (pfx f i) i (f i) = pfx f (i + 1) := by
  funext t
  by_cases e : t = i
  · subst e
    rw [pk_us]
    exact (if_pos (Nat.lt_succ_self t)).symm
  · rw [pk_un e]
    show (if t < i then f t else nI 0) = if t < i + 1 then f t else nI 0
    by_cases c : t < i
    · rw [if_pos c, if_pos (by omega)]
    · rw [if_neg c, if_neg (by omega)]
theorem pf_i {f : Nat → Int32} {i t : Nat} (h : t < i) : pfx f i t = f t := if_pos h
abbrev bsW (W : Nat → Int32) (j : Nat) : Nat → Int32 := fun r => nI (bmF (wrow W j r) 5)
theorem bs_v {σ : St} {j r : Nat} (hr : r < 4) : nI (bmF (cut 6 (wrw (ldS σ j).2.1 r)) 5) = bsW (sW σ) j r := congrArg nI (bm_cong 5 (fun q hq => (cut_in (show q < 6 by omega)).trans (lw_q σ j hr (by omega))))
theorem bs_ok {W : Nat → Int32} {j : Nat} : okL (pfx (bsW W j) 4) := fun r hr => by
  rw [pf_i hr]
  exact okI_n (by have := bmF_le (wrow W j r) 5; omega) (by decide)
theorem bs_sh {W : Nat → Int32} {j : Nat} : stF (pfx (bsW W j) 4) 4 = shF W j := st_cong 4 (fun r hr => pf_i hr)
theorem t6_e {T : Nat → Int32} {a b c d e f : Int32} (h0 : T 0 = a) (h1 : T 1 = b) (h2 : T 2 = c) (h3 : T 3 = d) (h4 : T 4 = e) (h5 : T 5 = f) : ∀ i, i < 6 → upd (upd (upd (upd (upd (upd (fun _ => nI 0) 0 a) 1 b) 2 c) 3 d) 4 e) 5 f i = cut 6 T i
  | 0, _ => h0.symm
  | 1, _ => h1.symm
  | 2, _ => h2.symm
  | 3, _ => h3.symm
  | 4, _ => h4.symm
  | 5, _ => h5.symm
theorem c7_e {T : Nat → Int32} {a b c d e f g : Int32} (h0 : T 0 = a) (h1 : T 1 = b) (h2 : T 2 = c) (h3 : T 3 = d) (h4 : T 4 = e) (h5 : T 5 = f) (h6 : T 6 = g) : ∀ i, i < 7 → upd (upd (upd (upd (upd (upd (upd (fun _ => nI 0) 0 a) 1 b) 2 c) 3 d) 4 e) 5 f) 6 g i = cut 7 T i
  | 0, _ => h0.symm
  | 1, _ => h1.symm
  | 2, _ => h2.symm
  | 3, _ => h3.symm
  | 4, _ => h4.symm
  | 5, _ => h5.symm
  | 6, _ => h6.symm
theorem o3_e {T : Nat → Int32} {a b c : Int32} (h0 : T 0 = a) (h1 : T 1 = b) (h2 : T 2 = c) : ∀ i, i < 3 → upd (upd (upd (fun _ => nI 0) 0 a) 1 b) 2 c i = cut 3 T i
  | 0, _ => h0.symm
  | 1, _ => h1.symm
  | 2, _ => h2.symm
theorem wr_v {σ : St} {i r q : Nat} (hr : r < 4) (hq : q < 6) : cut 6 (wrw (ldS σ i).2.1 r) q = sW σ (24 * i + (6 * r + q)) := by
  rw [cut_in hq]
  show (if 6 * r + q < 24 then sW σ (24 * i + (6 * r + q)) else nI 0) = _
  rw [if_pos (by omega)]
theorem st1_b {x : Int32} (h : b01 x) (h0 : ¬ x = 0) : nI 1 = x := (h.resolve_left h0).symm
theorem st0_b {x : Int32} (h0 : x = 0) : nI 0 = x := h0.symm
theorem mn_nn {σ : St} (h8 : sN σ ≤ 8) : Op.cmpValue (FP.dcmp (mnF σ) (mnF σ)) .l = 0 := by
  have key : ∀ r : UInt64, Jvm.FP.Core.dIsNaN r = false → Op.cmpValue (FP.dcmp r r) .l = 0 := fun r hr => by
    have hn : Jvm.FP.Core.decode Jvm.FP.Core.b64 r.toNat ≠ .nan := of_decide_eq_false hr
    have e : FP.dcmp r r = some .eq := by first | exact Jvm.FP.Core.dcmp_self hn | exact Jvm.FP.dcmp_self hn
    rw [e]
    rfl
  refine key _ ?_
  by_cases c : sN σ = 0
  · rw [show mnF σ = FP.dconst0 from if_pos c]
    decide +kernel
  · rw [show mnF σ = _ from if_neg c]
    exact Jvm.FP.Core.ddiv_out (Jvm.FP.Core.DFin.notNaN (Jvm.FP.Core.i2d_fin _)) (Jvm.FP.Core.i2d_fin _) (fun z => Jvm.FP.Core.i2d_ne_zero (nI_ne0 (n := 24 * sN σ) (by omega) (by omega)) ((Jvm.FP.Core.zero_bits2 _).mp z))
