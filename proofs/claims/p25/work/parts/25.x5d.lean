/-! what a public method's contract says -/
abbrev kxF (f : Op) (L : List String) : String → Prop := fun E => ∃ i, L[i]? = some E ∧ f.1 = nI (i + 1)
theorem kx0 {f : Op} {L : List String} {E E0 : String} {v : Int32} {σ : St} {m : Nat} (i : Nat) (hL : L[i]? = some E0) (h : f = (nI m, v, σ)) (hE : E = E0) (hm : m = i + 1 := by rfl) : kxF f L E := ⟨i, by rw [hE]; exact hL, by rw [h, hm]⟩
abbrev kR (f : Op) (ws : va_W) : Option Value → va_W → Prop := kA (f.1 = nI 0) ws (some (.int f.2.1))
theorem kr {f : Op} {ws : va_W} {v : Int32} {σ : St} (h : f = (nI 0, v, σ)) : kR f ws (some (.int v)) ws := ⟨by rw [h], by rw [h], rfl⟩
abbrev kC (ct : Nat → ClassId) (sa ad : Nat → Nat) (mcn : Int32) (φ : LD) (wr : va_W) (f : Op) : Option Value → va_W → Prop := kA (f.1 = nI 0) (WX ct sa ad mcn φ f.2.2 ++ wr) (some (.int f.2.1))
theorem kc {ct : Nat → ClassId} {sa ad : Nat → Nat} {mcn : Int32} {φ : LD} {wr : va_W} {f : Op} {v : Int32} {σ : St} (h : f = (nI 0, v, σ)) : kC ct sa ad mcn φ wr f (some (.int v)) (WX ct sa ad mcn φ σ ++ wr) := ⟨by rw [h], by rw [h], by rw [h]⟩
theorem kx_no {f : Op} {L : List String} {E : String} (h : kxF f L E) (h0 : f.1 = nI 0) (hL : L.length < 9) : False := by
  obtain ⟨i, h1, h2⟩ := h
  have hi := (List.getElem?_eq_some_iff.mp h1).1
  rw [h0] at h2
  exact absurd ((nI_eq (by omega) (by omega)).mp h2) (by omega)
section WX2
variable {ct : Nat → ClassId} {sa ad : Nat → Nat} {mcn : Int32} {φ : LD} {σ σ' : St} {wr : va_W}
theorem wx_tn {j r : Nat} {v : Int32} (hj : j < sN σ) (hr : r < 4) : (WX ct sa ad mcn φ σ ++ wr).set (16 + 3 * j + 1) (ad (21 + 3 * j), .inl (ct 0, 4, .inl (upd (lL σ j) r v))) = WX ct sa ad mcn φ (uR σ (upd (sR σ) (8 * j + (4 + r)) v)) ++ wr :=
  wx_set (i := 1) hj (by decide) rfl rfl (fun i _ h => ld_o h (by omega)) (by rw [ld_l hr]; rfl)
theorem wx_h0 {j : Nat} {v : Int32} (hj : j < sN σ) : (WX ct sa ad mcn φ σ ++ wr).set (16 + 3 * j) (ad (20 + 3 * j), .inr (1, [.ref (ad (21 + 3 * j)), .ref (ad (22 + 3 * j)), .int v, .int (sR σ (8 * j + 2)), .int (sR σ (8 * j + 1)), .int (sR σ (8 * j + 3))])) = WX ct sa ad mcn φ (uR σ (upd (sR σ) (8 * j + 0) v)) ++ wr :=
  wx_set (i := 0) hj (by decide) rfl rfl (fun i _ h => ld_o h (by omega)) (by rw [ld_h (by decide)]; rfl)
theorem wx_h1 {j : Nat} {v : Int32} (hj : j < sN σ) : (WX ct sa ad mcn φ σ ++ wr).set (16 + 3 * j) (ad (20 + 3 * j), .inr (1, [.ref (ad (21 + 3 * j)), .ref (ad (22 + 3 * j)), .int (sR σ (8 * j + 0)), .int (sR σ (8 * j + 2)), .int v, .int (sR σ (8 * j + 3))])) = WX ct sa ad mcn φ (uR σ (upd (sR σ) (8 * j + 1) v)) ++ wr :=
  wx_set (i := 0) hj (by decide) rfl rfl (fun i _ h => ld_o h (by omega)) (by rw [ld_h (by decide)]; rfl)
theorem wx_h2 {j : Nat} {v : Int32} (hj : j < sN σ) : (WX ct sa ad mcn φ σ ++ wr).set (16 + 3 * j) (ad (20 + 3 * j), .inr (1, [.ref (ad (21 + 3 * j)), .ref (ad (22 + 3 * j)), .int (sR σ (8 * j + 0)), .int v, .int (sR σ (8 * j + 1)), .int (sR σ (8 * j + 3))])) = WX ct sa ad mcn φ (uR σ (upd (sR σ) (8 * j + 2) v)) ++ wr :=
  wx_set (i := 0) hj (by decide) rfl rfl (fun i _ h => ld_o h (by omega)) (by rw [ld_h (by decide)]; rfl)
theorem wx_h3 {j : Nat} {v : Int32} (hj : j < sN σ) : (WX ct sa ad mcn φ σ ++ wr).set (16 + 3 * j) (ad (20 + 3 * j), .inr (1, [.ref (ad (21 + 3 * j)), .ref (ad (22 + 3 * j)), .int (sR σ (8 * j + 0)), .int (sR σ (8 * j + 2)), .int (sR σ (8 * j + 1)), .int v])) = WX ct sa ad mcn φ (uR σ (upd (sR σ) (8 * j + 3) v)) ++ wr :=
  wx_set (i := 0) hj (by decide) rfl rfl (fun i _ h => ld_o h (by omega)) (by rw [ld_h (by decide)]; rfl)
/-! several cells of one lock -/
def WXd (ct : Nat → ClassId) (sa ad : Nat → Nat) (mcn : Int32) (φ : LD) (σ : St) (dat : Nat → LD) : va_W := FX ct sa ad mcn φ σ ++ (LX ct ad dat (sN σ) ++ AX ct ad (sN σ))
def updD (dat : Nat → LD) (j : Nat) (d : LD) : Nat → LD := fun i => if i = j then d else dat i
theorem ud_s {dat : Nat → LD} {j : Nat} {d : LD} : updD dat j d j = d := if_pos rfl
theorem ud_n {dat : Nat → LD} {i j : Nat} {d : LD} (h : i ≠ j) : updD dat j d i = dat i := if_neg h
theorem wd_set {dat : Nat → LD} {j i : Nat} {y : Nat × va_E} {d : LD} (hj : j < sN σ) (hi : i < 3) (hc : (lc ct (ad (20 + 3 * j)) (ad (21 + 3 * j)) (ad (22 + 3 * j)) (dat j)).set i y = lc ct (ad (20 + 3 * j)) (ad (21 + 3 * j)) (ad (22 + 3 * j)) d) : (WXd ct sa ad mcn φ σ dat ++ wr).set (16 + (3 * j + i)) y = WXd ct sa ad mcn φ σ (updD dat j d) ++ wr := by
  have e1 := LX_set (dat' := updD dat j d) ct ad hi (by rw [ud_s]; exact hc) (sN σ) hj (fun i _ h => ud_n h)
  have hl : (16 + (3 * j + i)) < (WXd ct sa ad mcn φ σ dat).length := by
    show _ < (FX ct sa ad mcn φ σ ++ (LX ct ad dat (sN σ) ++ AX ct ad (sN σ))).length
    rw [List.length_append, List.length_append, FX_len, LX_len]
    omega
  rw [List.set_append_left _ _ hl]
  congr 1
  show (FX ct sa ad mcn φ σ ++ (LX ct ad dat (sN σ) ++ AX ct ad (sN σ))).set _ _ = FX ct sa ad mcn φ σ ++ (LX ct ad (updD dat j d) (sN σ) ++ AX ct ad (sN σ))
  rw [List.set_append_right _ _ (by rw [FX_len]; omega), FX_len, show 16 + (3 * j + i) - 16 = 3 * j + i by omega, List.set_append_left _ _ (by rw [LX_len]; omega), e1]
theorem wd_fin {j : Nat} {d1 d : LD} (hF : FX ct sa ad mcn φ σ' = FX ct sa ad mcn φ σ) (hn : sN σ' = sN σ) (ho : ∀ i, i ≠ j → ldS σ' i = ldS σ i) (hd : ldS σ' j = d) : WXd ct sa ad mcn φ σ (updD (updD (ldS σ) j d1) j d) ++ wr = WX ct sa ad mcn φ σ' ++ wr := by
  show FX ct sa ad mcn φ σ ++ (LX ct ad (updD (updD (ldS σ) j d1) j d) (sN σ) ++ AX ct ad (sN σ)) ++ wr = FX ct sa ad mcn φ σ' ++ (LX ct ad (ldS σ') (sN σ') ++ AX ct ad (sN σ')) ++ wr
  rw [hF, hn, LX_congr ct ad (dat := updD (updD (ldS σ) j d1) j d) (dat' := ldS σ') (sN σ) (fun i _ => by
    by_cases e : i = j
    · subst e; rw [ud_s, hd]
    · rw [ud_n e, ud_n e, ho i e])]
theorem ud_ud {dat : Nat → LD} {j : Nat} {d1 d2 : LD} : updD (updD dat j d1) j d2 = updD dat j d2 := by
  funext i
  by_cases e : i = j
  · subst e; rw [ud_s, ud_s]
  · rw [ud_n e, ud_n e, ud_n e]
theorem wx_cl {j : Nat} (hj : j < sN σ) : ((WX ct sa ad mcn φ σ ++ wr).set (16 + 3 * j + 1) (ad (21 + 3 * j), .inl (ct 0, 4, .inl (clL (lL σ j) 4)))).set (16 + 3 * j) (ad (20 + 3 * j), .inr (1, [.ref (ad (21 + 3 * j)), .ref (ad (22 + 3 * j)), .int (sR σ (8 * j + 0)), .int (sR σ (8 * j + 2)), .int (nI 0), .int (sR σ (8 * j + 3))])) = WX ct sa ad mcn φ (uR σ (clF (sR σ) j 4)) ++ wr := by
  have e1 : (WX ct sa ad mcn φ σ ++ wr).set (16 + 3 * j + 1) (ad (21 + 3 * j), .inl (ct 0, 4, .inl (clL (lL σ j) 4))) = _ := wd_set (dat := ldS σ) (i := 1) (d := (clL (lL σ j) 4, (ldS σ j).2)) hj (by decide) rfl
  rw [e1]
  refine (wd_set (dat := updD (ldS σ) j (clL (lL σ j) 4, (ldS σ j).2)) (i := 0) (d := (clL (lL σ j) 4, (ldS σ j).2.1, sR σ (8 * j + 0), sR σ (8 * j + 2), nI 0, sR σ (8 * j + 3))) hj (by decide) (by rw [ud_s]; rfl)).trans ?_
  exact wd_fin rfl rfl (fun i h => ld_clo h) ld_cl
/-- one lock's hour, in the world -/
theorem wx_hr {j : Nat} (hi : Inv0 σ) (hj : j < sN σ) : (if shD (sK σ) (sH σ) (ldS (hX σ j) j) then (((WX ct sa ad mcn φ (hX σ j) ++ wr).set (16 + 3 * j + 2) (ad (22 + 3 * j), .inl (ct 0, 24, .inl (wLL (lL (hX σ j) j) (sR (hX σ j) (8 * j + 0)) (sR (hX σ j) (8 * j + 2)) (sR (hX σ j) (8 * j + 1)) (lW (hX σ j) j) 4)))).set (16 + 3 * j + 1) (ad (21 + 3 * j), .inl (ct 0, 4, .inl (clL (lL (hX σ j) j) 4)))).set (16 + 3 * j) (ad (20 + 3 * j), .inr (1, [.ref (ad (21 + 3 * j)), .ref (ad (22 + 3 * j)), .int (sR (hX σ j) (8 * j + 0)), .int (sR (hX σ j) (8 * j + 2)), .int (nI 0), .int (sR (hX σ j) (8 * j + 3))])) else (WX ct sa ad mcn φ (hX σ j) ++ wr).set (16 + 3 * j + 2) (ad (22 + 3 * j), .inl (ct 0, 24, .inl (wLL (lL (hX σ j) j) (sR (hX σ j) (8 * j + 0)) (sR (hX σ j) (8 * j + 2)) (sR (hX σ j) (8 * j + 1)) (lW (hX σ j) j) 4)))) = WX ct sa ad mcn φ (hX σ (j + 1)) ++ wr := by
  have h8 : j < 8 := by have := hi.1; omega
  have hp := hx_pre hi h8 (Nat.le_refl j)
  have hs := hx_s hi h8
  have e1 : (WX ct sa ad mcn φ (hX σ j) ++ wr).set (16 + 3 * j + 2) (ad (22 + 3 * j), .inl (ct 0, 24, .inl (wLL (lL (hX σ j) j) (sR (hX σ j) (8 * j + 0)) (sR (hX σ j) (8 * j + 2)) (sR (hX σ j) (8 * j + 1)) (lW (hX σ j) j) 4))) = _ := wd_set (σ := hX σ j) (dat := ldS (hX σ j)) (i := 2) (d := ((ldS (hX σ j) j).1, wLL (ldS (hX σ j) j).1 (ldS (hX σ j) j).2.2.1 (ldS (hX σ j) j).2.2.2.1 (ldS (hX σ j) j).2.2.2.2.1 (ldS (hX σ j) j).2.1 4, (ldS (hX σ j) j).2.2)) hj (by decide) rfl
  rw [e1]
  have ho : ∀ i, i ≠ j → ldS (hX σ (j + 1)) i = ldS (hX σ j) i := fun i h => hx_o hi h8 h
  unfold hrD at hs
  rw [← hp] at hs
  by_cases c : shD (sK σ) (sH σ) (ldS (hX σ j) j)
  · rw [if_pos c]
    rw [if_pos c] at hs
    refine (congrArg (fun w => List.set w _ _) (wd_set (σ := hX σ j) (i := 1) (d := (clL (ldS (hX σ j) j).1 4, wLL (ldS (hX σ j) j).1 (ldS (hX σ j) j).2.2.1 (ldS (hX σ j) j).2.2.2.1 (ldS (hX σ j) j).2.2.2.2.1 (ldS (hX σ j) j).2.1 4, (ldS (hX σ j) j).2.2)) hj (by decide) (by rw [ud_s]; rfl))).trans ?_
    refine (wd_set (σ := hX σ j) (i := 0) (d := (clL (ldS (hX σ j) j).1 4, wLL (ldS (hX σ j) j).1 (ldS (hX σ j) j).2.2.1 (ldS (hX σ j) j).2.2.2.1 (ldS (hX σ j) j).2.2.2.2.1 (ldS (hX σ j) j).2.1 4, (ldS (hX σ j) j).2.2.1, (ldS (hX σ j) j).2.2.2.1, nI 0, (ldS (hX σ j) j).2.2.2.2.2)) hj (by decide) (by rw [ud_s]; rfl)).trans ?_
    rw [ud_ud]
    exact wd_fin rfl rfl ho hs
  · rw [if_neg c]
    rw [if_neg c] at hs
    refine Eq.trans ?_ (wd_fin (σ := hX σ j) (d1 := ldS (hX σ j) j) rfl rfl ho hs)
    rw [ud_ud]
theorem wx_r0 {r : Nat} {v : Int32} (hr : r < 3) : (WX ct sa ad mcn φ σ ++ wr).set (3 + r) (ad (4 + r), .inr (2, [.int v, .int (sK σ (3 * r + 1)), .int (sK σ (3 * r + 2))])) = WX ct sa ad mcn φ (uK σ (upd (sK σ) (3 * r + 0) v)) ++ wr := by
  match r, hr with
  | 0, _ => rfl
  | 1, _ => rfl
  | 2, _ => rfl
theorem wx_r1 {r : Nat} {v : Int32} (hr : r < 3) : (WX ct sa ad mcn φ σ ++ wr).set (3 + r) (ad (4 + r), .inr (2, [.int (sK σ (3 * r + 0)), .int v, .int (sK σ (3 * r + 2))])) = WX ct sa ad mcn φ (uK σ (upd (sK σ) (3 * r + 1) v)) ++ wr := by
  match r, hr with
  | 0, _ => rfl
  | 1, _ => rfl
  | 2, _ => rfl
theorem wx_r2 {r : Nat} {v : Int32} (hr : r < 3) : (WX ct sa ad mcn φ σ ++ wr).set (3 + r) (ad (4 + r), .inr (2, [.int (sK σ (3 * r + 0)), .int (sK σ (3 * r + 1)), .int v])) = WX ct sa ad mcn φ (uK σ (upd (sK σ) (3 * r + 2) v)) ++ wr := by
  match r, hr with
  | 0, _ => rfl
  | 1, _ => rfl
  | 2, _ => rfl
end WX2
