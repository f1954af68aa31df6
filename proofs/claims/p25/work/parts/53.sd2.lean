/-! the law's station, cells by what a lock is -/
section ZX
variable {ct : Nat → ClassId} {sd : Nat → Nat} {H T : Int32} {n : Nat} {K : Nat → Int32} {dat : Nat → LD} {wr : va_W} {j : Nat} {d : LD}
theorem sx_o (hj : j < n) (hd : dat j = d) : (SW ct sd H T n K dat ++ wr)[6 + 8 * j]? = some (obL (sd (10 + 8 * j)) (sd (11 + 8 * j)) (sd (12 + 8 * j)) (sd (13 + 8 * j)) d.2.2.2.2.1 d.2.2.2.2.2 d.2.2.2.1) := by rw [← hd]; exact sw_o hj
theorem sx_w (hj : j < n) (hd : dat j = d) : (SW ct sd H T n K dat ++ wr)[6 + 8 * j + 7]? = some (arI ct (sd (11 + 8 * j)) 4 (cut 4 (ltF d.2.2.1))) := by rw [← hd]; exact sw_w hj
theorem sx_r (hj : j < n) (hd : dat j = d) : (SW ct sd H T n K dat ++ wr)[6 + 8 * j + 1]? = some (arI ct (sd (12 + 8 * j)) 4 d.1) := by rw [← hd]; exact sw_r hj
theorem sx_y {r : Nat} (hj : j < n) (hr : r < 4) (hd : dat j = d) : (SW ct sd H T n K dat ++ wr)[6 + (8 * j + (3 + r))]? = some (arI ct (sd (14 + 8 * j + r)) 6 (cut 6 (wrw d.2.1 r))) := by rw [← hd]; exact sw_y hj hr
theorem sx_sy {r q : Nat} {v : Int32} (hj : j < n) (hr : r < 4) (hq : q < 6) (hd : dat j = d) : (SW ct sd H T n K dat ++ wr).set (6 + (8 * j + (3 + r))) (arI ct (sd (14 + 8 * j + r)) 6 (upd (cut 6 (wrw d.2.1 r)) q v)) = SW ct sd H T n K (updD dat j (d.1, upd d.2.1 (6 * r + q) v, d.2.2)) ++ wr := by rw [← hd]; exact sw_sy hj hr hq
theorem sx_so {op lo rk : Int32} (hj : j < n) (hd : dat j = d) : (SW ct sd H T n K dat ++ wr).set (6 + 8 * j) (obL (sd (10 + 8 * j)) (sd (11 + 8 * j)) (sd (12 + 8 * j)) (sd (13 + 8 * j)) op lo rk) = SW ct sd H T n K (updD dat j (d.1, d.2.1, d.2.2.1, rk, op, lo)) ++ wr := by rw [← hd]; exact sw_so hj
theorem sx_sr {f : Nat → Int32} (hj : j < n) (hd : dat j = d) : (SW ct sd H T n K dat ++ wr).set (6 + 8 * j + 1) (arI ct (sd (12 + 8 * j)) 4 f) = SW ct sd H T n K (updD dat j (f, d.2)) ++ wr := by rw [← hd]; exact sw_sr hj
theorem sx_sh (hj : j < n) (hd : dat j = d) : ((SW ct sd H T n K dat ++ wr).set (6 + 8 * j) (obL (sd (10 + 8 * j)) (sd (11 + 8 * j)) (sd (12 + 8 * j)) (sd (13 + 8 * j)) (nI 0) d.2.2.2.2.2 d.2.2.2.1)).set (6 + 8 * j + 1) (arI ct (sd (12 + 8 * j)) 4 (clL d.1 4)) = SW ct sd H T n K (updD dat j (clL d.1 4, d.2.1, d.2.2.1, d.2.2.2.1, nI 0, d.2.2.2.2.2)) ++ wr := by
  rw [sx_so hj hd, sx_sr (d := (d.1, d.2.1, d.2.2.1, d.2.2.2.1, nI 0, d.2.2.2.2.2)) hj ud_s, ud_ud]
end ZX
/-! an hour goes by -/
def wdA (σ : St) (i : Nat) : Nat → LD := fun q => if q < i then wdD (ldS σ q) 4 else ldS σ q
theorem wa_0 (σ : St) (i : Nat) : wdA σ i = updD (wdA σ i) i (wdD (ldS σ i) 0) := by
  funext q
  by_cases e : q = i
  · subst e
    rw [ud_s]
    exact if_neg (Nat.lt_irrefl q)
  · rw [ud_n e]
theorem wa_s (σ : St) (i : Nat) : updD (wdA σ i) i (wdD (ldS σ i) 4) = wdA σ (i + 1) := by
  funext q
  by_cases e : q = i
  · subst e
    rw [ud_s]
    exact (if_pos (Nat.lt_succ_self q)).symm
  · rw [ud_n e]
    show (if _ then _ else _) = if _ then _ else _
    by_cases c : q < i
    · rw [if_pos c, if_pos (by omega)]
    · rw [if_neg c, if_neg (by omega)]
def hrA (σ : St) (i : Nat) : Nat → LD := fun q => if q < i then hrD (sK σ) (sH σ) (ldS σ q) else wdD (ldS σ q) 4
theorem ha_i (σ : St) (i : Nat) : hrA σ i i = wdD (ldS σ i) 4 := if_neg (Nat.lt_irrefl i)
theorem ha_0 (σ : St) {q : Nat} (hq : q < sN σ) : wdA σ (sN σ) q = hrA σ 0 q := (if_pos hq).trans (if_neg (Nat.not_lt_zero q)).symm
theorem ha_s {σ : St} {i : Nat} (h : shD (sK σ) (sH σ) (ldS σ i)) : updD (hrA σ i) i (clL (ldS σ i).1 4, (wdD (ldS σ i) 4).2.1, (ldS σ i).2.2.1, (ldS σ i).2.2.2.1, nI 0, (ldS σ i).2.2.2.2.2) = hrA σ (i + 1) := by
  funext q
  by_cases e : q = i
  · subst e
    rw [ud_s]
    refine Eq.trans ?_ (if_pos (Nat.lt_succ_self q)).symm
    rw [hr_wd, if_pos h]
  · rw [ud_n e]
    show (if _ then _ else _) = if _ then _ else _
    by_cases c : q < i
    · rw [if_pos c, if_pos (by omega)]
    · rw [if_neg c, if_neg (by omega)]
theorem ha_n {σ : St} {i : Nat} (h : ¬ shD (sK σ) (sH σ) (ldS σ i)) : hrA σ i = hrA σ (i + 1) := by
  funext q
  show (if _ then _ else _) = if _ then _ else _
  by_cases e : q = i
  · subst e
    rw [if_neg (Nat.lt_irrefl q), if_pos (Nat.lt_succ_self q), hr_wd, if_neg h]
  · by_cases c : q < i
    · rw [if_pos c, if_pos (by omega)]
    · rw [if_neg c, if_neg (by omega)]
theorem cf_s {σ : St} (hi : Inv0 σ) {i : Nat} (h8 : i < 8) (h : shD (sK σ) (sH σ) (ldS σ i)) : cCF (sK σ) (sH σ) (sR σ) i + nI 1 = cCF (sK σ) (sH σ) (sR σ) (i + 1) := (if_pos ((sh_ca hi h8).mpr h)).symm
theorem cf_n {σ : St} (hi : Inv0 σ) {i : Nat} (h8 : i < 8) (h : ¬ shD (sK σ) (sH σ) (ldS σ i)) : cCF (sK σ) (sH σ) (sR σ) i = cCF (sK σ) (sH σ) (sR σ) (i + 1) := (if_neg (fun z => h ((sh_ca hi h8).mp z))).symm
theorem ha_e {ct : Nat → ClassId} {sd : Nat → Nat} {σ : St} (hi : Inv0 σ) : SW ct sd (sH σ + nI 1) (sT σ) (sN σ) (sK σ) (hrA σ (sN σ)) = SWs ct sd (hrS σ) := by
  refine (sw_e (dat' := ldS (hrS σ)) (fun q hq => ?_)).trans rfl
  rw [hr_ld hi hq]
  exact if_pos hq
abbrev okK (K : Nat → Int32) : Prop := ∀ r, r < 3 → okI 24 (K (3 * r + 1)) ∧ okI 25 (K (3 * r + 2))
