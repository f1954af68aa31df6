/-! class and reference reckon alike -/
theorem st_cong {f g : Nat → Int32} : ∀ t, (∀ i, i < t → f i = g i) → stF f t = stF g t
  | 0, _ => rfl
  | t + 1, h => by
    show nI 6 * stF f t + f t = nI 6 * stF g t + g t
    rw [st_cong t (fun i hi => h i (by omega)), h t (by omega)]
theorem sum_cong {f g : Nat → Int32} : ∀ t, (∀ i, i < t → f i = g i) → sumF f t = sumF g t
  | 0, _ => rfl
  | t + 1, h => by
    show sumF f t + f t = sumF g t + g t
    rw [sum_cong t (fun i hi => h i (by omega)), h t (by omega)]
theorem bm_cong {f g : Nat → Int32} : ∀ t, (∀ i, i ≤ t → f i = g i) → bmF f t = bmF g t
  | 0, _ => rfl
  | t + 1, h => by
    show (if f (bmF f t) < f (t + 1) then t + 1 else bmF f t) = if g (bmF g t) < g (t + 1) then t + 1 else bmF g t
    have ih := bm_cong t (fun i hi => h i (by omega))
    have hb := bmF_le g t
    rw [ih, h (bmF g t) (by omega), h (t + 1) (by omega)]
theorem st_l (σ : St) (j : Nat) : stF (lL σ j) 4 = stR (sR σ) j := st_cong 4 (fun _ h => cut_in h)
theorem lw_q (σ : St) (j : Nat) {r q : Nat} (hr : r < 4) (hq : q < 6) : wrw (lW σ j) r q = wrow (sW σ) j r q := by
  show (if 6 * r + q < 24 then sW σ (24 * j + (6 * r + q)) else nI 0) = sW σ (6 * (4 * j + r) + q)
  rw [if_pos (by omega)]
  congr 1
  omega
theorem sh_l (σ : St) (j : Nat) : stF (fun r => nI (bmF (wrw (lW σ j) r) 5)) 4 = shF (sW σ) j := st_cong 4 (fun r hr => congrArg nI (bm_cong 5 (fun q hq => lw_q σ j hr (by omega))))
/-! counting -/
theorem cnt_add (P : Nat → Prop) [DecidablePred P] (a : Nat) : ∀ b, cntN P (a + b) = cntN P a + cntN (fun i => P (a + i)) b
  | 0 => rfl
  | b + 1 => by
    show cntN P (a + b) + (if P (a + b) then 1 else 0) = cntN P a + (cntN (fun i => P (a + i)) b + (if P (a + b) then 1 else 0))
    rw [cnt_add P a b, Nat.add_assoc]
theorem cnt_cong {P Q : Nat → Prop} [DecidablePred P] [DecidablePred Q] : ∀ n, (∀ i, i < n → (P i ↔ Q i)) → cntN P n = cntN Q n
  | 0, _ => rfl
  | n + 1, h => by
    show cntN P n + (if P n then 1 else 0) = cntN Q n + (if Q n then 1 else 0)
    rw [cnt_cong n (fun i hi => h i (by omega))]
    by_cases e : P n
    · rw [if_pos e, if_pos ((h n (by omega)).mp e)]
    · rw [if_neg e, if_neg (fun z => e ((h n (by omega)).mpr z))]
theorem cnt_or {P Q : Nat → Prop} [DecidablePred P] [DecidablePred Q] (hd : ∀ i, P i → ¬ Q i) : ∀ n, cntN (fun i => P i ∨ Q i) n = cntN P n + cntN Q n
  | 0 => rfl
  | n + 1 => by
    show cntN (fun i => P i ∨ Q i) n + (if P n ∨ Q n then 1 else 0) = (cntN P n + (if P n then 1 else 0)) + (cntN Q n + (if Q n then 1 else 0))
    rw [cnt_or hd n]
    by_cases e : P n
    · rw [if_pos (Or.inl e), if_pos e, if_neg (hd n e)]; omega
    · by_cases e2 : Q n
      · rw [if_pos (Or.inr e2), if_neg e, if_pos e2]; omega
      · rw [if_neg (fun z => z.elim e e2), if_neg e, if_neg e2]; omega
theorem cnt_none {P : Nat → Prop} [DecidablePred P] : ∀ n, (∀ i, i < n → ¬ P i) → cntN P n = 0
  | 0, _ => rfl
  | n + 1, h => by
    show cntN P n + (if P n then 1 else 0) = 0
    rw [cnt_none n (fun i hi => h i (by omega)), if_neg (h n (by omega))]
theorem cnt_ss {P Q : Nat → Prop} [DecidablePred P] [DecidablePred Q] : ∀ n, (∀ i, i < n → Q i → P i) → cntN Q n ≤ cntN P n
  | 0, _ => Nat.le_refl 0
  | n + 1, h => by
    show cntN Q n + (if Q n then 1 else 0) ≤ cntN P n + (if P n then 1 else 0)
    have ih := cnt_ss n (fun i hi => h i (by omega))
    by_cases e : Q n
    · rw [if_pos e, if_pos (h n (by omega) e)]; omega
    · rw [if_neg e]; omega
theorem cnt_st {P Q : Nat → Prop} [DecidablePred P] [DecidablePred Q] {c : Nat} (hc : P c) (hc2 : ¬ Q c) : ∀ n, c < n → (∀ i, i < n → Q i → P i) → cntN Q n < cntN P n
  | 0, h, _ => absurd h (Nat.not_lt_zero _)
  | n + 1, hn, h => by
    show cntN Q n + (if Q n then 1 else 0) < cntN P n + (if P n then 1 else 0)
    by_cases e0 : c = n
    · subst e0
      have := cnt_ss c (fun i hi => h i (by omega))
      rw [if_neg hc2, if_pos hc]; omega
    · have ih := cnt_st hc hc2 n (by omega) (fun i hi => h i (by omega))
      by_cases e : Q n
      · rw [if_pos e, if_pos (h n (by omega) e)]; omega
      · rw [if_neg e]; omega
theorem cnt_to {P : Nat → Prop} [DecidablePred P] {v : Nat} : ∀ d, cntN (fun w => P w ∧ w < v) (v + d) = cntN P v
  | 0 => cnt_cong v (fun i hi => ⟨fun z => z.1, fun z => ⟨z, hi⟩⟩)
  | d + 1 => by
    show cntN (fun w => P w ∧ w < v) (v + d) + (if P (v + d) ∧ v + d < v then 1 else 0) = _
    rw [if_neg (fun z => by omega), cnt_to d]
    rfl
/-! six letters in an order -/
theorem px_int (g : Nat → Int32) (a b : Nat) : pxC g a b ↔ ((g a).toInt < (g b).toInt ∨ ((g b).toInt = (g a).toInt ∧ (nI b).toInt < (nI a).toInt)) := by
  show (g a < g b ∨ (g b = g a ∧ nI b < nI a)) ↔ _
  rw [Int32.lt_iff_toInt_lt, Int32.lt_iff_toInt_lt, ← Int32.toInt_inj]
theorem pn_lt2 (g : Nat → Int32) {a b : Nat} (ha : a < 6) (hb : b < 6) (h : pxC g a b) : pnN g b < pnN g a := by
  refine cnt_st (c := b) h (px_irr g b) 6 hb (fun c hc h2 => ?_)
  rw [px_int] at *
  omega
theorem pn_inj (g : Nat → Int32) {a b : Nat} (ha : a < 6) (hb : b < 6) (h : pnN g a = pnN g b) : a = b := by
  by_cases h1 : pxC g a b
  · have := pn_lt2 g ha hb h1; omega
  · by_cases h2 : pxC g b a
    · have := pn_lt2 g hb ha h2; omega
    · rw [px_int] at h1 h2
      have ea := nI_toInt (show a < 2 ^ 31 by omega)
      have eb := nI_toInt (show b < 2 ^ 31 by omega)
      omega
abbrev s6 (f : Nat → Nat) : Nat := f 0 + f 1 + f 2 + f 3 + f 4 + f 5
theorem s6_cong {f g : Nat → Nat} (h : ∀ i, i < 6 → f i = g i) : s6 f = s6 g := by
  show f 0 + f 1 + f 2 + f 3 + f 4 + f 5 = g 0 + g 1 + g 2 + g 3 + g 4 + g 5
  rw [h 0 (by decide), h 1 (by decide), h 2 (by decide), h 3 (by decide), h 4 (by decide), h 5 (by decide)]
theorem s6_one (v x : Nat) (h : v < 6) : s6 (fun q => if v = q then x else 0) = x := by
  match v, h with
  | 0, _ => show x + 0 + 0 + 0 + 0 + 0 = x; rfl
  | 1, _ => show 0 + x + 0 + 0 + 0 + 0 = x; omega
  | 2, _ => show 0 + 0 + x + 0 + 0 + 0 = x; omega
  | 3, _ => show 0 + 0 + 0 + x + 0 + 0 = x; omega
  | 4, _ => show 0 + 0 + 0 + 0 + x + 0 = x; omega
  | 5, _ => show 0 + 0 + 0 + 0 + 0 + x = x; omega
theorem s6_swap (F : Nat → Nat → Nat) : s6 (fun d => s6 (fun q => F d q)) = s6 (fun q => s6 (fun d => F d q)) := by
  show F 0 0 + F 0 1 + F 0 2 + F 0 3 + F 0 4 + F 0 5 + (F 1 0 + F 1 1 + F 1 2 + F 1 3 + F 1 4 + F 1 5) + (F 2 0 + F 2 1 + F 2 2 + F 2 3 + F 2 4 + F 2 5) + (F 3 0 + F 3 1 + F 3 2 + F 3 3 + F 3 4 + F 3 5) + (F 4 0 + F 4 1 + F 4 2 + F 4 3 + F 4 4 + F 4 5) + (F 5 0 + F 5 1 + F 5 2 + F 5 3 + F 5 4 + F 5 5) = F 0 0 + F 1 0 + F 2 0 + F 3 0 + F 4 0 + F 5 0 + (F 0 1 + F 1 1 + F 2 1 + F 3 1 + F 4 1 + F 5 1) + (F 0 2 + F 1 2 + F 2 2 + F 3 2 + F 4 2 + F 5 2) + (F 0 3 + F 1 3 + F 2 3 + F 3 3 + F 4 3 + F 5 3) + (F 0 4 + F 1 4 + F 2 4 + F 3 4 + F 4 4 + F 5 4) + (F 0 5 + F 1 5 + F 2 5 + F 3 5 + F 4 5 + F 5 5)
  omega
theorem s6_le1 (p : Nat → Nat) (q : Nat) (hi : ∀ a, a < 6 → ∀ b, b < 6 → p a = p b → a = b) : s6 (fun d => if p d = q then 1 else 0) ≤ 1 := by
  have ne : ∀ a, a < 6 → ∀ b, b < 6 → a ≠ b → p a = q → (if p b = q then 1 else 0) = 0 := fun a ha b hb hab h => if_neg (fun z => hab (hi a ha b hb (h.trans z.symm)))
  have le : ∀ d, (if p d = q then 1 else 0) ≤ 1 := fun d => by
    by_cases h : p d = q
    · rw [if_pos h]; exact Nat.le_refl 1
    · rw [if_neg h]; omega
  show (if p 0 = q then 1 else 0) + (if p 1 = q then 1 else 0) + (if p 2 = q then 1 else 0) + (if p 3 = q then 1 else 0) + (if p 4 = q then 1 else 0) + (if p 5 = q then 1 else 0) ≤ 1
  by_cases h0 : p 0 = q
  · rw [ne 0 (by decide) 1 (by decide) (by decide) h0, ne 0 (by decide) 2 (by decide) (by decide) h0, ne 0 (by decide) 3 (by decide) (by decide) h0, ne 0 (by decide) 4 (by decide) (by decide) h0, ne 0 (by decide) 5 (by decide) (by decide) h0]
    exact le 0
  · rw [if_neg h0]
    by_cases h1 : p 1 = q
    · rw [ne 1 (by decide) 2 (by decide) (by decide) h1, ne 1 (by decide) 3 (by decide) (by decide) h1, ne 1 (by decide) 4 (by decide) (by decide) h1, ne 1 (by decide) 5 (by decide) (by decide) h1]
      have := le 1
      omega
    · rw [if_neg h1]
      by_cases h2 : p 2 = q
      · rw [ne 2 (by decide) 3 (by decide) (by decide) h2, ne 2 (by decide) 4 (by decide) (by decide) h2, ne 2 (by decide) 5 (by decide) (by decide) h2]
        have := le 2
        omega
      · rw [if_neg h2]
        by_cases h3 : p 3 = q
        · rw [ne 3 (by decide) 4 (by decide) (by decide) h3, ne 3 (by decide) 5 (by decide) (by decide) h3]
          have := le 3
          omega
        · rw [if_neg h3]
          by_cases h4 : p 4 = q
          · rw [ne 4 (by decide) 5 (by decide) (by decide) h4]
            have := le 4
            omega
          · rw [if_neg h4]
            have := le 5
            omega
theorem six_1 {y0 y1 y2 y3 y4 y5 : Nat} (h : y0 + y1 + y2 + y3 + y4 + y5 = 6) (h0 : y0 ≤ 1) (h1 : y1 ≤ 1) (h2 : y2 ≤ 1) (h3 : y3 ≤ 1) (h4 : y4 ≤ 1) (h5 : y5 ≤ 1) : y0 = 1 ∧ y1 = 1 ∧ y2 = 1 ∧ y3 = 1 ∧ y4 = 1 ∧ y5 = 1 := by omega
theorem s6_perm (p F : Nat → Nat) (hp : ∀ a, a < 6 → p a < 6) (hi : ∀ a, a < 6 → ∀ b, b < 6 → p a = p b → a = b) : s6 (fun d => F (p d)) = s6 F := by
  have e1 : s6 (fun d => F (p d)) = s6 (fun d => s6 (fun q => if p d = q then F q else 0)) := s6_cong (fun d hd => by
    have h : ∀ q, (if p d = q then F q else 0) = if p d = q then F (p d) else 0 := fun q => by
      by_cases e : p d = q
      · rw [if_pos e, if_pos e, e]
      · rw [if_neg e, if_neg e]
    rw [show (fun q => if p d = q then F q else 0) = fun q => if p d = q then F (p d) else 0 from funext h]
    exact (s6_one (p d) (F (p d)) (hp d hd)).symm)
  have tot : s6 (fun q => s6 (fun d => if p d = q then 1 else 0)) = 6 := by
    rw [← s6_swap, s6_cong (g := fun _ => 1) (fun d hd => s6_one (p d) 1 (hp d hd))]
    rfl
  have le := fun q => s6_le1 p q hi
  have one : ∀ q, q < 6 → s6 (fun d => if p d = q then 1 else 0) = 1 := by
    have t2 : s6 (fun d => if p d = 0 then 1 else 0) + s6 (fun d => if p d = 1 then 1 else 0) + s6 (fun d => if p d = 2 then 1 else 0) + s6 (fun d => if p d = 3 then 1 else 0) + s6 (fun d => if p d = 4 then 1 else 0) + s6 (fun d => if p d = 5 then 1 else 0) = 6 := tot
    obtain ⟨z0, z1, z2, z3, z4, z5⟩ := six_1 t2 (le 0) (le 1) (le 2) (le 3) (le 4) (le 5)
    intro q hq
    match q, hq with
    | 0, _ => exact z0
    | 1, _ => exact z1
    | 2, _ => exact z2
    | 3, _ => exact z3
    | 4, _ => exact z4
    | 5, _ => exact z5
  rw [e1, s6_swap]
  refine s6_cong (fun q hq => ?_)
  have h : ∀ d, (if p d = q then F q else 0) = (if p d = q then 1 else 0) * F q := fun d => by
    by_cases e : p d = q
    · rw [if_pos e, if_pos e, Nat.one_mul]
    · rw [if_neg e, if_neg e, Nat.zero_mul]
  rw [show (fun d => if p d = q then F q else 0) = fun d => (if p d = q then 1 else 0) * F q from funext h]
  show (if p 0 = q then 1 else 0) * F q + (if p 1 = q then 1 else 0) * F q + (if p 2 = q then 1 else 0) * F q + (if p 3 = q then 1 else 0) * F q + (if p 4 = q then 1 else 0) * F q + (if p 5 = q then 1 else 0) * F q = F q
  rw [← Nat.add_mul, ← Nat.add_mul, ← Nat.add_mul, ← Nat.add_mul, ← Nat.add_mul]
  exact (congrArg (fun z => z * F q) (one q hq)).trans (Nat.one_mul _)
/-! words of a sum -/
/-- the sum of the places of the last k rings of w -/
def sfN (W : Nat → Int32) (w : Nat) : Nat → Nat
  | 0 => 0
  | k + 1 => sfN W w k + pnN (wrw W (3 - k)) (w / 6 ^ k % 6)
theorem sf_mod (W : Nat → Int32) {d w m : Nat} : ∀ k, k ≤ m → sfN W (d * 6 ^ m + w) k = sfN W w k
  | 0, _ => rfl
  | k + 1, h => by
    show sfN W (d * 6 ^ m + w) k + pnN (wrw W (3 - k)) ((d * 6 ^ m + w) / 6 ^ k % 6) = sfN W w k + pnN (wrw W (3 - k)) (w / 6 ^ k % 6)
    rw [sf_mod W k (by omega)]
    congr 2
    have e : d * 6 ^ m = 6 ^ k * (6 * (d * 6 ^ (m - (k + 1)))) := by
      have e2 : 6 ^ m = 6 ^ k * (6 * 6 ^ (m - (k + 1))) := by
        rw [← Nat.pow_succ', ← Nat.pow_add]
        congr 1
        omega
      rw [e2, Nat.mul_left_comm d, Nat.mul_left_comm d]
    rw [e, Nat.mul_add_div (Nat.pow_pos (by decide)), Nat.mul_add_mod]
theorem sf_top (W : Nat → Int32) {d w k : Nat} (hd : d < 6) (hw : w < 6 ^ k) : sfN W (d * 6 ^ k + w) (k + 1) = sfN W w k + pnN (wrw W (3 - k)) d := by
  show sfN W (d * 6 ^ k + w) k + pnN (wrw W (3 - k)) ((d * 6 ^ k + w) / 6 ^ k % 6) = _
  rw [sf_mod W k (Nat.le_refl k), Nat.mul_comm d, Nat.mul_add_div (Nat.pow_pos (by decide)), Nat.div_eq_of_lt hw, Nat.add_zero, Nat.mod_eq_of_lt hd]
/-- how many of the least n words of k rings have the sum s -/
abbrev eqN (W : Nat → Int32) (k s n : Nat) : Nat := cntN (fun w => sfN W w k = s) n
theorem eq_cut (W : Nat → Int32) {k s d n : Nat} (hd : d < 6) (hn : n ≤ 6 ^ k) : cntN (fun w => sfN W (d * 6 ^ k + w) (k + 1) = s) n = if pnN (wrw W (3 - k)) d ≤ s then eqN W k (s - pnN (wrw W (3 - k)) d) n else 0 := by
  by_cases h : pnN (wrw W (3 - k)) d ≤ s
  · rw [if_pos h]
    refine cnt_cong n (fun w hw => ?_)
    rw [sf_top W hd (Nat.lt_of_lt_of_le hw hn)]
    omega
  · rw [if_neg h]
    refine cnt_none n (fun w hw => ?_)
    rw [sf_top W hd (Nat.lt_of_lt_of_le hw hn)]
    omega
def lowN (W : Nat → Int32) (k s : Nat) : Nat → Nat
  | 0 => 0
  | t + 1 => lowN W k s t + (if pnN (wrw W (3 - k)) t ≤ s then eqN W k (s - pnN (wrw W (3 - k)) t) (6 ^ k) else 0)
theorem eq_low (W : Nat → Int32) (k s : Nat) : ∀ t, t ≤ 6 → eqN W (k + 1) s (t * 6 ^ k) = lowN W k s t
  | 0, _ => by rw [Nat.zero_mul]; rfl
  | t + 1, h => by
    rw [Nat.succ_mul]
    show cntN _ (t * 6 ^ k + 6 ^ k) = _
    rw [cnt_add, show cntN (fun w => sfN W w (k + 1) = s) (t * 6 ^ k) = _ from eq_low W k s t (by omega), eq_cut W (by omega) (Nat.le_refl _)]
    rfl
theorem eq_all (W : Nat → Int32) : ∀ k, k ≤ 4 → ∀ s, eqN W k s (6 ^ k) = cwN k s
  | 0, _, s => by
    show 0 + (if 0 = s then 1 else 0) = if s = 0 then 1 else 0
    by_cases h : s = 0
    · rw [if_pos h, if_pos h.symm]
    · rw [if_neg h, if_neg (fun z => h z.symm)]
  | k + 1, hk, s => by
    rw [Nat.pow_succ, Nat.mul_comm, eq_low W k s 6 (Nat.le_refl 6)]
    have ih := eq_all W k (by omega)
    show 0 + _ + _ + _ + _ + _ + _ = _
    rw [Nat.zero_add]
    rw [← pw_6]
    show _ = 0 + _ + _ + _ + _ + _ + _
    rw [Nat.zero_add]
    have e := s6_perm (pnN (wrw W (3 - k))) (fun q => if q ≤ s then cwN k (s - q) else 0) (fun a ha => pn_lt _ ha) (fun a ha b hb h => pn_inj _ ha hb h)
    refine Eq.trans ?_ e
    simp only [ih]
theorem low_ww (W : Nat → Int32) {k s : Nat} (hk : k ≤ 4) : ∀ t, lowN W k s t = lowN W k s t := fun _ => rfl
/-- the words before v of its sum, reckoned ring by ring -/
theorem ls_step (W : Nat → Int32) {v i : Nat} (hi : i < 4) : lsN W v i + eqN W (4 - i) (srN W v i) (v % 6 ^ (4 - i)) = lsN W v (i + 1) + eqN W (4 - (i + 1)) (srN W v (i + 1)) (v % 6 ^ (4 - (i + 1))) := by
  obtain ⟨k, hk⟩ : ∃ k, k = 3 - i := ⟨_, rfl⟩
  have e1 : 4 - i = k + 1 := by omega
  have e2 : 4 - (i + 1) = k := by omega
  have e3 : 3 - k = i := by omega
  have ev : v % 6 ^ (k + 1) = lN6 v i * 6 ^ k + v % 6 ^ k := by
    rw [Nat.pow_succ, Nat.mod_mul, Nat.add_comm, Nat.mul_comm, hk]
  have h1 : spN W v (i + 1) = spN W v i + pnN (wrw W i) (lN6 v i) := rfl
  have h2 : spN W v (i + 1) ≤ spN W v 4 := by
    have := sp_up W v (i + 1) (3 - i)
    rw [show i + 1 + (3 - i) = 4 by omega] at this
    exact this
  have hp : pnN (wrw W (3 - k)) (lN6 v i) ≤ srN W v i := by
    rw [e3]
    show _ ≤ spN W v 4 - spN W v i
    omega
  have hs : srN W v i - pnN (wrw W (3 - k)) (lN6 v i) = srN W v (i + 1) := by
    rw [e3]
    show spN W v 4 - spN W v i - _ = spN W v 4 - spN W v (i + 1)
    omega
  rw [e1, e2, ev]
  show _ + cntN _ (lN6 v i * 6 ^ k + v % 6 ^ k) = _
  rw [cnt_add, eq_cut W (lN6_lt v i) (Nat.le_of_lt (Nat.mod_lt _ (Nat.pow_pos (by decide)))), if_pos hp, hs]
  show lsN W v i + (eqN W (k + 1) (srN W v i) (lN6 v i * 6 ^ k) + _) = lsN W v i + liN W v i (lN6 v i) + _
  rw [eq_low W k _ _ (Nat.le_of_lt (lN6_lt v i)), ← Nat.add_assoc]
  congr 2
  have hl : ∀ t, lowN W k (srN W v i) t = liN W v i t := by
    intro t
    induction t with
    | zero => rfl
    | succ t ih =>
      show lowN W k (srN W v i) t + _ = liN W v i t + wwN (3 - i) (srN W v i) (pnN (wrw W i) t)
      rw [ih, e3, eq_all W k (by omega), ← hk]
  exact hl _
theorem ls_eq (W : Nat → Int32) {v : Nat} (hv : v < 1296) : lsN W v 4 = eqN W 4 (spN W v 4) v := by
  have a0 := ls_step W (v := v) (i := 0) (by decide)
  have a1 := ls_step W (v := v) (i := 1) (by decide)
  have a2 := ls_step W (v := v) (i := 2) (by decide)
  have a3 := ls_step W (v := v) (i := 3) (by decide)
  have e0 : lsN W v 0 + eqN W (4 - 0) (srN W v 0) (v % 6 ^ (4 - 0)) = eqN W 4 (spN W v 4) v := by
    rw [show v % 6 ^ (4 - 0) = v from Nat.mod_eq_of_lt hv]
    show 0 + _ = _
    rw [Nat.zero_add]
    rfl
  have e4 : lsN W v (3 + 1) + eqN W (4 - (3 + 1)) (srN W v (3 + 1)) (v % 6 ^ (4 - (3 + 1))) = lsN W v 4 := by
    rw [show v % 6 ^ (4 - (3 + 1)) = 0 from Nat.mod_one v]
    rfl
  exact e4.symm.trans (a3.symm.trans (a2.symm.trans (a1.symm.trans (a0.symm.trans e0))))
theorem cc_eq (W : Nat → Int32) : ∀ S, cntN (fun w => sfN W w 4 < S) 1296 = ccN 4 S
  | 0 => cnt_none 1296 (fun i _ => Nat.not_lt_zero _)
  | S + 1 => by
    show _ = ccN 4 S + cwN 4 S
    rw [← cc_eq W S, ← eq_all W 4 (by decide) S]
    show _ = _ + cntN (fun w => sfN W w 4 = S) 1296
    rw [← cnt_or (P := fun w => sfN W w 4 < S) (Q := fun w => sfN W w 4 = S) (fun i h1 h2 => by omega) 1296]
    exact cnt_cong 1296 (fun i _ => by omega)
theorem sf_sp (W : Nat → Int32) (v : Nat) : sfN W v 4 = spN W v 4 := by
  show 0 + pnN (wrw W 3) (v / 6 ^ 0 % 6) + pnN (wrw W 2) (v / 6 ^ 1 % 6) + pnN (wrw W 1) (v / 6 ^ 2 % 6) + pnN (wrw W 0) (v / 6 ^ 3 % 6) = 0 + pnN (wrw W 0) (v / 6 ^ 3 % 6) + pnN (wrw W 1) (v / 6 ^ 2 % 6) + pnN (wrw W 2) (v / 6 ^ 1 % 6) + pnN (wrw W 3) (v / 6 ^ 0 % 6)
  omega
theorem tx_cnt (W : Nat → Int32) {v : Nat} (hv : v < 1296) : txN W v = 1 + cntN (fun w => sfN W w 4 < sfN W v 4 ∨ (sfN W w 4 = sfN W v 4 ∧ w < v)) 1296 := by
  rw [cnt_or (P := fun w => sfN W w 4 < sfN W v 4) (Q := fun w => sfN W w 4 = sfN W v 4 ∧ w < v) (fun i h1 h2 => by omega) 1296, cc_eq W, show cntN (fun w => sfN W w 4 = sfN W v 4 ∧ w < v) 1296 = cntN (fun w => sfN W w 4 = sfN W v 4) v from by
    have := cnt_to (P := fun w => sfN W w 4 = sfN W v 4) (v := v) (1296 - v)
    rw [show v + (1296 - v) = 1296 by omega] at this
    exact this, sf_sp]
  show ccN 4 _ + lsN W v 4 + 1 = 1 + (ccN 4 _ + eqN W 4 (spN W v 4) v)
  rw [ls_eq W hv]
  omega
/-! the reference's places are these -/
theorem pl_px {g g2 : Nat → Int32} (h : ∀ i, i < 6 → g i = g2 i) (ho : ∀ i, i < 6 → okI 100 (g i)) {a b : Nat} (ha : a < 6) (hb : b < 6) : plC g a b ↔ pxC g2 a b := by
  obtain ⟨m, hm, em⟩ := okI_of (ho a ha) (by decide)
  obtain ⟨m2, hm2, em2⟩ := okI_of (ho b hb) (by decide)
  have s := pk_sub_toInt (show m2 < 2 ^ 30 by omega) (show m < 2 ^ 30 by omega)
  show (0 < g b - g a ∨ (g b - g a = 0 ∧ nI b < nI a)) ↔ (g2 a < g2 b ∨ (g2 b = g2 a ∧ nI b < nI a))
  have z0 : (0 : Int32).toInt = 0 := by decide
  have k1 : 0 < nI m2 - nI m ↔ m < m2 := by
    rw [Int32.lt_iff_toInt_lt, s, z0]
    omega
  have k2 : nI m2 - nI m = 0 ↔ m2 = m := by
    rw [← Int32.toInt_inj, s, z0]
    omega
  rw [← h a ha, ← h b hb, em, em2, k1, k2, nI_ltI (by omega) (by omega), nI_ltI (by omega) (by omega), nI_eq (by omega) (by omega)]
theorem sum_b (P Q : Nat → Prop) [DecidablePred P] [DecidablePred Q] (t : Nat) (h : ∀ i, i < t → (P i ↔ Q i)) : sumF (fun i => b2i (P i)) t = nI (cntN Q t) := by
  rw [sum_cnt, cnt_cong t h]
theorem pl_k (σ : St) {j : Nat} (hw : ∀ q, q < 24 → okI 100 (sW σ (24 * j + q))) {r a : Nat} (hr : r < 4) (ha : a < 6) : plA (sW σ) j 24 (6 * r + a) = nI (pnN (wrw (lW σ j) r) a) := by
  show (if _ then _ else _) = _
  rw [if_pos (by omega), show (6 * r + a) / 6 = r by omega, show (6 * r + a) % 6 = a by omega]
  exact sum_b _ _ 6 (fun b hb => pl_px (fun i hi => (lw_q σ j hr hi).symm) (fun i hi => by
    have := hw (6 * r + i) (by omega)
    rw [show 24 * j + (6 * r + i) = 6 * (4 * j + r) + i by omega] at this
    exact this) ha hb)
theorem sm_k (σ : St) {j : Nat} (hw : ∀ q, q < 24 → okI 100 (sW σ (24 * j + q))) (v : Nat) : smI (plA (sW σ) j 24) v 4 = nI (sfN (lW σ j) v 4) := by
  have h : ∀ i, i < 4 → plA (sW σ) j 24 (6 * (3 - i) + v / 6 ^ i % 6) = nI (pnN (wrw (lW σ j) (3 - i)) (v / 6 ^ i % 6)) := fun i hi => pl_k σ hw (by omega) (Nat.mod_lt _ (by decide))
  show nI 0 + plA (sW σ) j 24 (6 * (3 - 0) + v / 6 ^ 0 % 6) + plA (sW σ) j 24 (6 * (3 - 1) + v / 6 ^ 1 % 6) + plA (sW σ) j 24 (6 * (3 - 2) + v / 6 ^ 2 % 6) + plA (sW σ) j 24 (6 * (3 - 3) + v / 6 ^ 3 % 6) = nI (0 + _ + _ + _ + _)
  rw [h 0 (by decide), h 1 (by decide), h 2 (by decide), h 3 (by decide), nI_add, nI_add, nI_add, nI_add]
theorem acc_sum (s : Int32) (f : Nat → Int32) : ∀ n, accF s f n = s + sumF f n
  | 0 => (i_add0 s).symm
  | n + 1 => by
    show accF s f n + f n = s + (sumF f n + f n)
    rw [acc_sum s f n, Int32.add_assoc]
theorem sf_20 (W : Nat → Int32) (v : Nat) : sfN W v 4 ≤ 20 := by
  rw [sf_sp]
  exact sp_le W v 4
theorem tx_tr (σ : St) {j v : Nat} (hw : ∀ q, q < 24 → okI 100 (sW σ (24 * j + q))) (hv : v < 1296) : nI (txN (lW σ j) v) = trL (sW σ) j v := by
  show _ = accF (nI 1) _ 1296
  rw [acc_sum, sum_b _ (fun w => sfN (lW σ j) w 4 < sfN (lW σ j) v 4 ∨ (sfN (lW σ j) w 4 = sfN (lW σ j) v 4 ∧ w < v)) 1296 (fun o ho => by
    show (smI _ o 4 < smI _ v 4 ∨ (smI _ o 4 = smI _ v 4 ∧ nI o < nI v)) ↔ _
    have b1 := sf_20 (lW σ j) o
    have b2 := sf_20 (lW σ j) v
    rw [sm_k σ hw, sm_k σ hw, nI_ltI (by omega) (by omega), nI_ltI (by omega) (by omega), nI_eq (by omega) (by omega)]), tx_cnt _ hv, nI_add]
