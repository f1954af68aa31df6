/-! the law's own reckoning -/
theorem st_nat {g : Nat → Int32} {a b c d : Nat} (h0 : g 0 = nI a) (h1 : g 1 = nI b) (h2 : g 2 = nI c) (h3 : g 3 = nI d) : stF g 4 = nI (((a * 6 + b) * 6 + c) * 6 + d) := by
  show nI 6 * (nI 6 * (nI 6 * (nI 6 * nI 0 + g 0) + g 1) + g 2) + g 3 = _
  rw [h0, h1, h2, h3, pk_mul, nI_add, pk_mul, nI_add, pk_mul, nI_add, pk_mul, nI_add]
  congr 1
  omega
abbrev okL (g : Nat → Int32) : Prop := ∀ r, r < 4 → okI 6 (g r)
theorem wd_st {g : Nat → Int32} (h : okL g) : nI 216 * g 0 + nI 36 * g 1 + nI 6 * g 2 + g 3 = stF g 4 := by
  obtain ⟨a, ha, e0⟩ := okI_of (h 0 (by decide)) (by decide)
  obtain ⟨b, hb, e1⟩ := okI_of (h 1 (by decide)) (by decide)
  obtain ⟨c, hc, e2⟩ := okI_of (h 2 (by decide)) (by decide)
  obtain ⟨d, hd, e3⟩ := okI_of (h 3 (by decide)) (by decide)
  rw [st_nat e0 e1 e2 e3, e0, e1, e2, e3, pk_mul, pk_mul, pk_mul, nI_add, nI_add, nI_add]
  congr 1
  omega
theorem st_lt {w : Int32} (h : okI 1296 w) : stF (ltF w) 4 = w := by
  obtain ⟨m, hm, rfl⟩ := okI_of h (by decide)
  have e : ∀ r, ltF (nI m) r = nI (m / 6 ^ (3 - r) % 6) := fun r => lt_n (by omega)
  rw [st_nat (e 0) (e 1) (e 2) (e 3)]
  congr 1
  show ((m / 216 % 6 * 6 + m / 36 % 6) * 6 + m / 6 % 6) * 6 + m / 1 % 6 = m
  omega
theorem st_ltc {w : Int32} (h : okI 1296 w) : stF (cut 4 (ltF w)) 4 = w := (st_cong 4 (fun i hi => cut_in hi)).trans (st_lt h)
theorem ok_ltc {w : Int32} (h : okI 1296 w) : okL (cut 4 (ltF w)) := fun r hr => by
  rw [cut_in hr]
  exact lt_ok h
/-! turns -/
def farN (a b : Nat) : Nat := if a ≤ b then (if b - a ≤ 3 then b - a else 6 - (b - a)) else (if a - b ≤ 3 then a - b else 6 - (a - b))
theorem fa_n : ∀ a, a < 6 → ∀ b, b < 6 → farF (nI a) (nI b) = nI (farN a b) := by decide
theorem fa_lt : ∀ a, a < 6 → ∀ b, b < 6 → ∀ i, i < farN a b → (a + i) % 6 ≠ b ∧ (b + i) % 6 ≠ a := by decide
theorem fa_at : ∀ a, a < 6 → ∀ b, b < 6 → (a + farN a b) % 6 = b ∨ (b + farN a b) % 6 = a := by decide
theorem fa_3 : ∀ a, a < 6 → ∀ b, b < 6 → farN a b ≤ 3 := by decide
theorem fa_s : ∀ a, a < 6 → ∀ b, b < 6 → farN a b = farN b a := by decide
theorem fa_0 : ∀ a, a < 6 → ∀ b, b < 6 → (farN a b = 0 ↔ a = b) := by decide
theorem lt_up {x : Int32} (hx : okI 1296 x) : ∀ i, i < 4 → (upd (upd (upd (upd (fun _ => nI 0) 0 (x / nI 216)) 1 (irm (x / nI 36) (nI 6))) 2 (irm (x / nI 6) (nI 6))) 3 (irm x (nI 6))) i = cut 4 (ltF x) i := by
  obtain ⟨m, hm, rfl⟩ := okI_of hx (by decide)
  have e : ∀ r, ltF (nI m) r = nI (m / 6 ^ (3 - r) % 6) := fun r => lt_n (by omega)
  have d : ∀ c, 0 < c → c < 1000 → nI m / nI c = nI (m / c) := fun c h1 h2 => pk_div (by omega) h1 (by omega)
  have dl : ∀ c, m / c < 2 ^ 31 := fun c => Nat.lt_of_le_of_lt (Nat.div_le_self _ _) (by omega)
  intro i hi
  rw [cut_in hi, e]
  match i, hi with
  | 0, _ =>
    show nI m / nI 216 = nI (m / 216 % 6)
    rw [d 216 (by decide) (by decide), Nat.mod_eq_of_lt (by omega)]
  | 1, _ => exact irm_ok (d 36 (by decide) (by decide)) (dl _) (by decide) (by decide)
  | 2, _ => exact irm_ok (d 6 (by decide) (by decide)) (dl _) (by decide) (by decide)
  | 3, _ =>
    show irm (nI m) (nI 6) = nI (m / 1 % 6)
    rw [Nat.div_one]
    exact irm_ok rfl (by omega) (by decide) (by decide)
/-! the rings mixed -/
theorem cl_at {f : Nat → Int32} {r : Nat} : ∀ i, i ≤ r → clL f i r = f r
  | 0, _ => rfl
  | i + 1, h => (pk_un (by omega)).trans (cl_at i (by omega))
theorem cl_hi {f : Nat → Int32} {i m : Nat} (h : f i = nI m) (hm : m < 6) (hi : i < 4) (h5 : 5 < m + (i + 1)) : clL f (i + 1) = upd (clL f i) i (nI (m + (i + 1)) - nI 6) := by
  show upd (clL f i) i (irm (clL f i i + nI i + nI 1) (nI 6)) = _
  rw [cl_at i (Nat.le_refl i), h, nI_add, nI_add, irm_ok rfl (by omega) (by decide) (by decide), pk_sub (by omega)]
  congr 2
  omega
theorem cl_lo {f : Nat → Int32} {i m : Nat} (h : f i = nI m) (hm : m < 6) (hi : i < 4) (h5 : m + (i + 1) ≤ 5) : clL f (i + 1) = upd (clL f i) i (nI (m + (i + 1))) := by
  show upd (clL f i) i (irm (clL f i i + nI i + nI 1) (nI 6)) = _
  rw [cl_at i (Nat.le_refl i), h, nI_add, nI_add, irm_ok rfl (by omega) (by decide) (by decide)]
  congr 2
  omega
/-! the most worn letter, reckoned from above -/
def bdF (g : Nat → Int32) : Nat → Nat
  | 0 => 5
  | t + 1 => if g (bdF g t) ≤ g (4 - t) then 4 - t else bdF g t
theorem bd_le (g : Nat → Int32) : ∀ t, bdF g t ≤ 5
  | 0 => Nat.le_refl 5
  | t + 1 => by
    show (if _ then _ else _) ≤ 5
    by_cases h : g (bdF g t) ≤ g (4 - t)
    · rw [if_pos h]; omega
    · rw [if_neg h]; exact bd_le g t
theorem bd_max (g : Nat → Int32) : ∀ t, t ≤ 5 → (5 - t ≤ bdF g t) ∧ (∀ b, 5 - t ≤ b → b < 6 → (g b).toInt ≤ (g (bdF g t)).toInt) ∧ ∀ b, 5 - t ≤ b → b < bdF g t → (g b).toInt < (g (bdF g t)).toInt
  | 0, _ => ⟨Nat.le_refl 5, fun b h1 h2 => by rw [show b = 5 by omega]; exact Int.le_refl _, fun b h1 h2 => absurd h2 (by show ¬ b < 5; omega)⟩
  | t + 1, ht => by
    obtain ⟨i0, i1, i2⟩ := bd_max g t (by omega)
    have hb := bd_le g t
    rw [show bdF g (t + 1) = if g (bdF g t) ≤ g (4 - t) then 4 - t else bdF g t from rfl]
    by_cases h : g (bdF g t) ≤ g (4 - t)
    · rw [if_pos h]
      rw [Int32.le_iff_toInt_le] at h
      refine ⟨by omega, fun b h1 h2 => ?_, fun b h1 h2 => by omega⟩
      by_cases e : b = 4 - t
      · subst e; exact Int.le_refl _
      · have := i1 b (by omega) h2
        omega
    · rw [if_neg h]
      rw [Int32.le_iff_toInt_le] at h
      refine ⟨by omega, fun b h1 h2 => ?_, fun b h1 h2 => ?_⟩
      · by_cases e : b = 4 - t
        · subst e; omega
        · exact i1 b (by omega) h2
      · by_cases e : b = 4 - t
        · subst e; omega
        · exact i2 b (by omega) h2
theorem bm_max (g : Nat → Int32) : ∀ t, (∀ b, b ≤ t → (g b).toInt ≤ (g (bmF g t)).toInt) ∧ ∀ b, b < bmF g t → (g b).toInt < (g (bmF g t)).toInt
  | 0 => ⟨fun b h => by rw [show b = 0 by omega]; exact Int.le_refl _, fun b h => absurd h (Nat.not_lt_zero _)⟩
  | t + 1 => by
    obtain ⟨i1, i2⟩ := bm_max g t
    have hb := bmF_le g t
    rw [show bmF g (t + 1) = if g (bmF g t) < g (t + 1) then t + 1 else bmF g t from rfl]
    by_cases h : g (bmF g t) < g (t + 1)
    · rw [if_pos h]
      rw [Int32.lt_iff_toInt_lt] at h
      refine ⟨fun b h1 => ?_, fun b h1 => ?_⟩
      · by_cases e : b = t + 1
        · subst e; exact Int.le_refl _
        · have := i1 b (by omega); omega
      · have := i1 b (by omega); omega
    · rw [if_neg h]
      rw [Int32.lt_iff_toInt_lt] at h
      refine ⟨fun b h1 => ?_, i2⟩
      by_cases e : b = t + 1
      · subst e; omega
      · exact i1 b (by omega)
theorem bd_bm (g : Nat → Int32) : bdF g 5 = bmF g 5 := by
  obtain ⟨-, a1, a2⟩ := bd_max g 5 (Nat.le_refl 5)
  obtain ⟨b1, b2⟩ := bm_max g 5
  have ha := bd_le g 5
  have hb := bmF_le g 5
  rcases Nat.lt_trichotomy (bdF g 5) (bmF g 5) with h | h | h
  · have x1 := b2 _ h
    have x2 := a1 (bmF g 5) (by omega) (by omega)
    omega
  · exact h
  · have x1 := a2 _ (by omega) h
    have x2 := b1 (bdF g 5) ha
    omega
def rgB : Nat → Int32
  | 0 => nI 4
  | t + 1 => rgB t + Int32.ofInt (-1)
theorem rb_n : ∀ t, t < 5 → rgB t = nI (4 - t) := by decide
/-! a rack's hours, gone through -/
abbrev opN (h f t : Nat) : Prop := (f < t ∧ f ≤ h ∧ h < t) ∨ (t < f ∧ (f ≤ h ∨ h < t))
theorem op_n2 {h f t : Nat} (hh : h < 2 ^ 20) (hf : f < 24) (ht : t < 25) : opP (irm (nI h) (nI 24)) (nI f) (nI t) ↔ opN (h % 24) f t := by
  have e : irm (nI h) (nI 24) = nI (h % 24) := irm_ok rfl (by omega) (by decide) (by decide)
  have h2 : h % 24 < 24 := Nat.mod_lt _ (by decide)
  rw [e]
  show (nI f < nI t ∧ nI f ≤ nI (h % 24) ∧ nI (h % 24) < nI t) ∨ (nI t < nI f ∧ (nI f ≤ nI (h % 24) ∨ nI (h % 24) < nI t)) ↔ _
  rw [nI_ltI (by omega) (by omega), nI_leI (by omega) (by omega), nI_ltI (by omega) (by omega), nI_ltI (by omega) (by omega)]
abbrev opL (f t : Nat) : Nat := if f < t then t - f else 24 + t - f
theorem op_le (f t : Nat) : opL f t ≤ 24 + t := by
  show (if f < t then t - f else 24 + t - f) ≤ 24 + t
  by_cases c : f < t
  · rw [if_pos c]; omega
  · rw [if_neg c]; omega
theorem op_hit {h f t i : Nat} (hf : f < 24) (ht : t < 25) (hne : f ≠ t) (hi : i < opL f t) (he : (f + i) % 24 = h % 24) : opN (h % 24) f t := by
  have hi2 : i < if f < t then t - f else 24 + t - f := hi
  by_cases c : f < t
  · rw [if_pos c] at hi2
    exact Or.inl ⟨c, by omega, by omega⟩
  · rw [if_neg c] at hi2
    refine Or.inr ⟨by omega, ?_⟩
    by_cases c2 : f + i < 24
    · left; omega
    · right; omega
theorem op_mis {h f t : Nat} (hf : f < 24) (ht : t < 25) (hI : ∀ i, i < opL f t → ¬ (f + i) % 24 = h % 24) : ¬ opN (h % 24) f t := by
  have h2 : h % 24 < 24 := Nat.mod_lt _ (by decide)
  rintro (⟨a, b, c⟩ | ⟨a, b⟩)
  · refine hI (h % 24 - f) ?_ ?_
    · show _ < if f < t then t - f else 24 + t - f
      rw [if_pos a]; omega
    · rw [show f + (h % 24 - f) = h % 24 by omega, Nat.mod_mod]
  · have e : opL f t = 24 + t - f := if_neg (by omega)
    rcases b with b | b
    · refine hI (h % 24 - f) (by rw [e]; omega) ?_
      rw [show f + (h % 24 - f) = h % 24 by omega, Nat.mod_mod]
    · refine hI (24 + h % 24 - f) (by rw [e]; omega) ?_
      rw [show f + (24 + h % 24 - f) = 24 + h % 24 by omega]
      omega
theorem op_st {f t i : Nat} (hne : f ≠ t) (hi : i < opL f t) : f + i ≠ t ∧ f + i ≠ 24 + t := by
  have hi2 : i < if f < t then t - f else 24 + t - f := hi
  by_cases c : f < t
  · rw [if_pos c] at hi2; omega
  · rw [if_neg c] at hi2; omega
theorem op_en {f t : Nat} (hf : f < 24) : f + opL f t = t ∨ f + opL f t = 24 + t := by
  show f + (if f < t then t - f else 24 + t - f) = t ∨ _
  by_cases c : f < t
  · left; rw [if_pos c]; omega
  · right; show f + (if f < t then t - f else 24 + t - f) = _; rw [if_neg c]; omega
/-! an hour of one lock -/
theorem min_0 {x : Int32} (h : okI 100 x) : minF (nI 99) (x + nI 0) = x := by
  obtain ⟨m, hm, rfl⟩ := okI_of h (by decide)
  rw [i_add0]
  show (if nI m < nI 99 then nI m else nI 99) = nI m
  by_cases c : nI m < nI 99
  · rw [if_pos c]
  · rw [if_neg c]
    have : ¬ m < 99 := fun z => c (nI_lt z (by decide))
    rw [show m = 99 by omega]
/-- the wear of a lock's first r rings, behind an hour -/
abbrev wdD (d : LD) (r : Nat) : LD := (d.1, wLL d.1 d.2.2.1 d.2.2.2.1 d.2.2.2.2.1 d.2.1 r, d.2.2)
theorem hr_wd {K : Nat → Int32} {h : Int32} {d : LD} : hrD K h d = if shD K h d then (clL d.1 4, (wdD d 4).2.1, d.2.2.1, d.2.2.2.1, nI 0, d.2.2.2.2.2) else wdD d 4 := rfl
theorem wl_ok {lt W : Nat → Int32} {w rk op : Int32} (hw : ∀ q, q < 24 → okI 100 (W q)) : ∀ r q, q < 24 → okI 100 (wLL lt w rk op W r q)
  | 0, q, hq => hw q hq
  | r + 1, q, hq => by
    have ih := wl_ok (lt := lt) (w := w) (rk := rk) (op := op) hw r
    have u : ∀ p (b : Nat), b < 100 → okI 100 (wuL (wLL lt w rk op W r) r p (nI b) q) := fun p b hb => by
      show okI 100 (upd _ (6 * r + p) _ q)
      by_cases e : q = 6 * r + p
      · subst e
        rw [pk_us]
        exact min_ok (ih _ hq) hb
      · rw [pk_un e]; exact ih q hq
    show okI 100 ((if _ then _ else if _ then _ else _ : Nat → Int32) q)
    by_cases c1 : op = 0
    · rw [if_pos c1]; exact u _ 1 (by decide)
    · rw [if_neg c1]
      by_cases c2 : rk = -1
      · rw [if_pos c2]; exact ih q hq
      · rw [if_neg c2]; exact u _ 2 (by decide)
theorem ws_s {lt W : Nat → Int32} {w rk op : Int32} {r : Nat} (h : op = 0) : wLL lt w rk op W (r + 1) = wuL (wLL lt w rk op W r) r (ix (lt r)) (nI 1) := if_pos h
theorem ws_i {lt W : Nat → Int32} {w rk op : Int32} {r : Nat} (h : ¬ op = 0) (h2 : ¬ rk = -1) : wLL lt w rk op W (r + 1) = wuL (wLL lt w rk op W r) r (ix (ltF w r)) (nI 2) := (if_neg h).trans (if_neg h2)
theorem ws_n {lt W : Nat → Int32} {w rk op : Int32} {r q : Nat} (hw : ∀ q, q < 24 → okI 100 (W q)) (hr : r < 4) (hq : q < 6) (h : ¬ op = 0) (h2 : rk = -1) : wLL lt w rk op W (r + 1) = wuL (wLL lt w rk op W r) r q (nI 0) := by
  refine ((if_neg h).trans (if_pos h2)).trans ?_
  show _ = upd _ _ _
  rw [min_0 (wl_ok hw r _ (by omega))]
  exact (upd_self _ _ _ rfl).symm
theorem rk_lt {x : Int32} (h : x = -1 ∨ okI 3 x) : (x < 0 → x = -1) ∧ (¬ x < 0 → okI 3 x ∧ ¬ x = -1) := by
  rcases h with e | e
  · subst e
    exact ⟨fun _ => rfl, fun z => absurd (by decide) z⟩
  · exact ⟨fun z => absurd z (inlt e.1), fun _ => ⟨e, fun z => by rw [z] at e; exact absurd e (by decide)⟩⟩
