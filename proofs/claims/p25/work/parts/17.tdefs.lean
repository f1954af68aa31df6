/-! the thief's sums, as numbers -/
def cntN (P : Nat → Prop) [DecidablePred P] : Nat → Nat
  | 0 => 0
  | t + 1 => cntN P t + (if P t then 1 else 0)
theorem sum_cnt (P : Nat → Prop) [DecidablePred P] : ∀ t, sumF (fun b => b2i (P b)) t = nI (cntN P t)
  | 0 => rfl
  | t + 1 => by
    show sumF (fun b => b2i (P b)) t + b2i (P t) = nI (cntN P t + (if P t then 1 else 0))
    rw [sum_cnt P t]
    by_cases h : P t
    · rw [b2i_y h, if_pos h, nI_add]
    · rw [b2i_n h, if_neg h]; exact i_add0 _
theorem cnt_le (P : Nat → Prop) [DecidablePred P] : ∀ t, cntN P t ≤ t
  | 0 => Nat.le_refl 0
  | t + 1 => by
    show cntN P t + (if P t then 1 else 0) ≤ t + 1
    have := cnt_le P t
    by_cases h : P t
    · rw [if_pos h]; omega
    · rw [if_neg h]; omega
theorem cnt_lt (P : Nat → Prop) [DecidablePred P] {a : Nat} (ha : ¬ P a) : ∀ t, a < t → cntN P t < t
  | 0, h => absurd h (Nat.not_lt_zero _)
  | t + 1, h => by
    show cntN P t + (if P t then 1 else 0) < t + 1
    by_cases e : a = t
    · subst e
      rw [if_neg ha]
      have := cnt_le P a
      omega
    · have := cnt_lt P ha t (by omega)
      by_cases h : P t
      · rw [if_pos h]; omega
      · rw [if_neg h]; omega
abbrev pnN (g : Nat → Int32) (a : Nat) : Nat := cntN (fun b => pxC g a b) 6
theorem px_nn (g : Nat → Int32) (a : Nat) : pxN g a 6 = nI (pnN g a) := sum_cnt (fun b => pxC g a b) 6
theorem px_irr (g : Nat → Int32) (a : Nat) : ¬ pxC g a a := by
  rintro (h | ⟨-, h⟩)
  · exact Int32.lt_irrefl h
  · exact Int32.lt_irrefl h
theorem pn_lt (g : Nat → Int32) {a : Nat} (h : a < 6) : pnN g a < 6 := cnt_lt (fun b => pxC g a b) (px_irr g a) 6 h
abbrev lN6 (v r : Nat) : Nat := v / 6 ^ (3 - r) % 6
theorem lN6_lt (v r : Nat) : lN6 v r < 6 := Nat.mod_lt _ (by decide)
def spN (W : Nat → Int32) (v : Nat) : Nat → Nat
  | 0 => 0
  | r + 1 => spN W v r + pnN (wrw W r) (lN6 v r)
theorem sp_le (W : Nat → Int32) (v : Nat) : ∀ t, spN W v t ≤ 5 * t
  | 0 => Nat.le_refl 0
  | t + 1 => by
    show spN W v t + pnN (wrw W t) (lN6 v t) ≤ 5 * (t + 1)
    have := sp_le W v t
    have := pn_lt (wrw W t) (lN6_lt v t)
    omega
theorem sp_up (W : Nat → Int32) (v i : Nat) : ∀ d, spN W v i ≤ spN W v (i + d)
  | 0 => Nat.le_refl _
  | d + 1 => by
    show _ ≤ spN W v (i + d) + _
    have := sp_up W v i d
    omega
abbrev srN (W : Nat → Int32) (v i : Nat) : Nat := spN W v 4 - spN W v i
theorem sr_20 (W : Nat → Int32) (v i : Nat) : srN W v i ≤ 20 := by
  have := sp_le W v 4
  show spN W v 4 - spN W v i ≤ 20
  omega
theorem sr_s (W : Nat → Int32) (v i : Nat) (h : i < 4) : nI (srN W v i) - nI (pnN (wrw W i) (lN6 v i)) = nI (srN W v (i + 1)) := by
  have h1 : spN W v (i + 1) = spN W v i + pnN (wrw W i) (lN6 v i) := rfl
  have h2 : spN W v (i + 1) ≤ spN W v 4 := by
    have := sp_up W v (i + 1) (3 - i)
    rw [show i + 1 + (3 - i) = 4 by omega] at this
    exact this
  rw [pk_sub (by show _ ≤ spN W v 4 - spN W v i; omega)]
  congr 1
  show spN W v 4 - spN W v i - _ = spN W v 4 - spN W v (i + 1)
  omega
def ccN (r : Nat) : Nat → Nat
  | 0 => 0
  | t + 1 => ccN r t + cwN r t
abbrev wwN (r s p : Nat) : Nat := if p ≤ s then cwN r (s - p) else 0
def liN (W : Nat → Int32) (v i : Nat) : Nat → Nat
  | 0 => 0
  | t + 1 => liN W v i t + wwN (3 - i) (srN W v i) (pnN (wrw W i) t)
def lsN (W : Nat → Int32) (v : Nat) : Nat → Nat
  | 0 => 0
  | i + 1 => lsN W v i + liN W v i (lN6 v i)
abbrev txN (W : Nat → Int32) (v : Nat) : Nat := ccN 4 (spN W v 4) + lsN W v 4 + 1
abbrev wwF (r : Nat) (y : Int32) : Int32 := if okI 21 y then nI (cwN r (ix y)) else nI 0
theorem ww_n (r s p : Nat) (hs : s ≤ 20) (hp : p < 6) : wwF r (nI s - nI p) = nI (wwN r s p) := by
  show (if _ then _ else _) = nI (if _ then _ else _)
  by_cases h : p ≤ s
  · rw [if_pos h, pk_sub h, if_pos (okI_n (by omega) (by decide)), show ix (nI (s - p)) = s - p from nI_clamp (by omega)]
  · rw [if_neg h, if_neg (fun z => inlt z.1 (pk_sneg (by omega) (by omega)))]
/-! the table, as it grows -/
def pwN (r s : Nat) : Nat → Nat
  | 0 => 0
  | p + 1 => pwN r s p + (if p ≤ s then cwN r (s - p) else 0)
theorem pw_6 (r s : Nat) : pwN r s 6 = cwN (r + 1) s := by
  show 0 + _ + _ + _ + _ + _ + _ = _ + _ + _ + _ + _ + _
  rw [Nat.zero_add]
theorem pw_s (r s : Nat) : ∀ d, pwN r s (s + 1 + d) = pwN r s (s + 1)
  | 0 => rfl
  | d + 1 => by
    show pwN r s (s + 1 + d) + (if s + 1 + d ≤ s then _ else 0) = _
    rw [if_neg (by omega), pw_s r s d]
    rfl
abbrev mnP (s : Nat) : Nat := if s < 5 then s + 1 else 6
theorem mnP_le (s : Nat) : mnP s ≤ 6 ∧ mnP s ≤ s + 1 ∧ (mnP s = 6 ∨ mnP s = s + 1) := by
  show (if _ then _ else _) ≤ 6 ∧ (if _ then _ else _) ≤ s + 1 ∧ ((if _ then _ else _) = 6 ∨ (if _ then _ else _) = s + 1)
  by_cases h : s < 5
  · rw [if_pos h]; omega
  · rw [if_neg h]; omega
theorem pw_end (r s : Nat) : pwN r s (mnP s) = cwN (r + 1) s := by
  rw [← pw_6]
  rcases (mnP_le s).2.2 with e | e
  · rw [e]
  · rw [e]
    have h6 := (mnP_le s).1
    rw [e] at h6
    have := pw_s r s (5 - s)
    rw [show s + 1 + (5 - s) = 6 by omega] at this
    exact this.symm
theorem cw_0 : ∀ (r s : Nat), 5 * r < s → cwN r s = 0
  | 0, s, h => if_neg (by omega)
  | r + 1, s, h => by
    rw [← pw_6]
    have a : ∀ p, p < 6 → (if p ≤ s then cwN r (s - p) else 0) = 0 := fun p hp => by rw [if_pos (by omega)]; exact cw_0 r (s - p) (by omega)
    show 0 + _ + _ + _ + _ + _ + _ = 0
    rw [a 0 (by decide), a 1 (by decide), a 2 (by decide), a 3 (by decide), a 4 (by decide), a 5 (by decide)]
def tbl (r s : Nat) : Nat → Nat → Int32 := fun i t => if i < r ∨ (i = r ∧ t < s) then nI (cwN i t) else nI 0
def updT (T : Nat → Nat → Int32) (i : Nat) (g : Nat → Int32) : Nat → Nat → Int32 := fun j => if j = i then g else T j
theorem ut_s {T : Nat → Nat → Int32} {i : Nat} {g : Nat → Int32} : updT T i g i = g := if_pos rfl
theorem ut_n {T : Nat → Nat → Int32} {i j : Nat} {g : Nat → Int32} (h : j ≠ i) : updT T i g j = T j := if_neg h
theorem ut_ut {T : Nat → Nat → Int32} {i : Nat} {g g2 : Nat → Int32} : updT (updT T i g) i g2 = updT T i g2 := by
  funext j
  by_cases e : j = i
  · subst e; rw [ut_s, ut_s]
  · rw [ut_n e, ut_n e, ut_n e]
theorem ut_self (T : Nat → Nat → Int32) (i : Nat) : updT T i (T i) = T := by
  funext j
  by_cases e : j = i
  · subst e; rw [ut_s]
  · rw [ut_n e]
abbrev tbP (r s p : Nat) : Nat → Nat → Int32 := updT (tbl r s) r (upd (tbl r s r) s (nI (pwN (r - 1) s p)))
theorem tb_0 : updT (fun _ _ => nI 0) 0 (upd (fun _ => nI 0) 0 (nI 1)) = tbl 1 0 := by
  funext i t
  show (if i = 0 then upd (fun _ => nI 0) 0 (nI 1) else fun _ => nI 0) t = if _ then _ else _
  by_cases e : i = 0
  · subst e
    rw [if_pos rfl, if_pos (Or.inl (by decide))]
    show (if t = 0 then nI 1 else nI 0) = nI (if t = 0 then 1 else 0)
    by_cases h : t = 0
    · rw [if_pos h, if_pos h]
    · rw [if_neg h, if_neg h]
  · rw [if_neg e, if_neg (by omega)]
theorem tb_p0 (r s : Nat) : tbP r s 0 = tbl r s := by
  show updT (tbl r s) r (upd (tbl r s r) s (nI 0)) = _
  rw [upd_self _ _ _ (show tbl r s r s = nI 0 from if_neg (by omega)), ut_self]
theorem tb_pe (r s : Nat) (h : 0 < r) : tbP r s (mnP s) = tbl r (s + 1) := by
  show updT (tbl r s) r (upd (tbl r s r) s (nI (pwN (r - 1) s (mnP s)))) = _
  rw [pw_end, show r - 1 + 1 = r by omega]
  funext i t
  by_cases e : i = r
  · subst e
    rw [ut_s]
    by_cases e2 : t = s
    · subst e2
      rw [pk_us]
      exact (if_pos (Or.inr ⟨rfl, by omega⟩)).symm
    · rw [pk_un e2]
      show (if _ then _ else _) = if _ then _ else _
      by_cases h2 : t < s
      · rw [if_pos (Or.inr ⟨rfl, h2⟩), if_pos (Or.inr ⟨rfl, by omega⟩)]
      · rw [if_neg (by omega), if_neg (by omega)]
  · rw [ut_n e]
    show (if _ then _ else _) = if _ then _ else _
    by_cases h2 : i < r
    · rw [if_pos (Or.inl h2), if_pos (Or.inl h2)]
    · rw [if_neg (by omega), if_neg (by omega)]
theorem tb_r (r : Nat) (h : r ≤ 4) : tbl r 21 = tbl (r + 1) 0 := by
  funext i t
  show (if _ then _ else _) = if _ then _ else _
  by_cases e : i = r
  · subst e
    rw [if_pos (show i < i + 1 ∨ _ from Or.inl (by omega))]
    by_cases h2 : t < 21
    · rw [if_pos (Or.inr ⟨rfl, h2⟩)]
    · rw [if_neg (by omega), cw_0 i t (by omega)]
  · by_cases h2 : i < r
    · rw [if_pos (Or.inl h2), if_pos (Or.inl (by omega))]
    · rw [if_neg (by omega), if_neg (by omega)]
theorem tb_ps (r s p : Nat) (h : p ≤ s) : updT (tbP r s p) r (upd (tbP r s p r) s (nI (pwN (r - 1) s p) + nI (cwN (r - 1) (s - p)))) = tbP r s (p + 1) := by
  show updT (updT _ _ _) _ (upd (updT _ _ _ r) _ _) = updT _ _ (upd _ _ (nI (pwN (r - 1) s p + (if p ≤ s then cwN (r - 1) (s - p) else 0))))
  rw [ut_ut, ut_s, upd_upd, if_pos h, nI_add]
theorem tb_v (r s p : Nat) : tbP r s p r s = nI (pwN (r - 1) s p) := by
  show updT _ _ _ r s = _
  rw [ut_s, pk_us]
theorem tb_pr (r s p i t : Nat) (h : i < r) : tbP r s p i t = nI (cwN i t) := by
  show updT _ _ _ i t = _
  rw [ut_n (by omega)]
  exact if_pos (Or.inl h)
theorem tb_fin : ∀ i, i < 5 → tbl 5 0 i = fun t => nI (cwN i t) := fun i h => by
  funext t
  exact if_pos (Or.inl h)
abbrev TR (ct : Nat → ClassId) (rw : Nat → Nat) (T : Nat → Nat → Int32) : va_W := (List.range 5).map (fun i => (rw i, .inl (ct 0, 21, .inl (T i))))
theorem TR_at (ct : Nat → ClassId) (rw : Nat → Nat) (T : Nat → Nat → Int32) {i : Nat} (h : i < 5) : (TR ct rw T)[i]? = some (rw i, .inl (ct 0, 21, .inl (T i))) := by
  match i, h with
  | 0, _ => rfl
  | 1, _ => rfl
  | 2, _ => rfl
  | 3, _ => rfl
  | 4, _ => rfl
theorem TR_set (ct : Nat → ClassId) (rw : Nat → Nat) (T : Nat → Nat → Int32) (g : Nat → Int32) {i : Nat} (h : i < 5) : (TR ct rw T).set i (rw i, .inl (ct 0, 21, .inl g)) = TR ct rw (updT T i g) := by
  match i, h with
  | 0, _ => rfl
  | 1, _ => rfl
  | 2, _ => rfl
  | 3, _ => rfl
  | 4, _ => rfl
theorem th_at {A R : va_W} {x y : Nat × va_E} {i : Nat} (h : R[i]? = some y) : (A ++ (x :: R))[A.length + 1 + i]? = some y := by
  rw [List.getElem?_append_right (by omega), show A.length + 1 + i - A.length = i + 1 by omega]
  exact h
theorem th_at0 {A R : va_W} {x : Nat × va_E} : (A ++ (x :: R))[A.length]? = some x := by
  rw [List.getElem?_append_right (by omega), Nat.sub_self]
  rfl
theorem th_set {A R : va_W} {x y : Nat × va_E} {i : Nat} : (A ++ (x :: R)).set (A.length + 1 + i) y = A ++ (x :: R.set i y) := by
  rw [List.set_append_right _ _ (by omega), show A.length + 1 + i - A.length = i + 1 by omega]
  rfl
