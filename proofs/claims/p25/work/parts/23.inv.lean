/-! what always holds of the state -/
abbrev b01 (x : Int32) : Prop := x = 0 ∨ x = nI 1
abbrev Inv1 (σ : St) : Prop := Inv0 σ ∧ (∀ j, j < 8 → b01 (sR σ (8 * j + 1)) ∧ b01 (sR σ (8 * j + 3))) ∧ (∀ j, j < 8 → ∀ q, q < 24 → okI 100 (sW σ (24 * j + q))) ∧ (∀ j, sN σ ≤ j → j < 8 → sR σ (8 * j + 3) = nI 0 ∧ (∀ r, r < 4 → sR σ (8 * j + (4 + r)) = nI 0) ∧ ∀ q, q < 24 → sW σ (24 * j + q) = nI 0)
theorem b_01 {x : Int32} (h : b01 x) : b2i (¬ x = 0) = x := by
  rcases h with e | e
  · rw [e]; exact b2i_n (fun z => z rfl)
  · rw [e]; exact b2i_y (by decide)
theorem b_11 {x : Int32} (h : b01 x) : b2i (x = nI 1) = x := by
  rcases h with e | e
  · rw [e]; exact b2i_n (by decide)
  · rw [e]; exact b2i_y rfl
theorem s_open {σ : St} (h : Inv1 σ) : sumF (fun i => b2i (¬ sR σ (8 * i + 1) = 0)) (sN σ) = sumF (fun i => sR σ (8 * i + 1)) (sN σ) := sum_cong _ (fun i hi => b_01 (h.2.1 i (by have := h.1.1; omega)).1)
theorem s_lost {σ : St} (h : Inv1 σ) : sumF (fun i => b2i (¬ sR σ (8 * i + 3) = 0)) (sN σ) = sumF (fun i => sR σ (8 * i + 3)) (sN σ) := sum_cong _ (fun i hi => b_01 (h.2.1 i (by have := h.1.1; omega)).2)
theorem s_oin {σ : St} (h : Inv1 σ) (y : Int32) : sumF (fun i => b2i (¬ sR σ (8 * i + 1) = 0 ∧ sR σ (8 * i + 2) = y)) (sN σ) = sumF (fun i => if sR σ (8 * i + 2) = y then sR σ (8 * i + 1) else nI 0) (sN σ) := sum_cong _ (fun i hi => by
  have h1 := (h.2.1 i (by have := h.1.1; omega)).1
  show b2i _ = if _ then _ else _
  by_cases e : sR σ (8 * i + 2) = y
  · rw [if_pos e]
    rcases h1 with e1 | e1
    · rw [b2i_n (fun z => z.1 e1), e1]; rfl
    · rw [b2i_y ⟨by rw [e1]; decide, e⟩, e1]
  · rw [if_neg e, b2i_n (fun z => e z.2)])
theorem sum_add (f : Nat → Int32) (a : Nat) : ∀ b, sumF f (a + b) = sumF f a + sumF (fun i => f (a + i)) b
  | 0 => (i_add0 _).symm
  | b + 1 => by
    show sumF f (a + b) + f (a + b) = sumF f a + (sumF (fun i => f (a + i)) b + f (a + b))
    rw [sum_add f a b, Int32.add_assoc]
theorem sum_0 {f : Nat → Int32} : ∀ n, (∀ i, i < n → f i = nI 0) → sumF f n = nI 0
  | 0, _ => rfl
  | n + 1, h => by
    show sumF f n + f n = nI 0
    rw [sum_0 n (fun i hi => h i (by omega)), h n (by omega)]
    rfl
theorem s_24 (σ : St) : ∀ n, sumF (fun i => sumF (lW σ i) 24) n = sumF (sW σ) (24 * n)
  | 0 => rfl
  | n + 1 => by
    show sumF (fun i => sumF (lW σ i) 24) n + sumF (lW σ n) 24 = sumF (sW σ) (24 * n + 24)
    rw [s_24 σ n, sum_add]
    exact congrArg (fun z => sumF (sW σ) (24 * n) + z) (sum_cong 24 (fun q hq => cut_in hq))
theorem s_wear {σ : St} (h : Inv1 σ) : sumF (fun i => sumF (lW σ i) 24) (sN σ) = sumF (sW σ) 192 := by
  have h8 := h.1.1
  rw [s_24, show 192 = 24 * sN σ + (192 - 24 * sN σ) by omega, sum_add, sum_0 (f := fun i => sW σ (24 * sN σ + i)) _ (fun i hi => by
    have := (h.2.2.2 ((24 * sN σ + i) / 24) (by omega) (by omega)).2.2 ((24 * sN σ + i) % 24) (Nat.mod_lt _ (by decide))
    rw [Nat.div_add_mod] at this
    exact this), i_add0]
theorem s_in {σ : St} (h : Inv1 σ) : nI (sN σ) - inF σ (-1) = inF σ (nI 0) + inF σ (nI 1) + inF σ (nI 2) := by
  have h8 := h.1.1
  have hc : ∀ n, n ≤ sN σ → cntN (fun i => sR σ (8 * i + 2) = -1) n + cntN (fun i => sR σ (8 * i + 2) = nI 0) n + cntN (fun i => sR σ (8 * i + 2) = nI 1) n + cntN (fun i => sR σ (8 * i + 2) = nI 2) n = n := by
    intro n
    induction n with
    | zero => intro _; rfl
    | succ n ih =>
      intro hn
      have ih := ih (by omega)
      show (_ + (if sR σ (8 * n + 2) = -1 then 1 else 0)) + (_ + (if sR σ (8 * n + 2) = nI 0 then 1 else 0)) + (_ + (if sR σ (8 * n + 2) = nI 1 then 1 else 0)) + (_ + (if sR σ (8 * n + 2) = nI 2 then 1 else 0)) = n + 1
      rcases (h.1.2 n (by omega)).2.1 with e | e
      · rw [e, if_pos rfl, if_neg (by decide), if_neg (by decide), if_neg (by decide)]
        omega
      · obtain ⟨j, hj, e2⟩ := okI_of e (by decide)
        rw [e2]
        match j, hj with
        | 0, _ => rw [if_neg (by decide), if_pos rfl, if_neg (by decide), if_neg (by decide)]; omega
        | 1, _ => rw [if_neg (by decide), if_neg (by decide), if_pos rfl, if_neg (by decide)]; omega
        | 2, _ => rw [if_neg (by decide), if_neg (by decide), if_neg (by decide), if_pos rfl]; omega
  have := hc (sN σ) (Nat.le_refl _)
  show nI (sN σ) - sumF _ (sN σ) = sumF _ (sN σ) + sumF _ (sN σ) + sumF _ (sN σ)
  rw [sum_cnt, sum_cnt, sum_cnt, sum_cnt, nI_add, nI_add, pk_sub (by omega)]
  congr 1
  omega
/-! closing and wearing, of the state and of a lock -/
theorem cl_o {f : Nat → Int32} {j k : Nat} (h1 : k ≠ 8 * j + 1) (h2 : ∀ r, r < 4 → k ≠ 8 * j + (4 + r)) : ∀ r, r ≤ 4 → clF f j r k = f k
  | 0, _ => pk_un h1
  | r + 1, hr => (pk_un (h2 r (by omega))).trans (cl_o h1 h2 r (by omega))
theorem cl_1 {f : Nat → Int32} {j : Nat} : ∀ r, clF f j r (8 * j + 1) = nI 0
  | 0 => pk_us
  | r + 1 => (pk_un (by omega)).trans (cl_1 r)
theorem cl_l {f : Nat → Int32} {j : Nat} : ∀ r, r ≤ 4 → cut 4 (fun q => clF f j r (8 * j + (4 + q))) = clL (cut 4 (fun q => f (8 * j + (4 + q)))) r
  | 0, _ => cut_ext (fun q hq => pk_un (by omega))
  | r + 1, hr => by
    have ih := cl_l (f := f) (j := j) r (by omega)
    show cut 4 (fun q => upd (clF f j r) (8 * j + (4 + r)) _ (8 * j + (4 + q))) = upd (clL _ r) r (irm (clL _ r r + nI r + nI 1) (nI 6))
    rw [← ih, cut_upd (by omega), cut_in (by omega)]
    exact cut_ext (fun q hq => by
      by_cases e : q = r
      · subst e; rw [pk_us, pk_us]
      · rw [pk_un e, pk_un (by omega)])
theorem ld_clo {σ : St} {j i : Nat} (h : i ≠ j) : ldS (uR σ (clF (sR σ) j 4)) i = ldS σ i := by
  have n1 : ∀ d, d < 8 → clF (sR σ) j 4 (8 * i + d) = sR σ (8 * i + d) := fun d hd => cl_o (by omega) (fun r hr => by omega) 4 (Nat.le_refl 4)
  show (cut 4 (fun r => clF (sR σ) j 4 (8 * i + (4 + r))), _, clF (sR σ) j 4 (8 * i + 0), clF (sR σ) j 4 (8 * i + 2), clF (sR σ) j 4 (8 * i + 1), clF (sR σ) j 4 (8 * i + 3)) = _
  rw [n1 0 (by decide), n1 1 (by decide), n1 2 (by decide), n1 3 (by decide), cut_ext (fun r hr => n1 (4 + r) (by omega))]
  rfl
theorem ld_cl {σ : St} {j : Nat} : ldS (uR σ (clF (sR σ) j 4)) j = (clL (ldS σ j).1 4, (ldS σ j).2.1, (ldS σ j).2.2.1, (ldS σ j).2.2.2.1, nI 0, (ldS σ j).2.2.2.2.2) := by
  have n1 : ∀ d, d < 4 → d ≠ 1 → clF (sR σ) j 4 (8 * j + d) = sR σ (8 * j + d) := fun d hd h1 => cl_o (by omega) (fun r hr => by omega) 4 (Nat.le_refl 4)
  show (cut 4 (fun r => clF (sR σ) j 4 (8 * j + (4 + r))), _, clF (sR σ) j 4 (8 * j + 0), clF (sR σ) j 4 (8 * j + 2), clF (sR σ) j 4 (8 * j + 1), clF (sR σ) j 4 (8 * j + 3)) = _
  rw [n1 0 (by decide) (by decide), cl_1, n1 2 (by decide) (by decide), n1 3 (by decide) (by decide), cl_l 4 (Nat.le_refl 4)]
  rfl
theorem ws_o {f W : Nat → Int32} {j k : Nat} (hf : rowsOK f) (hj : j < 8) (h : ∀ q, q < 24 → k ≠ 24 * j + q) : ∀ r, r ≤ 4 → wLF f W j r k = W k
  | 0, _ => rfl
  | r + 1, hr => by
    have ih := ws_o (W := W) hf hj h r (by omega)
    obtain ⟨h6, e6⟩ := okI_ix ((hf j hj).2.2 r (by omega)) (by decide)
    obtain ⟨h7, e7⟩ := okI_ix (lt_ok (r := r) (hf j hj).1) (by decide)
    have u : ∀ q b, q < 6 → wup (wLF f W j r) j r q b k = W k := fun q b hq => (pk_un (by have := h (6 * r + q) (by omega); omega)).trans ih
    show (if _ then _ else if _ then _ else _ : Nat → Int32) k = W k
    by_cases c1 : f (8 * j + 1) = 0
    · rw [if_pos c1]; exact u _ _ h6
    · rw [if_neg c1]
      by_cases c2 : f (8 * j + 2) = -1
      · rw [if_pos c2]; exact ih
      · rw [if_neg c2]; exact u _ _ h7
theorem wup_cut {W : Nat → Int32} {j r q : Nat} {b : Int32} (hr : r < 4) (hq : q < 6) : cut 24 (fun t => wup W j r q b (24 * j + t)) = wuL (cut 24 (fun t => W (24 * j + t))) r q b := by
  have e : 6 * (4 * j + r) + q = 24 * j + (6 * r + q) := by omega
  show cut 24 (fun t => upd W (6 * (4 * j + r) + q) _ (24 * j + t)) = upd (cut 24 _) (6 * r + q) _
  rw [cut_upd (by omega), cut_in (by omega), e]
  exact cut_ext (fun t ht => by
    by_cases e2 : t = 6 * r + q
    · subst e2; rw [pk_us, pk_us]
    · rw [pk_un e2, pk_un (by omega)])
theorem ws_l {f W : Nat → Int32} {j : Nat} (hf : rowsOK f) (hj : j < 8) : ∀ r, r ≤ 4 → cut 24 (fun t => wLF f W j r (24 * j + t)) = wLL (cut 4 (fun q => f (8 * j + (4 + q)))) (f (8 * j + 0)) (f (8 * j + 2)) (f (8 * j + 1)) (cut 24 (fun t => W (24 * j + t))) r
  | 0, _ => rfl
  | r + 1, hr => by
    have ih := ws_l (W := W) hf hj r (by omega)
    obtain ⟨h6, e6⟩ := okI_ix ((hf j hj).2.2 r (by omega)) (by decide)
    obtain ⟨h7, e7⟩ := okI_ix (lt_ok (r := r) (hf j hj).1) (by decide)
    show cut 24 (fun t => wst f (wLF f W j r) j r (24 * j + t)) = wsL (cut 4 (fun q => f (8 * j + (4 + q)))) (f (8 * j + 0)) (f (8 * j + 2)) (f (8 * j + 1)) (wLL (cut 4 (fun q => f (8 * j + (4 + q)))) (f (8 * j + 0)) (f (8 * j + 2)) (f (8 * j + 1)) (cut 24 (fun t => W (24 * j + t))) r) r
    unfold wst wsL
    rw [← ih, cut_in (show r < 4 by omega)]
    by_cases c1 : f (8 * j + 1) = 0
    · rw [if_pos c1, if_pos c1]; exact wup_cut (by omega) h6
    · rw [if_neg c1, if_neg c1]
      by_cases c2 : f (8 * j + 2) = -1
      · rw [if_pos c2, if_pos c2]
      · rw [if_neg c2, if_neg c2]; exact wup_cut (by omega) h7
