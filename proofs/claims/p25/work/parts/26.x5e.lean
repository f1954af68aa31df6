theorem sw_n {y : Int32} {N : Nat} (hN : N < 2 ^ 31) : (¬ okI N y ∧ (y.toInt < 0 ∨ (N : Int) - 1 < y.toInt)) ∨ ∃ k, k < N ∧ y = nI k := by
  by_cases h : okI N y
  · exact Or.inr (okI_of h hN)
  · refine Or.inl ⟨h, ?_⟩
    simp only [okI, Int32.le_iff_toInt_le, Int32.lt_iff_toInt_lt, nI_toInt hN] at h
    have z0 : (0 : Int32).toInt = 0 := by decide
    have z1 : (nI 0).toInt = 0 := by decide
    omega
theorem sw6 (y : Int32) : (¬ okI 6 y ∧ (y.toInt < 0 ∨ 5 < y.toInt)) ∨ y = nI 0 ∨ y = nI 1 ∨ y = nI 2 ∨ y = nI 3 ∨ y = nI 4 ∨ y = nI 5 := by
  rcases sw_n (y := y) (N := 6) (by decide) with h | ⟨k, hk, rfl⟩
  · exact Or.inl h
  · match k, hk with
    | 0, _ => exact Or.inr (Or.inl rfl)
    | 1, _ => exact Or.inr (Or.inr (Or.inl rfl))
    | 2, _ => exact Or.inr (Or.inr (Or.inr (Or.inl rfl)))
    | 3, _ => exact Or.inr (Or.inr (Or.inr (Or.inr (Or.inl rfl))))
    | 4, _ => exact Or.inr (Or.inr (Or.inr (Or.inr (Or.inr (Or.inl rfl)))))
    | 5, _ => exact Or.inr (Or.inr (Or.inr (Or.inr (Or.inr (Or.inr rfl)))))
theorem sw7 (y : Int32) : (¬ okI 7 y ∧ (y.toInt < 0 ∨ 6 < y.toInt)) ∨ y = nI 0 ∨ y = nI 1 ∨ y = nI 2 ∨ y = nI 3 ∨ y = nI 4 ∨ y = nI 5 ∨ y = nI 6 := by
  rcases sw_n (y := y) (N := 7) (by decide) with h | ⟨k, hk, rfl⟩
  · exact Or.inl h
  · match k, hk with
    | 0, _ => exact Or.inr (Or.inl rfl)
    | 1, _ => exact Or.inr (Or.inr (Or.inl rfl))
    | 2, _ => exact Or.inr (Or.inr (Or.inr (Or.inl rfl)))
    | 3, _ => exact Or.inr (Or.inr (Or.inr (Or.inr (Or.inl rfl))))
    | 4, _ => exact Or.inr (Or.inr (Or.inr (Or.inr (Or.inr (Or.inl rfl)))))
    | 5, _ => exact Or.inr (Or.inr (Or.inr (Or.inr (Or.inr (Or.inr (Or.inl rfl))))))
    | 6, _ => exact Or.inr (Or.inr (Or.inr (Or.inr (Or.inr (Or.inr (Or.inr rfl))))))
theorem told_k {σ : St} {x v : Int32} (hl : okI (sN σ) x) (k : Nat) (hk : k < 6) (h : tld σ (ix x) k = v) : f_told σ x (nI k) = (nI 0, v, σ) := by
  rw [f_told, if_pos ⟨hl, okI_n hk (by decide)⟩, show ix (nI k) = k from nI_clamp (by omega), h]
theorem rack_k {σ : St} {x v : Int32} (hl : okI 3 x) (k : Nat) (hk : k < 6) (h : rtl σ (ix x) k = v) : f_rack σ x (nI k) = (nI 0, v, σ) := by
  rw [f_rack, if_pos ⟨hl, okI_n hk (by decide)⟩, show ix (nI k) = k from nI_clamp (by omega), h]
theorem count_k {σ : St} {v : Int32} (k : Nat) (hk : k < 7) (h : cnd σ k = v) : f_count σ (nI k) = (nI 0, v, σ) := by
  rw [f_count, if_pos (okI_n hk (by decide)), show ix (nI k) = k from nI_clamp (by omega), h]
theorem nar_b {x : Int32} (h : b01 x) : narrow .boolean (.int x) = .int x := by
  rcases h with e | e <;> rw [e] <;> rfl
theorem fit_b {x : Int32} (h : b01 x) : fits .boolean (.int x) = true := by
  rcases h with e | e <;> rw [e] <;> rfl
theorem inlt_n {x y : Int32} (h : x < y) : ¬ y ≤ x := fun z => inlt z h
theorem ok_nlt {x : Int32} {N : Nat} (h : x < 0) : ¬ okI N x := fun z => inlt z.1 h
theorem ok_nle {x : Int32} {N : Nat} (h : nI N ≤ x) : ¬ okI N x := fun z => inle z.2 h
theorem ok_n25 {x : Int32} (h : ¬ x ≤ nI 24) : ¬ okI 25 x := fun z => h ((in_ok (M := 24) (by decide)).mpr z).2
theorem b_no {x : Int32} (h : x = 0) : ¬ x = nI 1 := by rw [h]; decide
theorem tk_no {σ : St} {y : Int32} (hr : okI 3 y) (h : ¬ (okI 3 y ∧ opR σ (sH σ) (ix y) ∧ inF σ y < sK σ (3 * ix y + 0))) : ¬ opR σ (sH σ) (ix y) ∨ sK σ (3 * ix y + 0) ≤ inF σ y := by
  by_cases c : opR σ (sH σ) (ix y)
  · exact Or.inr (ile_of (fun z => h ⟨hr, c, z⟩))
  · exact Or.inl c
theorem tk_ye {σ : St} {y : Int32} (h : okI 3 y ∧ opR σ (sH σ) (ix y) ∧ inF σ y < sK σ (3 * ix y + 0)) : ¬ (¬ opR σ (sH σ) (ix y) ∨ sK σ (3 * ix y + 0) ≤ inF σ y) := fun z => z.elim (fun q => q h.2.1) (fun q => inle h.2.2 q)
theorem op_y {σ : St} {x : Int32} (hl : okI (sN σ) x) (c : stR (sR σ) (ix x) = sR σ (8 * ix x + 0)) : f_open σ x = (nI 0, upd (sR σ) (8 * ix x + 1) (nI 1) (8 * ix x + 1), uR σ (upd (sR σ) (8 * ix x + 1) (nI 1))) := by
  rw [f_open, if_pos hl, opnF, if_pos c, pk_us, b2i_y rfl]
theorem op_n {σ : St} {x : Int32} (hl : okI (sN σ) x) (c : ¬ stR (sR σ) (ix x) = sR σ (8 * ix x + 0)) (h : b01 (sR σ (8 * ix x + 1))) : f_open σ x = (nI 0, sR σ (8 * ix x + 1), σ) := by
  rw [f_open, if_pos hl, opnF, if_neg c, b_11 h]
