/-! an hour, lock by lock -/
abbrev shD (K : Nat → Int32) (h : Int32) (d : LD) : Prop := ¬ d.2.2.2.2.1 = 0 ∧ okI 3 d.2.2.2.1 ∧ ¬ opP (irm h (nI 24)) (K (3 * ix d.2.2.2.1 + 1)) (K (3 * ix d.2.2.2.1 + 2))
def hrD (K : Nat → Int32) (h : Int32) (d : LD) : LD := if shD K h d then (clL d.1 4, wLL d.1 d.2.2.1 d.2.2.2.1 d.2.2.2.2.1 d.2.1 4, d.2.2.1, d.2.2.2.1, nI 0, d.2.2.2.2.2) else (d.1, wLL d.1 d.2.2.1 d.2.2.2.1 d.2.2.2.2.1 d.2.1 4, d.2.2)
abbrev hX (σ : St) (i : Nat) : St := uR (uW σ (wAF (sR σ) (sW σ) i)) (cAF (sK σ) (sH σ) (sR σ) i)
theorem ca_row {K : Nat → Int32} {h : Int32} {f : Nat → Int32} {j c : Nat} (hc : c < 8) : ∀ m, m ≤ j → cAF K h f m (8 * j + c) = f (8 * j + c)
  | 0, _ => rfl
  | m + 1, hm => by
    have ih := ca_row (K := K) (h := h) (f := f) (j := j) hc m (by omega)
    show (if _ then _ else _ : Nat → Int32) _ = _
    by_cases e : shutC K h (cAF K h f m) m
    · rw [if_pos e]; exact (cl_o (by omega) (fun r hr => by omega) 4 (Nat.le_refl 4)).trans ih
    · rw [if_neg e]; exact ih
theorem wa_row {f W : Nat → Int32} {j q : Nat} (hf : rowsOK f) (hj : j < 8) (hq : q < 24) : ∀ m, m ≤ j → wAF f W m (24 * j + q) = W (24 * j + q)
  | 0, _ => rfl
  | m + 1, hm => (ws_o hf (by omega) (fun t ht => by omega) 4 (Nat.le_refl 4)).trans (wa_row hf hj hq m (by omega))
theorem hx_pre {σ : St} (hi : Inv0 σ) {j m : Nat} (hj : j < 8) (hm : m ≤ j) : ldS (hX σ m) j = ldS σ j := by
  show (cut 4 (fun r => cAF (sK σ) (sH σ) (sR σ) m (8 * j + (4 + r))), cut 24 (fun q => wAF (sR σ) (sW σ) m (24 * j + q)), cAF (sK σ) (sH σ) (sR σ) m (8 * j + 0), cAF (sK σ) (sH σ) (sR σ) m (8 * j + 2), cAF (sK σ) (sH σ) (sR σ) m (8 * j + 1), cAF (sK σ) (sH σ) (sR σ) m (8 * j + 3)) = _
  rw [ca_row (by decide) m hm, ca_row (by decide) m hm, ca_row (by decide) m hm, ca_row (by decide) m hm, cut_ext (N := 4) (fun r hr => ca_row (by omega) m hm), cut_ext (N := 24) (fun q hq => wa_row hi.2 hj hq m hm)]
  rfl
theorem hx_b {σ : St} (hi : Inv0 σ) {j : Nat} (hj : j < 8) : ldS (uR (uW σ (wLF (sR σ) (wAF (sR σ) (sW σ) j) j 4)) (cAF (sK σ) (sH σ) (sR σ) j)) j = ((ldS σ j).1, wLL (ldS σ j).1 (ldS σ j).2.2.1 (ldS σ j).2.2.2.1 (ldS σ j).2.2.2.2.1 (ldS σ j).2.1 4, (ldS σ j).2.2) := by
  have hm := Nat.le_refl j
  show (cut 4 (fun r => cAF (sK σ) (sH σ) (sR σ) j (8 * j + (4 + r))), cut 24 (fun q => wLF (sR σ) (wAF (sR σ) (sW σ) j) j 4 (24 * j + q)), cAF (sK σ) (sH σ) (sR σ) j (8 * j + 0), cAF (sK σ) (sH σ) (sR σ) j (8 * j + 2), cAF (sK σ) (sH σ) (sR σ) j (8 * j + 1), cAF (sK σ) (sH σ) (sR σ) j (8 * j + 3)) = _
  rw [ca_row (by decide) j hm, ca_row (by decide) j hm, ca_row (by decide) j hm, ca_row (by decide) j hm, cut_ext (N := 4) (fun r hr => ca_row (by omega) j hm), ws_l hi.2 hj 4 (Nat.le_refl 4), cut_ext (N := 24) (fun q hq => wa_row hi.2 hj hq j hm)]
  rfl
theorem rk_3 {σ : St} (hi : Inv0 σ) {j : Nat} (hj : j < 8) : (¬ sR σ (8 * j + 2) = -1) ↔ okI 3 (sR σ (8 * j + 2)) := by
  refine ⟨fun h => (hi.2 j hj).2.1.resolve_left h, fun h e => ?_⟩
  rw [e] at h
  exact absurd h (by decide)
theorem sh_ca {σ : St} (hi : Inv0 σ) {j : Nat} (hj : j < 8) : shutC (sK σ) (sH σ) (cAF (sK σ) (sH σ) (sR σ) j) j ↔ shD (sK σ) (sH σ) (ldS σ j) := by
  have hm := Nat.le_refl j
  show (¬ cAF (sK σ) (sH σ) (sR σ) j (8 * j + 2) = -1 ∧ ¬ cAF (sK σ) (sH σ) (sR σ) j (8 * j + 1) = 0 ∧ ¬ opP _ (sK σ (3 * ix (cAF (sK σ) (sH σ) (sR σ) j (8 * j + 2)) + 1)) (sK σ (3 * ix (cAF (sK σ) (sH σ) (sR σ) j (8 * j + 2)) + 2))) ↔ (¬ sR σ (8 * j + 1) = 0 ∧ okI 3 (sR σ (8 * j + 2)) ∧ ¬ opP _ (sK σ (3 * ix (sR σ (8 * j + 2)) + 1)) (sK σ (3 * ix (sR σ (8 * j + 2)) + 2)))
  rw [ca_row (by decide) j hm, ca_row (by decide) j hm, ← rk_3 hi hj]
  exact ⟨fun z => ⟨z.2.1, z.1, z.2.2⟩, fun z => ⟨z.2.1, z.1, z.2.2⟩⟩
theorem hx_s {σ : St} (hi : Inv0 σ) {j : Nat} (hj : j < 8) : ldS (hX σ (j + 1)) j = hrD (sK σ) (sH σ) (ldS σ j) := by
  have hb := hx_b hi hj
  by_cases e : shD (sK σ) (sH σ) (ldS σ j)
  · have e2 := (sh_ca hi hj).mpr e
    have ec : cAF (sK σ) (sH σ) (sR σ) (j + 1) = clF (cAF (sK σ) (sH σ) (sR σ) j) j 4 := if_pos e2
    show ldS (uR (uW σ (wLF (sR σ) (wAF (sR σ) (sW σ) j) j 4)) (cAF (sK σ) (sH σ) (sR σ) (j + 1))) j = _
    rw [ec]
    refine (ld_cl (σ := uR (uW σ (wLF (sR σ) (wAF (sR σ) (sW σ) j) j 4)) (cAF (sK σ) (sH σ) (sR σ) j)) (j := j)).trans ?_
    rw [hb]
    exact (if_pos e).symm
  · have e2 : ¬ _ := fun z => e ((sh_ca hi hj).mp z)
    have ec : cAF (sK σ) (sH σ) (sR σ) (j + 1) = cAF (sK σ) (sH σ) (sR σ) j := if_neg e2
    show ldS (uR (uW σ (wLF (sR σ) (wAF (sR σ) (sW σ) j) j 4)) (cAF (sK σ) (sH σ) (sR σ) (j + 1))) j = _
    rw [ec, hb]
    exact (if_neg e).symm
theorem hx_o {σ : St} (hi : Inv0 σ) {i j : Nat} (hj : j < 8) (h : i ≠ j) : ldS (hX σ (j + 1)) i = ldS (hX σ j) i := by
  have hw : ∀ R, ldS (uR (uW σ (wAF (sR σ) (sW σ) (j + 1))) R) i = ldS (uR (uW σ (wAF (sR σ) (sW σ) j)) R) i := fun R => by
    show (_, cut 24 (fun q => wLF (sR σ) (wAF (sR σ) (sW σ) j) j 4 (24 * i + q)), _) = _
    rw [cut_ext (N := 24) (g := fun q => wAF (sR σ) (sW σ) j (24 * i + q)) (fun q hq => ws_o hi.2 hj (fun t ht => by omega) 4 (Nat.le_refl 4))]
    rfl
  show ldS (uR (uW σ (wAF (sR σ) (sW σ) (j + 1))) (cAF (sK σ) (sH σ) (sR σ) (j + 1))) i = _
  rw [hw]
  show ldS (uR (uW σ (wAF (sR σ) (sW σ) j)) (if _ then _ else _)) i = _
  by_cases e : shutC (sK σ) (sH σ) (cAF (sK σ) (sH σ) (sR σ) j) j
  · rw [if_pos e]
    exact ld_clo (σ := uR (uW σ (wAF (sR σ) (sW σ) j)) (cAF (sK σ) (sH σ) (sR σ) j)) h
  · rw [if_neg e]
theorem hx_n {σ : St} (hi : Inv0 σ) {j : Nat} (hj : j < 8) : ∀ d, j + 1 + d ≤ 8 → ldS (hX σ (j + 1 + d)) j = hrD (sK σ) (sH σ) (ldS σ j)
  | 0, _ => hx_s hi hj
  | d + 1, h => (hx_o (i := j) (j := j + 1 + d) hi (by omega) (by omega)).trans (hx_n hi hj d (by omega))
theorem hr_ld {σ : St} (hi : Inv0 σ) {j : Nat} (hj : j < sN σ) : ldS (hrS σ) j = hrD (sK σ) (sH σ) (ldS σ j) := by
  have h8 := hi.1
  have := hx_n hi (show j < 8 by omega) (sN σ - (j + 1)) (by omega)
  rw [show j + 1 + (sN σ - (j + 1)) = sN σ by omega] at this
  exact this
theorem hs_h (σ : St) : ∀ i, sH (hsS σ i) = sH σ + nI i
  | 0 => (i_add0 _).symm
  | i + 1 => by
    show sH (hsS σ i) + nI 1 = _
    rw [hs_h σ i, Int32.add_assoc, nI_add]
/-- the hours of one lock -/
def hsD (K : Nat → Int32) (h : Int32) (d : LD) : Nat → LD
  | 0 => d
  | i + 1 => hrD K (h + nI i) (hsD K h d i)
theorem hs_ld {σ : St} (hi : Inv0 σ) {j : Nat} (hj : j < sN σ) : ∀ i, ldS (hsS σ i) j = hsD (sK σ) (sH σ) (ldS σ j) i
  | 0 => rfl
  | i + 1 => by
    show ldS (hrS (hsS σ i)) j = hrD (sK σ) (sH σ + nI i) (hsD (sK σ) (sH σ) (ldS σ j) i)
    rw [← hs_ld hi hj i, hr_ld (inv_hs hi i) (by rw [hs_n]; exact hj), hs_k, hs_h]
/-! an hour keeps what always holds -/
theorem min_ok {x : Int32} {b : Nat} (h : okI 100 x) (hb : b < 100) : okI 100 (minF (nI 99) (x + nI b)) := by
  obtain ⟨m, hm, rfl⟩ := okI_of h (by decide)
  rw [nI_add]
  show okI 100 (if nI (m + b) < nI 99 then nI (m + b) else nI 99)
  by_cases c : nI (m + b) < nI 99
  · rw [if_pos c]
    exact okI_n (by have := (nI_ltI (by omega) (by decide)).mp c; omega) (by decide)
  · rw [if_neg c]
    decide
theorem ws_ok {f W : Nat → Int32} {j : Nat} (hw : ∀ k, okI 100 (W k) ∨ 192 ≤ k) : ∀ r k, okI 100 (wLF f W j r k) ∨ 192 ≤ k
  | 0, k => hw k
  | r + 1, k => by
    have ih := ws_ok (f := f) (W := W) (j := j) hw r
    have u : ∀ q (b : Nat), b < 100 → (okI 100 (wup (wLF f W j r) j r q (nI b) k) ∨ 192 ≤ k) := fun q b hb => by
      show okI 100 (upd _ (6 * (4 * j + r) + q) _ k) ∨ _
      by_cases e : k = 6 * (4 * j + r) + q
      · subst e
        rw [pk_us]
        exact (ih _).imp (fun z => min_ok z hb) id
      · rw [pk_un e]; exact ih k
    show okI 100 (wst f (wLF f W j r) j r k) ∨ _
    unfold wst
    by_cases c1 : f (8 * j + 1) = 0
    · rw [if_pos c1]; exact u _ 1 (by decide)
    · rw [if_neg c1]
      by_cases c2 : f (8 * j + 2) = -1
      · rw [if_pos c2]; exact ih k
      · rw [if_neg c2]; exact u _ 2 (by decide)
theorem wa_ok {f W : Nat → Int32} (hw : ∀ k, okI 100 (W k) ∨ 192 ≤ k) : ∀ m k, okI 100 (wAF f W m k) ∨ 192 ≤ k
  | 0, k => hw k
  | m + 1, k => ws_ok (wa_ok (f := f) (W := W) hw m) 4 k
theorem ca_b {K : Nat → Int32} {h : Int32} {f : Nat → Int32} {j : Nat} (hb : b01 (f (8 * j + 1))) : ∀ m, b01 (cAF K h f m (8 * j + 1))
  | 0 => hb
  | m + 1 => by
    have ih := ca_b (K := K) (h := h) hb m
    show b01 ((if _ then _ else _ : Nat → Int32) _)
    by_cases e : shutC K h (cAF K h f m) m
    · rw [if_pos e]
      by_cases e2 : j = m
      · subst e2; rw [cl_1]; exact Or.inl rfl
      · rw [cl_o (by omega) (fun r hr => by omega) 4 (Nat.le_refl 4)]; exact ih
    · rw [if_neg e]; exact ih
theorem ca_k {K : Nat → Int32} {h : Int32} {f : Nat → Int32} {j c : Nat} (hc : c < 4) (h1 : c ≠ 1) : ∀ m, cAF K h f m (8 * j + c) = f (8 * j + c)
  | 0 => rfl
  | m + 1 => by
    have ih := ca_k (K := K) (h := h) (f := f) (j := j) hc h1 m
    show (if _ then _ else _ : Nat → Int32) _ = _
    by_cases e : shutC K h (cAF K h f m) m
    · rw [if_pos e]; exact (cl_o (by omega) (fun r hr => by omega) 4 (Nat.le_refl 4)).trans ih
    · rw [if_neg e]; exact ih
theorem inv1_hr {σ : St} (h : Inv1 σ) : Inv1 (hrS σ) := by
  obtain ⟨h0, h1, h2, h3⟩ := h
  refine ⟨inv_hr h0, fun j hj => ⟨ca_b (h1 j hj).1 _, ?_⟩, fun j hj q hq => ?_, fun j hn hj => ⟨?_, fun r hr => ?_, fun q hq => ?_⟩⟩
  · show b01 (cAF (sK σ) (sH σ) (sR σ) (sN σ) (8 * j + 3))
    rw [ca_k (by decide) (by decide)]
    exact (h1 j hj).2
  · have hw : ∀ k, okI 100 (sW σ k) ∨ 192 ≤ k := fun k => by
      by_cases e : 192 ≤ k
      · exact Or.inr e
      · have := h2 (k / 24) (by omega) (k % 24) (Nat.mod_lt _ (by decide))
        rw [Nat.div_add_mod] at this
        exact Or.inl this
    exact (wa_ok hw (sN σ) (24 * j + q)).resolve_right (by omega)
  · exact (ca_row (by decide) (sN σ) hn).trans (h3 j hn hj).1
  · exact (ca_row (by omega) (sN σ) hn).trans ((h3 j hn hj).2.1 r hr)
  · exact (wa_row h0.2 hj hq (sN σ) hn).trans ((h3 j hn hj).2.2 q hq)
theorem inv1_hs {σ : St} (h : Inv1 σ) : ∀ i, Inv1 (hsS σ i)
  | 0 => h
  | i + 1 => inv1_hr (inv1_hs h i)
/-! until a lock is shut -/
abbrev cloP (σ : St) (j p : Nat) : Prop := okI 3 (sR σ (8 * j + 2)) ∧ ¬ opP (irm (sH σ + nI p) (nI 24)) (sK σ (3 * ix (sR σ (8 * j + 2)) + 1)) (sK σ (3 * ix (sR σ (8 * j + 2)) + 2))
theorem hs_rk (σ : St) (j : Nat) : ∀ p, sR (hsS σ p) (8 * j + 2) = sR σ (8 * j + 2)
  | 0 => rfl
  | p + 1 => (ca_k (by decide) (by decide) _).trans (hs_rk σ j p)
theorem ut_open {σ : St} (h : Inv1 σ) {j p : Nat} (hj : j < sN σ) (ho : sR (hsS σ p) (8 * j + 1) = nI 1) : sR (hsS σ (p + 1)) (8 * j + 1) = if cloP σ j p then nI 0 else nI 1 := by
  have e1 := hr_ld (inv1_hs h p).1 (j := j) (by rw [hs_n]; exact hj)
  have e2 : sR (hsS σ (p + 1)) (8 * j + 1) = (hrD (sK (hsS σ p)) (sH (hsS σ p)) (ldS (hsS σ p) j)).2.2.2.2.1 := congrArg (fun d => d.2.2.2.2.1) e1
  rw [e2, hs_k, hs_h]
  have e3 : shD (sK σ) (sH σ + nI p) (ldS (hsS σ p) j) ↔ cloP σ j p := by
    show (¬ sR (hsS σ p) (8 * j + 1) = 0 ∧ okI 3 (sR (hsS σ p) (8 * j + 2)) ∧ ¬ opP _ (sK σ (3 * ix (sR (hsS σ p) (8 * j + 2)) + 1)) (sK σ (3 * ix (sR (hsS σ p) (8 * j + 2)) + 2))) ↔ _
    rw [hs_rk, ho]
    exact ⟨fun z => z.2, fun z => ⟨by decide, z⟩⟩
  by_cases c : cloP σ j p
  · rw [if_pos c]
    unfold hrD
    rw [if_pos (e3.mpr c)]
  · rw [if_neg c]
    unfold hrD
    rw [if_neg (fun z => c (e3.mp z))]
    exact ho
theorem ut_shut {σ : St} {j d : Nat} (h : ¬ sR σ (8 * j + 1) = nI 1) : utF j d σ = 0 := by
  cases d with
  | zero => rfl
  | succ d => exact if_neg h
theorem ut_step {σ : St} {j d : Nat} (h : sR σ (8 * j + 1) = nI 1) : utF j (d + 1) σ = utF j d (hrS σ) + 1 := if_pos h
