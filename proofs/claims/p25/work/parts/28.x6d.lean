theorem sh_cx {σ : St} (hi : Inv0 σ) {j : Nat} (hj : j < 8) : shutC (sK σ) (sH σ) (cAF (sK σ) (sH σ) (sR σ) j) j ↔ shD (sK σ) (sH σ) (ldS (hX σ j) j) := by
  rw [hx_pre hi hj (Nat.le_refl j)]
  exact sh_ca hi hj
theorem cc_y {σ : St} (hi : Inv0 σ) {j : Nat} (hj : j < 8) (a : Int32) (h : shD (sK σ) (sH σ) (ldS (hX σ j) j)) : a + cCF (sK σ) (sH σ) (sR σ) j + nI 1 = a + cCF (sK σ) (sH σ) (sR σ) (j + 1) := by
  rw [show cCF (sK σ) (sH σ) (sR σ) (j + 1) = cCF (sK σ) (sH σ) (sR σ) j + nI 1 from if_pos ((sh_cx hi hj).mpr h), Int32.add_assoc]
theorem cc_n {σ : St} (hi : Inv0 σ) {j : Nat} (hj : j < 8) (a : Int32) (h : ¬ shD (sK σ) (sH σ) (ldS (hX σ j) j)) : a + cCF (sK σ) (sH σ) (sR σ) j = a + cCF (sK σ) (sH σ) (sR σ) (j + 1) := by
  rw [show cCF (sK σ) (sH σ) (sR σ) (j + 1) = cCF (sK σ) (sH σ) (sR σ) j from if_neg (fun z => h ((sh_cx hi hj).mp z))]
theorem hx_let {σ : St} (hi : Inv0 σ) {j : Nat} (hj : j < 8) : (∀ r, r < 4 → okI 6 (lL (hX σ j) j r)) ∧ okI 1296 (sR (hX σ j) (8 * j + 0)) := by
  have hc := rok_cA (K := sK σ) (h := sH σ) hi.2 j (by omega)
  refine ⟨fun r hr => ?_, (hc j hj).1⟩
  rw [show lL (hX σ j) j r = cAF (sK σ) (sH σ) (sR σ) j (8 * j + (4 + r)) from cut_in hr]
  exact (hc j hj).2.2 r hr
theorem ld_let {σ : St} (hi : Inv0 σ) {j : Nat} (hj : j < 8) : (∀ r, r < 4 → okI 6 ((ldS σ j).1 r)) ∧ okI 1296 (ldS σ j).2.2.1 := by
  refine ⟨fun r hr => ?_, (hi.2 j hj).1⟩
  have e : lL σ j r = sR σ (8 * j + (4 + r)) := cut_in hr
  show okI 6 (lL σ j r)
  rw [e]
  exact (hi.2 j hj).2.2 r hr
theorem wx_fh {ct : Nat → ClassId} {sa ad : Nat → Nat} {mcn : Int32} {φ : LD} {σ : St} {wr : va_W} {K : Nat → Int32} {h : Int32} : (if shD K h φ then (((WX ct sa ad mcn φ σ ++ wr).set (13 + 2) (ad 16, .inl (ct 0, 24, .inl (wLL φ.1 φ.2.2.1 φ.2.2.2.1 φ.2.2.2.2.1 φ.2.1 4)))).set (13 + 1) (ad 15, .inl (ct 0, 4, .inl (clL φ.1 4)))).set 13 (ad 14, .inr (1, [.ref (ad 15), .ref (ad 16), .int φ.2.2.1, .int φ.2.2.2.1, .int (nI 0), .int φ.2.2.2.2.2])) else (WX ct sa ad mcn φ σ ++ wr).set (13 + 2) (ad 16, .inl (ct 0, 24, .inl (wLL φ.1 φ.2.2.1 φ.2.2.2.1 φ.2.2.2.2.1 φ.2.1 4)))) = WX ct sa ad mcn (hrD K h φ) σ ++ wr := by
  unfold hrD
  by_cases c : shD K h φ
  · rw [if_pos c, if_pos c]; rfl
  · rw [if_neg c, if_neg c]; rfl
theorem ut_ret {σ : St} (hi : Inv1 σ) {j i : Nat} (hj : j < sN σ) (h48 : i < 48) (hO : sR (hsS σ i) (8 * j + 1) = nI 1) (hT : utF j 49 σ = i + utF j (49 - i) (hsS σ i)) (h : cloP σ j i) : utF j 49 σ = i + 1 := by
  rw [hT, show 49 - i = 48 - i + 1 by omega, ut_step hO]
  have e := ut_open hi hj hO
  rw [if_pos h] at e
  rw [show utF j (48 - i) (hrS (hsS σ i)) = 0 from ut_shut (σ := hsS σ (i + 1)) (by rw [e]; decide)]
theorem ut_go {σ : St} (hi : Inv1 σ) {j i : Nat} (hj : j < sN σ) (h48 : i < 48) (hO : sR (hsS σ i) (8 * j + 1) = nI 1) (hT : utF j 49 σ = i + utF j (49 - i) (hsS σ i)) (h : ¬ cloP σ j i) : sR (hsS σ (i + 1)) (8 * j + 1) = nI 1 ∧ utF j 49 σ = i + 1 + utF j (49 - (i + 1)) (hsS σ (i + 1)) := by
  have e := ut_open hi hj hO
  rw [if_neg h] at e
  refine ⟨e, ?_⟩
  rw [hT, show 49 - i = 48 - i + 1 by omega, ut_step hO, show 49 - (i + 1) = 48 - i by omega]
  show i + (utF j (48 - i) (hsS σ (i + 1)) + 1) = _
  omega
theorem ut_end {σ : St} {j : Nat} (hO : sR (hsS σ 48) (8 * j + 1) = nI 1) (hT : utF j 49 σ = 48 + utF j (49 - 48) (hsS σ 48)) : utF j 49 σ = 49 := by
  rw [hT, show 49 - 48 = 0 + 1 from rfl, ut_step hO]
  rfl
theorem un_sh {σ : St} {x : Int32} (hl : okI (sN σ) x) (h : ¬ sR σ (8 * ix x + 1) = nI 1) : f_until σ x = (nI 0, nI 0, σ) := by
  rw [f_until, if_pos hl, ut_shut h, if_pos (by decide)]
theorem un_at {σ : St} {x : Int32} (hl : okI (sN σ) x) {n : Nat} (hn : n ≤ 48) (h : utF (ix x) 49 σ = n) : f_until σ x = (nI 0, nI n, σ) := by
  rw [f_until, if_pos hl, h, if_pos hn]
theorem un_no {σ : St} {x : Int32} (hl : okI (sN σ) x) (h : utF (ix x) 49 σ = 49) : f_until σ x = (nI 0, -1, σ) := by
  rw [f_until, if_pos hl, h, if_neg (by decide)]
theorem i_sub1 (a : Int32) (i : Nat) : a + nI (i + 1) - nI 1 = a + nI i := by
  rw [← nI_add, ← Int32.add_assoc, Int32.add_sub_cancel]
theorem sf_v {σ : St} {i : Nat} (hi : i < sN σ) (h8 : sN σ ≤ 8) : f_safe σ (nI i) = (nI 0, trL (sW σ) i (ix (sR σ (8 * i + 0))), σ) := by
  rw [f_safe, if_pos (okI_n hi (by omega)), show ix (nI i) = i from nI_clamp (by omega)]
abbrev kF (ct : Nat → ClassId) (sa ad : Nat → Nat) (mcn : Int32) (wr : va_W) (f : Op) : Option Value → va_W → Prop := fun r w => f.1 = nI 0 ∧ r = some (.int f.2.1) ∧ ∃ φ', w = WX ct sa ad mcn φ' f.2.2 ++ wr
theorem kf {ct : Nat → ClassId} {sa ad : Nat → Nat} {mcn : Int32} {φ : LD} {wr : va_W} {f : Op} {v : Int32} {σ : St} (h : f = (nI 0, v, σ)) : kF ct sa ad mcn wr f (some (.int v)) (WX ct sa ad mcn φ σ ++ wr) := ⟨by rw [h], by rw [h], φ, by rw [h]⟩
theorem fo_v {σ : St} {y : Int32} {m : Nat} (hm : nI 1 ≤ nI m ∧ nI m ≤ nI 99) (hm9 : m ≤ 99) (hl : okI (sN σ) y) : f_foresee σ (nI m) y = (nI 0, trL (sW (hsS σ m)) (ix y) (ix (sR (hsS σ m) (8 * ix y + 0))), σ) := by
  rw [f_foresee, if_pos hm, if_pos hl, show ix (nI m) = m from nI_clamp (by omega)]
theorem fo_t {σ : St} (hi : Inv1 σ) {j : Nat} (hj : j < sN σ) (m : Nat) : nI (txN (hsD (sK σ) (sH σ) (ldS σ j) m).2.1 (ix (hsD (sK σ) (sH σ) (ldS σ j) m).2.2.1)) = trL (sW (hsS σ m)) j (ix (sR (hsS σ m) (8 * j + 0))) := by
  have h8 := hi.1.1
  have hm := inv1_hs hi m
  rw [← hs_ld hi.1 hj m]
  exact tx_tr (hsS σ m) (hm.2.2.1 j (by omega)) (okI_ix (hm.1.2 j (by omega)).1 (by decide)).1
theorem fo_let {σ : St} (hi : Inv1 σ) {j : Nat} (hj : j < sN σ) (m : Nat) : (∀ r, r < 4 → okI 6 ((hsD (sK σ) (sH σ) (ldS σ j) m).1 r)) ∧ okI 1296 (hsD (sK σ) (sH σ) (ldS σ j) m).2.2.1 := by
  have h8 := hi.1.1
  rw [← hs_ld hi.1 hj m]
  exact ld_let (inv1_hs hi m).1 (by omega)
