/-! the law's own checks: a ring turned and turned back -/
theorem jn_pp {X : Ctx} {ws : va_W} {k n pc : Nat} (j : Nat) {lv : List (Nat × Value)} {st : List Value} {x y : Int32} (v : Int32) (h1 : J X ws k n j lv (.int v :: st) → J X ws k n pc lv (.int x :: .int y :: st)) (h2 : J X ws k n j lv (.int v :: st)) : J X ws k n pc lv (.int x :: .int y :: st) := h1 h2
abbrev tbS (σ : St) (a q : Nat) : St := uT σ (sT σ + nI 2 * farF (nI a) (nI q))
theorem tb_e {σ : St} {c a q : Nat} (ha : a < 6) (hq : q < 6) (ea : sR σ c = nI a) : uT (uR (uT (uR σ (upd (sR σ) c (nI q))) (sT σ + farF (nI a) (nI q))) (upd (upd (sR σ) c (nI q)) c (nI a))) (sT σ + farF (nI a) (nI q) + farF (nI q) (nI a)) = tbS σ a q := by
  show (sN σ, sH σ, sT σ + farF (nI a) (nI q) + farF (nI q) (nI a), upd (upd (sR σ) c (nI q)) c (nI a), sW σ, sK σ) = (sN σ, sH σ, sT σ + nI 2 * farF (nI a) (nI q), sR σ, sW σ, sK σ)
  rw [upd_upd, upd_self _ _ _ ea, fa_n a ha q hq, fa_n q hq a ha, fa_s q hq a ha, Int32.add_assoc, nI_add, pk_mul, show farN a q + farN a q = 2 * farN a q by omega]
theorem fa_i {a q : Nat} (ha : a < 6) (hq : q < 6) : ¬ farF (nI a) (nI q) < 0 ∧ ¬ nI 3 < farF (nI a) (nI q) ∧ farF (nI a) (nI q) = farF (nI q) (nI a) ∧ (farF (nI a) (nI q) = 0 ↔ nI a = nI q) := by
  have h3 := fa_3 a ha q hq
  rw [fa_n a ha q hq, fa_n q hq a ha]
  refine ⟨nI_pos (by omega), nI_nlt h3 (by decide), by rw [fa_s a ha q hq], ?_⟩
  rw [nI_eq (by omega) (by omega), ← fa_0 a ha q hq]
  exact nI_eq (by omega) (by decide)
theorem il_tb {σ : St} {h : Nat} {x : Int32} (hi : InvL h σ) : InvL h (uT σ x) := ⟨hi.1, hi.2.1, fun r hr => hi.2.2 r hr⟩
/-! the word that shows is the first one -/
theorem ac_n (P : Nat → Prop) [DecidablePred P] : ∀ t, accF (nI 1) (fun o => b2i (P o)) t = nI (1 + cntN P t)
  | 0 => rfl
  | t + 1 => by
    show accF (nI 1) (fun o => b2i (P o)) t + b2i (P t) = nI (1 + (cntN P t + (if P t then 1 else 0)))
    rw [ac_n P t]
    by_cases h : P t
    · rw [b2i_y h, if_pos h, nI_add, Nat.add_assoc]
    · rw [b2i_n h, if_neg h, i_add0]
      rfl
theorem sf_1 {σ : St} {k : Nat} (hi : Inv1 σ) (hk : k < sN σ) : ∃ v, 1 ≤ v ∧ v ≤ 1296 ∧ f_safe σ (nI k) = (nI 0, nI v, σ) := by
  have h8 := hi.1.1
  have hw := (hi.1.2 k (by omega)).1
  obtain ⟨hv, -⟩ := okI_ix hw (by decide)
  have hlt : cntN (fun o => trC (plA (sW σ) k 24) (ix (sR σ (8 * k + 0))) o) 1296 < 1296 := cnt_lt _ (fun z => by
    rcases z with z | ⟨-, z⟩
    · exact Int32.lt_irrefl z
    · exact Int32.lt_irrefl z) 1296 hv
  refine ⟨1 + cntN (fun o => trC (plA (sW σ) k 24) (ix (sR σ (8 * k + 0))) o) 1296, by omega, by omega, ?_⟩
  rw [f_safe, if_pos (okI_n hk (by omega)), ixk (by omega)]
  exact congrArg (fun z => (nI 0, z, σ)) (ac_n (fun o => trC (plA (sW σ) k 24) (ix (sR σ (8 * k + 0))) o) 1296)
theorem pn_b (g : Nat → Int32) : pnN g (bmF g 5) = 0 := by
  obtain ⟨b1, b2⟩ := bm_max g 5
  have hb := bmF_le g 5
  refine cnt_none 6 (fun b hb6 h => ?_)
  rw [px_int] at h
  have x1 := b1 b (by omega)
  rcases h with h | ⟨h, h2⟩
  · omega
  · rw [nI_toInt (by omega), nI_toInt (by omega)] at h2
    have x2 := b2 b (by omega)
    omega
theorem pn_cg {g g' : Nat → Int32} {a : Nat} (ha : a < 6) (h : ∀ q, q < 6 → g q = g' q) : pnN g a = pnN g' a := cnt_cong 6 (fun b hb => by
  show (g a < g b ∨ (g b = g a ∧ nI b < nI a)) ↔ (g' a < g' b ∨ (g' b = g' a ∧ nI b < nI a))
  rw [h a ha, h b hb])
theorem tx_0 {W : Nat → Int32} {v : Nat} (h : ∀ r, r < 4 → pnN (wrw W r) (lN6 v r) = 0) : txN W v = 1 := by
  have hs : ∀ r, r ≤ 4 → spN W v r = 0 := fun r => by
    induction r with
    | zero => intro _; rfl
    | succ r ih =>
      intro hr
      show spN W v r + pnN (wrw W r) (lN6 v r) = 0
      rw [ih (by omega), h r (by omega)]
  have hl : ∀ i, i < 4 → ∀ t, t ≤ lN6 v i → liN W v i t = 0 := fun i hi t => by
    induction t with
    | zero => intro _; rfl
    | succ t ih =>
      intro ht
      show liN W v i t + wwN (3 - i) (srN W v i) (pnN (wrw W i) t) = 0
      have hl6 := lN6_lt v i
      have hne : pnN (wrw W i) t ≠ 0 := fun z => by
        have := pn_inj (wrw W i) (a := t) (b := lN6 v i) (by omega) hl6 (z.trans (h i hi).symm)
        omega
      have e0 : srN W v i = 0 := by
        show spN W v 4 - spN W v i = 0
        rw [hs 4 (Nat.le_refl 4)]
        omega
      rw [ih (by omega), e0]
      show 0 + (if _ then _ else _) = 0
      rw [if_neg (by omega)]
  have hls : ∀ i, i ≤ 4 → lsN W v i = 0 := fun i => by
    induction i with
    | zero => intro _; rfl
    | succ i ih =>
      intro hi
      show lsN W v i + liN W v i (lN6 v i) = 0
      rw [ih (by omega), hl i (by omega) _ (Nat.le_refl _)]
  show ccN 4 (spN W v 4) + lsN W v 4 + 1 = 1
  rw [hs 4 (Nat.le_refl 4), hls 4 (Nat.le_refl 4)]
  rfl
theorem tr_1 {σ : St} {k : Nat} (hi : Inv1 σ) (hk : k < sN σ) : f_trial σ (nI k) (shF (sW σ) k) = (nI 0, nI 1, σ) := by
  have h8 := hi.1.1
  obtain ⟨b, hb⟩ : ∃ b : Nat → Nat, b = fun r => bmF (wrow (sW σ) k r) 5 := ⟨_, rfl⟩
  have b5 : ∀ r, b r ≤ 5 := fun r => by rw [hb]; exact bmF_le _ 5
  have z0 := b5 0
  have z1 := b5 1
  have z2 := b5 2
  have z3 := b5 3
  have es : shF (sW σ) k = nI (((b 0 * 6 + b 1) * 6 + b 2) * 6 + b 3) := st_nat (by rw [hb]) (by rw [hb]) (by rw [hb]) (by rw [hb])
  have hV : ((b 0 * 6 + b 1) * 6 + b 2) * 6 + b 3 < 1296 := by omega
  have hd : ∀ r, r < 4 → lN6 (((b 0 * 6 + b 1) * 6 + b 2) * 6 + b 3) r = b r := fun r hr => by
    match r, hr with
    | 0, _ => show (((b 0 * 6 + b 1) * 6 + b 2) * 6 + b 3) / 216 % 6 = b 0; omega
    | 1, _ => show (((b 0 * 6 + b 1) * 6 + b 2) * 6 + b 3) / 36 % 6 = b 1; omega
    | 2, _ => show (((b 0 * 6 + b 1) * 6 + b 2) * 6 + b 3) / 6 % 6 = b 2; omega
    | 3, _ => show (((b 0 * 6 + b 1) * 6 + b 2) * 6 + b 3) / 1 % 6 = b 3; omega
  rw [es, f_trial, if_pos (okI_n hk (by omega)), if_pos (okI_n hV (by decide)), ixk (by omega), ixk (by omega), ← tx_tr σ (hi.2.2.1 k (by omega)) hV]
  rw [tx_0 (fun r hr => ?_)]
  rw [hd r hr]
  have e := pn_cg (g := wrw (lW σ k) r) (g' := wrow (sW σ) k r) (a := b r) (by have := b5 r; omega) (fun q hq => lw_q σ k hr hq)
  rw [e, hb]
  exact pn_b _
/-! what is worn, and what an hour wears -/
def wnF (W : Nat → Int32) : Nat → Int32
  | 0 => nI 0
  | k + 1 => if wnF W k = 0 then b2i (nI 97 < W k) else wnF W k
theorem wz_01 (W : Nat → Int32) : ∀ k, b01 (wnF W k)
  | 0 => Or.inl rfl
  | k + 1 => by
    show b01 (if _ then _ else _)
    by_cases c : wnF W k = 0
    · rw [if_pos c]; exact b2i_01
    · rw [if_neg c]; exact wz_01 W k
theorem wz_0 {W : Nat → Int32} : ∀ k, wnF W k = 0 → ∀ i, i < k → ¬ nI 97 < W i
  | 0, _, i, hi => absurd hi (Nat.not_lt_zero i)
  | k + 1, h, i, hi => by
    have h2 : (if wnF W k = 0 then b2i (nI 97 < W k) else wnF W k) = 0 := h
    by_cases c : wnF W k = 0
    · rw [if_pos c] at h2
      by_cases e : i = k
      · subst e; exact b2i_f h2
      · exact wz_0 k c i (by omega)
    · rw [if_neg c] at h2
      exact absurd h2 c
theorem wn_s1 {W : Nat → Int32} {k : Nat} (h : ¬ wnF W k = 0) : nI 1 = wnF W (k + 1) := (((wz_01 W k).resolve_left h).symm).trans (if_neg h).symm
theorem wn_s2 {W : Nat → Int32} {k : Nat} (h : wnF W k = 0) (h2 : W k ≤ nI 97) : nI 0 = wnF W (k + 1) := (b2i_n (inlt h2)).symm.trans (if_pos h).symm
theorem wn_s3 {W : Nat → Int32} {k : Nat} (h : wnF W k = 0) (h2 : ¬ W k ≤ nI 97) : nI 1 = wnF W (k + 1) := (b2i_y (ilt_of h2)).symm.trans (if_pos h).symm
def sumN (f : Nat → Nat) : Nat → Nat
  | 0 => 0
  | k + 1 => sumN f k + f k
theorem sn_cg {f g : Nat → Nat} : ∀ m, (∀ k, k < m → f k = g k) → sumN f m = sumN g m
  | 0, _ => rfl
  | m + 1, h => by
    show sumN f m + f m = sumN g m + g m
    rw [sn_cg m (fun k hk => h k (by omega)), h m (by omega)]
theorem sn_le {f : Nat → Nat} {b : Nat} : ∀ m, (∀ k, k < m → f k ≤ b) → sumN f m ≤ b * m
  | 0, _ => Nat.zero_le _
  | m + 1, h => by
    show sumN f m + f m ≤ b * (m + 1)
    have := sn_le m (fun k hk => h k (by omega))
    have := h m (by omega)
    rw [Nat.mul_succ]
    omega
theorem sn_nI {f : Nat → Int32} {g : Nat → Nat} : ∀ m, (∀ k, k < m → f k = nI (g k)) → sumF f m = nI (sumN g m)
  | 0, _ => rfl
  | m + 1, h => by
    show sumF f m + f m = nI (sumN g m + g m)
    rw [sn_nI m (fun k hk => h k (by omega)), h m (by omega), nI_add]
theorem sn_up {f g : Nat → Nat} {c : Nat} (ho : ∀ k, k ≠ c → g k = f k) : ∀ m, (m ≤ c → sumN g m = sumN f m) ∧ (c < m → sumN g m + f c = sumN f m + g c)
  | 0 => ⟨fun _ => rfl, fun h => absurd h (Nat.not_lt_zero c)⟩
  | m + 1 => by
    obtain ⟨a, b⟩ := sn_up ho m
    show (m + 1 ≤ c → sumN g m + g m = sumN f m + f m) ∧ (c < m + 1 → sumN g m + g m + f c = sumN f m + f m + g c)
    refine ⟨fun h => by rw [a (by omega), ho m (by omega)], fun h => ?_⟩
    by_cases e : c = m
    · subst e
      rw [a (Nat.le_refl c)]
      omega
    · have := b (by omega)
      rw [ho m (fun z => e z.symm)]
      omega
abbrev okW (W : Nat → Int32) : Prop := ∀ k, k < 192 → okI 100 (W k)
abbrev sW9 (W : Nat → Int32) : Nat := sumN (fun k => ix (W k)) 192
theorem ok_W {σ : St} (hi : Inv1 σ) : okW (sW σ) := fun k hk => by
  have := hi.2.2.1 (k / 24) (by omega) (k % 24) (Nat.mod_lt _ (by decide))
  rwa [Nat.div_add_mod] at this
theorem s9_e {W : Nat → Int32} (h : okW W) : sumF W 192 = nI (sW9 W) := sn_nI 192 (fun k hk => (okI_ix (h k hk) (by decide)).2)
theorem s9_l {W : Nat → Int32} (h : okW W) : sW9 W ≤ 99 * 192 := sn_le 192 (fun k hk => by have := (okI_ix (h k hk) (by decide)).1; omega)
theorem up_s {W : Nat → Int32} {c b : Nat} (h : okW W) (hc : c < 192) (hb : b ≤ 2) : okW (upd W c (minF (nI 99) (W c + nI b))) ∧ sW9 W ≤ sW9 (upd W c (minF (nI 99) (W c + nI b))) ∧ sW9 (upd W c (minF (nI 99) (W c + nI b))) ≤ sW9 W + b ∧ (ix (W c) ≤ 97 → sW9 (upd W c (minF (nI 99) (W c + nI b))) = sW9 W + b) := by
  obtain ⟨m, hm, em⟩ := okI_of (h c hc) (by decide)
  have ev : minF (nI 99) (W c + nI b) = nI (if m + b < 99 then m + b else 99) := by
    rw [em, nI_add]
    show (if nI (m + b) < nI 99 then nI (m + b) else nI 99) = _
    by_cases c1 : m + b < 99
    · rw [if_pos (nI_lt c1 (by decide)), if_pos c1]
    · rw [if_neg (nI_nlt (by omega) (by omega)), if_neg c1]
  have ei : ix (W c) = m := by rw [em]; exact ixk (by omega)
  have hu := (sn_up (f := fun k => ix (W k)) (g := fun k => ix (upd W c (minF (nI 99) (W c + nI b)) k)) (c := c) (fun k hk => by show ix (upd W c _ k) = ix (W k); rw [pk_un hk]) 192).2 hc
  have eg : ix (upd W c (minF (nI 99) (W c + nI b)) c) = if m + b < 99 then m + b else 99 := by
    rw [pk_us, ev]
    by_cases c1 : m + b < 99
    · rw [if_pos c1]; exact ixk (by omega)
    · rw [if_neg c1]; exact ixk (by decide)
  have hu2 : sW9 (upd W c (minF (nI 99) (W c + nI b))) + ix (W c) = sW9 W + ix (upd W c (minF (nI 99) (W c + nI b)) c) := hu
  rw [eg, ei] at hu2
  refine ⟨fun k hk => ?_, ?_, ?_, fun h97 => ?_⟩
  · by_cases e : k = c
    · subst e
      rw [pk_us]
      exact min_ok (h k hk) (by omega)
    · rw [pk_un e]; exact h k hk
  · by_cases c1 : m + b < 99
    · rw [if_pos c1] at hu2; omega
    · rw [if_neg c1] at hu2; omega
  · by_cases c1 : m + b < 99
    · rw [if_pos c1] at hu2; omega
    · rw [if_neg c1] at hu2; omega
  · rw [ei] at h97
    by_cases c1 : m + b < 99
    · rw [if_pos c1] at hu2; omega
    · rw [if_neg c1] at hu2; omega
abbrev g1N (f : Nat → Int32) (j : Nat) : Nat := if f (8 * j + 1) = 0 then 1 else if f (8 * j + 2) = -1 then 0 else 2
theorem ws_f {f W : Nat → Int32} {j k : Nat} (hf : rowsOK f) (hj : j < 8) : ∀ r, r ≤ 4 → (∀ r2 q, r2 < r → q < 6 → k ≠ 6 * (4 * j + r2) + q) → wLF f W j r k = W k
  | 0, _, _ => rfl
  | r + 1, hr, h => by
    have ih := ws_f (W := W) hf hj r (by omega) (fun r2 q h1 h2 => h r2 q (by omega) h2)
    obtain ⟨h6, -⟩ := okI_ix ((hf j hj).2.2 r (by omega)) (by decide)
    obtain ⟨h7, -⟩ := okI_ix (lt_ok (r := r) (hf j hj).1) (by decide)
    have u : ∀ q b, q < 6 → wup (wLF f W j r) j r q b k = W k := fun q b hq => (pk_un (h r q (by omega) hq)).trans ih
    show (if _ then _ else if _ then _ else _ : Nat → Int32) k = W k
    by_cases c1 : f (8 * j + 1) = 0
    · rw [if_pos c1]; exact u _ _ h6
    · rw [if_neg c1]
      by_cases c2 : f (8 * j + 2) = -1
      · rw [if_pos c2]; exact ih
      · rw [if_neg c2]; exact u _ _ h7
theorem lk_s {f W : Nat → Int32} {j : Nat} (hf : rowsOK f) (hj : j < 8) (hw : okW W) : ∀ r, r ≤ 4 → okW (wLF f W j r) ∧ sW9 W ≤ sW9 (wLF f W j r) ∧ sW9 (wLF f W j r) ≤ sW9 W + g1N f j * r ∧ ((∀ q, q < 24 → ix (W (24 * j + q)) ≤ 97) → sW9 (wLF f W j r) = sW9 W + g1N f j * r)
  | 0, _ => by
    have e : wLF f W j 0 = W := rfl
    rw [e, Nat.mul_zero, Nat.add_zero]
    exact ⟨hw, Nat.le_refl _, Nat.le_refl _, fun _ => rfl⟩
  | r + 1, hr => by
    obtain ⟨i0, i1, i2, i3⟩ := lk_s hf hj hw r (by omega)
    obtain ⟨h6, -⟩ := okI_ix ((hf j hj).2.2 r (by omega)) (by decide)
    obtain ⟨h7, -⟩ := okI_ix (lt_ok (r := r) (hf j hj).1) (by decide)
    have u : ∀ q b, q < 6 → b ≤ 2 → g1N f j = b → wst f (wLF f W j r) j r = wup (wLF f W j r) j r q (nI b) → okW (wLF f W j (r + 1)) ∧ sW9 W ≤ sW9 (wLF f W j (r + 1)) ∧ sW9 (wLF f W j (r + 1)) ≤ sW9 W + g1N f j * (r + 1) ∧ ((∀ q, q < 24 → ix (W (24 * j + q)) ≤ 97) → sW9 (wLF f W j (r + 1)) = sW9 W + g1N f j * (r + 1)) := fun q b hq hb hg he => by
      have e1 : wLF f W j (r + 1) = upd (wLF f W j r) (6 * (4 * j + r) + q) (minF (nI 99) (wLF f W j r (6 * (4 * j + r) + q) + nI b)) := he
      obtain ⟨a0, a1, a2, a3⟩ := up_s (c := 6 * (4 * j + r) + q) (b := b) i0 (by omega) hb
      rw [e1, Nat.mul_succ, hg]
      rw [hg] at i2 i3
      refine ⟨a0, by omega, by omega, fun h97 => ?_⟩
      have e2 : wLF f W j r (6 * (4 * j + r) + q) = W (6 * (4 * j + r) + q) := ws_f hf hj r (by omega) (fun r2 q2 h1 h2 => by omega)
      have h9 := h97 (6 * r + q) (by omega)
      rw [show 24 * j + (6 * r + q) = 6 * (4 * j + r) + q by omega] at h9
      rw [a3 (by rw [e2]; exact h9), i3 h97]
      omega
    by_cases c1 : f (8 * j + 1) = 0
    · exact u _ 1 h6 (by decide) (if_pos c1) (if_pos c1)
    · by_cases c2 : f (8 * j + 2) = -1
      · have eg : g1N f j = 0 := (if_neg c1).trans (if_pos c2)
        have e1 : wLF f W j (r + 1) = wLF f W j r := (if_neg c1).trans (if_pos c2)
        rw [e1, eg]
        rw [eg] at i2 i3
        exact ⟨i0, i1, by omega, fun h97 => by have := i3 h97; omega⟩
      · exact u _ 2 h7 (by decide) ((if_neg c1).trans (if_neg c2)) ((if_neg c1).trans (if_neg c2))
theorem al_s {f W : Nat → Int32} (hf : rowsOK f) (hw : okW W) : ∀ m, m ≤ 8 → okW (wAF f W m) ∧ sW9 W ≤ sW9 (wAF f W m) ∧ sW9 (wAF f W m) ≤ sW9 W + sumN (fun j => g1N f j * 4) m ∧ ((∀ q, q < 24 * m → ix (W q) ≤ 97) → sW9 (wAF f W m) = sW9 W + sumN (fun j => g1N f j * 4) m)
  | 0, _ => by
    have e : wAF f W 0 = W := rfl
    have e2 : sumN (fun j => g1N f j * 4) 0 = 0 := rfl
    rw [e, e2, Nat.add_zero]
    exact ⟨hw, Nat.le_refl _, Nat.le_refl _, fun _ => rfl⟩
  | m + 1, hm => by
    obtain ⟨i0, i1, i2, i3⟩ := al_s hf hw m (by omega)
    obtain ⟨a0, a1, a2, a3⟩ := lk_s (j := m) hf (by omega) i0 4 (Nat.le_refl 4)
    have e1 : wAF f W (m + 1) = wLF f (wAF f W m) m 4 := rfl
    have e2 : sumN (fun j => g1N f j * 4) (m + 1) = sumN (fun j => g1N f j * 4) m + g1N f m * 4 := rfl
    rw [e1, e2]
    refine ⟨a0, by omega, by omega, fun h97 => ?_⟩
    rw [a3 (fun q hq => by rw [wa_row hf (by omega) hq m (Nat.le_refl m)]; exact h97 _ (by omega)), i3 (fun q hq => h97 q (by omega))]
    omega
abbrev gnF (σ : St) (i : Nat) : Int32 := if sR σ (8 * i + 1) = 0 then nI 4 else if sR σ (8 * i + 2) = -1 then nI 0 else nI 8
theorem gn_e {σ : St} (i : Nat) : gnF σ i = nI (g1N (sR σ) i * 4) := by
  show (if sR σ (8 * i + 1) = 0 then nI 4 else if sR σ (8 * i + 2) = -1 then nI 0 else nI 8) = nI ((if sR σ (8 * i + 1) = 0 then 1 else if sR σ (8 * i + 2) = -1 then 0 else 2) * 4)
  by_cases c1 : sR σ (8 * i + 1) = 0
  · rw [if_pos c1, if_pos c1]
  · rw [if_neg c1, if_neg c1]
    by_cases c2 : sR σ (8 * i + 2) = -1
    · rw [if_pos c2, if_pos c2]
    · rw [if_neg c2, if_neg c2]
theorem wg_3 {σ : St} (hi : Inv1 σ) : (¬ sumF (sW σ) 192 + sumF (gnF σ) (sN σ) < sumF (sW (hrS σ)) 192) ∧ (wnF (sW σ) (24 * sN σ) = 0 → sumF (sW (hrS σ)) 192 = sumF (sW σ) 192 + sumF (gnF σ) (sN σ)) ∧ sumF (sW σ) 192 ≤ sumF (sW (hrS σ)) 192 := by
  have h8 := hi.1.1
  have hw := ok_W hi
  have hw2 := ok_W (inv1_hr hi)
  obtain ⟨-, a1, a2, a3⟩ := al_s hi.1.2 hw (sN σ) h8
  have eg : sumF (gnF σ) (sN σ) = nI (sumN (fun j => g1N (sR σ) j * 4) (sN σ)) := sn_nI _ (fun k _ => gn_e k)
  have b1 := s9_l hw
  have b2 := s9_l hw2
  have b3 : sumN (fun j => g1N (sR σ) j * 4) (sN σ) ≤ 8 * sN σ := sn_le _ (fun k _ => by
    show (if _ then 1 else if _ then 0 else 2) * 4 ≤ 8
    by_cases c1 : sR σ (8 * k + 1) = 0
    · rw [if_pos c1]; omega
    · rw [if_neg c1]
      by_cases c2 : sR σ (8 * k + 2) = -1
      · rw [if_pos c2]; omega
      · rw [if_neg c2]; omega)
  have ew : sW (hrS σ) = wAF (sR σ) (sW σ) (sN σ) := rfl
  rw [s9_e hw, s9_e hw2, eg, nI_add]
  rw [← ew] at a1 a2 a3
  refine ⟨nI_nlt a2 (by omega), fun hz => ?_, nI_le a1 (by omega)⟩
  rw [a3 (fun q hq => ?_)]
  have h97 := wz_0 _ hz q hq
  obtain ⟨m, hm, em⟩ := okI_of (hw q (by omega)) (by decide)
  rw [em] at h97 ⊢
  rw [ixk (by omega)]
  exact Nat.le_of_not_lt (fun z => h97 (nI_lt z (by omega)))
/-! the locks behind the hour -/
theorem cl_v {f : Nat → Int32} {r : Nat} : ∀ i, r < i → clL f i r = irm (f r + nI r + nI 1) (nI 6)
  | 0, h => absurd h (Nat.not_lt_zero r)
  | i + 1, h => by
    show upd (clL f i) i (irm (clL f i i + nI i + nI 1) (nI 6)) r = _
    by_cases e : r = i
    · subst e
      rw [pk_us, cl_at r (Nat.le_refl r)]
    · rw [pk_un e]
      exact cl_v i (by omega)
theorem cl_ne {g : Nat → Int32} (h : okL g) : ¬ stF (clL g 4) 4 = stF g 4 := by
  obtain ⟨a, ha, e0⟩ := okI_of (h 0 (by decide)) (by decide)
  obtain ⟨b, hb, e1⟩ := okI_of (h 1 (by decide)) (by decide)
  obtain ⟨c, hc, e2⟩ := okI_of (h 2 (by decide)) (by decide)
  obtain ⟨d, hd, e3⟩ := okI_of (h 3 (by decide)) (by decide)
  have v : ∀ r m, r < 4 → m < 6 → g r = nI m → clL g 4 r = nI ((m + r + 1) % 6) := fun r m hr hm e => by
    rw [cl_v 4 hr, e, nI_add, nI_add]
    exact irm_ok rfl (by omega) (by decide) (by decide)
  rw [st_nat e0 e1 e2 e3, st_nat (v 0 a (by decide) ha e0) (v 1 b (by decide) hb e1) (v 2 c (by decide) hc e2) (v 3 d (by decide) hd e3)]
  intro z
  have z2 := (nI_eq (by omega) (by omega)).mp z
  omega
section BH
variable {σ : St} {i : Nat}
abbrev shP (σ : St) (i : Nat) : Prop := shD (sK σ) (sH σ) (ldS σ i)
theorem bh_1 (hi : Inv1 σ) (hj : i < sN σ) : sR (hrS σ) (8 * i + 1) = if shP σ i then nI 0 else sR σ (8 * i + 1) := by
  have e : (ldS (hrS σ) i).2.2.2.2.1 = (hrD (sK σ) (sH σ) (ldS σ i)).2.2.2.2.1 := by rw [hr_ld hi.1 hj]
  refine Eq.trans e ?_
  by_cases c : shP σ i
  · rw [if_pos c, hr_wd, if_pos c]
  · rw [if_neg c, hr_wd, if_neg c]
    rfl
theorem bh_2 : sR (hrS σ) (8 * i + 2) = sR σ (8 * i + 2) := ca_k (by decide) (by decide) _
theorem bh_s (hi : Inv1 σ) (hj : i < sN σ) : stR (sR (hrS σ)) i = stR (sR σ) i ↔ ¬ shP σ i := by
  have h8 := hi.1.1
  have e : (ldS (hrS σ) i).1 = (hrD (sK σ) (sH σ) (ldS σ i)).1 := by rw [hr_ld hi.1 hj]
  have e1 : lL (hrS σ) i = (hrD (sK σ) (sH σ) (ldS σ i)).1 := e
  rw [← st_l, ← st_l, e1]
  by_cases c : shP σ i
  · rw [hr_wd, if_pos c]
    exact ⟨fun z => absurd z (cl_ne (ld_let hi.1 (by omega)).1), fun z => absurd c z⟩
  · rw [hr_wd, if_neg c]
    exact ⟨fun _ => c, fun _ => rfl⟩
theorem bh_c (hi : Inv1 σ) (hj : i < sN σ) : cCF (sK σ) (sH σ) (sR σ) i + b2i (shP σ i) = cCF (sK σ) (sH σ) (sR σ) (i + 1) := by
  have h8 := hi.1.1
  by_cases c : shP σ i
  · rw [b2i_y c]; exact cf_s hi.1 (by omega) c
  · rw [b2i_n c, i_add0]; exact cf_n hi.1 (by omega) c
theorem op_in {r : Nat} (hi : Inv1 σ) : rtl σ r 3 ≤ rtl σ r 1 := by
  have h8 := hi.1.1
  show sumF (fun i => if sR σ (8 * i + 2) = nI r then sR σ (8 * i + 1) else nI 0) (sN σ) ≤ inF σ (nI r)
  have e : sumF (fun i => if sR σ (8 * i + 2) = nI r then sR σ (8 * i + 1) else nI 0) (sN σ) = sumF (fun i => b2i (sR σ (8 * i + 2) = nI r ∧ ¬ sR σ (8 * i + 1) = 0)) (sN σ) := sum_cong _ (fun t ht => by
    by_cases c : sR σ (8 * t + 2) = nI r
    · by_cases c2 : sR σ (8 * t + 1) = 0
      · exact (if_pos c).trans (c2.trans (b2i_n (fun z => z.2 c2)).symm)
      · exact (if_pos c).trans (((hi.2.1 t (by omega)).1.resolve_left c2).trans (b2i_y ⟨c, c2⟩).symm)
    · exact (if_neg c).trans (b2i_n (fun z => c z.1)).symm)
  rw [e, in_c, sum_cnt]
  have l0 := cnt_le (fun i => sR σ (8 * i + 2) = nI r) (sN σ)
  exact nI_le (cnt_ss _ (fun t _ z => z.1)) (by omega)
end BH
