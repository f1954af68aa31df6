/-! what holds between the law's steps -/
abbrev okQ (σ : St) : Prop := ∀ r, r < 3 → okI 24 (sK σ (3 * r + 1)) ∧ okI 25 (sK σ (3 * r + 2)) ∧ okI 7 (sK σ (3 * r + 0)) ∧ inF σ (nI r) ≤ sK σ (3 * r + 0)
abbrev InvL (h : Nat) (σ : St) : Prop := Inv1 σ ∧ sH σ = nI h ∧ okQ σ
theorem ok_K {σ : St} (h : okQ σ) : okK (sK σ) := fun r hr => ⟨(h r hr).1, (h r hr).2.1⟩
theorem q_same {σ σ' : St} (hq : okQ σ) (hK : sK σ' = sK σ) (hn : sN σ' = sN σ) (hr : ∀ i, sR σ' (8 * i + 2) = sR σ (8 * i + 2)) : okQ σ' := by
  intro r hr3
  have e : inF σ' (nI r) = inF σ (nI r) := by
    show sumF (fun i => b2i (sR σ' (8 * i + 2) = nI r)) (sN σ') = sumF (fun i => b2i (sR σ (8 * i + 2) = nI r)) (sN σ)
    rw [hn]
    exact sum_cong _ (fun i _ => b2i_c (by rw [hr i]))
  rw [hK, e]
  exact hq r hr3
theorem q_upd {σ : St} {j c : Nat} {v : Int32} (hq : okQ σ) (hc : c < 8) (h2 : c ≠ 2) : okQ (uR σ (upd (sR σ) (8 * j + c) v)) := q_same hq rfl rfl (fun i => pk_un (by omega))
theorem q_cl {σ : St} {j : Nat} (hq : okQ σ) : okQ (uR σ (clF (sR σ) j 4)) := q_same hq rfl rfl (fun i => cl_o (by omega) (fun r hr => by omega) 4 (Nat.le_refl 4))
theorem il_hr {σ : St} {h : Nat} (hi : InvL h σ) : InvL (h + 1) (hrS σ) := by
  refine ⟨inv1_hr hi.1, ?_, q_same hi.2.2 rfl rfl (fun i => ca_k (by decide) (by decide) _)⟩
  show sH σ + nI 1 = nI (h + 1)
  rw [hi.2.1, nI_add]
theorem ixk {k : Nat} (h : k < 2 ^ 31) : ix (nI k) = k := nI_clamp h
section VV
variable {σ : St} {k : Nat}
theorem tn_v {r q a : Nat} (hk : k < sN σ) (h8 : sN σ ≤ 8) (hr : r < 4) (hq : q < 6) (ea : sR σ (8 * k + (4 + r)) = nI a) : f_turn σ (nI k) (nI r) (nI q) = (nI 0, farF (nI a) (nI q), uT (uR σ (upd (sR σ) (8 * k + (4 + r)) (nI q))) (sT σ + farF (nI a) (nI q))) := by
  rw [f_turn, if_pos ⟨okI_n hk (by omega), okI_n hr (by decide)⟩, if_pos (okI_n hq (by decide)), ixk (by omega), ixk (by omega), ea]
abbrev opV (σ : St) (k : Nat) : Int32 := b2i (¬ sR σ (8 * k + 1) = 0 ∨ stR (sR σ) k = sR σ (8 * k + 0))
theorem op_v (hi : Inv1 σ) (hk : k < sN σ) : f_open σ (nI k) = (nI 0, opV σ k, uR σ (upd (sR σ) (8 * k + 1) (opV σ k))) := by
  have h8 := hi.1.1
  have hl : okI (sN σ) (nI k) := okI_n hk (by omega)
  have e : ix (nI k) = k := ixk (by omega)
  have hb := (hi.2.1 k (by omega)).1
  by_cases c : stR (sR σ) k = sR σ (8 * k + 0)
  · have h := op_y hl (by rw [e]; exact c)
    rw [e, pk_us] at h
    rw [h, show opV σ k = nI 1 from b2i_y (Or.inr c)]
  · have h := op_n hl (by rw [e]; exact c) (by rw [e]; exact hb)
    rw [e] at h
    have e2 : opV σ k = sR σ (8 * k + 1) := (b2i_c ⟨fun z => z.resolve_right c, Or.inl⟩).trans (b_01 hb)
    rw [h, e2, upd_self _ _ _ rfl]
theorem sh_v (hi : Inv1 σ) (hk : k < sN σ) (ho : ¬ sR σ (8 * k + 1) = 0) : f_shut σ (nI k) = (nI 0, stR (clF (sR σ) k 4) k, uR σ (clF (sR σ) k 4)) := by
  have h8 := hi.1.1
  rw [f_shut, if_pos (okI_n hk (by omega)), ixk (by omega), if_neg ho]
theorem rn_v {m : Nat} (hi : Inv1 σ) (hk : k < sN σ) (hm : m < 1296) (ho : ¬ sR σ (8 * k + 1) = 0) : f_rename σ (nI k) (nI m) = (nI 0, sR σ (8 * k + 0), uR σ (upd (upd (sR σ) (8 * k + 0) (nI m)) (8 * k + 3) (nI 0))) := by
  have h8 := hi.1.1
  rw [f_rename, if_pos (okI_n hk (by omega)), if_pos (okI_n hm (by decide)), ixk (by omega), if_neg ho]
theorem lo_v {v : Int32} (hi : Inv1 σ) (hk : k < sN σ) (hv : b01 v) : f_lose σ (nI k) v = (nI 0, sR σ (8 * k + 3), uR σ (upd (sR σ) (8 * k + 3) v)) := by
  have h8 := hi.1.1
  rw [f_lose, if_pos (okI_n hk (by omega)), ixk (by omega), b_11 (hi.2.1 k (by omega)).2, b_01 hv]
theorem pl_v {r j : Nat} (hr : r < 3) (hj : j < 6) (hin : inF σ (nI r) ≤ nI (1 + j)) : f_setPlaces σ (nI r) (nI (1 + j)) = (nI 0, sK σ (3 * r + 0), uK σ (upd (sK σ) (3 * r + 0) (nI (1 + j)))) := by
  rw [f_setPlaces, if_pos (okI_n hr (by decide)), if_pos ⟨nI_le (by omega) (by omega), nI_le (by omega) (by decide)⟩, if_pos hin, ixk (by omega)]
theorem hu_v {r f t : Nat} (hr : r < 3) (hf : f < 24) (ht : t < 25) : f_setHours σ (nI r) (nI f) (nI t) = (nI 0, nI 25 * sK σ (3 * r + 1) + sK σ (3 * r + 2), uK σ (upd (upd (sK σ) (3 * r + 1) (nI f)) (3 * r + 2) (nI t))) := by
  rw [f_setHours, if_pos (okI_n hr (by decide)), if_pos ⟨okI_n hf (by decide), okI_n ht (by decide)⟩, ixk (by omega)]
abbrev ptC (σ : St) (k : Nat) (y : Int32) : Prop := y = sR σ (8 * k + 2) ∨ (¬ y = sR σ (8 * k + 2) ∧ ¬ sR σ (8 * k + 1) = 0 ∧ (y = -1 ∨ (okI 3 y ∧ opR σ (sH σ) (ix y) ∧ inF σ y < sK σ (3 * ix y + 0))))
theorem pt_v {y : Int32} (hi : Inv1 σ) (hk : k < sN σ) (hc : ptC σ k y) : f_put σ (nI k) y = (nI 0, sR σ (8 * k + 2), uR σ (upd (sR σ) (8 * k + 2) y)) := by
  have h8 := hi.1.1
  have hl : okI (sN σ) (nI k) := okI_n hk (by omega)
  have hrk := (hi.1.2 k (by omega)).2.1
  rcases hc with e | ⟨hne, ho, hy⟩
  · subst e
    rw [f_put, if_pos ⟨hl, hrk⟩, ixk (by omega), if_pos rfl, upd_self _ _ _ rfl]
  · have hy2 : y = -1 ∨ okI 3 y := hy.imp id (fun z => z.1)
    rw [f_put, if_pos ⟨hl, hy2⟩, ixk (by omega), if_neg (fun z => hne z.symm)]
    refine if_neg ?_
    rintro (z | ⟨z1, z2⟩)
    · exact ho z
    · obtain ⟨-, a2, a3⟩ := hy.resolve_left z1
      exact z2.elim (fun q => q a2) (fun q => inle a3 q)
theorem lk_v {m : Nat} (h8 : sN σ < 8) (hm : m < 1296) : f_lock σ (nI m) = (nI 0, nI (sN σ), nwS σ (nI m)) := by
  rw [f_lock, if_pos (okI_n hm (by decide)), if_neg (nI_ne (by omega) (by omega) (by decide))]
end VV
section IL
variable {σ : St} {k h : Nat}
theorem il_turn {r q a : Nat} (hi : InvL h σ) (hk : k < sN σ) (hr : r < 4) (hq : q < 6) (ea : sR σ (8 * k + (4 + r)) = nI a) : InvL h (uT (uR σ (upd (sR σ) (8 * k + (4 + r)) (nI q))) (sT σ + farF (nI a) (nI q))) := by
  have h1 := i1_turn (x := nI k) (y := nI r) (z := nI q) hi.1
  rw [I1S, tn_v hk hi.1.1.1 hr hq ea] at h1
  exact ⟨h1, hi.2.1, q_same hi.2.2 rfl rfl (fun i => pk_un (by omega))⟩
theorem il_open (hi : InvL h σ) (hk : k < sN σ) : InvL h (uR σ (upd (sR σ) (8 * k + 1) (opV σ k))) := by
  have h1 := i1_open (x := nI k) hi.1
  rw [I1S, op_v hi.1 hk] at h1
  exact ⟨h1, hi.2.1, q_upd hi.2.2 (by decide) (by decide)⟩
theorem il_shut (hi : InvL h σ) (hk : k < sN σ) : InvL h (uR σ (clF (sR σ) k 4)) := ⟨inv1_cl hi.1 hk, hi.2.1, q_cl hi.2.2⟩
theorem il_ren {m : Nat} (hi : InvL h σ) (hk : k < sN σ) (hm : m < 1296) (ho : ¬ sR σ (8 * k + 1) = 0) : InvL h (uR σ (upd (upd (sR σ) (8 * k + 0) (nI m)) (8 * k + 3) (nI 0))) := by
  have h1 := i1_rename (x := nI k) (w := nI m) hi.1
  rw [I1S, rn_v hi.1 hk hm ho] at h1
  exact ⟨h1, hi.2.1, q_same hi.2.2 rfl rfl (fun i => (pk_un (by omega)).trans (pk_un (by omega)))⟩
theorem il_lose {v : Int32} (hi : InvL h σ) (hk : k < sN σ) (hv : b01 v) : InvL h (uR σ (upd (sR σ) (8 * k + 3) v)) := by
  have h1 := i1_lose (x := nI k) (b := v) hi.1
  rw [I1S, lo_v hi.1 hk hv] at h1
  exact ⟨h1, hi.2.1, q_upd hi.2.2 (by decide) (by decide)⟩
theorem in_uK {K : Nat → Int32} {y : Int32} : inF (uK σ K) y = inF σ y := rfl
theorem il_pl {r j : Nat} (hi : InvL h σ) (hr : r < 3) (hj : j < 6) (hin : inF σ (nI r) ≤ nI (1 + j)) : InvL h (uK σ (upd (sK σ) (3 * r + 0) (nI (1 + j)))) := by
  refine ⟨hi.1, hi.2.1, fun q hq => ?_⟩
  obtain ⟨a, b, c, d⟩ := hi.2.2 q hq
  show okI 24 (upd (sK σ) (3 * r + 0) (nI (1 + j)) (3 * q + 1)) ∧ okI 25 (upd (sK σ) (3 * r + 0) (nI (1 + j)) (3 * q + 2)) ∧ okI 7 (upd (sK σ) (3 * r + 0) (nI (1 + j)) (3 * q + 0)) ∧ inF σ (nI q) ≤ upd (sK σ) (3 * r + 0) (nI (1 + j)) (3 * q + 0)
  rw [pk_un (by omega), pk_un (by omega)]
  refine ⟨a, b, ?_⟩
  by_cases e : q = r
  · subst e
    rw [pk_us]
    exact ⟨okI_n (by omega) (by decide), hin⟩
  · rw [pk_un (by omega)]
    exact ⟨c, d⟩
theorem il_hu {r f t : Nat} (hi : InvL h σ) (hr : r < 3) (hf : f < 24) (ht : t < 25) : InvL h (uK σ (upd (upd (sK σ) (3 * r + 1) (nI f)) (3 * r + 2) (nI t))) := by
  refine ⟨hi.1, hi.2.1, fun q hq => ?_⟩
  obtain ⟨a, b, c, d⟩ := hi.2.2 q hq
  show okI 24 (upd (upd (sK σ) (3 * r + 1) (nI f)) (3 * r + 2) (nI t) (3 * q + 1)) ∧ okI 25 (upd (upd (sK σ) (3 * r + 1) (nI f)) (3 * r + 2) (nI t) (3 * q + 2)) ∧ okI 7 (upd (upd (sK σ) (3 * r + 1) (nI f)) (3 * r + 2) (nI t) (3 * q + 0)) ∧ inF σ (nI q) ≤ upd (upd (sK σ) (3 * r + 1) (nI f)) (3 * r + 2) (nI t) (3 * q + 0)
  rw [pk_un (j := 3 * q + 1) (k := 3 * r + 2) (by omega), pk_un (j := 3 * q + 0) (k := 3 * r + 2) (by omega), pk_un (j := 3 * q + 0) (k := 3 * r + 1) (by omega)]
  refine ⟨?_, ?_, c, d⟩
  · by_cases e : q = r
    · subst e; rw [pk_us]; exact okI_n hf (by decide)
    · rw [pk_un (by omega)]; exact a
  · by_cases e : q = r
    · subst e; rw [pk_us]; exact okI_n ht (by decide)
    · rw [pk_un (by omega), pk_un (by omega)]; exact b
theorem in_c (σ : St) (y : Int32) : inF σ y = nI (cntN (fun i => sR σ (8 * i + 2) = y) (sN σ)) := sum_cnt (fun i => sR σ (8 * i + 2) = y) (sN σ)
theorem cnt_1 {P Q : Nat → Prop} [DecidablePred P] [DecidablePred Q] {k : Nat} (h : ∀ i, i ≠ k → (Q i → P i)) : ∀ n, cntN Q n ≤ cntN P n + 1 ∧ (n ≤ k → cntN Q n ≤ cntN P n)
  | 0 => ⟨Nat.zero_le _, fun _ => Nat.le_refl 0⟩
  | n + 1 => by
    obtain ⟨a, b⟩ := cnt_1 h n
    show cntN Q n + (if Q n then 1 else 0) ≤ cntN P n + (if P n then 1 else 0) + 1 ∧ (_ → cntN Q n + (if Q n then 1 else 0) ≤ cntN P n + (if P n then 1 else 0))
    have one : ∀ c : Prop, ∀ [Decidable c], (if c then 1 else 0) ≤ 1 := fun c _ => by
      by_cases z : c
      · rw [if_pos z]; exact Nat.le_refl 1
      · rw [if_neg z]; omega
    by_cases e : n = k
    · have := b (by omega)
      have := one (Q n)
      exact ⟨by omega, fun z => by omega⟩
    · have imp : (if Q n then 1 else 0) ≤ (if P n then 1 else 0) := by
        by_cases q : Q n
        · rw [if_pos q, if_pos (h n e q)]; exact Nat.le_refl 1
        · rw [if_neg q]; exact Nat.zero_le _
      exact ⟨by omega, fun z => by have := b (by omega); omega⟩
theorem il_put {y : Int32} (hi : InvL h σ) (hk : k < sN σ) (hc : ptC σ k y) : InvL h (uR σ (upd (sR σ) (8 * k + 2) y)) := by
  have h1 := i1_put (x := nI k) (y := y) hi.1
  rw [I1S, pt_v hi.1 hk hc] at h1
  refine ⟨h1, hi.2.1, fun r hr => ?_⟩
  obtain ⟨a, b, c, d⟩ := hi.2.2 r hr
  refine ⟨a, b, c, ?_⟩
  have h8 := hi.1.1.1
  obtain ⟨m, hm, em⟩ := okI_of c (by decide)
  have e0 := in_c σ (nI r)
  have e1 := in_c (uR σ (upd (sR σ) (8 * k + 2) y)) (nI r)
  have l0 := cnt_le (fun i => sR σ (8 * i + 2) = nI r) (sN σ)
  have l1 := cnt_le (fun i => sR (uR σ (upd (sR σ) (8 * k + 2) y)) (8 * i + 2) = nI r) (sN (uR σ (upd (sR σ) (8 * k + 2) y)))
  have l1' : cntN (fun i => sR (uR σ (upd (sR σ) (8 * k + 2) y)) (8 * i + 2) = nI r) (sN (uR σ (upd (sR σ) (8 * k + 2) y))) ≤ sN σ := l1
  show inF (uR σ (upd (sR σ) (8 * k + 2) y)) (nI r) ≤ sK σ (3 * r + 0)
  rw [em] at d ⊢
  rw [e0] at d
  rw [e1]
  have d2 := (nI_leI (by omega) (by omega)).mp d
  refine nI_le ?_ (by omega)
  have hsame : ∀ i, i ≠ k → (sR (uR σ (upd (sR σ) (8 * k + 2) y)) (8 * i + 2) = nI r → sR σ (8 * i + 2) = nI r) := fun i hik z => by
    have z2 : upd (sR σ) (8 * k + 2) y (8 * i + 2) = nI r := z
    rwa [pk_un (by omega)] at z2
  by_cases hy : y = nI r
  · by_cases ho : sR σ (8 * k + 2) = nI r
    · refine Nat.le_trans (cnt_ss (P := fun i => sR σ (8 * i + 2) = nI r) _ (fun i _ z => ?_)) d2
      by_cases e : i = k
      · subst e; exact ho
      · exact hsame i e z
    · rcases hc with z | ⟨-, -, z | ⟨-, -, z⟩⟩
      · exact absurd (z.symm.trans hy) ho
      · rw [hy] at z
        exact absurd z (by match r, hr with | 0, _ => decide | 1, _ => decide | 2, _ => decide)
      · rw [hy, show ix (nI r) = r from ixk (by omega), em, e0] at z
        have z2 := (nI_ltI (by omega) (by omega)).mp z
        have := (cnt_1 (P := fun i => sR σ (8 * i + 2) = nI r) (Q := fun i => sR (uR σ (upd (sR σ) (8 * k + 2) y)) (8 * i + 2) = nI r) hsame (sN σ)).1
        exact Nat.le_trans this z2
  · refine Nat.le_trans (cnt_ss (P := fun i => sR σ (8 * i + 2) = nI r) _ (fun i _ z => ?_)) d2
    by_cases e : i = k
    · subst e
      have z2 : upd (sR σ) (8 * i + 2) y (8 * i + 2) = nI r := z
      rw [pk_us] at z2
      exact absurd z2 hy
    · exact hsame i e z
theorem il_lock {m : Nat} (hi : InvL h σ) (h8 : sN σ < 8) (hm : m < 1296) : InvL h (nwS σ (nI m)) := by
  have h1 := i1_lock (x := nI m) hi.1
  rw [I1S, lk_v h8 hm] at h1
  refine ⟨h1, hi.2.1, fun r hr => ?_⟩
  obtain ⟨a, b, c, d⟩ := hi.2.2 r hr
  refine ⟨a, b, c, ?_⟩
  have e : inF (nwS σ (nI m)) (nI r) = inF σ (nI r) := by
    show sumF (fun i => b2i (upd (upd (upd (sR σ) (8 * sN σ + 0) (nI m)) (8 * sN σ + 1) (nI 1)) (8 * sN σ + 2) (-1) (8 * i + 2) = nI r)) (sN σ) + b2i (upd (upd (upd (sR σ) (8 * sN σ + 0) (nI m)) (8 * sN σ + 1) (nI 1)) (8 * sN σ + 2) (-1) (8 * sN σ + 2) = nI r) = _
    rw [pk_us, b2i_n (show ¬ (-1 : Int32) = nI r by match r, hr with | 0, _ => decide | 1, _ => decide | 2, _ => decide), i_add0]
    refine sum_cong _ (fun i hi => b2i_c ?_)
    rw [pk_un (by omega), pk_un (by omega), pk_un (by omega)]
  show inF (nwS σ (nI m)) (nI r) ≤ sK σ (3 * r + 0)
  rw [e]
  exact d
end IL
/-! cells in new places -/
def sdU (sd : Nat → Nat) (a q : Nat) : Nat → Nat := fun i => if i = a then q else sd i
theorem su_s {sd : Nat → Nat} {a q : Nat} : sdU sd a q a = q := if_pos rfl
theorem su_n {sd : Nat → Nat} {a q i : Nat} (h : i ≠ a) : sdU sd a q i = sd i := if_neg h
theorem rfs_e {N : Nat} {f g : Nat → Nat} (h : ∀ i, i < N → f i = g i) : rfs N f = rfs N g := by
  funext i
  show (if i < N then some (f i) else none) = if i < N then some (g i) else none
  by_cases c : i < N
  · rw [if_pos c, if_pos c, h i c]
  · rw [if_neg c, if_neg c]
theorem sk_e {ct : Nat → ClassId} {sd sd' : Nat → Nat} {j : Nat} {d : LD} (h : ∀ i, 10 + 8 * j ≤ i → i < 18 + 8 * j → sd' i = sd i) : sLk ct sd' j d = sLk ct sd j d := by
  unfold sLk
  rw [h (10 + 8 * j) (by omega) (by omega), h (11 + 8 * j) (by omega) (by omega), h (12 + 8 * j) (by omega) (by omega), h (13 + 8 * j) (by omega) (by omega), h (14 + 8 * j + 0) (by omega) (by omega), h (14 + 8 * j + 1) (by omega) (by omega), h (14 + 8 * j + 2) (by omega) (by omega), h (14 + 8 * j + 3) (by omega) (by omega), rfs_e (N := 4) (f := fun i => sd' (14 + 8 * j + i)) (g := fun i => sd (14 + 8 * j + i)) (fun i hi => h _ (by omega) (by omega))]
section ZN
variable {ct : Nat → ClassId} {sd : Nat → Nat} {H T : Int32} {n : Nat} {K : Nat → Int32} {dat : Nat → LD} {wr : va_W} {j : Nat} {d : LD}
theorem sw_u {σ σ' : St} (ho : ∀ i, i ≠ j → ldS σ' i = ldS σ i) (hd : ldS σ' j = d) : SW ct sd H T n K (updD (ldS σ) j d) = SW ct sd H T n K (ldS σ') := by
  refine sw_e (fun i _ => ?_)
  by_cases e : i = j
  · subst e; rw [ud_s, hd]
  · rw [ud_n e, ho i e]
/-- a lock's word in a new row -/
theorem sw_rn {q : Nat} {w : Int32} (hj : j < n) (hd : dat j = d) : ((SW ct sd H T n K dat ++ wr).set (6 + 8 * j) (obL (sd (10 + 8 * j)) q (sd (12 + 8 * j)) (sd (13 + 8 * j)) d.2.2.2.2.1 d.2.2.2.2.2 d.2.2.2.1)).set (6 + 8 * j + 7) (arI ct q 4 (cut 4 (ltF w))) = SW ct (sdU sd (11 + 8 * j) q) H T n K (updD dat j (d.1, d.2.1, w, d.2.2.2)) ++ wr := by
  have hl : ∀ i, i < 8 → 6 + (8 * j + i) < (SW ct sd H T n K dat).length := fun i hi => by rw [sw_len]; omega
  rw [show 6 + 8 * j = 6 + (8 * j + 0) from rfl, show 6 + (8 * j + 0) + 7 = 6 + (8 * j + 7) by omega, List.set_append_left _ _ (hl 0 (by decide)), List.set_append_left _ _ (by rw [List.length_set]; exact hl 7 (by decide))]
  congr 1
  show ((SF ct sd H T n K ++ SLg (sLs ct sd dat) n).set (6 + (8 * j + 0)) _).set (6 + (8 * j + 7)) _ = SF ct (sdU sd (11 + 8 * j) q) H T n K ++ SLg (sLs ct (sdU sd (11 + 8 * j) q) (updD dat j (d.1, d.2.1, w, d.2.2.2))) n
  rw [List.set_append_right _ _ (by rw [SF_len]; omega), SF_len, show 6 + (8 * j + 0) - 6 = 8 * j + 0 by omega, sg_set sls_len (by decide) n hj, List.set_append_right _ _ (by rw [SF_len]; omega), SF_len, show 6 + (8 * j + 7) - 6 = 8 * j + 7 by omega]
  have hL : ∀ i, (updL (sLs ct sd dat) j ((sLs ct sd dat j).set 0 (obL (sd (10 + 8 * j)) q (sd (12 + 8 * j)) (sd (13 + 8 * j)) d.2.2.2.2.1 d.2.2.2.2.2 d.2.2.2.1)) i).length = 8 := fun i => by
    by_cases e : i = j
    · subst e; rw [ul_s]; rfl
    · rw [ul_n e]; rfl
  rw [sg_set hL (by decide) n hj]
  have eF : SF ct (sdU sd (11 + 8 * j) q) H T n K = SF ct sd H T n K := by
    unfold SF
    rw [rfs_e (N := n) (f := fun i => sdU sd (11 + 8 * j) q (10 + 8 * i)) (g := fun i => sd (10 + 8 * i)) (fun i _ => su_n (by omega)), rfs_e (N := 3) (f := fun i => sdU sd (11 + 8 * j) q (3 + i)) (g := fun i => sd (3 + i)) (fun i _ => su_n (by omega)), su_n (by omega), su_n (by omega), su_n (by omega), su_n (by omega), su_n (by omega), su_n (by omega)]
  rw [eF]
  congr 1
  refine sg_congr n (fun i hi => ?_)
  by_cases e : i = j
  · subst e
    rw [ul_s, ul_s]
    show ((sLk ct sd i (dat i)).set 0 _).set 7 _ = sLk ct (sdU sd (11 + 8 * i) q) i (updD dat i _ i)
    rw [ud_s, hd]
    unfold sLk
    rw [rfs_e (N := 4) (f := fun t => sdU sd (11 + 8 * i) q (14 + 8 * i + t)) (g := fun t => sd (14 + 8 * i + t)) (fun t _ => su_n (by omega)), su_s, su_n (i := 10 + 8 * i) (by omega), su_n (i := 12 + 8 * i) (by omega), su_n (i := 13 + 8 * i) (by omega), su_n (i := 14 + 8 * i + 0) (by omega), su_n (i := 14 + 8 * i + 1) (by omega), su_n (i := 14 + 8 * i + 2) (by omega), su_n (i := 14 + 8 * i + 3) (by omega)]
    rfl
  · rw [ul_n e, ul_n e]
    show sLk ct sd i (dat i) = sLk ct (sdU sd (11 + 8 * j) q) i (updD dat j _ i)
    rw [ud_n e]
    exact (sk_e (fun t h1 h2 => su_n (by omega))).symm
/-- a rack's row in a new place -/
theorem sw_rk {q r : Nat} {K' : Nat → Int32} (hr : r < 3) (hK : ∀ i, i < 3 → i ≠ r → rkr K' i = rkr K i) : ((SW ct sd H T n K dat ++ wr).set 2 (arR (ct 3) (sd 2) 3 (va_up (rfs 3 (fun i => sd (3 + i))) r (some q)))).set (3 + r) (arI ct q 3 (rkr K' r)) = SW ct (sdU sd (3 + r) q) H T n K' dat ++ wr := by
  have ek : va_up (rfs 3 (fun i => sd (3 + i))) r (some q) = rfs 3 (fun i => sdU sd (3 + r) q (3 + i)) := by
    funext i
    by_cases e : i = r
    · subst e
      rw [va_up_self]
      show _ = if i < 3 then some (sdU sd (3 + i) q (3 + i)) else none
      rw [if_pos hr, su_s]
    · rw [va_up_ne _ _ e]
      show (if i < 3 then some (sd (3 + i)) else none) = if i < 3 then some (sdU sd (3 + r) q (3 + i)) else none
      rw [su_n (by omega)]
  have eF : SF ct (sdU sd (3 + r) q) H T n K' = ((SF ct sd H T n K).set 2 (arR (ct 3) (sd 2) 3 (va_up (rfs 3 (fun i => sd (3 + i))) r (some q)))).set (3 + r) (arI ct q 3 (rkr K' r)) := by
    rw [ek]
    unfold SF
    rw [rfs_e (N := n) (f := fun i => sdU sd (3 + r) q (10 + 8 * i)) (g := fun i => sd (10 + 8 * i)) (fun i _ => su_n (by omega)), su_n (i := 0) (by omega), su_n (i := 1) (by omega), su_n (i := 2) (by omega)]
    match r, hr with
    | 0, _ => rw [hK 1 (by decide) (by decide), hK 2 (by decide) (by decide), su_s, su_n (i := 3 + 1) (by decide), su_n (i := 3 + 2) (by decide)]; rfl
    | 1, _ => rw [hK 0 (by decide) (by decide), hK 2 (by decide) (by decide), su_s, su_n (i := 3 + 0) (by decide), su_n (i := 3 + 2) (by decide)]; rfl
    | 2, _ => rw [hK 0 (by decide) (by decide), hK 1 (by decide) (by decide), su_s, su_n (i := 3 + 0) (by decide), su_n (i := 3 + 1) (by decide)]; rfl
  rw [List.set_append_left _ _ (by rw [sw_len]; omega), List.set_append_left _ _ (by rw [List.length_set, sw_len]; omega)]
  congr 1
  show ((SF ct sd H T n K ++ SLg (sLs ct sd dat) n).set 2 _).set (3 + r) _ = SF ct (sdU sd (3 + r) q) H T n K' ++ SLg (sLs ct (sdU sd (3 + r) q) dat) n
  rw [List.set_append_left _ _ (by rw [SF_len]; decide), List.set_append_left _ _ (by rw [List.length_set, SF_len]; omega), eF]
  congr 1
  exact sg_congr n (fun i _ => (sk_e (fun t h1 h2 => su_n (by omega))).symm)
/-- a new lock -/
def sdN (sd : Nat → Nat) (n q h qw q1 q2 : Nat) (rw : Nat → Nat) : Nat → Nat := fun i => if i = 1 then q else if i < 10 + 8 * n then sd i else if i = 10 + 8 * n then h else if i = 11 + 8 * n then qw else if i = 12 + 8 * n then q1 else if i = 13 + 8 * n then q2 else if i < 18 + 8 * n then rw (i - (14 + 8 * n)) else sd i
theorem sn_o {q h qw q1 q2 i : Nat} {rw : Nat → Nat} (h1 : i ≠ 1) (h2 : i < 10 + 8 * n) : sdN sd n q h qw q1 q2 rw i = sd i := by
  unfold sdN
  rw [if_neg h1, if_pos h2]
theorem sn_1 {q h qw q1 q2 : Nat} {rw : Nat → Nat} : sdN sd n q h qw q1 q2 rw 1 = q := if_pos rfl
theorem sn_h {q h qw q1 q2 : Nat} {rw : Nat → Nat} : sdN sd n q h qw q1 q2 rw (10 + 8 * n) = h := by
  unfold sdN
  rw [if_neg (by omega), if_neg (by omega), if_pos rfl]
theorem sn_w {q h qw q1 q2 : Nat} {rw : Nat → Nat} : sdN sd n q h qw q1 q2 rw (11 + 8 * n) = qw := by
  unfold sdN
  rw [if_neg (by omega), if_neg (by omega), if_neg (by omega), if_pos rfl]
theorem sn_r {q h qw q1 q2 : Nat} {rw : Nat → Nat} : sdN sd n q h qw q1 q2 rw (12 + 8 * n) = q1 := by
  unfold sdN
  rw [if_neg (by omega), if_neg (by omega), if_neg (by omega), if_neg (by omega), if_pos rfl]
theorem sn_a {q h qw q1 q2 : Nat} {rw : Nat → Nat} : sdN sd n q h qw q1 q2 rw (13 + 8 * n) = q2 := by
  unfold sdN
  rw [if_neg (by omega), if_neg (by omega), if_neg (by omega), if_neg (by omega), if_neg (by omega), if_pos rfl]
theorem sn_y {q h qw q1 q2 r : Nat} {rw : Nat → Nat} (hr : r < 4) : sdN sd n q h qw q1 q2 rw (14 + 8 * n + r) = rw r := by
  unfold sdN
  rw [if_neg (by omega), if_neg (by omega), if_neg (by omega), if_neg (by omega), if_neg (by omega), if_neg (by omega), if_pos (by omega), show 14 + 8 * n + r - (14 + 8 * n) = r by omega]
theorem cut_0 {N : Nat} {r : Nat} : cut N (wrw (fun _ => nI 0) r) = fun _ => nI 0 := by
  funext i
  show (if i < N then nI 0 else nI 0) = nI 0
  by_cases c : i < N
  · rw [if_pos c]
  · rw [if_neg c]
theorem sw_nw {q h qw q1 q2 : Nat} {rw : Nat → Nat} {w : Int32} {f : Nat → Option Nat} {dat' : Nat → LD} (hf : f = rfs (n + 1) (fun i => sdN sd n q h qw q1 q2 rw (10 + 8 * i))) (hd : ∀ i, i < n → dat' i = dat i) (hn : dat' n = (fun _ => nI 0, fun _ => nI 0, w, -1, nI 1, nI 0)) :
    ((SW ct sd H T n K dat).set 0 (sd 0, .inr (6, [.int H, .int T, .ref q, .ref (sd 2)]))).set 1 (arR (ct 4) q (n + 1) f) ++ (obL h qw q1 q2 (nI 1) (nI 0) (-1) :: arI ct q1 4 (fun _ => nI 0) :: arR (ct 3) q2 4 (rfs 4 rw) :: ((List.range 4).map (fun i => arI ct (rw i) 6 (fun _ => nI 0)) ++ [arI ct qw 4 (cut 4 (ltF w))])) = SW ct (sdN sd n q h qw q1 q2 rw) H T (n + 1) K dat' := by
  have eF : SF ct (sdN sd n q h qw q1 q2 rw) H T (n + 1) K = ((SF ct sd H T n K).set 0 (sd 0, .inr (6, [.int H, .int T, .ref q, .ref (sd 2)]))).set 1 (arR (ct 4) q (n + 1) f) := by
    rw [hf]
    unfold SF
    rw [sn_1, sn_o (i := 0) (by decide) (by omega), sn_o (i := 2) (by decide) (by omega), sn_o (i := 3 + 0) (by decide) (by omega), sn_o (i := 3 + 1) (by decide) (by omega), sn_o (i := 3 + 2) (by decide) (by omega), rfs_e (N := 3) (f := fun i => sdN sd n q h qw q1 q2 rw (3 + i)) (g := fun i => sd (3 + i)) (fun i hi => sn_o (by omega) (by omega))]
    rfl
  have eN : sLk ct (sdN sd n q h qw q1 q2 rw) n (dat' n) = obL h qw q1 q2 (nI 1) (nI 0) (-1) :: arI ct q1 4 (fun _ => nI 0) :: arR (ct 3) q2 4 (rfs 4 rw) :: ((List.range 4).map (fun i => arI ct (rw i) 6 (fun _ => nI 0)) ++ [arI ct qw 4 (cut 4 (ltF w))]) := by
    rw [hn]
    unfold sLk
    rw [sn_h, sn_w, sn_r, sn_a, sn_y (by decide), sn_y (by decide), sn_y (by decide), sn_y (by decide), rfs_e (N := 4) (f := fun i => sdN sd n q h qw q1 q2 rw (14 + 8 * n + i)) (g := rw) (fun i hi => sn_y hi)]
    repeat rw [cut_0]
    rfl
  show ((SF ct sd H T n K ++ SLg (sLs ct sd dat) n).set 0 _).set 1 _ ++ _ = SF ct (sdN sd n q h qw q1 q2 rw) H T (n + 1) K ++ (SLg (sLs ct (sdN sd n q h qw q1 q2 rw) dat') n ++ sLk ct (sdN sd n q h qw q1 q2 rw) n (dat' n))
  rw [List.set_append_left _ _ (by rw [SF_len]; decide), List.set_append_left _ _ (by rw [List.length_set, SF_len]; decide), eF, eN, List.append_assoc]
  congr 2
  refine sg_congr n (fun i hi => ?_)
  show sLk ct sd i (dat i) = sLk ct (sdN sd n q h qw q1 q2 rw) i (dat' i)
  rw [hd i hi]
  exact (sk_e (fun t h1 h2 => sn_o (by omega) (by omega))).symm
end ZN
/-- the two worlds, one ahead of the other -/
theorem j_sw {X : Ctx} {A B : va_W} {k n pc : Nat} {lv : List (Nat × Value)} {st : List Value} (kk : J X (B ++ A) k n pc lv st) : J X (A ++ B) k n pc lv st := j_swap (a := []) (b := A) (c0 := B) rfl kk
