/-! trials and hours -/
abbrev plC (g : Nat → Int32) (a b : Nat) : Prop := 0 < g b - g a ∨ (g b - g a = 0 ∧ nI b < nI a)
abbrev plN (g : Nat → Int32) (a t : Nat) : Int32 := sumF (fun b => b2i (plC g a b)) t
/-- the places of the letters: the first m are reckoned -/
def plA (f : Nat → Int32) (j m : Nat) : Nat → Int32 := fun k => if k < m then plN (wrow f j (k / 6)) (k % 6) 6 else nI 0
theorem plA_0 (f : Nat → Int32) (j : Nat) : (fun _ => nI 0) = plA f j 0 := by
  funext k
  exact (if_neg (Nat.not_lt_zero k)).symm
theorem plA_s (f : Nat → Int32) (j i a : Nat) (h : a < 6) : upd (plA f j (6 * i + a)) (6 * i + a) (plN (wrow f j i) a 6) = plA f j (6 * i + (a + 1)) := by
  funext k
  by_cases e : k = 6 * i + a
  · subst e
    rw [pk_us]
    show _ = if _ then _ else _
    rw [if_pos (by omega), show (6 * i + a) / 6 = i by omega, show (6 * i + a) % 6 = a by omega]
  · rw [pk_un e]
    show (if _ then _ else _) = if _ then _ else _
    by_cases h2 : k < 6 * i + a
    · rw [if_pos h2, if_pos (by omega)]
    · rw [if_neg h2, if_neg (by omega)]
theorem upd_self (f : Nat → Int32) (k : Nat) (v : Int32) (h : f k = v) : upd f k v = f := by
  funext j
  by_cases e : j = k
  · subst e; rw [pk_us, h]
  · rw [pk_un e]
theorem upd_upd (f : Nat → Int32) (k : Nat) (v w : Int32) : upd (upd f k v) k w = upd f k w := by
  funext j
  by_cases e : j = k
  · subst e; rw [pk_us, pk_us]
  · rw [pk_un e, pk_un e, pk_un e]
def rgF : Nat → Int32
  | 0 => nI 3
  | t + 1 => rgF t + Int32.ofInt (-1)
theorem rg_n : ∀ t, t < 4 → rgF t = nI (3 - t) := by decide
abbrev smI (P : Nat → Int32) (v t : Nat) : Int32 := sumF (fun i => P (6 * (3 - i) + v / 6 ^ i % 6)) t
def accF (s : Int32) (f : Nat → Int32) : Nat → Int32
  | 0 => s
  | i + 1 => accF s f i + f i
abbrev trC (P : Nat → Int32) (v o : Nat) : Prop := smI P o 4 < smI P v 4 ∨ (smI P o 4 = smI P v 4 ∧ nI o < nI v)
abbrev trF (P : Nat → Int32) (v : Nat) : Int32 := accF (nI 1) (fun o => b2i (trC P v o)) 1296
/-- in how many trials the word v of the lock j is found, the wear being f -/
abbrev trL (f : Nat → Int32) (j v : Nat) : Int32 := trF (plA f j 24) v
def f_trial (σ : St) (x y : Int32) : Op := if okI (sN σ) x then (if okI 1296 y then (nI 0, trL (sW σ) (ix x) (ix y), σ) else (nI 2, nI 0, σ)) else (nI 1, nI 0, σ)
def f_safe (σ : St) (x : Int32) : Op := if okI (sN σ) x then (nI 0, trL (sW σ) (ix x) (ix (sR σ (8 * ix x + 0))), σ) else (nI 1, nI 0, σ)
abbrev wup (W : Nat → Int32) (j r q : Nat) (by_ : Int32) : Nat → Int32 := upd W (6 * (4 * j + r) + q) (minF (nI 99) (W (6 * (4 * j + r) + q) + by_))
def wst (f W : Nat → Int32) (j r : Nat) : Nat → Int32 := if f (8 * j + 1) = 0 then wup W j r (ix (f (8 * j + (4 + r)))) (nI 1) else if f (8 * j + 2) = -1 then W else wup W j r (ix (ltF (f (8 * j + 0)) r)) (nI 2)
def wLF (f W : Nat → Int32) (j : Nat) : Nat → (Nat → Int32)
  | 0 => W
  | r + 1 => wst f (wLF f W j r) j r
def wAF (f W : Nat → Int32) : Nat → (Nat → Int32)
  | 0 => W
  | j + 1 => wLF f (wAF f W j) j 4
/-- a lock that its rack shuts in the hour h -/
abbrev shutC (K : Nat → Int32) (h : Int32) (f : Nat → Int32) (j : Nat) : Prop := ¬ f (8 * j + 2) = -1 ∧ ¬ f (8 * j + 1) = 0 ∧ ¬ opP (irm h (nI 24)) (K (3 * ix (f (8 * j + 2)) + 1)) (K (3 * ix (f (8 * j + 2)) + 2))
def cAF (K : Nat → Int32) (h : Int32) (f : Nat → Int32) : Nat → (Nat → Int32)
  | 0 => f
  | j + 1 => if shutC K h (cAF K h f j) j then clF (cAF K h f j) j 4 else cAF K h f j
def cCF (K : Nat → Int32) (h : Int32) (f : Nat → Int32) : Nat → Int32
  | 0 => nI 0
  | j + 1 => if shutC K h (cAF K h f j) j then cCF K h f j + nI 1 else cCF K h f j
abbrev hrC (σ : St) : Int32 := cCF (sK σ) (sH σ) (sR σ) (sN σ)
abbrev hrS (σ : St) : St := uH (uR (uW σ (wAF (sR σ) (sW σ) (sN σ))) (cAF (sK σ) (sH σ) (sR σ) (sN σ))) (sH σ + nI 1)
def hsS (σ : St) : Nat → St
  | 0 => σ
  | i + 1 => hrS (hsS σ i)
def hsC (σ : St) : Nat → Int32
  | 0 => nI 0
  | i + 1 => hsC σ i + hrC (hsS σ i)
def f_pass (σ : St) (x : Int32) : Op := if nI 1 ≤ x ∧ x ≤ nI 99 then (nI 0, hsC σ (ix x), hsS σ (ix x)) else (nI 1, nI 0, σ)
def f_foresee (σ : St) (x y : Int32) : Op := if nI 1 ≤ x ∧ x ≤ nI 99 then (if okI (sN σ) y then (nI 0, trL (sW (hsS σ (ix x))) (ix y) (ix (sR (hsS σ (ix x)) (8 * ix y + 0))), σ) else (nI 2, nI 0, σ)) else (nI 1, nI 0, σ)
/-- the hours that go by before the lock j is shut, at most d -/
def utF (j : Nat) : Nat → St → Nat
  | 0, _ => 0
  | d + 1, σ => if sR σ (8 * j + 1) = nI 1 then utF j d (hrS σ) + 1 else 0
def f_until (σ : St) (x : Int32) : Op := if okI (sN σ) x then (nI 0, if utF (ix x) 49 σ ≤ 48 then nI (utF (ix x) 49 σ) else -1, σ) else (nI 1, nI 0, σ)
/-- the best so far, and its trials -/
def wkF (σ : St) : Nat → Int32 × Int32
  | 0 => (-1, nI 1297)
  | i + 1 => if trL (sW σ) i (ix (sR σ (8 * i + 0))) < (wkF σ i).2 then (nI i, trL (sW σ) i (ix (sR σ (8 * i + 0)))) else wkF σ i
def dLF (d : Int64) (f : Nat → Int32) : Nat → Int64
  | 0 => d
  | i + 1 => dLF d f i * 31 + (f i).toInt64
def dRF (d : Int64) (σ : St) : Nat → Int64
  | 0 => d
  | i + 1 => dLF (dRF d σ i) (rtl σ i) 6
def dKF (d : Int64) (σ : St) : Nat → Int64
  | 0 => d
  | i + 1 => dLF (dLF (dKF d σ i) (tld σ i) 6) (fun q => sW σ (24 * i + q)) 24
abbrev dgF (σ : St) : Int64 := dKF (dRF (dLF 1471 (cnd σ) 7) σ 3) σ (sN σ)
/-! that rows stay such -/
theorem okI_0 {N : Nat} (h : 0 < N) (hN : N < 2 ^ 31) : okI N (nI 0) := okI_n h hN
theorem irm_ok {x : Int32} {d : Nat} {b : Nat} (hx : x = nI b) (hb : b < 2 ^ 31) (hd : 0 < d) (hd2 : d < 2 ^ 31) : irm x (nI d) = nI (b % d) := by
  rw [hx]
  exact pk_rem hb hd hd2
theorem dv_n : ∀ (m w : Nat), w < 2 ^ 31 → dvF (nI w) m = nI (w / 6 ^ m)
  | 0, w, _ => by rw [Nat.pow_zero, Nat.div_one]; rfl
  | m + 1, w, h => by
    show dvF (nI w) m / nI 6 = _
    have h2 : w / 6 ^ m < 2 ^ 31 := Nat.lt_of_le_of_lt (Nat.div_le_self _ _) h
    rw [dv_n m w h, pk_div h2 (by decide) (by decide), Nat.div_div_eq_div_mul, Nat.pow_succ]
theorem lt_n {w r : Nat} (h : w < 2 ^ 31) : ltF (nI w) r = nI (w / 6 ^ (3 - r) % 6) := by
  have h2 : w / 6 ^ (3 - r) < 2 ^ 31 := Nat.lt_of_le_of_lt (Nat.div_le_self _ _) h
  exact irm_ok (dv_n _ _ h) h2 (by decide) (by decide)
theorem lt_ok {x : Int32} {r : Nat} (h : okI 1296 x) : okI 6 (ltF x r) := by
  obtain ⟨w, hw, rfl⟩ := okI_of h (by decide)
  rw [lt_n (by omega)]
  exact okI_n (Nat.mod_lt _ (by decide)) (by decide)
theorem rok_upd {f : Nat → Int32} (h : rowsOK f) {k : Nat} {v : Int32} (h0 : ∀ j, k = 8 * j + 0 → okI 1296 v) (h2 : ∀ j, k = 8 * j + 2 → v = -1 ∨ okI 3 v) (h4 : ∀ j r, r < 4 → k = 8 * j + (4 + r) → okI 6 v) : rowsOK (upd f k v) := by
  intro j hj
  obtain ⟨a, b, c⟩ := h j hj
  refine ⟨?_, ?_, fun r hr => ?_⟩
  · by_cases e : 8 * j + 0 = k
    · rw [e, pk_us]; exact h0 j e.symm
    · rw [pk_un e]; exact a
  · by_cases e : 8 * j + 2 = k
    · rw [e, pk_us]; exact h2 j e.symm
    · rw [pk_un e]; exact b
  · by_cases e : 8 * j + (4 + r) = k
    · rw [e, pk_us]; exact h4 j r hr e.symm
    · rw [pk_un e]; exact c r hr
theorem rok_cl {f : Nat → Int32} (h : rowsOK f) {j : Nat} (hj : j < 8) : ∀ r, r ≤ 4 → rowsOK (clF f j r)
  | 0, _ => rok_upd h (fun i e => by omega) (fun i e => by omega) (fun i r hr e => by omega)
  | r + 1, hr => by
    have ih := rok_cl h hj r (by omega)
    refine rok_upd ih (fun i e => by omega) (fun i e => by omega) (fun i r' hr' e => ?_)
    obtain ⟨q, hq, e2⟩ := okI_of ((ih j hj).2.2 r (by omega)) (by decide)
    have e3 : clF f j r (8 * j + (4 + r)) + nI r + nI 1 = nI (q + r + 1) := by rw [e2, nI_add, nI_add]
    rw [irm_ok e3 (by omega) (by decide) (by decide)]
    exact okI_n (Nat.mod_lt _ (by decide)) (by decide)
theorem rok_cA {K : Nat → Int32} {h : Int32} {f : Nat → Int32} (hf : rowsOK f) : ∀ j, j ≤ 8 → rowsOK (cAF K h f j)
  | 0, _ => hf
  | j + 1, hj => by
    have ih := rok_cA (K := K) (h := h) hf j (by omega)
    show rowsOK (if _ then _ else _)
    by_cases c : shutC K h (cAF K h f j) j
    · rw [if_pos c]; exact rok_cl ih (by omega) 4 (Nat.le_refl 4)
    · rw [if_neg c]; exact ih
theorem inv_hr {σ : St} (h : Inv0 σ) : Inv0 (hrS σ) := ⟨h.1, rok_cA h.2 _ h.1⟩
theorem inv_hs {σ : St} (h : Inv0 σ) : ∀ i, Inv0 (hsS σ i)
  | 0 => h
  | i + 1 => inv_hr (inv_hs h i)
theorem hs_n (σ : St) : ∀ i, sN (hsS σ i) = sN σ
  | 0 => rfl
  | i + 1 => hs_n σ i
theorem hs_k (σ : St) : ∀ i, sK (hsS σ i) = sK σ
  | 0 => rfl
  | i + 1 => hs_k σ i
theorem hs_t (σ : St) : ∀ i, sT (hsS σ i) = sT σ
  | 0 => rfl
  | i + 1 => hs_t σ i
theorem hs_s (σ : St) : ∀ i, hsS (hrS σ) i = hsS σ (i + 1)
  | 0 => rfl
  | i + 1 => congrArg hrS (hs_s σ i)
theorem pl_y {P : Nat → Int32} {k : Nat} {g : Nat → Int32} {a t : Nat} (h : plC g a t) : upd (upd P k (plN g a t)) k (upd P k (plN g a t) k + nI 1) = upd P k (plN g a (t + 1)) := by
  rw [upd_upd, pk_us]
  exact congrArg (fun z => upd P k (plN g a t + z)) (b2i_y h).symm
theorem pl_n {P : Nat → Int32} {k : Nat} {g : Nat → Int32} {a t : Nat} (h : ¬ plC g a t) : upd (upd P k (plN g a t)) k (upd P k (plN g a t) k + nI 0) = upd P k (plN g a (t + 1)) := by
  rw [upd_upd, pk_us]
  exact congrArg (fun z => upd P k (plN g a t + z)) (b2i_n h).symm
theorem ix_99 {x : Int32} (h : nI 1 ≤ x ∧ x ≤ nI 99) : 1 ≤ ix x ∧ ix x ≤ 99 ∧ x = nI (ix x) := by
  have h2 : okI 100 x := (in_ok (M := 99) (by decide)).mp ⟨by
    have := h.1
    rw [Int32.le_iff_toInt_le] at this ⊢
    have e1 : (nI 1).toInt = 1 := by decide
    have e0 : (nI 0).toInt = 0 := by decide
    omega, h.2⟩
  obtain ⟨h3, h4⟩ := okI_ix h2 (by decide)
  refine ⟨?_, by omega, h4⟩
  have h5 := h.1
  rw [h4] at h5
  exact (nI_leI (by decide) (by omega)).mp h5
theorem cpy_all {f g : Nat → Int32} {N i : Nat} (hN : N < 2 ^ 31) (h : i < N) : va_cpy f g (nI 0).toNatClampNeg (nI 0).toNatClampNeg (nI N).toNatClampNeg i = f i := by
  have e0 : (nI 0).toNatClampNeg = 0 := by decide
  rw [e0, nI_clamp hN, pk_cpy_in (Nat.zero_le _) (by omega), Nat.zero_add, Nat.sub_zero]
theorem back_s (σ : St) (m : Nat) : uH (uW (uR (hsS σ m) (sR σ)) (sW σ)) (sH σ) = σ := by
  have h1 := hs_n σ m
  have h2 := hs_t σ m
  have h3 := hs_k σ m
  show (sN (hsS σ m), sH σ, sT (hsS σ m), sR σ, sW σ, sK (hsS σ m)) = σ
  rw [h1, h2, h3]
