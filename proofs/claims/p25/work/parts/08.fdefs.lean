/-! what each call answers: (the number of what is thrown, the answer, the state behind) -/
abbrev ix (x : Int32) : Nat := x.toNatClampNeg
theorem okI_ix {N : Nat} {x : Int32} (h : okI N x) (hN : N < 2 ^ 31) : ix x < N ∧ x = nI (ix x) := by
  obtain ⟨j, hj, rfl⟩ := okI_of h hN
  have e : ix (nI j) = j := nI_clamp (by omega)
  rw [e]
  exact ⟨hj, rfl⟩
abbrev Op : Type := Int32 × Int32 × St
abbrev fD (ct : Nat → ClassId) (a : Nat → Nat) (wr : va_W) (f : Op) : Option Value → va_W → Prop := dK (some (.int f.2.1)) (WM ct a f.1 f.2.2 ++ wr)
theorem fK {ct : Nat → ClassId} {a : Nat → Nat} {wr : va_W} {f : Op} {k v : Int32} {σ : St} (h : f = (k, v, σ)) : fD ct a wr f (some (.int v)) (WM ct a k σ ++ wr) := by
  subst h
  exact ⟨rfl, rfl⟩
/-- letters, words and places of all rows are such -/
abbrev rowsOK (f : Nat → Int32) : Prop := ∀ j, j < 8 → okI 1296 (f (8 * j + 0)) ∧ (f (8 * j + 2) = -1 ∨ okI 3 (f (8 * j + 2))) ∧ ∀ r, r < 4 → okI 6 (f (8 * j + (4 + r)))
abbrev Inv0 (σ : St) : Prop := sN σ ≤ 8 ∧ rowsOK (sR σ)
abbrev opP (h f t : Int32) : Prop := (f < t ∧ f ≤ h ∧ h < t) ∨ (t < f ∧ (f ≤ h ∨ h < t))
abbrev opR (σ : St) (h : Int32) (r : Nat) : Prop := opP (irm h (nI 24)) (sK σ (3 * r + 1)) (sK σ (3 * r + 2))
abbrev inF (σ : St) (y : Int32) : Int32 := sumF (fun i => b2i (sR σ (8 * i + 2) = y)) (sN σ)
def f_lock (σ : St) (w : Int32) : Op := if okI 1296 w then (if nI (sN σ) = nI 8 then (nI 2, nI 0, σ) else (nI 0, nI (sN σ), uN (uR σ (upd (upd (upd (sR σ) (8 * sN σ + 0) w) (8 * sN σ + 1) (nI 1)) (8 * sN σ + 2) (-1))) (sN σ + 1))) else (nI 1, nI 0, σ)
def f_turn (σ : St) (x y z : Int32) : Op := if okI (sN σ) x ∧ okI 4 y then (if okI 6 z then (nI 0, farF (sR σ (8 * ix x + (4 + ix y))) z, uT (uR σ (upd (sR σ) (8 * ix x + (4 + ix y)) z)) (sT σ + farF (sR σ (8 * ix x + (4 + ix y))) z)) else (nI 2, nI 0, σ)) else (nI 1, nI 0, σ)
abbrev stR (f : Nat → Int32) (j : Nat) : Int32 := stF (fun i => f (8 * j + (4 + i))) 4
def opnF (f : Nat → Int32) (j : Nat) : Nat → Int32 := if stR f j = f (8 * j + 0) then upd f (8 * j + 1) (nI 1) else f
def f_open (σ : St) (x : Int32) : Op := if okI (sN σ) x then (nI 0, b2i (opnF (sR σ) (ix x) (8 * ix x + 1) = nI 1), uR σ (opnF (sR σ) (ix x))) else (nI 1, nI 0, σ)
def f_shut (σ : St) (x : Int32) : Op := if okI (sN σ) x then (if sR σ (8 * ix x + 1) = 0 then (nI 2, nI 0, σ) else (nI 0, stR (clF (sR σ) (ix x) 4) (ix x), uR σ (clF (sR σ) (ix x) 4))) else (nI 1, nI 0, σ)
def f_rename (σ : St) (x w : Int32) : Op := if okI (sN σ) x then (if okI 1296 w then (if sR σ (8 * ix x + 1) = 0 then (nI 3, nI 0, σ) else (nI 0, sR σ (8 * ix x + 0), uR σ (upd (upd (sR σ) (8 * ix x + 0) w) (8 * ix x + 3) (nI 0)))) else (nI 2, nI 0, σ)) else (nI 1, nI 0, σ)
def f_lose (σ : St) (x b : Int32) : Op := if okI (sN σ) x then (nI 0, b2i (sR σ (8 * ix x + 3) = nI 1), uR σ (upd (sR σ) (8 * ix x + 3) (b2i (¬ b = 0)))) else (nI 1, nI 0, σ)
def f_setPlaces (σ : St) (x y : Int32) : Op := if okI 3 x then (if nI 1 ≤ y ∧ y ≤ nI 6 then (if inF σ x ≤ y then (nI 0, sK σ (3 * ix x + 0), uK σ (upd (sK σ) (3 * ix x + 0) y)) else (nI 3, nI 0, σ)) else (nI 2, nI 0, σ)) else (nI 1, nI 0, σ)
def f_setHours (σ : St) (x y z : Int32) : Op := if okI 3 x then (if okI 24 y ∧ okI 25 z then (nI 0, nI 25 * sK σ (3 * ix x + 1) + sK σ (3 * ix x + 2), uK σ (upd (upd (sK σ) (3 * ix x + 1) y) (3 * ix x + 2) z)) else (nI 2, nI 0, σ)) else (nI 1, nI 0, σ)
def f_put (σ : St) (x y : Int32) : Op := if okI (sN σ) x ∧ (y = -1 ∨ okI 3 y) then (if sR σ (8 * ix x + 2) = y then (nI 0, sR σ (8 * ix x + 2), σ) else (if sR σ (8 * ix x + 1) = 0 ∨ (¬ y = -1 ∧ (¬ opR σ (sH σ) (ix y) ∨ sK σ (3 * ix y + 0) ≤ inF σ y)) then (nI 2, nI 0, σ) else (nI 0, sR σ (8 * ix x + 2), uR σ (upd (sR σ) (8 * ix x + 2) y)))) else (nI 1, nI 0, σ)
/-- the most worn letter, of several the least one -/
def bmF (g : Nat → Int32) : Nat → Nat
  | 0 => 0
  | t + 1 => if g (bmF g t) < g (t + 1) then t + 1 else bmF g t
theorem bmF_le (g : Nat → Int32) : ∀ t, bmF g t ≤ t
  | 0 => Nat.le_refl 0
  | t + 1 => by
    show (if g (bmF g t) < g (t + 1) then t + 1 else bmF g t) ≤ t + 1
    by_cases h : g (bmF g t) < g (t + 1)
    · rw [if_pos h]; exact Nat.le_refl _
    · rw [if_neg h]; exact Nat.le_succ_of_le (bmF_le g t)
abbrev wrow (f : Nat → Int32) (j r : Nat) : Nat → Int32 := fun q => f (6 * (4 * j + r) + q)
abbrev shF (f : Nat → Int32) (j : Nat) : Int32 := stF (fun r => nI (bmF (wrow f j r) 5)) 4
def tld (σ : St) (j : Nat) : Nat → Int32
  | 0 => stR (sR σ) j
  | 1 => sR σ (8 * j + 1)
  | 2 => sR σ (8 * j + 2)
  | 3 => sR σ (8 * j + 3)
  | 4 => shF (sW σ) j
  | _ => if sR σ (8 * j + 3) = nI 1 then -1 else sR σ (8 * j + 0)
def f_told (σ : St) (x y : Int32) : Op := if okI (sN σ) x ∧ okI 6 y then (nI 0, tld σ (ix x) (ix y), σ) else (nI 1, nI 0, σ)
def f_wear (σ : St) (x y z : Int32) : Op := if okI (sN σ) x ∧ okI 4 y ∧ okI 6 z then (nI 0, sW σ (6 * (4 * ix x + ix y) + ix z), σ) else (nI 1, nI 0, σ)
def rtl (σ : St) (r : Nat) : Nat → Int32
  | 0 => sK σ (3 * r + 0)
  | 1 => inF σ (nI r)
  | 2 => b2i (opR σ (sH σ) r)
  | 3 => sumF (fun i => if sR σ (8 * i + 2) = nI r then sR σ (8 * i + 1) else nI 0) (sN σ)
  | 4 => sK σ (3 * r + 1)
  | _ => sK σ (3 * r + 2)
def f_rack (σ : St) (x y : Int32) : Op := if okI 3 x ∧ okI 6 y then (nI 0, rtl σ (ix x) (ix y), σ) else (nI 1, nI 0, σ)
def cnd (σ : St) : Nat → Int32
  | 0 => sH σ
  | 1 => nI (sN σ)
  | 2 => sumF (fun i => sR σ (8 * i + 1)) (sN σ)
  | 3 => sumF (fun i => sR σ (8 * i + 3)) (sN σ)
  | 4 => sumF (sW σ) 192
  | 5 => sT σ
  | _ => inF σ (nI 0) + inF σ (nI 1) + inF σ (nI 2)
def f_count (σ : St) (x : Int32) : Op := if okI 7 x then (nI 0, cnd σ (ix x), σ) else (nI 1, nI 0, σ)
abbrev betF (a b : Int32) : Int32 := sumF (fun r => farF (ltF a r) (ltF b r)) 4
def f_apart (σ : St) (a b : Int32) : Op := if okI 1296 a ∧ okI 1296 b then (nI 0, betF a b, σ) else (nI 1, nI 0, σ)
theorem nI_ne {a b : Nat} (h : a ≠ b) (ha : a < 2 ^ 31) (hb : b < 2 ^ 31) : ¬ nI a = nI b := fun z => h ((nI_eq ha hb).mp z)
