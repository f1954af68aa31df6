/-! numbers and the station's state -/
abbrev b2i (p : Prop) [Decidable p] : Int32 := if p then nI 1 else nI 0
theorem b2i_f {p : Prop} [Decidable p] (h : b2i p = 0) : ¬ p := by
  intro hp
  simp only [b2i, if_pos hp] at h
  exact absurd h (by decide)
theorem b2i_t {p : Prop} [Decidable p] (h : ¬ b2i p = 0) : p := by
  by_cases hp : p
  · exact hp
  · simp only [b2i, if_neg hp] at h
    exact absurd rfl h
theorem b2i_y {p : Prop} [Decidable p] (h : p) : b2i p = nI 1 := if_pos h
theorem b2i_n {p : Prop} [Decidable p] (h : ¬ p) : b2i p = nI 0 := if_neg h
theorem b2i_c {p q : Prop} [Decidable p] [Decidable q] (h : p ↔ q) : b2i p = b2i q := by
  by_cases hp : p
  · rw [b2i_y hp, b2i_y (h.mp hp)]
  · rw [b2i_n hp, b2i_n (fun z => hp (h.mpr z))]
theorem nr_b {p : Prop} [Decidable p] : narrow .boolean (.int (b2i p)) = .int (b2i p) := by
  by_cases hp : p
  · rw [b2i_y hp]; rfl
  · rw [b2i_n hp]; rfl
theorem nI_nle0 {a b : Nat} (h : a < b) (hb : b < 2 ^ 31) : ¬ nI b ≤ nI a := nI_ge h hb
theorem ile_of {x y : Int32} (h : ¬ x < y) : y ≤ x := by
  rw [Int32.lt_iff_toInt_lt] at h
  rw [Int32.le_iff_toInt_le]
  omega
theorem ilt_of {x y : Int32} (h : ¬ x ≤ y) : y < x := by
  rw [Int32.le_iff_toInt_le] at h
  rw [Int32.lt_iff_toInt_lt]
  omega
theorem inlt {x y : Int32} (h : x ≤ y) : ¬ y < x := by
  rw [Int32.le_iff_toInt_le] at h
  rw [Int32.lt_iff_toInt_lt]
  omega
theorem inle {x y : Int32} (h : x < y) : ¬ y ≤ x := by
  rw [Int32.lt_iff_toInt_lt] at h
  rw [Int32.le_iff_toInt_le]
  omega
/-- x is one of 0 to N - 1 -/
abbrev okI (N : Nat) (x : Int32) : Prop := 0 ≤ x ∧ x < nI N
theorem i0T : (0 : Int32).toInt = 0 := by decide
theorem im1T : (-1 : Int32).toInt = -1 := by decide
theorem okI_of {N : Nat} {x : Int32} (h : okI N x) (hN : N < 2 ^ 31) : ∃ j, j < N ∧ x = nI j := by
  obtain ⟨h1, h2⟩ := h
  rw [Int32.le_iff_toInt_le, i0T] at h1
  rw [Int32.lt_iff_toInt_lt, nI_toInt hN] at h2
  refine ⟨x.toInt.toNat, by omega, ?_⟩
  apply Int32.toInt_inj.mp
  rw [nI_toInt (by omega)]
  omega
theorem okI_n {N j : Nat} (h : j < N) (hN : N < 2 ^ 31) : okI N (nI j) := by
  constructor
  · rw [Int32.le_iff_toInt_le, i0T, nI_toInt (by omega)]; omega
  · rw [Int32.lt_iff_toInt_lt, nI_toInt (by omega), nI_toInt hN]; omega
theorem in_ok {M : Nat} {x : Int32} (hM : M + 1 < 2 ^ 31) : (nI 0 ≤ x ∧ x ≤ nI M) ↔ okI (M + 1) x := by
  have e0 : (nI 0).toInt = 0 := by decide
  simp only [okI, Int32.le_iff_toInt_le, Int32.lt_iff_toInt_lt, i0T, e0, nI_toInt hM, nI_toInt (show M < 2 ^ 31 by omega)]
  omega
theorem in_okn {n : Nat} {x : Int32} (hn : n ≤ 8) : (nI 0 ≤ x ∧ x ≤ nI n - nI 1) ↔ okI n x := by
  have e0 : (nI 0).toInt = 0 := by decide
  have e1 : (nI n - nI 1).toInt = (n : Int) - 1 := pk_sub_toInt (by omega) (by omega)
  simp only [okI, Int32.le_iff_toInt_le, Int32.lt_iff_toInt_lt, i0T, e0, e1, nI_toInt (show n < 2 ^ 31 by omega)]
  omega
abbrev irm (x d : Int32) : Int32 := x - x / d * d
/-- the state: locks, the hour, the turns; eight rows of eight, eight of twenty-four, three of three -/
abbrev St : Type := Nat × Int32 × Int32 × (Nat → Int32) × (Nat → Int32) × (Nat → Int32)
abbrev sN (σ : St) : Nat := σ.1
abbrev sH (σ : St) : Int32 := σ.2.1
abbrev sT (σ : St) : Int32 := σ.2.2.1
abbrev sR (σ : St) : Nat → Int32 := σ.2.2.2.1
abbrev sW (σ : St) : Nat → Int32 := σ.2.2.2.2.1
abbrev sK (σ : St) : Nat → Int32 := σ.2.2.2.2.2
abbrev uN (σ : St) (x : Nat) : St := (x, σ.2.1, σ.2.2.1, σ.2.2.2.1, σ.2.2.2.2.1, σ.2.2.2.2.2)
abbrev uH (σ : St) (x : Int32) : St := (σ.1, x, σ.2.2.1, σ.2.2.2.1, σ.2.2.2.2.1, σ.2.2.2.2.2)
abbrev uT (σ : St) (x : Int32) : St := (σ.1, σ.2.1, x, σ.2.2.2.1, σ.2.2.2.2.1, σ.2.2.2.2.2)
abbrev uR (σ : St) (x : Nat → Int32) : St := (σ.1, σ.2.1, σ.2.2.1, x, σ.2.2.2.2.1, σ.2.2.2.2.2)
abbrev uW (σ : St) (x : Nat → Int32) : St := (σ.1, σ.2.1, σ.2.2.1, σ.2.2.2.1, x, σ.2.2.2.2.2)
abbrev uK (σ : St) (x : Nat → Int32) : St := (σ.1, σ.2.1, σ.2.2.1, σ.2.2.2.1, σ.2.2.2.2.1, x)
/-- the model's four cells -/
def WM (ct : Nat → ClassId) (a : Nat → Nat) (thr : Int32) (σ : St) : va_W := [(a 0, .inr (5, [.int thr, .int (nI (sN σ)), .int (sH σ), .int (sT σ), .ref (a 1), .ref (a 2), .ref (a 3)])), (a 1, .inl (ct 0, 64, .inl (sR σ))), (a 2, .inl (ct 0, 192, .inl (sW σ))), (a 3, .inl (ct 0, 9, .inl (sK σ)))]
def sumF (f : Nat → Int32) : Nat → Int32
  | 0 => nI 0
  | i + 1 => sumF f i + f i
/-- six-fold, ring by ring -/
def stF (g : Nat → Int32) : Nat → Int32
  | 0 => nI 0
  | i + 1 => nI 6 * stF g i + g i
def dvF (w : Int32) : Nat → Int32
  | 0 => w
  | m + 1 => dvF w m / nI 6
def ltF (w : Int32) (r : Nat) : Int32 := irm (dvF w (3 - r)) (nI 6)
def absF (x : Int32) : Int32 := if 0 ≤ x then x else 0 - x
def minF (x y : Int32) : Int32 := if y < x then y else x
def farF (a b : Int32) : Int32 := minF (absF (a - b)) (nI 6 - absF (a - b))
def clF (f : Nat → Int32) (j : Nat) : Nat → (Nat → Int32)
  | 0 => upd f (8 * j + 1) (nI 0)
  | r + 1 => upd (clF f j r) (8 * j + (4 + r)) (irm (clF f j r (8 * j + (4 + r)) + nI r + nI 1) (nI 6))
section JS
variable {X : Ctx} {l : Launch} {D : va_G} {ct : Nat → ClassId} {sa : Nat → Nat} {cc : ByteArray} {nL1 : Nat} {own : String} {R0 : Room} {ws : va_W} {k n pc : Nat} {lv lv' : List (Nat × Value)} {st : List Value}
theorem j_tsIn (C : jC X l D ct sa cc nL1 own R0) {dflt lo hi : Int} {offs : Array Int} {len : Nat} {x : Int32} {off : Int} {tgt : Nat} (d : decode cc pc = .ok (.tableswitch dflt lo hi offs, len)) (h1 : ¬ x.toInt < lo) (h2 : ¬ hi < x.toInt) (ho1 : offs[(x.toInt - lo).toNat]? = some off) (ht : (pc : Int) + off = (tgt : Int)) (kk : J X ws k n tgt lv st) : J X ws k n pc lv (.int x :: st) := by
  obtain ⟨p, l0, e, R, s, m, args, below, meth, c, D0, ct0, sa0, A, nL, Q⟩ := X
  obtain ⟨hx, hb, hml, ho, hts, hK, hA, hlk, hEX, rfl, rfl, rfl, rfl, rfl, rfl⟩ := C
  intro H locs ls hP hD hS hl
  exact lv_tableIn hx hb d h1 h2 ho1 ht (kk H locs ls hP hD hS hl)
theorem j_tsOut (C : jC X l D ct sa cc nL1 own R0) {dflt lo hi : Int} {offs : Array Int} {len : Nat} {x : Int32} {tgt : Nat} (d : decode cc pc = .ok (.tableswitch dflt lo hi offs, len)) (h : x.toInt < lo ∨ hi < x.toInt) (ht : (pc : Int) + dflt = (tgt : Int)) (kk : J X ws k n tgt lv st) : J X ws k n pc lv (.int x :: st) := by
  obtain ⟨p, l0, e, R, s, m, args, below, meth, c, D0, ct0, sa0, A, nL, Q⟩ := X
  obtain ⟨hx, hb, hml, ho, hts, hK, hA, hlk, hEX, rfl, rfl, rfl, rfl, rfl, rfl⟩ := C
  intro H locs ls hP hD hS hl
  exact lv_tableOut hx hb d h ht (kk H locs ls hP hD hS hl)
end JS
