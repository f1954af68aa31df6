/-! the class's small objects, by their places in the world -/
abbrev Lk (ct : Nat → ClassId) (ws : va_W) (k h a b : Nat) (lt wr : Nat → Int32) (w rk op lo : Int32) : Prop :=
  ws[k]? = some (h, .inr (1, [.ref a, .ref b, .int w, .int rk, .int op, .int lo])) ∧ ws[k + 1]? = some (a, .inl (ct 0, 4, .inl lt)) ∧ ws[k + 2]? = some (b, .inl (ct 0, 24, .inl wr))
theorem set_ne {ws : va_W} {i j : Nat} {x : Nat × va_E} (h : i ≠ j) : (ws.set i x)[j]? = ws[j]? := List.getElem?_set_ne h
theorem set_eq {ws : va_W} {i : Nat} {x y : Nat × va_E} (h : ws[i]? = some y) : (ws.set i x)[i]? = some x := List.getElem?_set_self (List.getElem?_eq_some_iff.mp h).1
theorem set_set {ws : va_W} {i : Nat} {x y : Nat × va_E} : (ws.set i x).set i y = ws.set i y := List.set_set ..
theorem set_self {ws : va_W} {i : Nat} {y : Nat × va_E} (h : ws[i]? = some y) : ws.set i y = ws := by
  apply List.ext_getElem?
  intro j
  by_cases e : i = j
  · subst e
    rw [set_eq h, h]
  · rw [set_ne e]
/-- the rings mixed, as the class does it -/
def clL (f : Nat → Int32) : Nat → (Nat → Int32)
  | 0 => f
  | r + 1 => upd (clL f r) r (irm (clL f r r + nI r + nI 1) (nI 6))
abbrev wuL (W : Nat → Int32) (r q : Nat) (by_ : Int32) : Nat → Int32 := upd W (6 * r + q) (minF (nI 99) (W (6 * r + q) + by_))
def wsL (lt : Nat → Int32) (w rk op : Int32) (W : Nat → Int32) (r : Nat) : Nat → Int32 := if op = 0 then wuL W r (ix (lt r)) (nI 1) else if rk = -1 then W else wuL W r (ix (ltF w r)) (nI 2)
def wLL (lt : Nat → Int32) (w rk op : Int32) (W : Nat → Int32) : Nat → (Nat → Int32)
  | 0 => W
  | r + 1 => wsL lt w rk op (wLL lt w rk op W r) r
abbrev pxC (g : Nat → Int32) (a b : Nat) : Prop := g a < g b ∨ (g b = g a ∧ nI b < nI a)
abbrev pxN (g : Nat → Int32) (a t : Nat) : Int32 := sumF (fun b => b2i (pxC g a b)) t
abbrev wrw (W : Nat → Int32) (r : Nat) : Nat → Int32 := fun q => W (6 * r + q)
theorem okI_b {N : Nat} {x : Int32} (hN : N < 2 ^ 31) : (¬ x < 0 ∧ ¬ nI N ≤ x) ↔ okI N x := ⟨fun h => ⟨ile_of h.1, ilt_of h.2⟩, fun h => ⟨inlt h.1, inle h.2⟩⟩
theorem i_add0 (x : Int32) : x + nI 0 = x := Int32.add_zero x
section JN
variable {X : Ctx} {l : Launch} {D : va_G} {ct : Nat → ClassId} {sa : Nat → Nat} {cc : ByteArray} {nL1 : Nat} {own : String} {R0 : Room} {ws : va_W} {k n pc : Nat} {lv lv' : List (Nat × Value)} {st : List Value}
theorem j_null (C : jC X l D ct sa cc nL1 own R0) (d : decode cc pc = .ok (.aconst_null, 1)) (kk : J X ws k n (pc + 1) lv (.null :: st)) : J X ws k n pc lv st := by
  obtain ⟨p, l0, e, R, s, m, args, below, meth, c, D0, ct0, sa0, A, nL, Q⟩ := X
  obtain ⟨hx, hb, hml, ho, hts, hK, hA, hlk, hEX, rfl, rfl, rfl, rfl, rfl, rfl⟩ := C
  intro H locs ls hP hD hS hl
  exact lv_null hx hb d (kk H locs ls hP hD hS hl)
end JN
