/-! the law's own instructions -/
theorem lgc_self (x : Int64) : lg_cmp x x = 0 := by
  unfold lg_cmp
  simp
/-- the law's script -/
def jScr (X : Ctx) (b L : Nat) (xs : Nat → Int32) : Prop :=
  match X with
  | (p, l0, e, R, s, m, args, below, meth, c, D0, ct0, sa0, A, nL, Q) => va_X b L xs s s.heap ∧ b < s.heap.size ∧ ¬ A b
section JL
variable {X : Ctx} {l : Launch} {D : va_G} {ct : Nat → ClassId} {sa : Nat → Nat} {cc : ByteArray} {nL1 : Nat} {own : String} {R0 : Room} {ws : va_W} {k n pc : Nat} {lv lv' : List (Nat × Value)} {st : List Value}
theorem j_sld (C : jC X l D ct sa cc nL1 own R0) {b L : Nat} {xs : Nat → Int32} (S : jScr X b L xs) {i : Int32} (j : Nat) (hi : i = nI j) (hj : j < L) (hL : L ≤ 2048) (d : decode cc pc = .ok (.iaload, 1)) (kk : J X ws k n (pc + 1) lv (.int (xs j) :: st)) : J X ws k n pc lv (.int i :: .ref b :: st) := by
  obtain ⟨p, l0, e, R, s, m, args, below, meth, c, D0, ct0, sa0, A, nL, Q⟩ := X
  obtain ⟨hx, hb, hml, ho, hts, hK, hA, hlk, hEX, rfl, rfl, rfl, rfl, rfl, rfl⟩ := C
  obtain ⟨s1, s2, s3⟩ := S
  intro H locs ls hP hD hS hl
  subst hi
  exact va_sld hx hb s1 s2 s3 hS (vp_in_nI hj (by omega)) d (by rw [nI_clamp (by omega)]; exact kk H locs ls hP hD hS hl)
theorem j_slen (C : jC X l D ct sa cc nL1 own R0) {b L : Nat} {xs : Nat → Int32} (S : jScr X b L xs) (d : decode cc pc = .ok (.arraylength, 1)) (kk : J X ws k n (pc + 1) lv (.int (nI L) :: st)) : J X ws k n pc lv (.ref b :: st) := by
  obtain ⟨p, l0, e, R, s, m, args, below, meth, c, D0, ct0, sa0, A, nL, Q⟩ := X
  obtain ⟨hx, hb, hml, ho, hts, hK, hA, hlk, hEX, rfl, rfl, rfl, rfl, rfl, rfl⟩ := C
  obtain ⟨s1, s2, s3⟩ := S
  intro H locs ls hP hD hS hl
  exact va_slen hx hb s1 s2 s3 hS d (kk H locs ls hP hD hS hl)
theorem j_lcmpE (C : jC X l D ct sa cc nL1 own R0) {x y : Int64} (h : x = y) (d : decode cc pc = .ok (.lcmp, 1)) (kk : J X ws k n (pc + 1) lv (.int 0 :: st)) : J X ws k n pc lv (.long y :: .long x :: st) := by
  obtain ⟨p, l0, e, R, s, m, args, below, meth, c, D0, ct0, sa0, A, nL, Q⟩ := X
  obtain ⟨hx, hb, hml, ho, hts, hK, hA, hlk, hEX, rfl, rfl, rfl, rfl, rfl, rfl⟩ := C
  intro H locs ls hP hD hS hl
  subst h
  exact W.lcmp hx hb d (by rw [lgc_self]; exact kk H locs ls hP hD hS hl)
end JL
abbrev rmL : Room := rM 12 601024 7293034 442
abbrev lvL (b h0 a0 qo : Nat) (i : Int32) : List (Nat × Value) := [(0, .ref b), (1, .ref h0), (2, .ref a0), (3, .ref qo), (4, .int i)]
theorem sw_a {A R : va_W} {x : Nat × va_E} : A ++ (x :: R) = ([] ++ (A ++ [x])) ++ R := by simp only [List.nil_append, List.append_assoc, List.cons_append]
theorem sw_b {A R : va_W} {x : Nat × va_E} : ([] ++ (A ++ [x])) ++ R = A ++ (x :: R) := by simp only [List.nil_append, List.append_assoc, List.cons_append]
