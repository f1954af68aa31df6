abbrev EXN : List String := ["java/lang/RuntimeException", "java/lang/Exception"]
abbrev IAE : String := "java/lang/IllegalArgumentException"
abbrev ISE : String := "java/lang/IllegalStateException"
abbrev IOO : String := "java/lang/IndexOutOfBoundsException"
theorem exn_fit : ∀ n ∈ EXN, Bundle.fit n = true := by decide +kernel
theorem at_IAE : ∀ w ∈ vx_atS "LetterLocks" 79 IAE EXN, w ∈ GW ∨ w ∈ NW := by decide +kernel
theorem at_ISE : ∀ w ∈ vx_atS "LetterLocks" 57 ISE EXN, w ∈ GW ∨ w ∈ NW := by decide +kernel
theorem at_IOO : ∀ w ∈ vx_atS "LetterLocks" 141 IOO EXN, w ∈ GW ∨ w ∈ NW := by decide +kernel
theorem ok_IAE : ∀ w ∈ Cond.classLink "LetterLocks" 75 IAE :: Cond.initialized IAE :: vx_atS "LetterLocks" 79 IAE EXN, vx_ot w = true := by decide +kernel
theorem ok_ISE : ∀ w ∈ Cond.classLink "LetterLocks" 53 ISE :: Cond.initialized ISE :: vx_atS "LetterLocks" 57 ISE EXN, vx_ot w = true := by decide +kernel
theorem ok_IOO : ∀ w ∈ Cond.classLink "LetterLocks" 137 IOO :: Cond.initialized IOO :: vx_atS "LetterLocks" 141 IOO EXN, vx_ot w = true := by decide +kernel
section J4
variable {X : Ctx} {l : Launch} {D : va_G} {ct : Nat → ClassId} {sa : Nat → Nat} {cc : ByteArray} {nL1 : Nat} {own : String} {R0 : Room} {ws : va_W} {k n pc : Nat} {lv lv' : List (Nat × Value)} {st : List Value}
theorem j_castE (C : jC X l D ct sa cc nL1 own R0) {a ci index : Nat} {fs : List Value} {nm : String} {r0 : vw_C} (q0 : Nat) (he : ws[q0]? = some (a, .inr (ci, fs))) (hc : vwCl[ci]? = some r0) (hr : r0.1 = nm) (w1 : Cond.classLink own index nm ∈ GW) (d : decode cc pc = .ok (.checkcast index, 3)) (kk : J X ws k n (pc + 3) lv (.ref a :: st)) : J X ws k n pc lv (.ref a :: st) := by
  obtain ⟨p, l0, e, R, s, m, args, below, meth, c, D0, ct0, sa0, A, nL, Q⟩ := X
  obtain ⟨hx, hb, hml, ho, hts, hK, hA, hlk, hEX, rfl, rfl, rfl, rfl, rfl, rfl⟩ := C
  intro H locs ls hP hD hS hl
  subst hr
  exact va_castE hx hb ho (hts _ w1) (va_recv hK hP hc he) d (kk H locs ls hP hD hS hl)
end J4
/-- the class's object, its racks: what a helper needs of the world -/
abbrev XB (ct : Nat → ClassId) (ad : Nat → Nat) (ws : va_W) (H T : Int32) (K : Nat → Int32) : Prop :=
  ws[0]? = some (ad 0, .inr (4, [.ref (ad 1), .ref (ad 3), .ref (ad 7), .ref (ad 14), .int H, .int T])) ∧ ws[2]? = some (ad 3, .inl (ct 1, 3, .inr (.inr (.inr (.inr (fun i => if i < 3 then some (ad (4 + i)) else none)))))) ∧ ∀ r, r < 3 → ws[3 + r]? = some (ad (4 + r), .inr (2, [.int (K (3 * r + 0)), .int (K (3 * r + 1)), .int (K (3 * r + 2))]))
theorem XB.set {ct : Nat → ClassId} {ad : Nat → Nat} {ws : va_W} {H T : Int32} {K : Nat → Int32} {i : Nat} {y : Nat × va_E} (h : XB ct ad ws H T K) (hi : 6 ≤ i) : XB ct ad (ws.set i y) H T K := ⟨(set_ne (by omega)).trans h.1, (set_ne (by omega)).trans h.2.1, fun r hr => (set_ne (by omega)).trans (h.2.2 r hr)⟩
theorem wx_xb {ct : Nat → ClassId} {sa ad : Nat → Nat} {mcn : Int32} {φ : LD} {σ : St} {wr : va_W} : XB ct ad (WX ct sa ad mcn φ σ ++ wr) (sH σ) (sT σ) (sK σ) := ⟨rfl, rfl, fun _ hr => wx_rk hr⟩
abbrev lL (σ : St) (j : Nat) : Nat → Int32 := cut 4 (fun r => sR σ (8 * j + (4 + r)))
abbrev lW (σ : St) (j : Nat) : Nat → Int32 := cut 24 (fun q => sW σ (24 * j + q))
theorem wx_l {ct : Nat → ClassId} {sa ad : Nat → Nat} {mcn : Int32} {φ : LD} {σ : St} {wr : va_W} {j : Nat} (hj : j < sN σ) : Lk ct (WX ct sa ad mcn φ σ ++ wr) (16 + 3 * j) (ad (20 + 3 * j)) (ad (21 + 3 * j)) (ad (22 + 3 * j)) (lL σ j) (lW σ j) (sR σ (8 * j + 0)) (sR σ (8 * j + 2)) (sR σ (8 * j + 1)) (sR σ (8 * j + 3)) := wx_lk hj
theorem wx_li {ct : Nat → ClassId} {sa ad : Nat → Nat} {mcn : Int32} {φ : LD} {σ : St} {wr : va_W} : (WX ct sa ad mcn φ σ ++ wr)[1]? = some (ad 1, .inr (0, [.int mcn, .ref (arX sa ad (sN σ)), .int (nI (sN σ))])) := rfl
theorem wx_li1 {ct : Nat → ClassId} {sa ad : Nat → Nat} {mcn : Int32} {φ : LD} {σ : St} {wr : va_W} (hn : 0 < sN σ) : (WX ct sa ad mcn φ σ ++ wr)[1]? = some (ad 1, .inr (0, [.int mcn, .ref (ad 2), .int (nI (sN σ))])) := by
  rw [wx_li, show arX sa ad (sN σ) = ad 2 from if_neg (by omega)]
theorem okI_pos {n : Nat} {x : Int32} (hn : n < 2 ^ 31) (h : okI n x) : 0 < n ∧ ix x < n ∧ x = nI (ix x) := by
  obtain ⟨h1, h2⟩ := okI_ix h hn
  exact ⟨by omega, h1, h2⟩
abbrev kA (P : Prop) (ws : va_W) (v : Option Value) : Option Value → va_W → Prop := fun r w => P ∧ r = v ∧ w = ws
abbrev kxA (P : Prop) (E0 : String) : String → Prop := fun E => P ∧ E = E0
