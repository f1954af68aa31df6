theorem gwSM : Cond.sameMethod "[I" "java/lang/Object" "clone" "()Ljava/lang/Object;" ∈ GW := gwm 875 (by decide +kernel) (by decide +kernel)
theorem gw323 : Cond.constantLong RX3 205 1471 ∈ GW := gwm 323 (by decide +kernel) (by decide +kernel)
theorem gw324 : Cond.constantLong RX3 207 31 ∈ GW := gwm 324 (by decide +kernel) (by decide +kernel)
theorem gw902 : Cond.constantLong RX4 144 1471 ∈ GW := gwm 902 (by decide +kernel) (by decide +kernel)
theorem gw903 : Cond.constantLong RX4 146 31 ∈ GW := gwm 903 (by decide +kernel) (by decide +kernel)
theorem ra_same {s : State} {cA cB : ClassId} {ty : FieldType} (h1 : va_RA s cA ty) (h2 : va_RA s cB ty) : cA = cB := by
  cases ty with
  | object C =>
    obtain ⟨_, _, _, _, _, h1⟩ := h1
    obtain ⟨_, _, _, _, _, h2⟩ := h2
    exact Option.some.inj (h1.symm.trans h2)
  | _ => exact Option.some.inj (Eq.trans (Eq.symm h1) h2)
theorem tys_last {D : va_G} {ct : Nat → ClassId} {s : State} {cA : ClassId} {ty : FieldType} (t0 : Nat) {c0 : ClassId} (ht : (TY ct)[t0]? = some (c0, ty)) (h : va_K D vwCl (TY ct ++ [(cA, ty)]) s) : cA = c0 := by
  have hl : t0 < (TY ct).length := (List.getElem?_eq_some_iff.mp ht).1
  have h1 := (h.2 t0 (c0, ty) (by rw [List.getElem?_append_left hl]; exact ht)).2
  have h2 := (h.2 (TY ct).length (cA, ty) (by simp)).2
  exact ra_same h2 h1
theorem gA {ws : va_W} {x : Nat × va_E} : (ws ++ [x])[ws.length]? = some x := by simp
theorem sA {ws : va_W} {x y : Nat × va_E} : (ws ++ [x]).set ws.length y = ws ++ [y] := by simp
section J2
variable {X : Ctx} {l : Launch} {D : va_G} {ct : Nat → ClassId} {sa : Nat → Nat} {cc : ByteArray} {nL1 : Nat} {own : String} {R0 : Room} {ws : va_W} {k n pc : Nat} {lv lv' : List (Nat × Value)} {st : List Value}
theorem j_cong {f g : Nat → Int32} {a N q0 : Nat} {cA : ClassId} (he : ws[q0]? = some (a, .inl (cA, N, .inl f))) (hfg : ∀ i, i < N → f i = g i) (kk : J X (ws.set q0 (a, .inl (cA, N, .inl g))) k n pc lv st) : J X ws k n pc lv st := by
  obtain ⟨p, l0, e, R, s, m, args, below, meth, c, D0, ct0, sa0, A, nL, Q⟩ := X
  intro H locs ls hP hD hS hl
  refine kk H locs ls (hP.set hD he ?_ (fun _ _ => rfl)) (hD.set he) hS hl
  have h1 : H[a]? = some (vp_cell cA (N, .inl f)) := hP q0 _ he
  show H[a]? = some (vp_cell cA (N, .inl g))
  rw [h1, vp_cell_i, vp_cell_i]
  have e : (fun j : Fin N => Value.int (f j)) = (fun j : Fin N => Value.int (g j)) := funext fun j => by rw [hfg j.val j.isLt]
  show some ({ cls := cA, slots := Array.ofFn (n := N) fun j => Value.int (f j.val), vm := .none } : Cell) = some ({ cls := cA, slots := Array.ofFn (n := N) fun j => Value.int (g j.val), vm := .none } : Cell)
  rw [e]
theorem j_newaI (C : jC X l D ct sa cc nL1 own R0) {x : Int32} {N : Nat} (hx9 : x = nI N) (hN : N < 2 ^ 20) (hcells : k + 1 ≤ R0.cells) (hslots : n + N ≤ R0.slots) (d : decode cc pc = .ok (.newarray .int, 2)) (kk : ∀ q : Nat, J X (ws ++ [(q, .inl (ct 0, N, .inl (fun _ => nI 0)))]) (k + 1) (n + N) (pc + 2) lv (.ref q :: st)) : J X ws k n pc lv (.int x :: st) := by
  obtain ⟨p, l0, e, R, s, m, args, below, meth, c, D0, ct0, sa0, A, nL, Q⟩ := X
  obtain ⟨hx, hb, hml, ho, hts, hK, hA, hlk, hEX, rfl, rfl, rfl, rfl, rfl, rfl⟩ := C
  intro H locs ls hP hD hS hl
  refine va_newa (atype := .int) (ty := .int) (a0 := (N, .inl (fun _ => nI 0))) hx hb (hts _ gw128) rfl hK hP hD hS hA (fun cA => rfl) (by rw [hx9]; exact nI_pos (by omega)) (by rw [hx9]; exact nI_clamp (by omega)) (by simp only [componentBytes]; omega) hcells hslots d (fun q cA H1 hK1 hP1 hD1 hS1 => ?_)
  obtain rfl := tys_last 0 rfl hK1
  exact kk q H1 locs ls hP1 hD1 hS1 hl
theorem j_newaL (C : jC X l D ct sa cc nL1 own R0) {x : Int32} {N : Nat} (hx9 : x = nI N) (hN : N < 2 ^ 20) (hcells : k + 1 ≤ R0.cells) (hslots : n + N ≤ R0.slots) (d : decode cc pc = .ok (.newarray .long, 2)) (kk : ∀ q : Nat, J X (ws ++ [(q, .inl (ct 4, N, .inr (.inl (fun _ => 0))))]) (k + 1) (n + N) (pc + 2) lv (.ref q :: st)) : J X ws k n pc lv (.int x :: st) := by
  obtain ⟨p, l0, e, R, s, m, args, below, meth, c, D0, ct0, sa0, A, nL, Q⟩ := X
  obtain ⟨hx, hb, hml, ho, hts, hK, hA, hlk, hEX, rfl, rfl, rfl, rfl, rfl, rfl⟩ := C
  intro H locs ls hP hD hS hl
  refine va_newa (atype := .long) (ty := .long) (a0 := (N, .inr (.inl (fun _ => 0)))) hx hb (hts _ gw904) rfl hK hP hD hS hA (fun cA => rfl) (by rw [hx9]; exact nI_pos (by omega)) (by rw [hx9]; exact nI_clamp (by omega)) (by simp only [componentBytes]; omega) hcells hslots d (fun q cA H1 hK1 hP1 hD1 hS1 => ?_)
  obtain rfl := tys_last 4 rfl hK1
  exact kk q H1 locs ls hP1 hD1 hS1 hl
theorem j_clone (C : jC X l D ct sa cc nL1 own R0) {index a N : Nat} {f : Nat → Int32} (w1 : Cond.methodLink own index ⟨"[I", "clone", "()Ljava/lang/Object;"⟩ ∈ GW) (q0 : Nat) (ha : ws[q0]? = some (a, .inl (ct 0, N, .inl f))) (hR : 1 ≤ R0.frames ∧ (st.map fun v => v.category).sum + 14 ≤ R0.locals) (hcells : k + 1 ≤ R0.cells) (hslots : n + N ≤ R0.slots) (d : decode cc pc = .ok (.invokevirtual index, 3)) (kk : ∀ q : Nat, J X (ws ++ [(q, .inl (ct 0, N, .inl f))]) (k + 1) (n + N) (pc + 3) lv (.ref q :: st)) : J X ws k n pc lv (.ref a :: st) := by
  obtain ⟨p, l0, e, R, s, m, args, below, meth, c, D0, ct0, sa0, A, nL, Q⟩ := X
  obtain ⟨hx, hb, hml, ho, hts, hK, hA, hlk, hEX, rfl, rfl, rfl, rfl, rfl, rfl⟩ := C
  intro H locs ls hP hD hS hl
  have hnm : s.vm.findClass "[I" = some (ct0 0) := (hK.2 0 (ct0 0, .int) rfl).2
  refine va_clone hx hb (hml.trans hl.1.symm) ho (hts _ w1) (hts _ gwSM) (hts _ gw876) (hts _ gw877) (hts _ gw878) (hEX.1 _ nw879) hK hP hD hS hA q0 0 ha rfl hnm (fun i v hv => ?_) hR.1 hR.2 hcells hslots d (fun q H1 hK1 hP1 hD1 hS1 => kk q H1 locs ls hP1 hD1 hS1 hl)
  have hv2 : (Array.ofFn (n := N) fun j => Value.int (f j.val))[i]? = some v := hv
  obtain ⟨hi, e⟩ := Array.getElem?_eq_some_iff.mp hv2
  rw [Array.getElem_ofFn] at e
  rw [← e]
  rfl
theorem j_castI (C : jC X l D ct sa cc nL1 own R0) {index a N : Nat} {f : Nat → Int32} (w1 : Cond.classLink own index "[I" ∈ GW) (q0 : Nat) (ha : ws[q0]? = some (a, .inl (ct 0, N, .inl f))) (d : decode cc pc = .ok (.checkcast index, 3)) (kk : J X ws k n (pc + 3) lv (.ref a :: st)) : J X ws k n pc lv (.ref a :: st) := by
  obtain ⟨p, l0, e, R, s, m, args, below, meth, c, D0, ct0, sa0, A, nL, Q⟩ := X
  obtain ⟨hx, hb, hml, ho, hts, hK, hA, hlk, hEX, rfl, rfl, rfl, rfl, rfl, rfl⟩ := C
  intro H locs ls hP hD hS hl
  exact va_castA hx hb ho (hts _ w1) hP q0 ha (hK.2 0 (ct0 0, .int) rfl).2 d (kk H locs ls hP hD hS hl)
theorem j_ldc2 (C : jC X l D ct sa cc nL1 own R0) {index : Nat} {v : Int64} (w : Cond.constantLong own index v ∈ GW) (d : decode cc pc = .ok (.ldc2_w index, 3)) (kk : J X ws k n (pc + 3) lv (.long v :: st)) : J X ws k n pc lv st := by
  obtain ⟨p, l0, e, R, s, m, args, below, meth, c, D0, ct0, sa0, A, nL, Q⟩ := X
  obtain ⟨hx, hb, hml, ho, hts, hK, hA, hlk, hEX, rfl, rfl, rfl, rfl, rfl, rfl⟩ := C
  intro H locs ls hP hD hS hl
  exact lv_ldc2 hx hb ho (hts _ w) d (kk H locs ls hP hD hS hl)
theorem j_dconst0 (C : jC X l D ct sa cc nL1 own R0) (d : decode cc pc = .ok (.dconst 0, 1)) (kk : J X ws k n (pc + 1) lv (.double FP.dconst0 :: st)) : J X ws k n pc lv st := by
  obtain ⟨p, l0, e, R, s, m, args, below, meth, c, D0, ct0, sa0, A, nL, Q⟩ := X
  obtain ⟨hx, hb, hml, ho, hts, hK, hA, hlk, hEX, rfl, rfl, rfl, rfl, rfl, rfl⟩ := C
  intro H locs ls hP hD hS hl
  exact lv_dconst0 hx hb d (kk H locs ls hP hD hS hl)
theorem j_i2d (C : jC X l D ct sa cc nL1 own R0) {x : Int32} (d : decode cc pc = .ok (.i2d, 1)) (kk : J X ws k n (pc + 1) lv (.double (FP.i2d x) :: st)) : J X ws k n pc lv (.int x :: st) := by
  obtain ⟨p, l0, e, R, s, m, args, below, meth, c, D0, ct0, sa0, A, nL, Q⟩ := X
  obtain ⟨hx, hb, hml, ho, hts, hK, hA, hlk, hEX, rfl, rfl, rfl, rfl, rfl, rfl⟩ := C
  intro H locs ls hP hD hS hl
  exact lv_i2d hx hb d (kk H locs ls hP hD hS hl)
theorem j_ddiv (C : jC X l D ct sa cc nL1 own R0) {x y : UInt64} (d : decode cc pc = .ok (.ddiv, 1)) (hne : vf_n64 (FP.ddiv x y)) (kk : J X ws k n (pc + 1) lv (.double (FP.ddiv x y) :: st)) : J X ws k n pc lv (.double y :: .double x :: st) := by
  obtain ⟨p, l0, e, R, s, m, args, below, meth, c, D0, ct0, sa0, A, nL, Q⟩ := X
  obtain ⟨hx, hb, hml, ho, hts, hK, hA, hlk, hEX, rfl, rfl, rfl, rfl, rfl, rfl⟩ := C
  intro H locs ls hP hD hS hl
  exact lv_ddiv hx hb d hne (kk H locs ls hP hD hS hl)
theorem j_dcmp (C : jC X l D ct sa cc nL1 own R0) {x y : UInt64} {op : CmpOp} (d : decode cc pc = .ok (.dcmp op, 1)) (kk : J X ws k n (pc + 1) lv (.int (Op.cmpValue (FP.dcmp x y) op) :: st)) : J X ws k n pc lv (.double y :: .double x :: st) := by
  obtain ⟨p, l0, e, R, s, m, args, below, meth, c, D0, ct0, sa0, A, nL, Q⟩ := X
  obtain ⟨hx, hb, hml, ho, hts, hK, hA, hlk, hEX, rfl, rfl, rfl, rfl, rfl, rfl⟩ := C
  intro H locs ls hP hD hS hl
  exact lv_dcmp hx hb d (kk H locs ls hP hD hS hl)
end J2
