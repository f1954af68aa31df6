theorem ra_same {s : State} {cA cB : ClassId} {ty : FieldType} (h1 : va_RA s cA ty) (h2 : va_RA s cB ty) : cA = cB := by
  cases ty with
  | object C =>
    obtain ⟨_, _, _, _, _, h1⟩ := h1
    obtain ⟨_, _, _, _, _, h2⟩ := h2
    exact Option.some.inj (h1.symm.trans h2)
  | _ => exact Option.some.inj (Eq.trans (Eq.symm h1) h2)
theorem tys_last {D : va_G} {ct : Nat → ClassId} {s : State} {cA : ClassId} {ty : FieldType} (t0 : Nat) {c0 : ClassId} (ht : (TY ct)[t0]? = some (c0, ty)) (h : va_K D vwCl (TY ct ++ [(cA, ty)]) s) : cA = c0 := by
  have hl : t0 < (TY ct).length := (List.getElem?_eq_some_iff.mp ht).1
  have h1 := (h.2 t0 (c0, ty) (by rw [List.getElem?_append_left hl]; exact ht)).2
  have h2 := (h.2 (TY ct).length (cA, ty) (by simp)).2
  exact ra_same h2 h1
theorem gA {ws : va_W} {x : Nat × va_E} : (ws ++ [x])[ws.length]? = some x := by simp
theorem sA {ws : va_W} {x y : Nat × va_E} : (ws ++ [x]).set ws.length y = ws ++ [y] := by simp
section J2
variable {X : Ctx} {l : Launch} {D : va_G} {ct : Nat → ClassId} {sa : Nat → Nat} {cc : ByteArray} {nL1 : Nat} {own : String} {R0 : Room} {ws : va_W} {k n pc : Nat} {lv lv' : List (Nat × Value)} {st : List Value}
theorem j_cong {f g : Nat → Int32} {a N q0 : Nat} {cA : ClassId} (he : ws[q0]? = some (a, .inl (cA, N, .inl f))) (hfg : ∀ i, i < N → f i = g i) (kk : J X (ws.set q0 (a, .inl (cA, N, .inl g))) k n pc lv st) : J X ws k n pc lv st := by
  obtain ⟨p, l0, e, R, s, m, args, below, meth, c, D0, ct0, sa0, A, nL, Q⟩ := X
  intro H locs ls hP hD hS hl
  refine kk H locs ls (hP.set hD he ?_ (fun _ _ => rfl)) (hD.set he) hS hl
  have h1 : H[a]? = some (vp_cell cA (N, .inl f)) := hP q0 _ he
  show H[a]? = some (vp_cell cA (N, .inl g))
  rw [h1, vp_cell_i, vp_cell_i]
  have e : (fun j : Fin N => Value.int (f j)) = (fun j : Fin N => Value.int (g j)) := funext fun j => by rw [hfg j.val j.isLt]
  show some ({ cls := cA, slots := Array.ofFn (n := N) fun j => Value.int (f j.val), vm := .none } : Cell) = some ({ cls := cA, slots := Array.ofFn (n := N) fun j => Value.int (g j.val), vm := .none } : Cell)
  rw [e]
theorem j_newaI (C : jC X l D ct sa cc nL1 own R0) {x : Int32} {N : Nat} (hx9 : x = nI N) (hN : N < 2 ^ 20) (hcells : k + 1 ≤ R0.cells) (hslots : n + N ≤ R0.slots) (d : decode cc pc = .ok (.newarray .int, 2)) (kk : ∀ q : Nat, J X (ws ++ [(q, .inl (ct 0, N, .inl (fun _ => nI 0)))]) (k + 1) (n + N) (pc + 2) lv (.ref q :: st)) : J X ws k n pc lv (.int x :: st) := by
  obtain ⟨p, l0, e, R, s, m, args, below, meth, c, D0, ct0, sa0, A, nL, Q⟩ := X
  obtain ⟨hx, hb, hml, ho, hts, hK, hA, hlk, hEX, rfl, rfl, rfl, rfl, rfl, rfl⟩ := C
  intro H locs ls hP hD hS hl
  refine va_newa (atype := .int) (ty := .int) (a0 := (N, .inl (fun _ => nI 0))) hx hb (hts _ gw108) rfl hK hP hD hS hA (fun cA => rfl) (by rw [hx9]; exact nI_pos (by omega)) (by rw [hx9]; exact nI_clamp (by omega)) (by simp only [componentBytes]; omega) hcells hslots d (fun q cA H1 hK1 hP1 hD1 hS1 => ?_)
  obtain rfl := tys_last 0 rfl hK1
  exact kk q H1 locs ls hP1 hD1 hS1 hl
theorem j_dconst0 (C : jC X l D ct sa cc nL1 own R0) (d : decode cc pc = .ok (.dconst 0, 1)) (kk : J X ws k n (pc + 1) lv (.double FP.dconst0 :: st)) : J X ws k n pc lv st := by
  obtain ⟨p, l0, e, R, s, m, args, below, meth, c, D0, ct0, sa0, A, nL, Q⟩ := X
  obtain ⟨hx, hb, hml, ho, hts, hK, hA, hlk, hEX, rfl, rfl, rfl, rfl, rfl, rfl⟩ := C
  intro H locs ls hP hD hS hl
  exact lv_dconst0 hx hb d (kk H locs ls hP hD hS hl)
theorem j_i2d (C : jC X l D ct sa cc nL1 own R0) {x : Int32} (d : decode cc pc = .ok (.i2d, 1)) (kk : J X ws k n (pc + 1) lv (.double (FP.i2d x) :: st)) : J X ws k n pc lv (.int x :: st) := by
  obtain ⟨p, l0, e, R, s, m, args, below, meth, c, D0, ct0, sa0, A, nL, Q⟩ := X
  obtain ⟨hx, hb, hml, ho, hts, hK, hA, hlk, hEX, rfl, rfl, rfl, rfl, rfl, rfl⟩ := C
  intro H locs ls hP hD hS hl
  exact lv_i2d hx hb d (kk H locs ls hP hD hS hl)
theorem j_ddiv (C : jC X l D ct sa cc nL1 own R0) {x y : UInt64} (d : decode cc pc = .ok (.ddiv, 1)) (hne : vf_n64 (FP.ddiv x y)) (kk : J X ws k n (pc + 1) lv (.double (FP.ddiv x y) :: st)) : J X ws k n pc lv (.double y :: .double x :: st) := by
  obtain ⟨p, l0, e, R, s, m, args, below, meth, c, D0, ct0, sa0, A, nL, Q⟩ := X
  obtain ⟨hx, hb, hml, ho, hts, hK, hA, hlk, hEX, rfl, rfl, rfl, rfl, rfl, rfl⟩ := C
  intro H locs ls hP hD hS hl
  exact lv_ddiv hx hb d hne (kk H locs ls hP hD hS hl)
theorem j_dcmp (C : jC X l D ct sa cc nL1 own R0) {x y : UInt64} {op : CmpOp} (d : decode cc pc = .ok (.dcmp op, 1)) (kk : J X ws k n (pc + 1) lv (.int (Op.cmpValue (FP.dcmp x y) op) :: st)) : J X ws k n pc lv (.double y :: .double x :: st) := by
  obtain ⟨p, l0, e, R, s, m, args, below, meth, c, D0, ct0, sa0, A, nL, Q⟩ := X
  obtain ⟨hx, hb, hml, ho, hts, hK, hA, hlk, hEX, rfl, rfl, rfl, rfl, rfl, rfl⟩ := C
  intro H locs ls hP hD hS hl
  exact lv_dcmp hx hb d (kk H locs ls hP hD hS hl)
theorem j_newqL (C : jC X l D ct sa cc nL1 own R0) {index : Nat} (w1 : Cond.classLink own index "LetterLocksLaw$Lock" ∈ GW) {x : Int32} {N : Nat} (hx9 : x = nI N) (hN : N < 2 ^ 20) (hcells : k + 1 ≤ R0.cells) (hslots : n + N ≤ R0.slots) (d : decode cc pc = .ok (.anewarray index, 3)) (kk : ∀ q : Nat, J X (ws ++ [(q, .inl (ct 4, N, .inr (.inr (.inr (.inr (fun _ => none))))))]) (k + 1) (n + N) (pc + 3) lv (.ref q :: st)) : J X ws k n pc lv (.int x :: st) := by
  obtain ⟨p, l0, e, R, s, m, args, below, meth, c, D0, ct0, sa0, A, nL, Q⟩ := X
  obtain ⟨hx, hb, hml, ho, hts, hK, hA, hlk, hEX, rfl, rfl, rfl, rfl, rfl, rfl⟩ := C
  intro H locs ls hP hD hS hl
  refine va_newq hx hb ho (hts _ w1) hEX.2.2.2.2.2.2.2.2.2.1 hK hP hD hS hA (by rw [hx9]; exact nI_pos (by omega)) (by rw [hx9]; exact nI_clamp (by omega)) (by omega) hcells hslots d (fun q cA H1 hK1 hP1 hD1 hS1 => ?_)
  obtain rfl := tys_last 4 rfl hK1
  exact kk q H1 locs ls hP1 hD1 hS1 hl
theorem j_newqA (C : jC X l D ct sa cc nL1 own R0) {index : Nat} (w1 : Cond.classLink own index "[I" ∈ GW) {x : Int32} {N : Nat} (hx9 : x = nI N) (hN : N < 2 ^ 20) (hcells : k + 1 ≤ R0.cells) (hslots : n + N ≤ R0.slots) (d : decode cc pc = .ok (.anewarray index, 3)) (kk : ∀ q : Nat, J X (ws ++ [(q, .inl (ct 3, N, .inr (.inr (.inr (.inr (fun _ => none))))))]) (k + 1) (n + N) (pc + 3) lv (.ref q :: st)) : J X ws k n pc lv (.int x :: st) := by
  obtain ⟨p, l0, e, R, s, m, args, below, meth, c, D0, ct0, sa0, A, nL, Q⟩ := X
  obtain ⟨hx, hb, hml, ho, hts, hK, hA, hlk, hEX, rfl, rfl, rfl, rfl, rfl, rfl⟩ := C
  intro H locs ls hP hD hS hl
  subst hx9
  have eN : (nI N).toNatClampNeg = N := nI_clamp (by omega)
  refine W.anewA (t := .int) hx hb ho (hts _ w1) (va_AOA.use hEX.2.2.2.1) rfl d rfl (nI_pos (by omega)) (by rw [eN]; omega) hcells (by rw [eN]; exact hslots) (fun cA kA comp f1 f2 f3 f4 => ?_)
  rw [eN]
  have hcA : cA = ct0 3 := ra_same (s := s) (ty := .array .int) f1 (hK.2 3 _ rfl).2
  subst hcA
  generalize hH1 : H.push ({ cls := ct0 3, slots := Array.replicate N .null, vm := .none } : Cell) = H1
  have z1 : H1.size = H.size + 1 := by rw [← hH1, Array.size_push]
  have e1 : H1[H.size]? = some (arrV (ct0 3) N (fun _ => .null)) := by rw [← hH1, Array.getElem?_push_size, ← arrV_new]
  have o1 : ∀ q : Nat, q < H.size → H1[q]? = H[q]? := fun q hq => by rw [← hH1, Array.getElem?_push, if_neg (Nat.ne_of_lt hq)]
  have hk : ∀ (k : Nat) (x : Nat × va_E), ws[k]? = some x → H1[x.1]? = H[x.1]? := fun k x hx => o1 x.1 ((hP k x hx).lt)
  exact kk H.size H1 locs ls ((hP.kept hk).app (fun k9 x9 hx9 => by
    have h0 : k9 < 1 := (List.getElem?_eq_some_iff.mp hx9).1
    rw [show k9 = 0 by omega] at hx9
    cases hx9
    show H1[H.size]? = some (vp_cell _ _)
    rw [e1, vp_cell_q]
    rfl)) (hD.push hP rfl (hA _ hS.1)) ⟨Nat.le_trans hS.1 (by omega), fun x h1 h2 => (o1 x (Nat.lt_of_lt_of_le h1 hS.1)).trans (hS.2.1 x h1 h2), hS.2.2⟩ hl
theorem va_assignA {s : State} {cA comp : ClassId} {k : Class} {t : FieldType} (hk : s.vm.classes[cA]? = some k) (hkind : k.kind = .array comp t) : s.vm.assignable cA cA = true := by
  show s.vm.assignableAux (255 + 1) cA cA = true
  rw [Vm.assignableAux, beq_self_eq_true, Bool.true_or]
theorem j_astqA (C : jC X l D ct sa cc nL1 own R0) {a v N M : Nat} {f : Nat → Option Nat} {g : Nat → Int32} {i : Int32} {ws2 : va_W} (q0 qk : Nat) (ha : ws[q0]? = some (a, .inl (ct 3, N, .inr (.inr (.inr (.inr f)))))) (hv : ws[qk]? = some (v, .inl (ct 0, M, .inl g))) (j : Nat) (hi : i = nI j) (hj : j < N) (hN : N < 2 ^ 31) (hw : ws.set q0 (a, .inl (ct 3, N, .inr (.inr (.inr (.inr (va_up f j (some v))))))) = ws2) (d : decode cc pc = .ok (.aastore, 1)) (kk : J X ws2 k n (pc + 1) lv st) : J X ws k n pc lv (.ref v :: .int i :: .ref a :: st) := by
  obtain ⟨p, l0, e, R, s, m, args, below, meth, c, D0, ct0, sa0, A, nL, Q⟩ := X
  obtain ⟨hx, hb, hml, ho, hts, hK, hA, hlk, hEX, rfl, rfl, rfl, rfl, rfl, rfl⟩ := C
  intro H locs ls hP hD hS hl
  subst hi
  have ec : (nI j).toNatClampNeg = j := nI_clamp (Nat.lt_trans hj hN)
  have g1 : H[v]? = some (vp_cell (ct0 0) (M, .inl g)) := hP qk _ hv
  have hArr := (hK.2 3 _ rfl)
  obtain ⟨hobj3, k3, hk3, comp3, hkind3⟩ := hArr.1 N (fun j => va_rf (f j))
  obtain ⟨hobj0, k0, hk0, comp0, hkind0⟩ := (hK.2 0 _ rfl).1 M (fun j => Value.int (g j))
  have hcomp : comp3 = ct0 0 := by
    obtain ⟨compA, cA, kA, hc, hi9, hkA, hkindA, hn⟩ := arrayOverA_spec hEX.2.2.2.1
    have e3 : cA = ct0 3 := ra_same (s := s) (ty := .array .int) hn hArr.2
    subst e3
    obtain rfl : kA = k3 := Option.some.inj (hkA.symm.trans hk3)
    rw [hkindA] at hkind3
    cases hkind3
    have h0 := (hK.2 0 _ rfl).2
    exact Option.some.inj (hc.symm.trans h0)
  subst hcomp
  have ecell : vp_cell (ct0 0) (M, .inl g) = arrV (ct0 0) M (fun j => Value.int (g j)) := by rw [vp_cell_i]
  refine W.aast hx hb (hP q0 _ ha) (fun q h => by cases h) (fun h => by cases h) hk3 hkind3 rfl hk0 ⟨nI_pos (Nat.lt_trans hj hN), by show _ < (arrV _ _ _).slots.size; rw [arrV_size, ec]; exact hj⟩ g1 (fun q h => by rw [ecell] at h; cases h) (by rw [ecell]; exact hk0) (by rw [ecell]; exact va_assignA hk0 hkind0) rfl rfl d fun H1 e z oq => ?_
  refine kk H1 _ ls (hw ▸ (hP.set hD ha ?_ oq)) (hw ▸ (hD.set ha)) (hS.put z oq (hD.2 q0 _ ha)) hl
  show H1[a]? = some (vp_cell _ _)
  rw [e, ec]
  rw [vp_cell_q, vp_cell_q, arrV_store]
  congr 2
  funext q
  by_cases hq : q = j
  · subst hq
    simp [updV, va_up, va_rf]
  · simp [updV, va_up, hq]
theorem j_astqL (C : jC X l D ct sa cc nL1 own R0) {a v N : Nat} {vs : List Value} {f : Nat → Option Nat} {i : Int32} {ws2 : va_W} (q0 qk : Nat) (ha : ws[q0]? = some (a, .inl (ct 4, N, .inr (.inr (.inr (.inr f)))))) (hv : ws[qk]? = some (v, .inr (5, vs))) (j : Nat) (hi : i = nI j) (hj : j < N) (hN : N < 2 ^ 31) (hw : ws.set q0 (a, .inl (ct 4, N, .inr (.inr (.inr (.inr (va_up f j (some v))))))) = ws2) (d : decode cc pc = .ok (.aastore, 1)) (kk : J X ws2 k n (pc + 1) lv st) : J X ws k n pc lv (.ref v :: .int i :: .ref a :: st) := by
  obtain ⟨p, l0, e, R, s, m, args, below, meth, c, D0, ct0, sa0, A, nL, Q⟩ := X
  obtain ⟨hx, hb, hml, ho, hts, hK, hA, hlk, hEX, rfl, rfl, rfl, rfl, rfl, rfl⟩ := C
  intro H locs ls hP hD hS hl
  subst hi
  have ec : (nI j).toNatClampNeg = j := nI_clamp (Nat.lt_trans hj hN)
  exact va_astq hx hb hK hP hD hS q0 4 qk 5 ha rfl hv rfl (vp_in_nI hj hN) d (fun H1 locs1 hP1 hD1 hS1 => kk H1 locs1 ls (hw ▸ ec ▸ hP1) (hw ▸ ec ▸ hD1) hS1 hl)
end J2
