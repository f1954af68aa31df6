/-! more instructions: making, final fields, static parts -/
def jNm (X : Ctx) (nm : String) : Prop :=
  match X with
  | (p, l0, e, R, s, m, args, below, meth, c, D0, ct0, sa0, A, nL, Q) => meth.name = nm
theorem jBodyN {l : Launch} {y : MethodName} {ws' : List Cond} {D : va_G} {ct : Nat → ClassId} {sa : Nat → Nat} {av : List Value} {ws : va_W} {K : Option Value → va_W → Prop} {KX : String → Prop} {f lo mc ms : Nat} {cc : ByteArray} {maxL : Nat} {ret : Option FieldType} {own : String}
    (hy : plainName y.cls = true) (hown : y.cls = own) (hw : ws' = GW) (hfit : (lg_sl av).length ≤ maxL)
    (body : ∀ X : Ctx, jNm X y.name → jC X l D ct sa cc maxL own (rM f mc ms lo) → jE X ws K KX mc ms ret → jT0 X → J X ws 0 0 0 (lv_args 0 av) []) : jMX l y (Cond.code y cc maxL ret :: ws') (rM f mc ms lo) D ct sa av ws K KX mc ms := by
  intro sz
  subst hw
  refine vx_ofW (cc := cc) (maxL := maxL) (ret := ret) hy rfl ?_
  intro p e s m args below meth c s₁ B hml htab hv
  obtain ⟨rfl, hsz, hP, hK, hD0, hE⟩ := hv
  have hts := atoms_spec (ws := Cond.code y cc maxL ret :: GW) B.pre
  subst hsz
  have hA : ∀ q : Nat, s.heap.size ≤ q → va_A ws s.heap.size q := fun q h => Or.inr h
  have hl := lv_entry av (n := maxL) hfit
  rw [lg_entry_eq]
  exact body (p, l, e, rM f mc ms lo, s, m, av.toArray, below, meth, c, D, ct, sa, va_A ws s.heap.size, maxL, vx_MQ below (jQ D ct s.heap.size ws K) (jX D ct s.heap.size ws KX) av.toArray s mc ms (va_A ws s.heap.size))
    (name_of_methodNamed B.named B.method).1
    ⟨B.exec, B.bytes, hml, hown ▸ findClass_of_methodNamed B.named, fun w h => hts w (List.mem_cons_of_mem _ h), hK, hA, B.notSynchronized, hE, rfl, rfl, rfl, rfl, rfl, rfl⟩
    ⟨rfl, rfl, B.returns⟩ htab s.heap [] _ hP hD0.self va_S.rf hl
section J3
variable {X : Ctx} {l : Launch} {D : va_G} {ct : Nat → ClassId} {sa : Nat → Nat} {cc : ByteArray} {nL1 : Nat} {own : String} {R0 : Room} {ws : va_W} {k n pc : Nat} {lv lv' : List (Nat × Value)} {st : List Value}
theorem j_new (C : jC X l D ct sa cc nL1 own R0) {ci N index : Nat} {Cn : String} {T : u_T} {fs : List Value} (hin : ∀ w ∈ u_ws Cn T N, w ∈ GW) (ty0 : Nat → FieldType) (hty : ∀ k, k < N → parseFieldDescriptor (T k).2.2.1 = some (ty0 k)) (w1 : Cond.classLink own index Cn ∈ GW) (w2 : Cond.instantiable Cn N ∈ GW) (w3 : Cond.initialized Cn ∈ GW) (hc : vwCl[ci]? = some (Cn, T, N)) (hfs : ∀ j, j < N → defaultValue (ty0 j) = vp_V fs j) (hcells : k + 1 ≤ R0.cells) (hslots : n + N ≤ R0.slots) (d : decode cc pc = .ok (.new index, 3)) (kk : ∀ q : Nat, J X (ws ++ [(q, .inr (ci, fs))]) (k + 1) (n + N) (pc + 3) lv (.ref q :: st)) : J X ws k n pc lv st := by
  obtain ⟨p, l0, e, R, s, m, args, below, meth, c, D0, ct0, sa0, A, nL, Q⟩ := X
  obtain ⟨hx, hb, hml, ho, hts, hK, hA, hlk, hEX, rfl, rfl, rfl, rfl, rfl, rfl⟩ := C
  intro H locs ls hP hD hS hl
  exact va_new hx hb hts hin ty0 hty ho (hts _ w1) (hts _ w2) (hts _ w3) hK hP hD hS hA hc hfs hcells hslots d (fun q H1 hP1 hD1 hS1 => kk q H1 locs ls hP1 hD1 hS1 hl)
theorem j_putF (C : jC X l D ct sa cc nL1 own R0) (hN0 : jNm X "<init>") {a ci N index : Nat} {Cn ref : String} {T : u_T} {fs : List Value} {v : Value} {ws2 : va_W} {ty : FieldType} (hin : ∀ w ∈ u_ws Cn T N, w ∈ GW) (ty0 : Nat → FieldType) (hty : ∀ k, k < N → parseFieldDescriptor (T k).2.2.1 = some (ty0 k)) (hnm : ∀ a, a < N → ∀ b, b < N → a ≠ b → (T a).2.1 ≠ (T b).2.1) (hc : vwCl[ci]? = some (Cn, T, N)) (q0 : Nat) (he : ws[q0]? = some (a, .inr (ci, fs))) (z : Nat) (hz : z < N) (hl1 : Cond.fieldLink own index ref (T z).2.1 (T z).2.2.1 ∈ GW) (hsame : (T z).1 = ref) (hdecl : (T z).1 = own) (hfin : (T z).2.2.2 = true) (hd : parseFieldDescriptor (T z).2.2.1 = some ty) (hnr : narrow ty v = v) (hfit : fits ty v = true) (hlt : z < fs.length) (hw : ws.set q0 (a, .inr (ci, fs.set z v)) = ws2) (d : decode cc pc = .ok (.putfield index, 3)) (kk : J X ws2 k n (pc + 3) lv st) : J X ws k n pc lv (v :: .ref a :: st) := by
  obtain ⟨p, l0, e, R, s, m, args, below, meth, c, D0, ct0, sa0, A, nL, Q⟩ := X
  obtain ⟨hx, hb, hml, ho, hts, hK, hA, hlk, hEX, rfl, rfl, rfl, rfl, rfl, rfl⟩ := C
  intro H locs ls hP hD hS hl
  exact va_putF hx hb hts hin ty0 hty hnm ho hK hP hD hS q0 he hc z hz (hts _ hl1) (fun _ h => hsame ▸ h) hfin hN0 hdecl hd hnr hfit hlt d (fun H1 locs1 hP1 hD1 hS1 => kk H1 locs1 ls (hw ▸ hP1) (hw ▸ hD1) hS1 hl)
theorem j_getS (C : jC X l D ct sa cc nL1 own R0) {a ci N index : Nat} {Cn ref : String} {T : u_T} {fs : List Value} {v : Value} (hin : ∀ w ∈ u_ws Cn T N, w ∈ GW) (hc : vwCl[ci]? = some (Cn, T, N)) (q0 : Nat) (he : ws[q0]? = some (a, .inr (ci, fs))) (z : Nat) (hz : z < N) (hl1 : Cond.fieldLink own index ref (T z).2.1 (T z).2.2.1 ∈ GW) (hsame : Cond.sameField ref (T z).1 (T z).2.1 (T z).2.2.1 ∈ GW) (hv : fs[z]? = some v) (d : decode cc pc = .ok (.getfield index, 3)) (kk : J X ws k n (pc + 3) lv (v :: st)) : J X ws k n pc lv (.ref a :: st) := by
  obtain ⟨p, l0, e, R, s, m, args, below, meth, c, D0, ct0, sa0, A, nL, Q⟩ := X
  obtain ⟨hx, hb, hml, ho, hts, hK, hA, hlk, hEX, rfl, rfl, rfl, rfl, rfl, rfl⟩ := C
  intro H locs ls hP hD hS hl
  exact va_get hx hb hts hin ho hK hP q0 he hc z hz (hts _ hl1) (u_same (hts _ hsame)) hv d (kk H locs ls hP hD hS hl)
theorem j_putS (C : jC X l D ct sa cc nL1 own R0) {a ci N index : Nat} {Cn ref : String} {T : u_T} {fs : List Value} {v : Value} {ws2 : va_W} {ty : FieldType} (hin : ∀ w ∈ u_ws Cn T N, w ∈ GW) (ty0 : Nat → FieldType) (hty : ∀ k, k < N → parseFieldDescriptor (T k).2.2.1 = some (ty0 k)) (hnm : ∀ a, a < N → ∀ b, b < N → a ≠ b → (T a).2.1 ≠ (T b).2.1) (hc : vwCl[ci]? = some (Cn, T, N)) (q0 : Nat) (he : ws[q0]? = some (a, .inr (ci, fs))) (z : Nat) (hz : z < N) (hl1 : Cond.fieldLink own index ref (T z).2.1 (T z).2.2.1 ∈ GW) (hsame : Cond.sameField ref (T z).1 (T z).2.1 (T z).2.2.1 ∈ GW) (hfin : (T z).2.2.2 = false) (hd : parseFieldDescriptor (T z).2.2.1 = some ty) (hnr : narrow ty v = v) (hfit : fits ty v = true) (hlt : z < fs.length) (hw : ws.set q0 (a, .inr (ci, fs.set z v)) = ws2) (d : decode cc pc = .ok (.putfield index, 3)) (kk : J X ws2 k n (pc + 3) lv st) : J X ws k n pc lv (v :: .ref a :: st) := by
  obtain ⟨p, l0, e, R, s, m, args, below, meth, c, D0, ct0, sa0, A, nL, Q⟩ := X
  obtain ⟨hx, hb, hml, ho, hts, hK, hA, hlk, hEX, rfl, rfl, rfl, rfl, rfl, rfl⟩ := C
  intro H locs ls hP hD hS hl
  exact va_put hx hb hts hin ty0 hty hnm ho hK hP hD hS q0 he hc z hz (hts _ hl1) (u_same (hts _ hsame)) hfin hd hnr hfit hlt d (fun H1 locs1 hP1 hD1 hS1 => kk H1 locs1 ls (hw ▸ hP1) (hw ▸ hD1) hS1 hl)
theorem j_newqR (C : jC X l D ct sa cc nL1 own R0) {index : Nat} (w1 : Cond.classLink own index "LetterLocks$Rack" ∈ GW) {x : Int32} {N : Nat} (hx9 : x = nI N) (hN : N < 2 ^ 20) (hcells : k + 1 ≤ R0.cells) (hslots : n + N ≤ R0.slots) (d : decode cc pc = .ok (.anewarray index, 3)) (kk : ∀ q : Nat, J X (ws ++ [(q, .inl (ct 1, N, .inr (.inr (.inr (.inr (fun _ => none))))))]) (k + 1) (n + N) (pc + 3) lv (.ref q :: st)) : J X ws k n pc lv (.int x :: st) := by
  obtain ⟨p, l0, e, R, s, m, args, below, meth, c, D0, ct0, sa0, A, nL, Q⟩ := X
  obtain ⟨hx, hb, hml, ho, hts, hK, hA, hlk, hEX, rfl, rfl, rfl, rfl, rfl, rfl⟩ := C
  intro H locs ls hP hD hS hl
  refine va_newq hx hb ho (hts _ w1) hEX.2.2.1 hK hP hD hS hA (by rw [hx9]; exact nI_pos (by omega)) (by rw [hx9]; exact nI_clamp (by omega)) (by omega) hcells hslots d (fun q cA H1 hK1 hP1 hD1 hS1 => ?_)
  obtain rfl := tys_last 1 rfl hK1
  exact kk q H1 locs ls hP1 hD1 hS1 hl
theorem j_newqO (C : jC X l D ct sa cc nL1 own R0) {index : Nat} (w1 : Cond.classLink own index "java/lang/Object" ∈ GW) {x : Int32} {N : Nat} (hx9 : x = nI N) (hN : N < 2 ^ 20) (hcells : k + 1 ≤ R0.cells) (hslots : n + N ≤ R0.slots) (d : decode cc pc = .ok (.anewarray index, 3)) (kk : ∀ q : Nat, J X (ws ++ [(q, .inl (ct 2, N, .inr (.inr (.inr (.inr (fun _ => none))))))]) (k + 1) (n + N) (pc + 3) lv (.ref q :: st)) : J X ws k n pc lv (.int x :: st) := by
  obtain ⟨p, l0, e, R, s, m, args, below, meth, c, D0, ct0, sa0, A, nL, Q⟩ := X
  obtain ⟨hx, hb, hml, ho, hts, hK, hA, hlk, hEX, rfl, rfl, rfl, rfl, rfl, rfl⟩ := C
  intro H locs ls hP hD hS hl
  refine va_newq hx hb ho (hts _ w1) hEX.2.2.2.2.1 hK hP hD hS hA (by rw [hx9]; exact nI_pos (by omega)) (by rw [hx9]; exact nI_clamp (by omega)) (by omega) hcells hslots d (fun q cA H1 hK1 hP1 hD1 hS1 => ?_)
  obtain rfl := tys_last 2 rfl hK1
  exact kk q H1 locs ls hP1 hD1 hS1 hl
theorem j_mna (C : jC X l D ct sa cc nL1 own R0) {index : Nat} (w1 : Cond.classLink own index "[[I" ∈ GW) (w2 : Cond.arrayClass .int ∈ GW) (hcells : k + 6 ≤ R0.cells) (hslots : n + 110 ≤ R0.slots) (d : decode cc pc = .ok (.multianewarray index 2, 4)) (kk : ∀ (q : Nat) (r : Nat → Nat), J X (ws ++ ((q, .inl (ct 3, 5, .inr (.inr (.inr (.inr (fun i => if i < 5 then some (r i) else none)))))) :: (List.range 5).map (fun i => (r i, .inl (ct 0, 21, .inl (fun _ => nI 0)))))) (k + 6) (n + 110) (pc + 4) lv (.ref q :: st)) : J X ws k n pc lv (.int (nI 21) :: .int (nI 5) :: st) := by
  obtain ⟨p, l0, e, R, s, m, args, below, meth, c, D0, ct0, sa0, A, nL, Q⟩ := X
  obtain ⟨hx, hb, hml, ho, hts, hK, hA, hlk, hEX, rfl, rfl, rfl, rfl, rfl, rfl⟩ := C
  intro H locs ls hP hD hS hl
  refine va_mna (X := ws) (L := []) (f := fun _ => .inl (ct0 0, 21, .inl (fun _ => nI 0))) (ty := .int) (cy := ct0 0) (N' := 5) (K' := 21) (z := (21, .inl (fun _ => nI 0))) hx hb ho (hts _ w1) hEX.2.2.2.1 (hts _ w2) (hK.2 0 _ rfl).2 hK (by rw [show va_pl [] _ = [] from rfl, List.append_nil]; exact hP) (by rw [show va_pl [] _ = [] from rfl, List.append_nil]; exact hD) hS hA (by decide) (by decide) (by decide) (by decide) (by decide) (by decide) (by decide) (by rfl) (by rfl) hcells hslots (fun c => by rfl) d (fun q r cA H1 hinj hnot hK1 hP1 hD1 hS1 => ?_)
  obtain rfl := tys_last 3 rfl hK1
  have e : (ws ++ [(q, (Sum.inl (ct0 3, 5, .inr (.inr (.inr (.inr (fun i => if i < 5 then some (r i) else none))))) : va_E))]) ++ va_pl ([] ++ (List.range 5).map r) (vr_up (fun _ => .inl (ct0 0, 21, .inl (fun _ => nI 0))) ((List.range 5).map r) (.inl (ct0 0, 21, .inl (fun _ => nI 0)))) = ws ++ ((q, .inl (ct0 3, 5, .inr (.inr (.inr (.inr (fun i => if i < 5 then some (r i) else none)))))) :: (List.range 5).map (fun i => (r i, .inl (ct0 0, 21, .inl (fun _ => nI 0))))) := by
    rw [List.append_assoc]
    congr 1
    show _ :: _ = _ :: _
    congr 1
    rw [List.nil_append]
    unfold va_pl
    rw [List.map_map]
    refine List.map_congr_left (fun i _ => ?_)
    show (r i, vr_up _ _ _ (r i)) = _
    unfold vr_up
    by_cases h : r i ∈ (List.range 5).map r
    · rw [if_pos h]
    · rw [if_neg h]
  rw [e] at hP1 hD1
  exact kk q r H1 locs ls hP1 hD1 hS1 hl
theorem j_mnb (C : jC X l D ct sa cc nL1 own R0) {index : Nat} (w1 : Cond.classLink own index "[[I" ∈ GW) (w2 : Cond.arrayClass .int ∈ GW) (hcells : k + 5 ≤ R0.cells) (hslots : n + 28 ≤ R0.slots) (d : decode cc pc = .ok (.multianewarray index 2, 4)) (kk : ∀ (q : Nat) (r : Nat → Nat), J X (ws ++ ((q, .inl (ct 3, 4, .inr (.inr (.inr (.inr (fun i => if i < 4 then some (r i) else none)))))) :: (List.range 4).map (fun i => (r i, .inl (ct 0, 6, .inl (fun _ => nI 0)))))) (k + 5) (n + 28) (pc + 4) lv (.ref q :: st)) : J X ws k n pc lv (.int (nI 6) :: .int (nI 4) :: st) := by
  obtain ⟨p, l0, e, R, s, m, args, below, meth, c, D0, ct0, sa0, A, nL, Q⟩ := X
  obtain ⟨hx, hb, hml, ho, hts, hK, hA, hlk, hEX, rfl, rfl, rfl, rfl, rfl, rfl⟩ := C
  intro H locs ls hP hD hS hl
  refine va_mna (X := ws) (L := []) (f := fun _ => .inl (ct0 0, 6, .inl (fun _ => nI 0))) (ty := .int) (cy := ct0 0) (N' := 4) (K' := 6) (z := (6, .inl (fun _ => nI 0))) hx hb ho (hts _ w1) hEX.2.2.2.1 (hts _ w2) (hK.2 0 _ rfl).2 hK (by rw [show va_pl [] _ = [] from rfl, List.append_nil]; exact hP) (by rw [show va_pl [] _ = [] from rfl, List.append_nil]; exact hD) hS hA (by decide) (by decide) (by decide) (by decide) (by decide) (by decide) (by decide) (by rfl) (by rfl) hcells hslots (fun c => by rfl) d (fun q r cA H1 hinj hnot hK1 hP1 hD1 hS1 => ?_)
  obtain rfl := tys_last 3 rfl hK1
  have e : (ws ++ [(q, (Sum.inl (ct0 3, 4, .inr (.inr (.inr (.inr (fun i => if i < 4 then some (r i) else none))))) : va_E))]) ++ va_pl ([] ++ (List.range 4).map r) (vr_up (fun _ => .inl (ct0 0, 6, .inl (fun _ => nI 0))) ((List.range 4).map r) (.inl (ct0 0, 6, .inl (fun _ => nI 0)))) = ws ++ ((q, .inl (ct0 3, 4, .inr (.inr (.inr (.inr (fun i => if i < 4 then some (r i) else none)))))) :: (List.range 4).map (fun i => (r i, .inl (ct0 0, 6, .inl (fun _ => nI 0))))) := by
    rw [List.append_assoc]
    congr 1
    show _ :: _ = _ :: _
    congr 1
    rw [List.nil_append]
    unfold va_pl
    rw [List.map_map]
    refine List.map_congr_left (fun i _ => ?_)
    show (r i, vr_up _ _ _ (r i)) = _
    unfold vr_up
    by_cases h : r i ∈ (List.range 4).map r
    · rw [if_pos h]
    · rw [if_neg h]
  rw [e] at hP1 hD1
  exact kk q r H1 locs ls hP1 hD1 hS1 hl
theorem j_astqR (C : jC X l D ct sa cc nL1 own R0) {a v N : Nat} {vs : List Value} {f : Nat → Option Nat} {i : Int32} {ws2 : va_W} (q0 qk : Nat) (ha : ws[q0]? = some (a, .inl (ct 1, N, .inr (.inr (.inr (.inr f)))))) (hv : ws[qk]? = some (v, .inr (2, vs))) (j : Nat) (hi : i = nI j) (hj : j < N) (hN : N < 2 ^ 31) (hw : ws.set q0 (a, .inl (ct 1, N, .inr (.inr (.inr (.inr (va_up f j (some v))))))) = ws2) (d : decode cc pc = .ok (.aastore, 1)) (kk : J X ws2 k n (pc + 1) lv st) : J X ws k n pc lv (.ref v :: .int i :: .ref a :: st) := by
  obtain ⟨p, l0, e, R, s, m, args, below, meth, c, D0, ct0, sa0, A, nL, Q⟩ := X
  obtain ⟨hx, hb, hml, ho, hts, hK, hA, hlk, hEX, rfl, rfl, rfl, rfl, rfl, rfl⟩ := C
  intro H locs ls hP hD hS hl
  subst hi
  have ec : (nI j).toNatClampNeg = j := nI_clamp (Nat.lt_trans hj hN)
  exact va_astq hx hb hK hP hD hS q0 1 qk 2 ha rfl hv rfl (vp_in_nI hj hN) d (fun H1 locs1 hP1 hD1 hS1 => kk H1 locs1 ls (hw ▸ ec ▸ hP1) (hw ▸ ec ▸ hD1) hS1 hl)
theorem j_astqO (C : jC X l D ct sa cc nL1 own R0) {a v N : Nat} {vs : List Value} {f : Nat → Option Nat} {i : Int32} {ws2 : va_W} (wc : Cond.castable "LetterLocks$Lock" "java/lang/Object" ∈ NW) (q0 qk : Nat) (ha : ws[q0]? = some (a, .inl (ct 2, N, .inr (.inr (.inr (.inr f)))))) (hv : ws[qk]? = some (v, .inr (1, vs))) (j : Nat) (hi : i = nI j) (hj : j < N) (hN : N < 2 ^ 31) (hw : ws.set q0 (a, .inl (ct 2, N, .inr (.inr (.inr (.inr (va_up f j (some v))))))) = ws2) (d : decode cc pc = .ok (.aastore, 1)) (kk : J X ws2 k n (pc + 1) lv st) : J X ws k n pc lv (.ref v :: .int i :: .ref a :: st) := by
  obtain ⟨p, l0, e, R, s, m, args, below, meth, c, D0, ct0, sa0, A, nL, Q⟩ := X
  obtain ⟨hx, hb, hml, ho, hts, hK, hA, hlk, hEX, rfl, rfl, rfl, rfl, rfl, rfl⟩ := C
  intro H locs ls hP hD hS hl
  subst hi
  have ec : (nI j).toNatClampNeg = j := nI_clamp (Nat.lt_trans hj hN)
  exact va_astqO hx hb hK hP hD hS q0 2 qk 1 ha rfl (hEX.1 _ wc) hv rfl (vp_in_nI hj hN) d (fun H1 locs1 hP1 hD1 hS1 => kk H1 locs1 ls (hw ▸ ec ▸ hP1) (hw ▸ ec ▸ hD1) hS1 hl)
theorem j_gets (C : jC X l D ct sa cc nL1 own R0) {index : Nat} (w1 : Cond.fieldLink own index "java/util/ArrayList" "DEFAULTCAPACITY_EMPTY_ELEMENTDATA" "[Ljava/lang/Object;" ∈ GW) (d : decode cc pc = .ok (.getstatic index, 3)) (kk : J X ws k n (pc + 3) lv (.ref (sa 0) :: st)) : J X ws k n pc lv st := by
  obtain ⟨p, l0, e, R, s, m, args, below, meth, c, D0, ct0, sa0, A, nL, Q⟩ := X
  obtain ⟨hx, hb, hml, ho, hts, hK, hA, hlk, hEX, rfl, rfl, rfl, rfl, rfl, rfl⟩ := C
  intro H locs ls hP hD hS hl
  exact va_gets hx hb hEX.2.2.2.2.2.2.2.1 hS ho (hts _ w1) (fun _ h => h) d (kk H locs ls hP hD hS hl)
theorem j_tlen (C : jC X l D ct sa cc nL1 own R0) (d : decode cc pc = .ok (.arraylength, 1)) (kk : J X ws k n (pc + 1) lv (.int (nI 0) :: st)) : J X ws k n pc lv (.ref (sa 0) :: st) := by
  obtain ⟨p, l0, e, R, s, m, args, below, meth, c, D0, ct0, sa0, A, nL, Q⟩ := X
  obtain ⟨hx, hb, hml, ho, hts, hK, hA, hlk, hEX, rfl, rfl, rfl, rfl, rfl, rfl⟩ := C
  intro H locs ls hP hD hS hl
  exact va_tlen hx hb hEX.2.2.2.2.2.2.2.2.1 hS rfl d (kk H locs ls hP hD hS hl)
theorem j_acmp_eq (C : jC X l D ct sa cc nL1 own R0) {off : Int} {a b : Nat} (tgt : Nat) (d : decode cc pc = .ok (.if_acmp .eq off, 3)) (ht : (pc : Int) + off = (tgt : Int)) (kt : a = b → J X ws k n tgt lv st) (kf : ¬ a = b → J X ws k n (pc + 3) lv st) : J X ws k n pc lv (.ref b :: .ref a :: st) := by
  obtain ⟨p, l0, e, R, s, m, args, below, meth, c, D0, ct0, sa0, A, nL, Q⟩ := X
  obtain ⟨hx, hb, hml, ho, hts, hK, hA, hlk, hEX, rfl, rfl, rfl, rfl, rfl, rfl⟩ := C
  intro H locs ls hP hD hS hl
  exact lv_acmp_eq (rx := some a) (ry := some b) hx hb d ht (fun h => kt (Option.some.inj h) H locs ls hP hD hS hl) (fun h => kf (fun z => h (congrArg some z)) H locs ls hP hD hS hl)
end J3
theorem app_at {ws r : va_W} {i : Nat} {x : Nat × va_E} (h : ws[i]? = some x) : (ws ++ r)[i]? = some x := by
  rw [List.getElem?_append_left (List.getElem?_eq_some_iff.mp h).1]
  exact h
theorem app_set {ws r : va_W} {i : Nat} {x y : Nat × va_E} (h : ws[i]? = some x) : (ws ++ r).set i y = ws.set i y ++ r := List.set_append_left _ _ (List.getElem?_eq_some_iff.mp h).1
theorem len_set {ws : va_W} {i : Nat} {y : Nat × va_E} : (ws.set i y).length = ws.length := List.length_set ..
/-! words of a sum of places -/
def cwN : Nat → Nat → Nat
  | 0, s => if s = 0 then 1 else 0
  | r + 1, s => (if 0 ≤ s then cwN r (s - 0) else 0) + (if 1 ≤ s then cwN r (s - 1) else 0) + (if 2 ≤ s then cwN r (s - 2) else 0) + (if 3 ≤ s then cwN r (s - 3) else 0) + (if 4 ≤ s then cwN r (s - 4) else 0) + (if 5 ≤ s then cwN r (s - 5) else 0)
/-- the thief, his table and its five rows -/
abbrev Tk (ct : Nat → ClassId) (ws : va_W) (k h tt : Nat) (rw : Nat → Nat) (T : Nat → Nat → Int32) : Prop :=
  ws[k]? = some (h, .inr (3, [.ref tt])) ∧ ws[k + 1]? = some (tt, .inl (ct 3, 5, .inr (.inr (.inr (.inr (fun i => if i < 5 then some (rw i) else none)))))) ∧ ∀ i, i < 5 → ws[k + 2 + i]? = some (rw i, .inl (ct 0, 21, .inl (T i)))
