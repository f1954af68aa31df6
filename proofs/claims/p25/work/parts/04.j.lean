/-! THE LAYER: a walk's fixed things in one tuple, its heap facts in one judgement -/
abbrev Ctx : Type := Program × Launch × Env × Room × State × MethodId × Array Value × List Frame × Method × Code × va_G × (Nat → ClassId) × (Nat → Nat) × (Nat → Prop) × Nat × (State → Prop)
/-- the array classes: of int, of Rack, of Object, of int[], of the law's Lock -/
abbrev TY (ct : Nat → ClassId) : List (ClassId × FieldType) := [(ct 0, .int), (ct 1, .object "LetterLocks$Rack"), (ct 2, .object "java/lang/Object"), (ct 3, .array .int), (ct 4, .object "LetterLocksLaw$Lock")]
theorem va_AOA.moved {ty : FieldType} {u U : State} (hvm : u.vm.Alike U.vm) (h : va_AOA ty u) : va_AOA ty U := by
  have h0 : (Cond.arrayOver (.array ty)).holds #[] u none u [] = true := h
  simp only [Cond.holds, Cond.value, beq_iff_eq] at h0
  show (Cond.arrayOver (.array ty)).holds #[] U none U [] = true
  simp only [Cond.holds, Cond.value, beq_iff_eq]
  cases hc : u.vm.findClass (FieldType.array ty).toString with
  | none => simp [hc] at h0
  | some comp =>
    simp only [hc, Option.bind_some, Option.bind_eq_some_iff, Option.map_eq_some_iff] at h0
    obtain ⟨c, hi, k, hk, hb⟩ := h0
    obtain ⟨k', hk', he⟩ := hvm.2.2 _ _ hk
    have hi' : (U.vm.classes.findIdx? fun (x : Class) => match x.kind with | .array component _ => component == comp | _ => false) = some c := by
      refine (va_idx_bare U.vm comp).symm.trans ?_
      have e : U.vm.bare = u.vm.bare := by first | exact hvm.bare_eq | exact hvm.bare_eq.symm
      rw [e]
      exact (va_idx_bare u.vm comp).trans hi
    have hkind : k'.kind = k.kind := by rw [he]
    rw [show U.vm.findClass (FieldType.array ty).toString = some comp by rw [hvm.findClass]; exact hc]
    rw [Option.bind_some]
    refine (congrArg (fun o : Option Nat => o.bind (fun c => (U.vm.classes[c]?).map fun (k : Class) => match k.kind with | .array _ t2 => decide (t2 = FieldType.array ty) && decide (U.vm.findClass ("[" ++ (FieldType.array ty).toString) = some c) | _ => false)) hi').trans ?_
    simp only [Option.bind_some]
    rw [hk', Option.map_some, hkind, hvm.findClass]
    exact congrArg some hb
abbrev STRS : List (Nat × String) := [(226, "no such lock"), (176, "what is 0 to 6"), (139, "no such rack"), (153, "what is 0 to 5"), (231, "no such ring"), (77, "no such letter"), (233, "no such word"), (55, "there are 8 locks"), (237, "the lock is shut"), (116, "places are 1 to 6"), (121, "more locks are in the rack"), (126, "hours are 0 to 23 and 0 to 24"), (148, "the rack is not open, or full"), (235, "hours are 1 to 99")]
abbrev scB (sa : Nat → Nat) : Nat := sa 1
abbrev scL (sa : Nat → Nat) : Nat := sa 2
abbrev scX (sa : Nat → Nat) (j : Nat) : Int32 := Int32.ofNat (sa (1000 + j))
/-- the law's script, an array that nobody writes; its place, length and numbers are kept by sa -/
def SCR (sa : Nat → Nat) (A : Nat → Prop) (U : State) (H : Heap) : Prop := va_X (scB sa) (scL sa) (scX sa) U H ∧ scB sa < H.size ∧ ¬ A (scB sa) ∧ scL sa ≤ 260
theorem SCR.moved {sa : Nat → Nat} {A : Nat → Prop} {u U : State} {H : Heap} (hvm : u.vm.Alike U.vm) (h : SCR sa A u H) : SCR sa A U H := ⟨h.1.moved hvm, h.2⟩
theorem SCR.kept {sa : Nat → Nat} {A : Nat → Prop} {U : State} {H H1 : Heap} (h : SCR sa A U H) (hq : ∀ a : Nat, a < H.size → ¬ A a → H1[a]? = H[a]?) : SCR sa A U H1 := by
  obtain ⟨h1, h2, h3, h4⟩ := h
  have e := hq _ h2 h3
  refine ⟨h1.kept e, ?_, h3, h4⟩
  obtain ⟨scr, hs, -⟩ := h1
  exact (Array.getElem?_eq_some_iff.mp (e.trans hs)).1
theorem SCR.narrow {sa : Nat → Nat} {A B : Nat → Prop} {U : State} {H : Heap} (h : SCR sa A U H) (hAB : ∀ q, B q → A q) : SCR sa B U H := ⟨h.1, h.2.1, fun z => h.2.2.1 (hAB _ z), h.2.2.2⟩
/-- what a walk may ask beside the good words: members of nest mates, texts, classes of arrays, statics outside A -/
def EX (sa : Nat → Nat) (A : Nat → Prop) (U : State) (H : Heap) : Prop :=
  (∀ w ∈ NW, va_Nw w U) ∧ (∀ q ∈ STRS, vk_R "LetterLocks" q.1 q.2 (sa q.1) U) ∧ va_AO "LetterLocks$Rack" U ∧ va_AOA .int U ∧ va_AO "java/lang/Object" U ∧
  vx_Zq Bundle.tN "UNASSIGNED_STACK" Bundle.steD A U H ∧ vx_Zq Bundle.tN "SUPPRESSED_SENTINEL" Bundle.listD A U H ∧
  va_Z "java/util/ArrayList" "DEFAULTCAPACITY_EMPTY_ELEMENTDATA" "[Ljava/lang/Object;" (.ref (sa 0)) A U H ∧ va_T (.object "java/lang/Object") (sa 0) 0 (fun _ => .null) A U H ∧
  va_AO "LetterLocksLaw$Lock" U ∧ SCR sa A U H
theorem EX.moved {sa : Nat → Nat} {A : Nat → Prop} {s U : State} {H : Heap} (hW : s.WarmedH U.vm) (h : EX sa A s H) : EX sa A U H := by
  obtain ⟨h1, h2, h3, h4, h5, h6, h7, h8, h9, h10, h11⟩ := h
  exact ⟨fun w hw => nw_warm (List.mem_filter.mp hw).2 hW (h1 w hw), fun q hq => vk_R.warm hW (h2 q hq), h3.moved hW.alike, h4.moved hW.alike, h5.moved hW.alike, h6.moved hW.alike, h7.moved hW.alike, h8.moved hW.alike, h9.moved hW.alike, h10.moved hW.alike, h11.moved hW.alike⟩
theorem EX.kept {sa : Nat → Nat} {A : Nat → Prop} {U : State} {H H1 : Heap} (h : EX sa A U H) (hq : ∀ a : Nat, a < H.size → ¬ A a → H1[a]? = H[a]?) : EX sa A U H1 := by
  obtain ⟨h1, h2, h3, h4, h5, h6, h7, h8, h9, h10, h11⟩ := h
  exact ⟨h1, h2, h3, h4, h5, h6.kept hq, h7.kept hq, h8.kept hq, h9.kept hq, h10, h11.kept hq⟩
theorem EX.narrow {sa : Nat → Nat} {A B : Nat → Prop} {U : State} {H : Heap} (h : EX sa A U H) (hAB : ∀ q, B q → A q) : EX sa B U H := by
  obtain ⟨h1, h2, h3, h4, h5, h6, h7, h8, h9, h10, h11⟩ := h
  exact ⟨h1, h2, h3, h4, h5, h6.narrow hAB, h7.narrow hAB, h8.narrow hAB, h9.narrow hAB, h10, h11.narrow hAB⟩
def J (X : Ctx) (ws : va_W) (k n pc : Nat) (lv : List (Nat × Value)) (st : List Value) : Prop :=
  match X with
  | (p, l0, e, R, s, m, args, below, meth, c, D0, ct0, sa0, A, nL, Q) =>
    ∀ (H : Heap) (locs : List Loc) (ls : Array Slot), va_P D0 vwCl ws H → va_D A ws → va_S A s.heap H locs → lv_has ls nL lv → W p l0 e R s m args below meth c H locs k n Q (F0 m pc ls st)
def jC (X : Ctx) (l : Launch) (D : va_G) (ct : Nat → ClassId) (sa : Nat → Nat) (cc : ByteArray) (nL1 : Nat) (own : String) (R0 : Room) : Prop :=
  match X with
  | (p, l0, e, R, s, m, args, below, meth, c, D0, ct0, sa0, A, nL, Q) =>
    p.tables.exec = Jvm.exec ∧ c.code = cc ∧ c.maxLocals = nL ∧ s.vm.findClass own = some m.cls ∧ (∀ w ∈ GW, w.before args s = true) ∧ va_K D vwCl (TY ct) s ∧ (∀ q, s.heap.size ≤ q → A q) ∧ meth.locks = false ∧ EX sa A s s.heap ∧
    R = R0 ∧ l0 = l ∧ D0 = D ∧ ct0 = ct ∧ sa0 = sa ∧ nL = nL1
/-- the world that a contract begins with -/
def jPre (D : va_G) (ct : Nat → ClassId) (sa : Nat → Nat) (sz : Nat) (ws : va_W) (U : State) : Prop := U.heap.size = sz ∧ va_P D vwCl ws U.heap ∧ va_K D vwCl (TY ct) U ∧ va_D (fun _ => True) ws ∧ EX sa (va_A ws sz) U U.heap
def jW (D : va_G) (ct : Nat → ClassId) (sz : Nat) (ws w : va_W) (t : State) : Prop := va_P D vwCl w t.heap ∧ va_D (va_A ws sz) w
def jQ (D : va_G) (ct : Nat → ClassId) (sz : Nat) (ws : va_W) (K : Option Value → va_W → Prop) : Array Value → State → Outcome → State → Prop := fun _ st oc t => (∃ r w, oc = .returned r ∧ K r w ∧ jW D ct sz ws w t) ∧ va_F (va_A ws sz) st t
def jX (D : va_G) (ct : Nat → ClassId) (sz : Nat) (ws : va_W) (KX : String → Prop) : String → State → State → Prop := fun E st t => (KX E ∧ jW D ct sz ws ws t) ∧ va_F (va_A ws sz) st t
def jM (l : Launch) (y : MethodName) (wl : List Cond) (rm : Room) (D : va_G) (ct : Nat → ClassId) (sa : Nat → Nat) (av : List Value) (ws : va_W) (K : Option Value → va_W → Prop) (mc ms : Nat) : Prop :=
  ∀ sz, Met l y wl rm (va_Pc av (jPre D ct sa sz ws)) (jQ D ct sz ws K) mc ms (va_A ws sz)
def jMX (l : Launch) (y : MethodName) (wl : List Cond) (rm : Room) (D : va_G) (ct : Nat → ClassId) (sa : Nat → Nat) (av : List Value) (ws : va_W) (K : Option Value → va_W → Prop) (KX : String → Prop) (mc ms : Nat) : Prop :=
  ∀ sz, vx_Met l y wl rm (va_Pc av (jPre D ct sa sz ws)) (jQ D ct sz ws K) (jX D ct sz ws KX) mc ms (va_A ws sz)
/-- what stands at a method's end -/
def jE (X : Ctx) (ws0 : va_W) (K : Option Value → va_W → Prop) (KX : String → Prop) (mc ms : Nat) (rt : Option FieldType) : Prop :=
  match X with
  | (p, l0, e, R, s, m, args, below, meth, c, D0, ct0, sa0, A, nL, Q) =>
    Q = vx_MQ below (jQ D0 ct0 s.heap.size ws0 K) (jX D0 ct0 s.heap.size ws0 KX) args s mc ms A ∧ A = va_A ws0 s.heap.size ∧ meth.sig.returnType = rt
def jT0 (X : Ctx) : Prop :=
  match X with
  | (p, l0, e, R, s, m, args, below, meth, c, D0, ct0, sa0, A, nL, Q) => ∀ x ∈ c.exceptionTable.toList, False
def jTb (X : Ctx) (hh : List (Nat × Nat × Nat × Nat)) : Prop :=
  match X with
  | (p, l0, e, R, s, m, args, below, meth, c, D0, ct0, sa0, A, nL, Q) => c.exceptionTable.toList = tableOf hh
/-- a contract that never throws is a plain one -/
theorem jMX.plain {l : Launch} {y : MethodName} {wl : List Cond} {rm : Room} {D : va_G} {ct : Nat → ClassId} {sa : Nat → Nat} {av : List Value} {ws : va_W} {K : Option Value → va_W → Prop} {mc ms : Nat} (h : jMX l y wl rm D ct sa av ws K (fun _ => False) mc ms) : jM l y wl rm D ct sa av ws K mc ms := by
  intro sz p e h1 h2 h3 s m args below h4 h5 h6 h7
  obtain ⟨n, o, a1, a2, a3, a4⟩ := h sz p e h1 h2 h3 s m args below h4 h5 h6 h7
  refine ⟨n, o, a1, a2, a3, ?_⟩
  rcases a4 with a4 | ⟨q, -, E, ce, L, ⟨⟨hx, -⟩, -⟩, -⟩
  · exact a4
  · exact hx.elim
theorem jM.weak {l : Launch} {y : MethodName} {wl : List Cond} {rm : Room} {D : va_G} {ct : Nat → ClassId} {sa : Nat → Nat} {av : List Value} {ws : va_W} {K K' : Option Value → va_W → Prop} {mc ms : Nat} (h : jM l y wl rm D ct sa av ws K mc ms) (hk : ∀ r w, K r w → K' r w) : jM l y wl rm D ct sa av ws K' mc ms := by
  intro sz p e h1 h2 h3 s m args below h4 h5 h6 h7
  obtain ⟨n, o, a1, a2, a3, ⟨⟨r, w, b1, b2, b3⟩, a5⟩, a6⟩ := h sz p e h1 h2 h3 s m args below h4 h5 h6 h7
  exact ⟨n, o, a1, a2, a3, ⟨⟨r, w, b1, hk r w b2, b3⟩, a5⟩, a6⟩

abbrev rM (f k n lo : Nat) : Room := { frames := f, cells := k, slots := n, locals := lo }
theorem jBody {l : Launch} {y : MethodName} {ws' : List Cond} {D : va_G} {ct : Nat → ClassId} {sa : Nat → Nat} {av : List Value} {ws : va_W} {K : Option Value → va_W → Prop} {KX : String → Prop} {f lo mc ms : Nat} {cc : ByteArray} {maxL : Nat} {ret : Option FieldType} {own : String}
    (hy : plainName y.cls = true) (hown : y.cls = own) (hw : ws' = GW) (hfit : (lg_sl av).length ≤ maxL)
    (body : ∀ X : Ctx, jC X l D ct sa cc maxL own (rM f mc ms lo) → jE X ws K KX mc ms ret → jT0 X → J X ws 0 0 0 (lv_args 0 av) []) : jMX l y (Cond.code y cc maxL ret :: ws') (rM f mc ms lo) D ct sa av ws K KX mc ms := by
  intro sz
  subst hw
  refine vx_ofW (cc := cc) (maxL := maxL) (ret := ret) hy rfl ?_
  intro p e s m args below meth c s₁ B hml htab hv
  obtain ⟨rfl, hsz, hP, hK, hD0, hE⟩ := hv
  have hts := atoms_spec (ws := Cond.code y cc maxL ret :: GW) B.pre
  subst hsz
  have hA : ∀ q : Nat, s.heap.size ≤ q → va_A ws s.heap.size q := fun q h => Or.inr h
  have hl := lv_entry av (n := maxL) hfit
  rw [lg_entry_eq]
  exact body (p, l, e, rM f mc ms lo, s, m, av.toArray, below, meth, c, D, ct, sa, va_A ws s.heap.size, maxL, vx_MQ below (jQ D ct s.heap.size ws K) (jX D ct s.heap.size ws KX) av.toArray s mc ms (va_A ws s.heap.size))
    ⟨B.exec, B.bytes, hml, hown ▸ findClass_of_methodNamed B.named, fun w h => hts w (List.mem_cons_of_mem _ h), hK, hA, B.notSynchronized, hE, rfl, rfl, rfl, rfl, rfl, rfl⟩
    ⟨rfl, rfl, B.returns⟩ htab s.heap [] _ hP hD0.self va_S.rf hl
theorem jBodyH {l : Launch} {y : MethodName} {ws' : List Cond} {D : va_G} {ct : Nat → ClassId} {sa : Nat → Nat} {av : List Value} {ws : va_W} {K : Option Value → va_W → Prop} {KX : String → Prop} {f lo mc ms : Nat} {cc : ByteArray} {maxL : Nat} {ret : Option FieldType} {own : String} {hh : List (Nat × Nat × Nat × Nat)}
    (hy : plainName y.cls = true) (hown : y.cls = own) (hw : ws' = GW) (hfit : (lg_sl av).length ≤ maxL)
    (body : ∀ X : Ctx, jC X l D ct sa cc maxL own (rM f mc ms lo) → jE X ws K KX mc ms ret → jTb X hh → J X ws 0 0 0 (lv_args 0 av) []) : jMX l y (Cond.codeWith y cc maxL ret hh :: ws') (rM f mc ms lo) D ct sa av ws K KX mc ms := by
  intro sz
  subst hw
  refine vx_ofWH (cc := cc) (maxL := maxL) (ret := ret) hy rfl ?_
  intro p e s m args below meth c s₁ B hml hv
  obtain ⟨rfl, hsz, hP, hK, hD0, hE⟩ := hv
  have hts := atoms_spec (ws := Cond.codeWith y cc maxL ret hh :: GW) B.pre
  subst hsz
  have hA : ∀ q : Nat, s.heap.size ≤ q → va_A ws s.heap.size q := fun q h => Or.inr h
  have hl := lv_entry av (n := maxL) hfit
  rw [lg_entry_eq]
  exact body (p, l, e, rM f mc ms lo, s, m, av.toArray, below, meth, c, D, ct, sa, va_A ws s.heap.size, maxL, vx_MQ below (jQ D ct s.heap.size ws K) (jX D ct s.heap.size ws KX) av.toArray s mc ms (va_A ws s.heap.size))
    ⟨B.exec, B.bytes, hml, hown ▸ findClass_of_methodNamed B.named, fun w h => hts w (List.mem_cons_of_mem _ h), hK, hA, B.notSynchronized, hE, rfl, rfl, rfl, rfl, rfl, rfl⟩
    ⟨rfl, rfl, B.returns⟩ (vx_table (x := y) B (hts _ List.mem_cons_self)) s.heap [] _ hP hD0.self va_S.rf hl

section JR
variable {X : Ctx} {l : Launch} {D : va_G} {ct : Nat → ClassId} {sa : Nat → Nat} {cc : ByteArray} {nL1 : Nat} {own : String} {R0 : Room} {ws : va_W} {k n pc : Nat} {lv lv' : List (Nat × Value)} {st : List Value}

theorem j_iconst (C : jC X l D ct sa cc nL1 own R0) {i : Int} {v : Int32} (d : decode cc pc = .ok (.iconst i, 1)) (hv : Int32.ofInt i = v) (kk : J X ws k n (pc + 1) lv (.int v :: st)) : J X ws k n pc lv st := by
  obtain ⟨p, l0, e, R, s, m, args, below, meth, c, D0, ct0, sa0, A, nL, Q⟩ := X
  obtain ⟨hx, hb, hml, ho, hts, hK, hA, hlk, hEX, rfl, rfl, rfl, rfl, rfl, rfl⟩ := C
  intro H locs ls hP hD hS hl
  exact lv_iconst hx hb d hv (kk H locs ls hP hD hS hl)
theorem j_bipush (C : jC X l D ct sa cc nL1 own R0) {i : Int} {v : Int32} (d : decode cc pc = .ok (.bipush i, 2)) (hv : (Int8.ofInt i).toInt32 = v) (kk : J X ws k n (pc + 2) lv (.int v :: st)) : J X ws k n pc lv st := by
  obtain ⟨p, l0, e, R, s, m, args, below, meth, c, D0, ct0, sa0, A, nL, Q⟩ := X
  obtain ⟨hx, hb, hml, ho, hts, hK, hA, hlk, hEX, rfl, rfl, rfl, rfl, rfl, rfl⟩ := C
  intro H locs ls hP hD hS hl
  exact lv_bipush hx hb d hv (kk H locs ls hP hD hS hl)
theorem j_sipush (C : jC X l D ct sa cc nL1 own R0) {i : Int} {v : Int32} (d : decode cc pc = .ok (.sipush i, 3)) (hv : (Int16.ofInt i).toInt32 = v) (kk : J X ws k n (pc + 3) lv (.int v :: st)) : J X ws k n pc lv st := by
  obtain ⟨p, l0, e, R, s, m, args, below, meth, c, D0, ct0, sa0, A, nL, Q⟩ := X
  obtain ⟨hx, hb, hml, ho, hts, hK, hA, hlk, hEX, rfl, rfl, rfl, rfl, rfl, rfl⟩ := C
  intro H locs ls hP hD hS hl
  exact lv_sipush hx hb d hv (kk H locs ls hP hD hS hl)
theorem j_lconst (C : jC X l D ct sa cc nL1 own R0) {i : Fin 2} {v : Int64} (d : decode cc pc = .ok (.lconst i, 1)) (hv : Int64.ofNat (i : Nat) = v) (kk : J X ws k n (pc + 1) lv (.long v :: st)) : J X ws k n pc lv st := by
  obtain ⟨p, l0, e, R, s, m, args, below, meth, c, D0, ct0, sa0, A, nL, Q⟩ := X
  obtain ⟨hx, hb, hml, ho, hts, hK, hA, hlk, hEX, rfl, rfl, rfl, rfl, rfl, rfl⟩ := C
  intro H locs ls hP hD hS hl
  exact lv_lconst hx hb d hv (kk H locs ls hP hD hS hl)
theorem j_iload_n (C : jC X l D ct sa cc nL1 own R0) {q : Fin 4} {i : Nat} {x : Int32} (d : decode cc pc = .ok (.iload_n q, 1)) (hi : (q : Nat) = i) (z : Nat) (hz : lv[z]? = some (i, .int x)) (kk : J X ws k n (pc + 1) lv (.int x :: st)) : J X ws k n pc lv st := by
  obtain ⟨p, l0, e, R, s, m, args, below, meth, c, D0, ct0, sa0, A, nL, Q⟩ := X
  obtain ⟨hx, hb, hml, ho, hts, hK, hA, hlk, hEX, rfl, rfl, rfl, rfl, rfl, rfl⟩ := C
  intro H locs ls hP hD hS hl
  exact lv_iload_n hx hb d hi (lv_at hl z hz) (kk H locs ls hP hD hS hl)
theorem j_iload (C : jC X l D ct sa cc nL1 own R0) {i : Nat} {x : Int32} (d : decode cc pc = .ok (.iload i, 2)) (z : Nat) (hz : lv[z]? = some (i, .int x)) (kk : J X ws k n (pc + 2) lv (.int x :: st)) : J X ws k n pc lv st := by
  obtain ⟨p, l0, e, R, s, m, args, below, meth, c, D0, ct0, sa0, A, nL, Q⟩ := X
  obtain ⟨hx, hb, hml, ho, hts, hK, hA, hlk, hEX, rfl, rfl, rfl, rfl, rfl, rfl⟩ := C
  intro H locs ls hP hD hS hl
  exact lv_iload hx hb d (lv_at hl z hz) (kk H locs ls hP hD hS hl)
theorem j_lload_n (C : jC X l D ct sa cc nL1 own R0) {q : Fin 4} {i : Nat} {x : Int64} (d : decode cc pc = .ok (.lload_n q, 1)) (hi : (q : Nat) = i) (z : Nat) (hz : lv[z]? = some (i, .long x)) (kk : J X ws k n (pc + 1) lv (.long x :: st)) : J X ws k n pc lv st := by
  obtain ⟨p, l0, e, R, s, m, args, below, meth, c, D0, ct0, sa0, A, nL, Q⟩ := X
  obtain ⟨hx, hb, hml, ho, hts, hK, hA, hlk, hEX, rfl, rfl, rfl, rfl, rfl, rfl⟩ := C
  intro H locs ls hP hD hS hl
  exact lv_lload_n hx hb d hi (lv_at hl z hz) (kk H locs ls hP hD hS hl)
theorem j_lload (C : jC X l D ct sa cc nL1 own R0) {i : Nat} {x : Int64} (d : decode cc pc = .ok (.lload i, 2)) (z : Nat) (hz : lv[z]? = some (i, .long x)) (kk : J X ws k n (pc + 2) lv (.long x :: st)) : J X ws k n pc lv st := by
  obtain ⟨p, l0, e, R, s, m, args, below, meth, c, D0, ct0, sa0, A, nL, Q⟩ := X
  obtain ⟨hx, hb, hml, ho, hts, hK, hA, hlk, hEX, rfl, rfl, rfl, rfl, rfl, rfl⟩ := C
  intro H locs ls hP hD hS hl
  exact lv_lload hx hb d (lv_at hl z hz) (kk H locs ls hP hD hS hl)
theorem j_aload_n (C : jC X l D ct sa cc nL1 own R0) {q : Fin 4} {i : Nat} {x : Nat} (d : decode cc pc = .ok (.aload_n q, 1)) (hi : (q : Nat) = i) (z : Nat) (hz : lv[z]? = some (i, .ref x)) (kk : J X ws k n (pc + 1) lv (.ref x :: st)) : J X ws k n pc lv st := by
  obtain ⟨p, l0, e, R, s, m, args, below, meth, c, D0, ct0, sa0, A, nL, Q⟩ := X
  obtain ⟨hx, hb, hml, ho, hts, hK, hA, hlk, hEX, rfl, rfl, rfl, rfl, rfl, rfl⟩ := C
  intro H locs ls hP hD hS hl
  exact lv_aload_n hx hb d hi (lv_at hl z hz) (kk H locs ls hP hD hS hl)
theorem j_aload (C : jC X l D ct sa cc nL1 own R0) {i : Nat} {x : Nat} (d : decode cc pc = .ok (.aload i, 2)) (z : Nat) (hz : lv[z]? = some (i, .ref x)) (kk : J X ws k n (pc + 2) lv (.ref x :: st)) : J X ws k n pc lv st := by
  obtain ⟨p, l0, e, R, s, m, args, below, meth, c, D0, ct0, sa0, A, nL, Q⟩ := X
  obtain ⟨hx, hb, hml, ho, hts, hK, hA, hlk, hEX, rfl, rfl, rfl, rfl, rfl, rfl⟩ := C
  intro H locs ls hP hD hS hl
  exact lv_aload hx hb d (lv_at hl z hz) (kk H locs ls hP hD hS hl)
theorem j_dload_n (C : jC X l D ct sa cc nL1 own R0) {q : Fin 4} {i : Nat} {x : UInt64} (d : decode cc pc = .ok (.dload_n q, 1)) (hi : (q : Nat) = i) (z : Nat) (hz : lv[z]? = some (i, .double x)) (kk : J X ws k n (pc + 1) lv (.double x :: st)) : J X ws k n pc lv st := by
  obtain ⟨p, l0, e, R, s, m, args, below, meth, c, D0, ct0, sa0, A, nL, Q⟩ := X
  obtain ⟨hx, hb, hml, ho, hts, hK, hA, hlk, hEX, rfl, rfl, rfl, rfl, rfl, rfl⟩ := C
  intro H locs ls hP hD hS hl
  exact lv_dload_n hx hb d hi (lv_at hl z hz) (kk H locs ls hP hD hS hl)
theorem j_dload (C : jC X l D ct sa cc nL1 own R0) {i : Nat} {x : UInt64} (d : decode cc pc = .ok (.dload i, 2)) (z : Nat) (hz : lv[z]? = some (i, .double x)) (kk : J X ws k n (pc + 2) lv (.double x :: st)) : J X ws k n pc lv st := by
  obtain ⟨p, l0, e, R, s, m, args, below, meth, c, D0, ct0, sa0, A, nL, Q⟩ := X
  obtain ⟨hx, hb, hml, ho, hts, hK, hA, hlk, hEX, rfl, rfl, rfl, rfl, rfl, rfl⟩ := C
  intro H locs ls hP hD hS hl
  exact lv_dload hx hb d (lv_at hl z hz) (kk H locs ls hP hD hS hl)
theorem j_istore_n (C : jC X l D ct sa cc nL1 own R0) {q : Fin 4} {i : Nat} {x : Int32} (d : decode cc pc = .ok (.istore_n q, 1)) (hi : (q : Nat) = i) (hn : i < nL1) (hl2 : (i, Value.int x) :: lv.filter (fun q => !(q.1 == i) && !(q.1 + 1 == i && q.2.category == 2)) = lv') (kk : J X ws k n (pc + 1) lv' st) : J X ws k n pc lv (Value.int x :: st) := by
  obtain ⟨p, l0, e, R, s, m, args, below, meth, c, D0, ct0, sa0, A, nL, Q⟩ := X
  obtain ⟨hx, hb, hml, ho, hts, hK, hA, hlk, hEX, rfl, rfl, rfl, rfl, rfl, rfl⟩ := C
  intro H locs ls hP hD hS hl
  exact lv_istore_n hx hb d hi hl hn hl2 (fun ls1 h1 => kk H locs ls1 hP hD hS h1)
theorem j_istore (C : jC X l D ct sa cc nL1 own R0) {i : Nat} {x : Int32} (d : decode cc pc = .ok (.istore i, 2)) (hn : i < nL1) (hl2 : (i, Value.int x) :: lv.filter (fun q => !(q.1 == i) && !(q.1 + 1 == i && q.2.category == 2)) = lv') (kk : J X ws k n (pc + 2) lv' st) : J X ws k n pc lv (Value.int x :: st) := by
  obtain ⟨p, l0, e, R, s, m, args, below, meth, c, D0, ct0, sa0, A, nL, Q⟩ := X
  obtain ⟨hx, hb, hml, ho, hts, hK, hA, hlk, hEX, rfl, rfl, rfl, rfl, rfl, rfl⟩ := C
  intro H locs ls hP hD hS hl
  exact lv_istore hx hb d hl hn hl2 (fun ls1 h1 => kk H locs ls1 hP hD hS h1)
theorem j_astore_n (C : jC X l D ct sa cc nL1 own R0) {q : Fin 4} {i : Nat} {x : Nat} (d : decode cc pc = .ok (.astore_n q, 1)) (hi : (q : Nat) = i) (hn : i < nL1) (hl2 : (i, Value.ref x) :: lv.filter (fun q => !(q.1 == i) && !(q.1 + 1 == i && q.2.category == 2)) = lv') (kk : J X ws k n (pc + 1) lv' st) : J X ws k n pc lv (Value.ref x :: st) := by
  obtain ⟨p, l0, e, R, s, m, args, below, meth, c, D0, ct0, sa0, A, nL, Q⟩ := X
  obtain ⟨hx, hb, hml, ho, hts, hK, hA, hlk, hEX, rfl, rfl, rfl, rfl, rfl, rfl⟩ := C
  intro H locs ls hP hD hS hl
  exact lv_astore_n hx hb d hi hl hn hl2 (fun ls1 h1 => kk H locs ls1 hP hD hS h1)
theorem j_astore (C : jC X l D ct sa cc nL1 own R0) {i : Nat} {x : Nat} (d : decode cc pc = .ok (.astore i, 2)) (hn : i < nL1) (hl2 : (i, Value.ref x) :: lv.filter (fun q => !(q.1 == i) && !(q.1 + 1 == i && q.2.category == 2)) = lv') (kk : J X ws k n (pc + 2) lv' st) : J X ws k n pc lv (Value.ref x :: st) := by
  obtain ⟨p, l0, e, R, s, m, args, below, meth, c, D0, ct0, sa0, A, nL, Q⟩ := X
  obtain ⟨hx, hb, hml, ho, hts, hK, hA, hlk, hEX, rfl, rfl, rfl, rfl, rfl, rfl⟩ := C
  intro H locs ls hP hD hS hl
  exact lv_astore hx hb d hl hn hl2 (fun ls1 h1 => kk H locs ls1 hP hD hS h1)
theorem j_lstore_n (C : jC X l D ct sa cc nL1 own R0) {q : Fin 4} {i : Nat} {x : Int64} (d : decode cc pc = .ok (.lstore_n q, 1)) (hi : (q : Nat) = i) (hn : i + 1 < nL1) (hl2 : (i, Value.long x) :: lv.filter (fun q => !(q.1 == i) && (!(q.1 == i + 1) && !(q.1 + 1 == i && q.2.category == 2))) = lv') (kk : J X ws k n (pc + 1) lv' st) : J X ws k n pc lv (Value.long x :: st) := by
  obtain ⟨p, l0, e, R, s, m, args, below, meth, c, D0, ct0, sa0, A, nL, Q⟩ := X
  obtain ⟨hx, hb, hml, ho, hts, hK, hA, hlk, hEX, rfl, rfl, rfl, rfl, rfl, rfl⟩ := C
  intro H locs ls hP hD hS hl
  exact lv_lstore_n hx hb d hi hl hn hl2 (fun ls1 h1 => kk H locs ls1 hP hD hS h1)
theorem j_lstore (C : jC X l D ct sa cc nL1 own R0) {i : Nat} {x : Int64} (d : decode cc pc = .ok (.lstore i, 2)) (hn : i + 1 < nL1) (hl2 : (i, Value.long x) :: lv.filter (fun q => !(q.1 == i) && (!(q.1 == i + 1) && !(q.1 + 1 == i && q.2.category == 2))) = lv') (kk : J X ws k n (pc + 2) lv' st) : J X ws k n pc lv (Value.long x :: st) := by
  obtain ⟨p, l0, e, R, s, m, args, below, meth, c, D0, ct0, sa0, A, nL, Q⟩ := X
  obtain ⟨hx, hb, hml, ho, hts, hK, hA, hlk, hEX, rfl, rfl, rfl, rfl, rfl, rfl⟩ := C
  intro H locs ls hP hD hS hl
  exact lv_lstore hx hb d hl hn hl2 (fun ls1 h1 => kk H locs ls1 hP hD hS h1)
theorem j_dstore_n (C : jC X l D ct sa cc nL1 own R0) {q : Fin 4} {i : Nat} {x : UInt64} (d : decode cc pc = .ok (.dstore_n q, 1)) (hi : (q : Nat) = i) (hn : i + 1 < nL1) (hl2 : (i, Value.double x) :: lv.filter (fun q => !(q.1 == i) && (!(q.1 == i + 1) && !(q.1 + 1 == i && q.2.category == 2))) = lv') (kk : J X ws k n (pc + 1) lv' st) : J X ws k n pc lv (Value.double x :: st) := by
  obtain ⟨p, l0, e, R, s, m, args, below, meth, c, D0, ct0, sa0, A, nL, Q⟩ := X
  obtain ⟨hx, hb, hml, ho, hts, hK, hA, hlk, hEX, rfl, rfl, rfl, rfl, rfl, rfl⟩ := C
  intro H locs ls hP hD hS hl
  exact lv_dstore_n hx hb d hi hl hn hl2 (fun ls1 h1 => kk H locs ls1 hP hD hS h1)
theorem j_dstore (C : jC X l D ct sa cc nL1 own R0) {i : Nat} {x : UInt64} (d : decode cc pc = .ok (.dstore i, 2)) (hn : i + 1 < nL1) (hl2 : (i, Value.double x) :: lv.filter (fun q => !(q.1 == i) && (!(q.1 == i + 1) && !(q.1 + 1 == i && q.2.category == 2))) = lv') (kk : J X ws k n (pc + 2) lv' st) : J X ws k n pc lv (Value.double x :: st) := by
  obtain ⟨p, l0, e, R, s, m, args, below, meth, c, D0, ct0, sa0, A, nL, Q⟩ := X
  obtain ⟨hx, hb, hml, ho, hts, hK, hA, hlk, hEX, rfl, rfl, rfl, rfl, rfl, rfl⟩ := C
  intro H locs ls hP hD hS hl
  exact lv_dstore hx hb d hl hn hl2 (fun ls1 h1 => kk H locs ls1 hP hD hS h1)
theorem j_iinc (C : jC X l D ct sa cc nL1 own R0) {i z : Nat} {b : Int} {x v : Int32} (d : decode cc pc = .ok (.iinc i b, 3)) (hz : lv[z]? = some (i, .int x)) (hv : x + Int32.ofInt b = v) (hn : i < nL1) (hl2 : (i, Value.int v) :: lv.filter (fun q => !(q.1 == i) && !(q.1 + 1 == i && q.2.category == 2)) = lv') (kk : J X ws k n (pc + 3) lv' st) : J X ws k n pc lv st := by
  obtain ⟨p, l0, e, R, s, m, args, below, meth, c, D0, ct0, sa0, A, nL, Q⟩ := X
  obtain ⟨hx, hb, hml, ho, hts, hK, hA, hlk, hEX, rfl, rfl, rfl, rfl, rfl, rfl⟩ := C
  intro H locs ls hP hD hS hl
  exact lv_iinc hx hb d hl hz hv hn hl2 (fun ls1 h1 => kk H locs ls1 hP hD hS h1)
theorem j_iadd (C : jC X l D ct sa cc nL1 own R0) {x y : Int32} (d : decode cc pc = .ok (.iadd, 1)) (kk : J X ws k n (pc + 1) lv (.int (x + y) :: st)) : J X ws k n pc lv (.int y :: .int x :: st) := by
  obtain ⟨p, l0, e, R, s, m, args, below, meth, c, D0, ct0, sa0, A, nL, Q⟩ := X
  obtain ⟨hx, hb, hml, ho, hts, hK, hA, hlk, hEX, rfl, rfl, rfl, rfl, rfl, rfl⟩ := C
  intro H locs ls hP hD hS hl
  exact lv_iadd hx hb d (kk H locs ls hP hD hS hl)
theorem j_isub (C : jC X l D ct sa cc nL1 own R0) {x y : Int32} (d : decode cc pc = .ok (.isub, 1)) (kk : J X ws k n (pc + 1) lv (.int (x - y) :: st)) : J X ws k n pc lv (.int y :: .int x :: st) := by
  obtain ⟨p, l0, e, R, s, m, args, below, meth, c, D0, ct0, sa0, A, nL, Q⟩ := X
  obtain ⟨hx, hb, hml, ho, hts, hK, hA, hlk, hEX, rfl, rfl, rfl, rfl, rfl, rfl⟩ := C
  intro H locs ls hP hD hS hl
  exact lv_isub hx hb d (kk H locs ls hP hD hS hl)
theorem j_imul (C : jC X l D ct sa cc nL1 own R0) {x y : Int32} (d : decode cc pc = .ok (.imul, 1)) (kk : J X ws k n (pc + 1) lv (.int (x * y) :: st)) : J X ws k n pc lv (.int y :: .int x :: st) := by
  obtain ⟨p, l0, e, R, s, m, args, below, meth, c, D0, ct0, sa0, A, nL, Q⟩ := X
  obtain ⟨hx, hb, hml, ho, hts, hK, hA, hlk, hEX, rfl, rfl, rfl, rfl, rfl, rfl⟩ := C
  intro H locs ls hP hD hS hl
  exact lv_imul hx hb d (kk H locs ls hP hD hS hl)
theorem j_iand (C : jC X l D ct sa cc nL1 own R0) {x y : Int32} (d : decode cc pc = .ok (.iand, 1)) (kk : J X ws k n (pc + 1) lv (.int (x &&& y) :: st)) : J X ws k n pc lv (.int y :: .int x :: st) := by
  obtain ⟨p, l0, e, R, s, m, args, below, meth, c, D0, ct0, sa0, A, nL, Q⟩ := X
  obtain ⟨hx, hb, hml, ho, hts, hK, hA, hlk, hEX, rfl, rfl, rfl, rfl, rfl, rfl⟩ := C
  intro H locs ls hP hD hS hl
  exact lv_iand hx hb d (kk H locs ls hP hD hS hl)
theorem j_ladd (C : jC X l D ct sa cc nL1 own R0) {x y : Int64} (d : decode cc pc = .ok (.ladd, 1)) (kk : J X ws k n (pc + 1) lv (.long (x + y) :: st)) : J X ws k n pc lv (.long y :: .long x :: st) := by
  obtain ⟨p, l0, e, R, s, m, args, below, meth, c, D0, ct0, sa0, A, nL, Q⟩ := X
  obtain ⟨hx, hb, hml, ho, hts, hK, hA, hlk, hEX, rfl, rfl, rfl, rfl, rfl, rfl⟩ := C
  intro H locs ls hP hD hS hl
  exact lv_ladd hx hb d (kk H locs ls hP hD hS hl)
theorem j_lmul (C : jC X l D ct sa cc nL1 own R0) {x y : Int64} (d : decode cc pc = .ok (.lmul, 1)) (kk : J X ws k n (pc + 1) lv (.long (x * y) :: st)) : J X ws k n pc lv (.long y :: .long x :: st) := by
  obtain ⟨p, l0, e, R, s, m, args, below, meth, c, D0, ct0, sa0, A, nL, Q⟩ := X
  obtain ⟨hx, hb, hml, ho, hts, hK, hA, hlk, hEX, rfl, rfl, rfl, rfl, rfl, rfl⟩ := C
  intro H locs ls hP hD hS hl
  exact lv_lmul hx hb d (kk H locs ls hP hD hS hl)
theorem j_idiv (C : jC X l D ct sa cc nL1 own R0) {x y : Int32} (d : decode cc pc = .ok (.idiv, 1)) (hne : ¬ y = 0) (kk : J X ws k n (pc + 1) lv (.int (x / y) :: st)) : J X ws k n pc lv (.int y :: .int x :: st) := by
  obtain ⟨p, l0, e, R, s, m, args, below, meth, c, D0, ct0, sa0, A, nL, Q⟩ := X
  obtain ⟨hx, hb, hml, ho, hts, hK, hA, hlk, hEX, rfl, rfl, rfl, rfl, rfl, rfl⟩ := C
  intro H locs ls hP hD hS hl
  exact lv_idiv hx hb d hne (kk H locs ls hP hD hS hl)
theorem j_irem (C : jC X l D ct sa cc nL1 own R0) {x y : Int32} (d : decode cc pc = .ok (.irem, 1)) (hne : ¬ y = 0) (kk : J X ws k n (pc + 1) lv (.int (x - x / y * y) :: st)) : J X ws k n pc lv (.int y :: .int x :: st) := by
  obtain ⟨p, l0, e, R, s, m, args, below, meth, c, D0, ct0, sa0, A, nL, Q⟩ := X
  obtain ⟨hx, hb, hml, ho, hts, hK, hA, hlk, hEX, rfl, rfl, rfl, rfl, rfl, rfl⟩ := C
  intro H locs ls hP hD hS hl
  exact lv_irem hx hb d hne (kk H locs ls hP hD hS hl)
theorem j_i2l (C : jC X l D ct sa cc nL1 own R0) {x : Int32} {v : Int64} (d : decode cc pc = .ok (.i2l, 1)) (hv : x.toInt64 = v) (kk : J X ws k n (pc + 1) lv (.long v :: st)) : J X ws k n pc lv (.int x :: st) := by
  obtain ⟨p, l0, e, R, s, m, args, below, meth, c, D0, ct0, sa0, A, nL, Q⟩ := X
  obtain ⟨hx, hb, hml, ho, hts, hK, hA, hlk, hEX, rfl, rfl, rfl, rfl, rfl, rfl⟩ := C
  intro H locs ls hP hD hS hl
  exact lv_i2l hx hb d hv (kk H locs ls hP hD hS hl)
theorem j_dup (C : jC X l D ct sa cc nL1 own R0) {va : Value} (d : decode cc pc = .ok (.dup, 1)) (hva : va.category = 1) (kk : J X ws k n (pc + 1) lv (va :: va :: st)) : J X ws k n pc lv (va :: st) := by
  obtain ⟨p, l0, e, R, s, m, args, below, meth, c, D0, ct0, sa0, A, nL, Q⟩ := X
  obtain ⟨hx, hb, hml, ho, hts, hK, hA, hlk, hEX, rfl, rfl, rfl, rfl, rfl, rfl⟩ := C
  intro H locs ls hP hD hS hl
  exact lv_dup hx hb d hva (kk H locs ls hP hD hS hl)
theorem j_pop (C : jC X l D ct sa cc nL1 own R0) {va : Value} (d : decode cc pc = .ok (.pop, 1)) (hva : va.category = 1) (kk : J X ws k n (pc + 1) lv st) : J X ws k n pc lv (va :: st) := by
  obtain ⟨p, l0, e, R, s, m, args, below, meth, c, D0, ct0, sa0, A, nL, Q⟩ := X
  obtain ⟨hx, hb, hml, ho, hts, hK, hA, hlk, hEX, rfl, rfl, rfl, rfl, rfl, rfl⟩ := C
  intro H locs ls hP hD hS hl
  exact lv_pop hx hb d hva (kk H locs ls hP hD hS hl)
theorem j_dup2 (C : jC X l D ct sa cc nL1 own R0) {va vb : Value} (d : decode cc pc = .ok (.dup2, 1)) (hva : va.category = 1) (hvb : vb.category = 1) (kk : J X ws k n (pc + 1) lv (va :: vb :: va :: vb :: st)) : J X ws k n pc lv (va :: vb :: st) := by
  obtain ⟨p, l0, e, R, s, m, args, below, meth, c, D0, ct0, sa0, A, nL, Q⟩ := X
  obtain ⟨hx, hb, hml, ho, hts, hK, hA, hlk, hEX, rfl, rfl, rfl, rfl, rfl, rfl⟩ := C
  intro H locs ls hP hD hS hl
  exact lv_dup2_11 hx hb d hva hvb (kk H locs ls hP hD hS hl)
theorem j_dup_x1 (C : jC X l D ct sa cc nL1 own R0) {va vb : Value} (d : decode cc pc = .ok (.dup_x1, 1)) (hva : va.category = 1) (hvb : vb.category = 1) (kk : J X ws k n (pc + 1) lv (va :: vb :: va :: st)) : J X ws k n pc lv (va :: vb :: st) := by
  obtain ⟨p, l0, e, R, s, m, args, below, meth, c, D0, ct0, sa0, A, nL, Q⟩ := X
  obtain ⟨hx, hb, hml, ho, hts, hK, hA, hlk, hEX, rfl, rfl, rfl, rfl, rfl, rfl⟩ := C
  intro H locs ls hP hD hS hl
  exact lv_dup_x1 hx hb d hva hvb (kk H locs ls hP hD hS hl)
theorem j_if_eq (C : jC X l D ct sa cc nL1 own R0) {x : Int32} {off : Int} (tgt : Nat) (d : decode cc pc = .ok (.ifCond .eq off, 3)) (ht : (pc : Int) + off = (tgt : Int)) (kt : x = 0 → J X ws k n (tgt) lv st) (kf : ¬ x = 0 → J X ws k n (pc + 3) lv st) : J X ws k n pc lv (.int x :: st) := by
  obtain ⟨p, l0, e, R, s, m, args, below, meth, c, D0, ct0, sa0, A, nL, Q⟩ := X
  obtain ⟨hx, hb, hml, ho, hts, hK, hA, hlk, hEX, rfl, rfl, rfl, rfl, rfl, rfl⟩ := C
  intro H locs ls hP hD hS hl
  exact lv_if_eq hx hb d ht (fun h => kt h H locs ls hP hD hS hl) (fun h => kf h H locs ls hP hD hS hl)
theorem j_if_ne (C : jC X l D ct sa cc nL1 own R0) {x : Int32} {off : Int} (tgt : Nat) (d : decode cc pc = .ok (.ifCond .ne off, 3)) (ht : (pc : Int) + off = (tgt : Int)) (kt : ¬ x = 0 → J X ws k n (tgt) lv st) (kf : x = 0 → J X ws k n (pc + 3) lv st) : J X ws k n pc lv (.int x :: st) := by
  obtain ⟨p, l0, e, R, s, m, args, below, meth, c, D0, ct0, sa0, A, nL, Q⟩ := X
  obtain ⟨hx, hb, hml, ho, hts, hK, hA, hlk, hEX, rfl, rfl, rfl, rfl, rfl, rfl⟩ := C
  intro H locs ls hP hD hS hl
  exact lv_if_ne hx hb d ht (fun h => kt h H locs ls hP hD hS hl) (fun h => kf h H locs ls hP hD hS hl)
theorem j_if_lt (C : jC X l D ct sa cc nL1 own R0) {x : Int32} {off : Int} (tgt : Nat) (d : decode cc pc = .ok (.ifCond .lt off, 3)) (ht : (pc : Int) + off = (tgt : Int)) (kt : x < 0 → J X ws k n (tgt) lv st) (kf : ¬ x < 0 → J X ws k n (pc + 3) lv st) : J X ws k n pc lv (.int x :: st) := by
  obtain ⟨p, l0, e, R, s, m, args, below, meth, c, D0, ct0, sa0, A, nL, Q⟩ := X
  obtain ⟨hx, hb, hml, ho, hts, hK, hA, hlk, hEX, rfl, rfl, rfl, rfl, rfl, rfl⟩ := C
  intro H locs ls hP hD hS hl
  exact lv_if_lt hx hb d ht (fun h => kt h H locs ls hP hD hS hl) (fun h => kf h H locs ls hP hD hS hl)
theorem j_if_ge (C : jC X l D ct sa cc nL1 own R0) {x : Int32} {off : Int} (tgt : Nat) (d : decode cc pc = .ok (.ifCond .ge off, 3)) (ht : (pc : Int) + off = (tgt : Int)) (kt : 0 ≤ x → J X ws k n (tgt) lv st) (kf : ¬ 0 ≤ x → J X ws k n (pc + 3) lv st) : J X ws k n pc lv (.int x :: st) := by
  obtain ⟨p, l0, e, R, s, m, args, below, meth, c, D0, ct0, sa0, A, nL, Q⟩ := X
  obtain ⟨hx, hb, hml, ho, hts, hK, hA, hlk, hEX, rfl, rfl, rfl, rfl, rfl, rfl⟩ := C
  intro H locs ls hP hD hS hl
  exact lv_if_ge hx hb d ht (fun h => kt h H locs ls hP hD hS hl) (fun h => kf h H locs ls hP hD hS hl)
theorem j_if_gt (C : jC X l D ct sa cc nL1 own R0) {x : Int32} {off : Int} (tgt : Nat) (d : decode cc pc = .ok (.ifCond .gt off, 3)) (ht : (pc : Int) + off = (tgt : Int)) (kt : 0 < x → J X ws k n (tgt) lv st) (kf : ¬ 0 < x → J X ws k n (pc + 3) lv st) : J X ws k n pc lv (.int x :: st) := by
  obtain ⟨p, l0, e, R, s, m, args, below, meth, c, D0, ct0, sa0, A, nL, Q⟩ := X
  obtain ⟨hx, hb, hml, ho, hts, hK, hA, hlk, hEX, rfl, rfl, rfl, rfl, rfl, rfl⟩ := C
  intro H locs ls hP hD hS hl
  exact lv_if_gt hx hb d ht (fun h => kt h H locs ls hP hD hS hl) (fun h => kf h H locs ls hP hD hS hl)
theorem j_if_le (C : jC X l D ct sa cc nL1 own R0) {x : Int32} {off : Int} (tgt : Nat) (d : decode cc pc = .ok (.ifCond .le off, 3)) (ht : (pc : Int) + off = (tgt : Int)) (kt : x ≤ 0 → J X ws k n (tgt) lv st) (kf : ¬ x ≤ 0 → J X ws k n (pc + 3) lv st) : J X ws k n pc lv (.int x :: st) := by
  obtain ⟨p, l0, e, R, s, m, args, below, meth, c, D0, ct0, sa0, A, nL, Q⟩ := X
  obtain ⟨hx, hb, hml, ho, hts, hK, hA, hlk, hEX, rfl, rfl, rfl, rfl, rfl, rfl⟩ := C
  intro H locs ls hP hD hS hl
  exact lv_if_le hx hb d ht (fun h => kt h H locs ls hP hD hS hl) (fun h => kf h H locs ls hP hD hS hl)
theorem j_icmp_eq (C : jC X l D ct sa cc nL1 own R0) {x y : Int32} {off : Int} (tgt : Nat) (d : decode cc pc = .ok (.if_icmp .eq off, 3)) (ht : (pc : Int) + off = (tgt : Int)) (kt : x = y → J X ws k n (tgt) lv st) (kf : ¬ x = y → J X ws k n (pc + 3) lv st) : J X ws k n pc lv (.int y :: .int x :: st) := by
  obtain ⟨p, l0, e, R, s, m, args, below, meth, c, D0, ct0, sa0, A, nL, Q⟩ := X
  obtain ⟨hx, hb, hml, ho, hts, hK, hA, hlk, hEX, rfl, rfl, rfl, rfl, rfl, rfl⟩ := C
  intro H locs ls hP hD hS hl
  exact lv_icmp_eq hx hb d ht (fun h => kt h H locs ls hP hD hS hl) (fun h => kf h H locs ls hP hD hS hl)
theorem j_icmp_ne (C : jC X l D ct sa cc nL1 own R0) {x y : Int32} {off : Int} (tgt : Nat) (d : decode cc pc = .ok (.if_icmp .ne off, 3)) (ht : (pc : Int) + off = (tgt : Int)) (kt : ¬ x = y → J X ws k n (tgt) lv st) (kf : x = y → J X ws k n (pc + 3) lv st) : J X ws k n pc lv (.int y :: .int x :: st) := by
  obtain ⟨p, l0, e, R, s, m, args, below, meth, c, D0, ct0, sa0, A, nL, Q⟩ := X
  obtain ⟨hx, hb, hml, ho, hts, hK, hA, hlk, hEX, rfl, rfl, rfl, rfl, rfl, rfl⟩ := C
  intro H locs ls hP hD hS hl
  exact lv_icmp_ne hx hb d ht (fun h => kt h H locs ls hP hD hS hl) (fun h => kf h H locs ls hP hD hS hl)
theorem j_icmp_lt (C : jC X l D ct sa cc nL1 own R0) {x y : Int32} {off : Int} (tgt : Nat) (d : decode cc pc = .ok (.if_icmp .lt off, 3)) (ht : (pc : Int) + off = (tgt : Int)) (kt : x < y → J X ws k n (tgt) lv st) (kf : ¬ x < y → J X ws k n (pc + 3) lv st) : J X ws k n pc lv (.int y :: .int x :: st) := by
  obtain ⟨p, l0, e, R, s, m, args, below, meth, c, D0, ct0, sa0, A, nL, Q⟩ := X
  obtain ⟨hx, hb, hml, ho, hts, hK, hA, hlk, hEX, rfl, rfl, rfl, rfl, rfl, rfl⟩ := C
  intro H locs ls hP hD hS hl
  exact lv_icmp_lt hx hb d ht (fun h => kt h H locs ls hP hD hS hl) (fun h => kf h H locs ls hP hD hS hl)
theorem j_icmp_ge (C : jC X l D ct sa cc nL1 own R0) {x y : Int32} {off : Int} (tgt : Nat) (d : decode cc pc = .ok (.if_icmp .ge off, 3)) (ht : (pc : Int) + off = (tgt : Int)) (kt : y ≤ x → J X ws k n (tgt) lv st) (kf : ¬ y ≤ x → J X ws k n (pc + 3) lv st) : J X ws k n pc lv (.int y :: .int x :: st) := by
  obtain ⟨p, l0, e, R, s, m, args, below, meth, c, D0, ct0, sa0, A, nL, Q⟩ := X
  obtain ⟨hx, hb, hml, ho, hts, hK, hA, hlk, hEX, rfl, rfl, rfl, rfl, rfl, rfl⟩ := C
  intro H locs ls hP hD hS hl
  exact lv_icmp_ge hx hb d ht (fun h => kt h H locs ls hP hD hS hl) (fun h => kf h H locs ls hP hD hS hl)
theorem j_icmp_gt (C : jC X l D ct sa cc nL1 own R0) {x y : Int32} {off : Int} (tgt : Nat) (d : decode cc pc = .ok (.if_icmp .gt off, 3)) (ht : (pc : Int) + off = (tgt : Int)) (kt : y < x → J X ws k n (tgt) lv st) (kf : ¬ y < x → J X ws k n (pc + 3) lv st) : J X ws k n pc lv (.int y :: .int x :: st) := by
  obtain ⟨p, l0, e, R, s, m, args, below, meth, c, D0, ct0, sa0, A, nL, Q⟩ := X
  obtain ⟨hx, hb, hml, ho, hts, hK, hA, hlk, hEX, rfl, rfl, rfl, rfl, rfl, rfl⟩ := C
  intro H locs ls hP hD hS hl
  exact lv_icmp_gt hx hb d ht (fun h => kt h H locs ls hP hD hS hl) (fun h => kf h H locs ls hP hD hS hl)
theorem j_icmp_le (C : jC X l D ct sa cc nL1 own R0) {x y : Int32} {off : Int} (tgt : Nat) (d : decode cc pc = .ok (.if_icmp .le off, 3)) (ht : (pc : Int) + off = (tgt : Int)) (kt : x ≤ y → J X ws k n (tgt) lv st) (kf : ¬ x ≤ y → J X ws k n (pc + 3) lv st) : J X ws k n pc lv (.int y :: .int x :: st) := by
  obtain ⟨p, l0, e, R, s, m, args, below, meth, c, D0, ct0, sa0, A, nL, Q⟩ := X
  obtain ⟨hx, hb, hml, ho, hts, hK, hA, hlk, hEX, rfl, rfl, rfl, rfl, rfl, rfl⟩ := C
  intro H locs ls hP hD hS hl
  exact lv_icmp_le hx hb d ht (fun h => kt h H locs ls hP hD hS hl) (fun h => kf h H locs ls hP hD hS hl)
theorem j_goto (C : jC X l D ct sa cc nL1 own R0) {off : Int} (tgt : Nat) (d : decode cc pc = .ok (.goto off, 3)) (ht : (pc : Int) + off = (tgt : Int)) (kk : J X ws k n (tgt) lv st) : J X ws k n pc lv st := by
  obtain ⟨p, l0, e, R, s, m, args, below, meth, c, D0, ct0, sa0, A, nL, Q⟩ := X
  obtain ⟨hx, hb, hml, ho, hts, hK, hA, hlk, hEX, rfl, rfl, rfl, rfl, rfl, rfl⟩ := C
  intro H locs ls hP hD hS hl
  exact lv_goto hx hb d ht (kk H locs ls hP hD hS hl)
theorem j_get (C : jC X l D ct sa cc nL1 own R0) {a ci N index : Nat} {Cn ref : String} {T : u_T} {fs : List Value} {v : Value} (hin : ∀ w ∈ u_ws Cn T N, w ∈ GW) (hc : vwCl[ci]? = some (Cn, T, N)) (q0 : Nat) (he : ws[q0]? = some (a, .inr (ci, fs))) (z : Nat) (hz : z < N) (hl1 : Cond.fieldLink own index ref (T z).2.1 (T z).2.2.1 ∈ GW) (hsame : (T z).1 = ref) (hv : fs[z]? = some v) (d : decode cc pc = .ok (.getfield index, 3)) (kk : J X ws k n (pc + 3) lv (v :: st)) : J X ws k n pc lv (.ref a :: st) := by
  obtain ⟨p, l0, e, R, s, m, args, below, meth, c, D0, ct0, sa0, A, nL, Q⟩ := X
  obtain ⟨hx, hb, hml, ho, hts, hK, hA, hlk, hEX, rfl, rfl, rfl, rfl, rfl, rfl⟩ := C
  intro H locs ls hP hD hS hl
  exact va_get hx hb hts hin ho hK hP q0 he hc z hz (hts _ hl1) (fun _ h => hsame ▸ h) hv d (kk H locs ls hP hD hS hl)
theorem j_getN (C : jC X l D ct sa cc nL1 own R0) {a ci N index : Nat} {Cn ref host : String} {T : u_T} {fs : List Value} {v : Value} (hin : ∀ w ∈ u_ws Cn T N, w ∈ GW) (hc : vwCl[ci]? = some (Cn, T, N)) (q0 : Nat) (he : ws[q0]? = some (a, .inr (ci, fs))) (z : Nat) (hz : z < N) (hl1 : Cond.fieldLinkNest own index ref (T z).2.1 (T z).2.2.1 host ∈ NW) (hsame : (T z).1 = ref) (hv : fs[z]? = some v) (d : decode cc pc = .ok (.getfield index, 3)) (kk : J X ws k n (pc + 3) lv (v :: st)) : J X ws k n pc lv (.ref a :: st) := by
  obtain ⟨p, l0, e, R, s, m, args, below, meth, c, D0, ct0, sa0, A, nL, Q⟩ := X
  obtain ⟨hx, hb, hml, ho, hts, hK, hA, hlk, hEX, rfl, rfl, rfl, rfl, rfl, rfl⟩ := C
  intro H locs ls hP hD hS hl
  exact va_getN hx hb hts hin ho hK hP q0 he hc z hz (va_Nw.use rfl (hEX.1 _ hl1)) (fun _ h => hsame ▸ h) hv d (kk H locs ls hP hD hS hl)
theorem j_put (C : jC X l D ct sa cc nL1 own R0) {a ci N index : Nat} {Cn ref : String} {T : u_T} {fs : List Value} {v : Value} {ws2 : va_W} {ty : FieldType} (hin : ∀ w ∈ u_ws Cn T N, w ∈ GW) (ty0 : Nat → FieldType) (hty : ∀ k, k < N → parseFieldDescriptor (T k).2.2.1 = some (ty0 k)) (hnm : ∀ a, a < N → ∀ b, b < N → a ≠ b → (T a).2.1 ≠ (T b).2.1) (hc : vwCl[ci]? = some (Cn, T, N)) (q0 : Nat) (he : ws[q0]? = some (a, .inr (ci, fs))) (z : Nat) (hz : z < N) (hl1 : Cond.fieldLink own index ref (T z).2.1 (T z).2.2.1 ∈ GW) (hsame : (T z).1 = ref) (hfin : (T z).2.2.2 = false) (hd : parseFieldDescriptor (T z).2.2.1 = some ty) (hnr : narrow ty v = v) (hfit : fits ty v = true) (hlt : z < fs.length) (hw : ws.set q0 (a, .inr (ci, fs.set z v)) = ws2) (d : decode cc pc = .ok (.putfield index, 3)) (kk : J X ws2 k n (pc + 3) lv st) : J X ws k n pc lv (v :: .ref a :: st) := by
  obtain ⟨p, l0, e, R, s, m, args, below, meth, c, D0, ct0, sa0, A, nL, Q⟩ := X
  obtain ⟨hx, hb, hml, ho, hts, hK, hA, hlk, hEX, rfl, rfl, rfl, rfl, rfl, rfl⟩ := C
  intro H locs ls hP hD hS hl
  exact va_put hx hb hts hin ty0 hty hnm ho hK hP hD hS q0 he hc z hz (hts _ hl1) (fun _ h => hsame ▸ h) hfin hd hnr hfit hlt d (fun H1 locs1 hP1 hD1 hS1 => kk H1 locs1 ls (hw ▸ hP1) (hw ▸ hD1) hS1 hl)
theorem j_putN (C : jC X l D ct sa cc nL1 own R0) {a ci N index : Nat} {Cn ref host : String} {T : u_T} {fs : List Value} {v : Value} {ws2 : va_W} {ty : FieldType} (hin : ∀ w ∈ u_ws Cn T N, w ∈ GW) (ty0 : Nat → FieldType) (hty : ∀ k, k < N → parseFieldDescriptor (T k).2.2.1 = some (ty0 k)) (hnm : ∀ a, a < N → ∀ b, b < N → a ≠ b → (T a).2.1 ≠ (T b).2.1) (hc : vwCl[ci]? = some (Cn, T, N)) (q0 : Nat) (he : ws[q0]? = some (a, .inr (ci, fs))) (z : Nat) (hz : z < N) (hl1 : Cond.fieldLinkNest own index ref (T z).2.1 (T z).2.2.1 host ∈ NW) (hsame : (T z).1 = ref) (hfin : (T z).2.2.2 = false) (hd : parseFieldDescriptor (T z).2.2.1 = some ty) (hnr : narrow ty v = v) (hfit : fits ty v = true) (hlt : z < fs.length) (hw : ws.set q0 (a, .inr (ci, fs.set z v)) = ws2) (d : decode cc pc = .ok (.putfield index, 3)) (kk : J X ws2 k n (pc + 3) lv st) : J X ws k n pc lv (v :: .ref a :: st) := by
  obtain ⟨p, l0, e, R, s, m, args, below, meth, c, D0, ct0, sa0, A, nL, Q⟩ := X
  obtain ⟨hx, hb, hml, ho, hts, hK, hA, hlk, hEX, rfl, rfl, rfl, rfl, rfl, rfl⟩ := C
  intro H locs ls hP hD hS hl
  exact va_putN hx hb hts hin ty0 hty hnm ho hK hP hD hS q0 he hc z hz (va_Nw.use rfl (hEX.1 _ hl1)) (fun _ h => hsame ▸ h) hfin hd hnr hfit hlt d (fun H1 locs1 hP1 hD1 hS1 => kk H1 locs1 ls (hw ▸ hP1) (hw ▸ hD1) hS1 hl)
theorem j_iald (C : jC X l D ct sa cc nL1 own R0) {a N : Nat} {f : Nat → Int32} {i : Int32} (q0 : Nat) (ha : ws[q0]? = some (a, .inl (ct 0, N, .inl f))) (j : Nat) (hi : i = nI j) (hj : j < N) (hN : N < 2 ^ 31) (d : decode cc pc = .ok (.iaload, 1)) (kk : J X ws k n (pc + 1) lv (.int (f j) :: st)) : J X ws k n pc lv (.int i :: .ref a :: st) := by
  obtain ⟨p, l0, e, R, s, m, args, below, meth, c, D0, ct0, sa0, A, nL, Q⟩ := X
  obtain ⟨hx, hb, hml, ho, hts, hK, hA, hlk, hEX, rfl, rfl, rfl, rfl, rfl, rfl⟩ := C
  intro H locs ls hP hD hS hl
  exact va_iald hx hb hK hP q0 0 ha rfl (i := i) (by rw [hi]; exact vp_in_nI hj hN) d (by rw [hi, nI_clamp (Nat.lt_trans hj hN)]; exact kk H locs ls hP hD hS hl)
theorem j_iast (C : jC X l D ct sa cc nL1 own R0) {a N : Nat} {f : Nat → Int32} {i x : Int32} {ws2 : va_W} (q0 : Nat) (ha : ws[q0]? = some (a, .inl (ct 0, N, .inl f))) (j : Nat) (hi : i = nI j) (hj : j < N) (hN : N < 2 ^ 31) (hw : ws.set q0 (a, .inl (ct 0, N, .inl (upd f j x))) = ws2) (d : decode cc pc = .ok (.iastore, 1)) (kk : J X ws2 k n (pc + 1) lv st) : J X ws k n pc lv (.int x :: .int i :: .ref a :: st) := by
  obtain ⟨p, l0, e, R, s, m, args, below, meth, c, D0, ct0, sa0, A, nL, Q⟩ := X
  obtain ⟨hx, hb, hml, ho, hts, hK, hA, hlk, hEX, rfl, rfl, rfl, rfl, rfl, rfl⟩ := C
  intro H locs ls hP hD hS hl
  exact va_iast hx hb hK hP hD hS q0 0 ha rfl (i := i) (by rw [hi]; exact vp_in_nI hj hN) d (fun H1 locs1 hP1 hD1 hS1 => by rw [hi, nI_clamp (Nat.lt_trans hj hN), hw] at hP1 hD1; exact kk H1 locs1 ls hP1 hD1 hS1 hl)
theorem j_alen (C : jC X l D ct sa cc nL1 own R0) {a : Nat} {x : vp_A} {v : Int32} {cA : ClassId} {ty : FieldType} (q0 t0 : Nat) (ha : ws[q0]? = some (a, .inl (cA, x))) (ht : (TY ct)[t0]? = some (cA, ty)) (hv : Int32.ofNat x.1 = v) (d : decode cc pc = .ok (.arraylength, 1)) (kk : J X ws k n (pc + 1) lv (.int v :: st)) : J X ws k n pc lv (.ref a :: st) := by
  obtain ⟨p, l0, e, R, s, m, args, below, meth, c, D0, ct0, sa0, A, nL, Q⟩ := X
  obtain ⟨hx, hb, hml, ho, hts, hK, hA, hlk, hEX, rfl, rfl, rfl, rfl, rfl, rfl⟩ := C
  intro H locs ls hP hD hS hl
  exact va_alen hx hb hK hP q0 t0 ha ht hv d (kk H locs ls hP hD hS hl)
theorem j_aldq (C : jC X l D ct sa cc nL1 own R0) {a N : Nat} {Cn : String} {cA : ClassId} {f : Nat → Option Nat} {i : Int32} {b : Nat} (q0 t0 : Nat) (ha : ws[q0]? = some (a, .inl (cA, N, .inr (.inr (.inr (.inr f)))))) (ht : (TY ct)[t0]? = some (cA, .object Cn)) (j : Nat) (hi : i = nI j) (hj : j < N) (hN : N < 2 ^ 31) (hb2 : f j = some b) (d : decode cc pc = .ok (.aaload, 1)) (kk : J X ws k n (pc + 1) lv (.ref b :: st)) : J X ws k n pc lv (.int i :: .ref a :: st) := by
  obtain ⟨p, l0, e, R, s, m, args, below, meth, c, D0, ct0, sa0, A, nL, Q⟩ := X
  obtain ⟨hx, hb, hml, ho, hts, hK, hA, hlk, hEX, rfl, rfl, rfl, rfl, rfl, rfl⟩ := C
  intro H locs ls hP hD hS hl
  exact va_aldq hx hb hK hP q0 t0 ha ht (i := i) (by rw [hi]; exact vp_in_nI hj hN) d (by rw [hi, nI_clamp (Nat.lt_trans hj hN), hb2]; exact kk H locs ls hP hD hS hl)
theorem j_ishr (C : jC X l D ct sa cc nL1 own R0) {x y : Int32} (d : decode cc pc = .ok (.ishr, 1)) (kk : ∀ z : Int32, J X ws k n (pc + 1) lv (.int z :: st)) : J X ws k n pc lv (.int y :: .int x :: st) := by
  obtain ⟨p, l0, e, R, s, m, args, below, meth, c, D0, ct0, sa0, A, nL, Q⟩ := X
  obtain ⟨hx, hb, hml, ho, hts, hK, hA, hlk, hEX, rfl, rfl, rfl, rfl, rfl, rfl⟩ := C
  intro H locs ls hP hD hS hl
  exact lv_ishr hx hb d (kk _ H locs ls hP hD hS hl)
theorem j_ldc (C : jC X l D ct sa cc nL1 own R0) {index : Nat} {v : Int32} (w : Cond.constant own index v ∈ GW) (d : decode cc pc = .ok (.ldc index, 2)) (kk : J X ws k n (pc + 2) lv (.int v :: st)) : J X ws k n pc lv st := by
  obtain ⟨p, l0, e, R, s, m, args, below, meth, c, D0, ct0, sa0, A, nL, Q⟩ := X
  obtain ⟨hx, hb, hml, ho, hts, hK, hA, hlk, hEX, rfl, rfl, rfl, rfl, rfl, rfl⟩ := C
  intro H locs ls hP hD hS hl
  exact lv_ldc hx hb ho (hts _ w) d (kk H locs ls hP hD hS hl)
theorem j_ifnn (C : jC X l D ct sa cc nL1 own R0) {x : Nat} {off : Int} (tgt : Nat) (d : decode cc pc = .ok (.ifnonnull off, 3)) (ht : (pc : Int) + off = (tgt : Int)) (kk : J X ws k n (tgt) lv st) : J X ws k n pc lv (.ref x :: st) := by
  obtain ⟨p, l0, e, R, s, m, args, below, meth, c, D0, ct0, sa0, A, nL, Q⟩ := X
  obtain ⟨hx, hb, hml, ho, hts, hK, hA, hlk, hEX, rfl, rfl, rfl, rfl, rfl, rfl⟩ := C
  intro H locs ls hP hD hS hl
  exact lv_ifnonnull hx hb d ht (kk H locs ls hP hD hS hl)
theorem j_scd (C : jC X l D ct sa cc nL1 own R0) {i : Int32} (j : Nat) (hi : i = nI j) (hj : j < scL sa) (d : decode cc pc = .ok (.iaload, 1)) (kk : ∀ z : Int32, J X ws k n (pc + 1) lv (.int z :: st)) : J X ws k n pc lv (.int i :: .ref (scB sa) :: st) := by
  obtain ⟨p, l0, e, R, s, m, args, below, meth, c, D0, ct0, sa0, A, nL, Q⟩ := X
  obtain ⟨hx, hb, hml, ho, hts, hK, hA, hlk, hEX, rfl, rfl, rfl, rfl, rfl, rfl⟩ := C
  intro H locs ls hP hD hS hl
  exact va_sld hx hb hEX.2.2.2.2.2.2.2.2.2.2.1 hEX.2.2.2.2.2.2.2.2.2.2.2.1 hEX.2.2.2.2.2.2.2.2.2.2.2.2.1 hS (by rw [hi]; exact vp_in_nI hj (Nat.lt_of_le_of_lt hEX.2.2.2.2.2.2.2.2.2.2.2.2.2 (by decide))) d (kk _ H locs ls hP hD hS hl)
theorem j_sclen (C : jC X l D ct sa cc nL1 own R0) (d : decode cc pc = .ok (.arraylength, 1)) (kk : scL sa ≤ 260 → J X ws k n (pc + 1) lv (.int (nI (scL sa)) :: st)) : J X ws k n pc lv (.ref (scB sa) :: st) := by
  obtain ⟨p, l0, e, R, s, m, args, below, meth, c, D0, ct0, sa0, A, nL, Q⟩ := X
  obtain ⟨hx, hb, hml, ho, hts, hK, hA, hlk, hEX, rfl, rfl, rfl, rfl, rfl, rfl⟩ := C
  intro H locs ls hP hD hS hl
  exact va_slen hx hb hEX.2.2.2.2.2.2.2.2.2.2.1 hEX.2.2.2.2.2.2.2.2.2.2.2.1 hEX.2.2.2.2.2.2.2.2.2.2.2.2.1 hS d (kk hEX.2.2.2.2.2.2.2.2.2.2.2.2.2 H locs ls hP hD hS hl)
end JR
