/-! THE CLAIM OUT OF ONE WALK OF THE LAW'S BODY. Your part is whole_start (and what it stands on); all else here is the same for every law, but numbers. -/
def R_law : String := "LetterLocksLaw"
def lw_P (b : Addr) (xs : List Int32) (args : Array Value) (s : State) : Prop := args = #[.ref b] ∧ s.IntsAt b xs ∧ xs.length ≤ 260 ∧ (Jvm.Cond.and given_1 narrow_1).before args s = true
/-- what a walk over the start with the record d0 says of its end, said of the start itself -/
theorem lw_closed {s t : State} {o : Outcome} {d0 : Drawn} {L : List Loc} {k n : Nat} (hd0 : s.drawn.sameBut d0 lw_cs) (hv : ∃ v, o = .returned v) (hW : (s.setDrawn d0).WarmedH t.vm) (hs : (s.setDrawn d0).sameButNew ({ t with vm := s.vm } : State) L k n) : State.butDraws s t lw_cs (fun t1 => Framed s o t1 L k n) := by
  have h2 : t.drawn = d0 := congrArg State.drawn hs.1
  refine ⟨⟨hv, hW, State.sameButNew.setDrawn hs s.drawn⟩, ?_, by decide⟩
  rw [h2]
  exact hd0
def lw_Q (_ : Array Value) (s : State) (o : Outcome) (t : State) : Prop := o = .returned (some (.int 1)) ∧ State.butDraws s t lw_cs (fun t1 => Framed s o t1 [] 718837 6944958)
def lw_Z (below : List Frame) (a : Array Value) (s : State) : State → Prop := fun t => ∃ o, t.status = .running ∧ Ended t below o ∧ lw_Q a s o t
/-- the law's own end, with 1 on the stack, nothing written that was there before, its room as the claim has it; d0: the record of draws at this point (at the entry s.drawn: begin with 'refine W.base ?_' and 'have hd0 := Drawn.sameBut.refl s.drawn lw_cs') -/
theorem lw_ret {p : Program} {l : Launch} {e : Env} {s : State} {m : MethodId} {below : List Frame} {meth : Method} {c : Code} {b : Nat} {d0 : Drawn} (hd0 : s.drawn.sameBut d0 lw_cs) (hx : p.tables.exec = Jvm.exec) (hb : c.code = code) (hr : meth.sig.returnType = ret) (hlocks : meth.locks = false) {pc : Nat} {H : Heap} {ls : Array Slot} (hdg : decode code pc = .ok (.ireturn, 1)) : W p l e room_1 (s.setDrawn d0) m #[Value.ref b] below meth c H [] 718837 6944958 (lw_Z below #[Value.ref b] s) (F0 m pc ls [.int 1]) := by
  intro T hT X
  obtain ⟨fs, hret, hrun, hended, hW, hframe⟩ := X.leave (v := some (.int 1)) (hlocks := hlocks) (fun h => by rw [hr] at h; cases h)
  have hmeth' : T.vm.method? m = some meth := X.method'
  refine ⟨T.setFrames fs, ?_, .returned (some (.int 1)), hrun, hended, rfl, lw_closed hd0 ⟨_, rfl⟩ hW hframe⟩
  jvm_step X.here [X.here.top, hx, hb, hdg, hmeth', hr, ret, narrow_b1]
  (try refine ⟨rfl, ?_⟩); (try refine ⟨rfl, ?_⟩)
  first | (intro acts; rw [hret _ acts rfl rfl rfl]) | rw [hret _ _ rfl rfl rfl]
  exact Steps.refl _
/-- what holds at the law's entry: the machine, the code, the tables' words (any of lw_tbl by 'hts w (by decide +kernel)'), the script of L ints xs at the cell b, what the Statement gives of the start (any of its parts by flat_of_before) -/
def lw_At (p : Program) (s : State) (m : MethodId) (meth : Method) (c : Code) (b L : Nat) (xs : Nat → Int32) : Prop :=
  p.tables.exec = Jvm.exec ∧ c.code = code ∧ meth.sig.returnType = ret ∧ c.maxLocals = 27 ∧ s.vm.findClass R_law = some m.cls ∧ (∀ w ∈ lw_tbl, w.before #[Value.ref b] s = true) ∧ va_X b L xs s s.heap ∧ b < s.heap.size ∧ meth.locks = false ∧ (Jvm.Cond.and given_1 narrow_1).before #[Value.ref b] s = true
/-! the start: classes, array classes, texts, statics -/
theorem ar_int {args : Array Value} {s : State} (h : (Cond.arrayClass .int).before args s = true) : ∃ c, ArrOfT s c .int ∧ va_RA s c .int := by
  obtain ⟨c, k, comp, h1, h2, h3⟩ := Cond.arrayClass_spec h
  exact ⟨c, fun n z => ⟨(fun k h => by cases h), k, h2, comp, h3⟩, h1⟩
theorem ar_obj {args : Array Value} {s : State} {C : String} (h : (Cond.arrayOver (.object C)).before args s = true) : ∃ c, ArrOfT s c (.object C) ∧ va_RA s c (.object C) := by
  obtain ⟨comp, c, k, h1, -, h3, h4, h5⟩ := Cond.arrayOver_spec h
  exact ⟨c, fun n z => ⟨(fun k h => by cases h), k, h3, comp, h4⟩, k, comp, h3, h4, h1, h5⟩
theorem ar_arr {args : Array Value} {s : State} {ty : FieldType} (h : (Cond.arrayOver (.array ty)).before args s = true) : ∃ c, ArrOfT s c (.array ty) ∧ va_RA s c (.array ty) := by
  have h0 : (Cond.arrayOver (.array ty)).holds #[] s none s [] = true := h
  simp only [Cond.holds, Cond.value, beq_iff_eq] at h0
  cases hc : s.vm.findClass (FieldType.array ty).toString with
  | none => simp [hc] at h0
  | some comp =>
    simp only [hc, Option.bind_some, Option.bind_eq_some_iff, Option.map_eq_some_iff] at h0
    obtain ⟨c, hi, k, hk, hb⟩ := h0
    cases hkd : k.kind with
    | array cm t2 =>
      simp only [hkd, Bool.and_eq_true, decide_eq_true_eq] at hb
      obtain ⟨rfl, hf⟩ := hb
      exact ⟨c, fun n z => ⟨(fun k h => by cases h), k, hk, cm, hkd⟩, hf⟩
    | _ => simp [hkd] at hb
theorem i32_n (x : Int32) : Int32.ofNat x.toBitVec.toNat = x := by
  apply Int32.toBitVec_inj.mp
  simp
def saS (s : State) (t0 b L : Nat) (xs : Nat → Int32) : Nat → Nat := fun k => if k = 0 then t0 else if k = 1 then b else if k = 2 then L else if 1000 ≤ k then (xs (k - 1000)).toBitVec.toNat else match (Term.string "LetterLocks" k).eval #[] s none [] s with
  | some (.ref a) => a
  | _ => 0
theorem sa_x {s : State} {t0 b L : Nat} {xs : Nat → Int32} : scX (saS s t0 b L xs) = xs := by
  funext j
  show Int32.ofNat (if 1000 + j = 0 then t0 else if 1000 + j = 1 then b else if 1000 + j = 2 then L else if 1000 ≤ 1000 + j then (xs (1000 + j - 1000)).toBitVec.toNat else _) = xs j
  rw [if_neg (by omega), if_neg (by omega), if_neg (by omega), if_pos (by omega), show 1000 + j - 1000 = j by omega]
  exact i32_n _
theorem st_one {args : Array Value} {s : State} {t0 b L k : Nat} {xs : Nat → Int32} {tx : String} {sa : Nat → Nat} (hsa : sa = saS s t0 b L xs) (hk : 2 < k ∧ k < 1000) (h1 : (Cond.stringRef "LetterLocks" k tx).before args s = true) (h2 : (Cond.exactly (Term.string "LetterLocks" k) "java/lang/String").before args s = true) : vk_R "LetterLocks" k tx (sa k) s := by
  obtain ⟨a, c, cell, kk, e, -⟩ := Cond.exactly_spec h2
  have e2 : (Term.string "LetterLocks" k).eval #[] s none [] s = some (.ref a) := e
  refine vk_R.of (A := #[]) h1 ?_
  rw [hsa, e2]
  show some (Value.ref a) = some (.ref (if k = 0 then t0 else if k = 1 then b else if k = 2 then L else if 1000 ≤ k then _ else _))
  rw [if_neg (by omega), if_neg (by omega), if_neg (by omega), if_neg (by omega), e2]
set_option maxHeartbeats 800000 in
set_option maxRecDepth 100000 in
theorem whole_start {p : Program} {e : Env} {s : State} {m : MethodId} {below : List Frame} {meth : Method} {c : Code} (l : Launch) (hflags : l.flags = flags0) {b L : Nat} {xs : Nat → Int32} (hL : L ≤ 260) (C0 : lw_At p s m meth c b L xs) : W p l e room_1 s m #[Value.ref b] below meth c s.heap [] 0 0 (lw_Z below #[Value.ref b] s) (entryFrame m ([Value.ref b] : List Value).toArray 27) := by
  obtain ⟨hx, hb, hr, hml, hown, hts, hX, hbl, hlocks, hgv⟩ := id C0
  have hg := flat_of_before _ hgv
  have htr : l.stackTraces = false := (by unfold Launch.stackTraces; rw [hflags]; decide +kernel)
  have hA : ∀ q : Nat, s.heap.size ≤ q → (fun q : Nat => s.heap.size ≤ q) q := fun _ h => h
  have hnA : ∀ q : Nat, q < s.heap.size → ¬ (fun q : Nat => s.heap.size ≤ q) q := fun _ h => Nat.not_le.mpr h
  have hG : ∀ w ∈ GW, w.before #[Value.ref b] s = true := fun w hw => hts w (List.mem_filter.mp hw).1
  obtain ⟨c0, iS0, hKn0⟩ := u_known (C := RJx4a65c) (T := TJx4a65c) (N := 3) (n := 3) hG iJx4a65c (hG _ gw51)
  obtain ⟨c1, iS1, hKn1⟩ := u_known (C := RX0) (T := TX0) (N := 6) (n := 6) hG iX0 (hG _ gw110)
  obtain ⟨c2, iS2, hKn2⟩ := u_known (C := RX1) (T := TX1) (N := 3) (n := 3) hG iX1 (hG _ gw78)
  obtain ⟨c3, iS3, hKn3⟩ := u_known (C := RX2) (T := TX2) (N := 1) (n := 1) hG iX2 (hG _ gw97)
  obtain ⟨c4, iS4, hKn4⟩ := u_known (C := RX3) (T := TX3) (N := 6) (n := 6) hG iX3 (hG _ gw43)
  obtain ⟨c5, iS5, hKn5⟩ := u_known (C := RX4) (T := TX4) (N := 6) (n := 6) hG iX4 (hG _ gw489)
  obtain ⟨c6, iS6, hKn6⟩ := u_known (C := RX5) (T := TX5) (N := 4) (n := 4) hG iX5 (hG _ gw647)
  obtain ⟨dC, dI, hKc⟩ : ∃ (dC : Nat → ClassId) (dI : Nat → Nat → Nat), ∀ (k : Nat) (q : vw_C), vwCl[k]? = some q → u_Kn s q.1 q.2.1 q.2.2 (dC k) (dI k) := by
    refine ⟨fun k => if k = 0 then c0 else if k = 1 then c1 else if k = 2 then c2 else if k = 3 then c3 else if k = 4 then c4 else if k = 5 then c5 else c6, fun k => if k = 0 then iS0 else if k = 1 then iS1 else if k = 2 then iS2 else if k = 3 then iS3 else if k = 4 then iS4 else if k = 5 then iS5 else iS6, ?_⟩
    intro k q hq
    match k, hq with
    | 0, hq => cases hq; exact hKn0
    | 1, hq => cases hq; exact hKn1
    | 2, hq => cases hq; exact hKn2
    | 3, hq => cases hq; exact hKn3
    | 4, hq => cases hq; exact hKn4
    | 5, hq => cases hq; exact hKn5
    | 6, hq => cases hq; exact hKn6
    | k + 7, hq => simp [vwCl] at hq
  obtain ⟨t0, ha0⟩ := ar_int (hts _ (List.mem_of_getElem? (i := 108) (by decide +kernel)))
  obtain ⟨t1, ha1⟩ := ar_obj (C := "LetterLocks$Rack") (hts _ (List.mem_of_getElem? (i := 77) (by decide +kernel)))
  obtain ⟨t2, ha2⟩ := ar_obj (C := "java/lang/Object") (hts _ (List.mem_of_getElem? (i := 593) (by decide +kernel)))
  obtain ⟨t3, ha3⟩ := ar_arr (ty := .int) (hts _ (List.mem_of_getElem? (i := 103) (by decide +kernel)))
  obtain ⟨t4, ha4⟩ := ar_obj (C := "LetterLocksLaw$Lock") (hts _ (List.mem_of_getElem? (i := 488) (by decide +kernel)))
  have hK : va_K (dC, dI) vwCl (TY (fun i => if i = 0 then t0 else if i = 1 then t1 else if i = 2 then t2 else if i = 3 then t3 else t4)) s := by
    refine ⟨hKc, fun k q hq => ?_⟩
    match k, hq with
    | 0, hq => cases hq; exact ha0
    | 1, hq => cases hq; exact ha1
    | 2, hq => cases hq; exact ha2
    | 3, hq => cases hq; exact ha3
    | 4, hq => cases hq; exact ha4
    | k + 5, hq => simp at hq
  obtain ⟨e0, hev, hT0⟩ := va_Tof (f := fun _ => .null) (N := 0) (A := fun q : Nat => s.heap.size ≤ q) (by decide) (hg (Cond.arrayOf (Term.static "java/util/ArrayList" "DEFAULTCAPACITY_EMPTY_ELEMENTDATA" "[Ljava/lang/Object;") (.object "java/lang/Object")) (by decide +kernel)) (va_eqt (hg (Cond.eq (Term.length (Term.static "java/util/ArrayList" "DEFAULTCAPACITY_EMPTY_ELEMENTDATA" "[Ljava/lang/Object;")) (Term.int 0)) (by decide +kernel))) (fun j hj => absurd hj (Nat.not_lt_zero j)) hnA
  obtain ⟨sa, hsa⟩ : ∃ sa, sa = saS s e0 b L xs := ⟨_, rfl⟩
  have hs0 : sa 0 = e0 := by rw [hsa]; rfl
  have hs1 : scB sa = b := by rw [hsa]; rfl
  have hs2 : scL sa = L := by rw [hsa]; rfl
  have hs3 : scX sa = xs := by rw [hsa]; exact sa_x
  have hEX : EX sa (fun q : Nat => s.heap.size ≤ q) s s.heap := by
    refine ⟨fun w hw => va_Nw.of (nw_tab (List.mem_filter.mp hw).2) (hts w (List.mem_filter.mp hw).1), ?_, va_AO.of (hts _ (List.mem_of_getElem? (i := 77) (by decide +kernel))), (show va_AOA .int s from hts (Cond.arrayOver (.array .int)) ((List.mem_of_getElem? (i := 103) (by decide +kernel)))), va_AO.of (hts _ (List.mem_of_getElem? (i := 593) (by decide +kernel))), vx_Zqof (hts _ (List.mem_of_getElem? (i := 196) (by decide +kernel))) (hts _ (List.mem_of_getElem? (i := 30) (by decide +kernel))) (hg (Cond.isRef (Term.static "java/lang/Throwable" "UNASSIGNED_STACK" "[Ljava/lang/StackTraceElement;")) (by decide +kernel)) hnA, vx_Zqof (hts _ (List.mem_of_getElem? (i := 198) (by decide +kernel))) (hts _ (List.mem_of_getElem? (i := 30) (by decide +kernel))) (hg (Cond.isRef (Term.static "java/lang/Throwable" "SUPPRESSED_SENTINEL" "Ljava/util/List;")) (by decide +kernel)) hnA, ?_, ?_, va_AO.of (hts _ (List.mem_of_getElem? (i := 488) (by decide +kernel))), ?_⟩
    · exact List.forall_mem_cons.mpr ⟨st_one hsa (by decide) (hts _ (List.mem_of_getElem? (i := 210) (by decide +kernel))) (hg (Cond.exactly (Term.string "LetterLocks" 226) "java/lang/String") (by decide +kernel)), List.forall_mem_cons.mpr ⟨st_one hsa (by decide) (hts _ (List.mem_of_getElem? (i := 375) (by decide +kernel))) (hg (Cond.exactly (Term.string "LetterLocks" 176) "java/lang/String") (by decide +kernel)), List.forall_mem_cons.mpr ⟨st_one hsa (by decide) (hts _ (List.mem_of_getElem? (i := 338) (by decide +kernel))) (hg (Cond.exactly (Term.string "LetterLocks" 139) "java/lang/String") (by decide +kernel)), List.forall_mem_cons.mpr ⟨st_one hsa (by decide) (hts _ (List.mem_of_getElem? (i := 320) (by decide +kernel))) (hg (Cond.exactly (Term.string "LetterLocks" 153) "java/lang/String") (by decide +kernel)), List.forall_mem_cons.mpr ⟨st_one hsa (by decide) (hts _ (List.mem_of_getElem? (i := 257) (by decide +kernel))) (hg (Cond.exactly (Term.string "LetterLocks" 231) "java/lang/String") (by decide +kernel)), List.forall_mem_cons.mpr ⟨st_one hsa (by decide) (hts _ (List.mem_of_getElem? (i := 270) (by decide +kernel))) (hg (Cond.exactly (Term.string "LetterLocks" 77) "java/lang/String") (by decide +kernel)), List.forall_mem_cons.mpr ⟨st_one hsa (by decide) (hts _ (List.mem_of_getElem? (i := 383) (by decide +kernel))) (hg (Cond.exactly (Term.string "LetterLocks" 233) "java/lang/String") (by decide +kernel)), List.forall_mem_cons.mpr ⟨st_one hsa (by decide) (hts _ (List.mem_of_getElem? (i := 539) (by decide +kernel))) (hg (Cond.exactly (Term.string "LetterLocks" 55) "java/lang/String") (by decide +kernel)), List.forall_mem_cons.mpr ⟨st_one hsa (by decide) (hts _ (List.mem_of_getElem? (i := 612) (by decide +kernel))) (hg (Cond.exactly (Term.string "LetterLocks" 237) "java/lang/String") (by decide +kernel)), List.forall_mem_cons.mpr ⟨st_one hsa (by decide) (hts _ (List.mem_of_getElem? (i := 626) (by decide +kernel))) (hg (Cond.exactly (Term.string "LetterLocks" 116) "java/lang/String") (by decide +kernel)), List.forall_mem_cons.mpr ⟨st_one hsa (by decide) (hts _ (List.mem_of_getElem? (i := 627) (by decide +kernel))) (hg (Cond.exactly (Term.string "LetterLocks" 121) "java/lang/String") (by decide +kernel)), List.forall_mem_cons.mpr ⟨st_one hsa (by decide) (hts _ (List.mem_of_getElem? (i := 632) (by decide +kernel))) (hg (Cond.exactly (Term.string "LetterLocks" 126) "java/lang/String") (by decide +kernel)), List.forall_mem_cons.mpr ⟨st_one hsa (by decide) (hts _ (List.mem_of_getElem? (i := 642) (by decide +kernel))) (hg (Cond.exactly (Term.string "LetterLocks" 148) "java/lang/String") (by decide +kernel)), List.forall_mem_cons.mpr ⟨st_one hsa (by decide) (hts _ (List.mem_of_getElem? (i := 417) (by decide +kernel))) (hg (Cond.exactly (Term.string "LetterLocks" 235) "java/lang/String") (by decide +kernel)), fun _ h => absurd h List.not_mem_nil⟩⟩⟩⟩⟩⟩⟩⟩⟩⟩⟩⟩⟩⟩
    · rw [hs0]
      exact va_Zof (hts _ (List.mem_of_getElem? (i := 63) (by decide +kernel))) (hts _ (List.mem_of_getElem? (i := 24) (by decide +kernel))) hev hnA
    · rw [hs0]
      exact hT0
    · show va_X (scB sa) (scL sa) (scX sa) s s.heap ∧ scB sa < s.heap.size ∧ ¬ (fun q : Nat => s.heap.size ≤ q) (scB sa) ∧ scL sa ≤ 260
      rw [hs1, hs2, hs3]
      exact ⟨hX, hbl, hnA b hbl, hL⟩
  have hl := lv_entry ([.ref b]) (n := 27) (Nat.le_of_ble_eq_true rfl)
  have J0 := law_body (X := (p, l, e, room_1, s, m, #[Value.ref b], below, meth, c, (dC, dI), _, sa, (fun q : Nat => s.heap.size ≤ q), 27, lw_Z below #[Value.ref b] s)) htr ⟨hx, hb, hml, hown, hG, hK, hA, hlocks, hEX, rfl, rfl, rfl, rfl, rfl, rfl⟩ (fun w k n lv hk hn H locs ls hP hD hS hlv => by
    refine W.widen hk hn (va_forget (fun q hq => hS.2.2 q hq) ?_)
    exact W.base (lw_ret (Drawn.sameBut.refl s.drawn lw_cs) hx hb hr hlocks dL_law_820))
  rw [hs1] at J0
  rw [lg_entry_eq]
  exact J0 s.heap [] _ (fun k q h => by simp at h) ⟨fun i j p q h => by simp at h, fun k q h => by simp at h⟩ va_S.rf hl
set_option maxHeartbeats 4000000 in
theorem lw_walk (l : Launch) (hflags : l.flags = flags0) (b : Addr) (xs : List Int32) : MetFree l x (headSpec (Jvm.Cond.code x code maxLocals ret :: tables_1) room_1) (lw_P b xs) (fun _ _ _ _ _ => True) lw_Q := by
  refine MetFree.of_bodyS (code := code) (maxLocals := maxLocals) (ret := ret) (by decide) ?_ ?_
  · intro args s m h hn
    obtain ⟨meth, c, h1, h2, h3, h4, h5, h6, -, -⟩ := Cond.code_spec hn (atoms_spec (ws := Jvm.Cond.code x code maxLocals ret :: tables_1) h _ List.mem_cons_self)
    exact ⟨meth, c, h1, h2, h3, h4, h5, h6⟩
  · intro p e s m args below meth c s₁ B hml0 hP _
    obtain ⟨rfl, hx, hbd, hgv⟩ := hP
    obtain ⟨scr, harrAt, hlist, hof, hsmall⟩ := hx
    obtain ⟨hcb, hkn, -, -⟩ := State.arrayAt?_spec harrAt
    have hown : s.vm.findClass R_law = some m.cls := findClass_of_methodNamed B.named
    have hts0 : ∀ c ∈ (Jvm.Cond.code x code maxLocals ret :: tables_1), c.before #[Value.ref b] s = true := atoms_spec (ws := Jvm.Cond.code x code maxLocals ret :: tables_1) B.pre
    have hts : ∀ w ∈ lw_tbl, w.before #[Value.ref b] s = true := k2_hts_sels lw_privs (fun w hw => hts0 w (List.mem_cons_of_mem _ hw)) lw_privs_ok
    have hml : c.maxLocals = 27 := B.maxLocals_eq (hts0 _ List.mem_cons_self)
    have X₀ : Stand p l e room_1 s m #[Value.ref b] below meth c s₁ [] 0 0 := Stand.of_body B
    have hh0 : s₁.heap = s.heap := by rw [B.state]; rfl
    have hsz : scr.slots.size = xs.length := by rw [← Array.length_toList, hlist, List.length_map]
    have hval : ∀ j : Nat, j < xs.length → scr.slots[j]? = some (.int (xs.getD j 0)) := fun j hj => by
      rw [← Array.getElem?_toList, hlist]
      simp [hj]
    have hbl : b < s.heap.size := (Array.getElem?_eq_some_iff.mp hcb).1
    have hX : va_X b xs.length (fun j => xs.getD j 0) s s.heap := ⟨scr, hcb, hof, hkn, hsz, hval⟩
    have K : W p l e room_1 s m #[Value.ref b] below meth c s₁.heap [] 0 0 (lw_Z below #[Value.ref b] s) (entryFrame m ([Value.ref b] : List Value).toArray 27) := by
      rw [hh0]
      exact whole_start l hflags hbd ⟨B.exec, B.bytes, B.returns, hml, hown, hts, hX, hbl, B.notSynchronized, hgv⟩
    obtain ⟨t, a1, o, b1, b2, b3⟩ := K s₁ rfl X₀
    exact ⟨t, o, a1, b1, b2, b3⟩
theorem lw_pre_spec {args : Array Value} {s : State} (h : (Jvm.Cond.and given_1 narrow_1).before args s = true) (hr : rest_1_c.before args s = true) : ∃ (b : Addr) (xs : List Int32), lw_P b xs args s := by
  have hs := flat_of_before _ h
  have hq := flat_of_before _ hr
  have hc : (Cond.count 1).before args s = true := hs _ (by decide +kernel)
  have harr : (Cond.arrayOf (.arg 0) .int).before args s = true := hs _ (by decide +kernel)
  have hle : (Cond.le (.length (.arg 0)) (.int 260)).before args s = true := hs _ (by decide +kernel)
  have hlen : (Cond.isInt (.length (.arg 0))).before args s = true := hq _ (by decide +kernel)
  have hall : (Cond.all (.arg 0) (.isInt (.elem (.arg 0) (.index 0)))).before args s = true := hq _ (by decide +kernel)
  obtain ⟨b, xs, hb, hx⟩ := State.ints_of_pre rfl harr hlen hall
  have hsm : xs.length < 2 ^ 31 := hx.choose_spec.2.2.2
  have hev : (Term.length (.arg 0)).eval args s none [] s = some (.int xs.length.toInt32) := hx.length_eval hb
  have hv := Cond.le_ints hev (show (Term.int 260).eval args s none [] s = some (.int 260) from rfl)
  have hd : xs.length.toInt32 ≤ 260 := by
    simpa [Cond.before, Cond.holds, hv] using hle
  have hN : xs.length ≤ 260 := (Int32.ofNat_le_ofNat hsm (by decide)).mp (show Int32.ofNat xs.length ≤ Int32.ofNat 260 from hd)
  exact ⟨b, xs, Cond.one_arg hc (show args[0]? = some (.ref b) from hb), hx, hN, h⟩
theorem lw_comes (l : Launch) (hflags : l.flags = flags0) : Comes l x (Jvm.Cond.code x code maxLocals ret :: tables_1) room_1 (fun tb e args s => Calls_1 tb e args s ∧ rest_1 tb e args s ∧ Pre_1 tb e args s)
    (fun _ _ args s o t => lw_Q args s o t) := by
  intro p e ha hc hk s m args below hf hfit hheap happ hpre
  obtain ⟨b, xs, hP⟩ := lw_pre_spec hpre.2.2 hpre.2.1
  obtain ⟨k, o, h1, h2, h3, hQ⟩ := lw_walk l hflags b xs p e ha hc hk s m args below hf ((Spec.applies_iff_loose hf).mp happ).1 hP trivial
  exact ⟨k, o, h1, h2, h3, hQ⟩
theorem lw_frame {s t : State} {o : Outcome} {args : Array Value} (h : State.butDraws s t lw_cs (fun t1 => Framed s o t1 [] 718837 6944958)) :
    State.butDraws s t [Jvm.Choice.named "NaN.bits"] (fun t1 => Framed s o t1 (fieldLocs frame_1_writes args s ++ arrayLocs frame_1_arrays args s ++ staticLocs frame_1_statics s) 718837 6944958) := h
theorem lw_limb (L : Cond) (hL : ∀ (args : Array Value) (s t : State), L.after args s (.returned (some (.int 1))) t = true) :
    ArmFor flags0 classFile x code maxLocals ret World_1 tables_1 room_1 Calls_1 rest_1 Pre_1
      (fun tb e a s o t => postC L tb e a s o t ∧ State.butDraws s t [Jvm.Choice.named "NaN.bits"] (fun t1 => Framed s o t1 (fieldLocs frame_1_writes a s ++ arrayLocs frame_1_arrays a s ++ staticLocs frame_1_statics s) 718837 6944958)) := by
  intro l hflags _ _ p e ha hc hk s m args below hf hfit hheap happ hpre
  obtain ⟨k, o, h1, h2, h3, rfl, hF⟩ := lw_comes l hflags p e ha hc hk s m args below hf hfit hheap happ hpre
  exact ⟨k, _, h1, h2, h3, hL args s _, lw_frame hF⟩
theorem i_vc : Claimed_1_1 ∧ Claimed_1_2 := ⟨lw_limb limb_1_1 (fun args s t => by simp [limb_1_1, Cond.after, Cond.holds, Cond.value]), lw_limb limb_1_2 (fun args s t => Cond.after_iff.mpr (by
  first | (rw [show limb_1_2 = Cond.eq .result (.int 1) from rfl, Cond.eq_ints (x := 1) (y := 1) rfl rfl]; simp; done) | (simp [limb_1_2, Cond.value, Term.eval]; done)))⟩
