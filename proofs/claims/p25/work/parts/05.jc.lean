/-- one answer, one world -/
abbrev dK (r : Option Value) (w : va_W) : Option Value → va_W → Prop := fun r1 w1 => r1 = r ∧ w1 = w
section JD
variable {X : Ctx} {k n pc : Nat} {lv : List (Nat × Value)} {st : List Value} {w0 : va_W}
theorem dki {x : Int32} (h : J X w0 k n pc lv (.int x :: st)) : ∀ v w, dK (some (.int x)) w0 v w → J X w k n pc lv (v.toList ++ st) := fun v w q => by obtain ⟨rfl, rfl⟩ := q; exact h
theorem dkl {x : Int64} (h : J X w0 k n pc lv (.long x :: st)) : ∀ v w, dK (some (.long x)) w0 v w → J X w k n pc lv (v.toList ++ st) := fun v w q => by obtain ⟨rfl, rfl⟩ := q; exact h
theorem dkd {x : UInt64} (h : J X w0 k n pc lv (.double x :: st)) : ∀ v w, dK (some (.double x)) w0 v w → J X w k n pc lv (v.toList ++ st) := fun v w q => by obtain ⟨rfl, rfl⟩ := q; exact h
theorem dkr {x : Nat} (h : J X w0 k n pc lv (.ref x :: st)) : ∀ v w, dK (some (.ref x)) w0 v w → J X w k n pc lv (v.toList ++ st) := fun v w q => by obtain ⟨rfl, rfl⟩ := q; exact h
theorem dkv (h : J X w0 k n pc lv st) : ∀ v w, dK none w0 v w → J X w k n pc lv (v.toList ++ st) := fun v w q => by obtain ⟨rfl, rfl⟩ := q; exact h
end JD
/-- q thrown over this frame -/
def JT (X : Ctx) (ws : va_W) (k n pc : Nat) (lv : List (Nat × Value)) (E : String) : Prop :=
  match X with
  | (p, l0, e, R, s, m, args, below, meth, c, D0, ct0, sa0, A, nL, Q) =>
    ∀ (H : Heap) (locs : List Loc) (ls : Array Slot) (rest : List Value) (q : Addr) (ce : Cell), va_P D0 vwCl ws H → va_D A ws → va_S A s.heap H locs → lv_has ls nL lv → H[q]? = some ce → ce.vm = .none → s.vm.findClass E = some ce.cls → vx_W p l0 e R s m args below meth c H locs k n Q (F0 m pc ls rest) q
theorem jp_blind {D : va_G} {ct : Nat → ClassId} {sa : Nat → Nat} {sz : Nat} {ws : va_W} {av : List Value} : FrameBlind (va_Pc av (jPre D ct sa sz ws)) := fun a U g mk q => by
  obtain ⟨e, h1, h2, h3, h4, h5⟩ := q
  exact ⟨e, h1, h2, va_K.moved (u := U) (U := U.calling g mk a) (Vm.Alike.refl U.vm) h3, h4, h5.moved (U := U.calling g mk a) (State.WarmedH.refl U)⟩
theorem jp_pre {s : State} {A : Nat → Prop} {D : va_G} {ct : Nat → ClassId} {sa : Nat → Nat} {ws : va_W} {H : Heap} {locs : List Loc} (hK : va_K D vwCl (TY ct) s) (hA : ∀ q, s.heap.size ≤ q → A q) (hEX : EX sa A s s.heap) (hP : va_P D vwCl ws H) (hD : va_D A ws) (hS : va_S A s.heap H locs) :
    (∀ q, va_A ws H.size q → A q) ∧ ∀ U : State, U.heap = H → s.WarmedH U.vm → jPre D ct sa H.size ws U := by
  have hsub : ∀ q, va_A ws H.size q → A q := by
    intro q hq
    rcases hq with ⟨i, e, hi⟩ | hq
    · exact hD.2 i _ hi
    · exact hA q (Nat.le_trans hS.1 hq)
  refine ⟨hsub, fun U hU hW => ⟨by rw [hU], by rw [hU]; exact hP, va_K.moved hW.alike hK, hD.weaken (fun _ _ _ _ => trivial), ?_⟩⟩
  rw [hU]
  exact ((hEX.kept hS.2.1).narrow hsub).moved hW
section JC
variable {X : Ctx} {l : Launch} {D : va_G} {ct : Nat → ClassId} {sa : Nat → Nat} {cc : ByteArray} {nL1 : Nat} {own : String} {R0 : Room} {ws : va_W} {k n pc : Nat} {lv lv' : List (Nat × Value)} {st : List Value}
variable {ws0 : va_W} {K0 : Option Value → va_W → Prop} {KX0 : String → Prop} {mc0 ms0 : Nat} {rt0 : Option FieldType}

theorem j_ireturn (C : jC X l D ct sa cc nL1 own R0) {v : Int32} {ty : FieldType} (E : jE X ws0 K0 KX0 mc0 ms0 (some ty)) (hnr : narrow ty (.int v) = .int v) (d : decode cc pc = .ok (.ireturn, 1)) (hk : k ≤ mc0) (hn : n ≤ ms0) (h : K0 (some (.int v)) ws) : J X ws k n pc lv [.int v] := by
  obtain ⟨p, l0, e, R, s, m, args, below, meth, c, D0, ct0, sa0, A, nL, Q⟩ := X
  obtain ⟨hx, hb, hml, ho, hts, hK, hA, hlk, hEX, rfl, rfl, rfl, rfl, rfl, rfl⟩ := C
  obtain ⟨rfl, rfl, hr⟩ := E
  intro H locs ls hP hD hS hl
  refine W.widen hk hn (vx_ret ?_)
  exact W.zret hx hb hr hnr (fun t ht hW => ⟨⟨_, ws, rfl, h, by rw [ht]; exact hP, hD⟩, hS.F ht⟩) hS.2.2 d hlk
theorem j_lreturn (C : jC X l D ct sa cc nL1 own R0) {v : Int64} (E : jE X ws0 K0 KX0 mc0 ms0 (some .long)) (d : decode cc pc = .ok (.lreturn, 1)) (hk : k ≤ mc0) (hn : n ≤ ms0) (h : K0 (some (.long v)) ws) : J X ws k n pc lv [.long v] := by
  obtain ⟨p, l0, e, R, s, m, args, below, meth, c, D0, ct0, sa0, A, nL, Q⟩ := X
  obtain ⟨hx, hb, hml, ho, hts, hK, hA, hlk, hEX, rfl, rfl, rfl, rfl, rfl, rfl⟩ := C
  obtain ⟨rfl, rfl, hr⟩ := E
  intro H locs ls hP hD hS hl
  refine W.widen hk hn (vx_ret ?_)
  exact W.lret hx hb hr (fun t ht hW => ⟨⟨_, ws, rfl, h, by rw [ht]; exact hP, hD⟩, hS.F ht⟩) hS.2.2 d hlk
theorem j_dreturn (C : jC X l D ct sa cc nL1 own R0) {v : UInt64} (E : jE X ws0 K0 KX0 mc0 ms0 (some .double)) (d : decode cc pc = .ok (.dreturn, 1)) (hk : k ≤ mc0) (hn : n ≤ ms0) (h : K0 (some (.double v)) ws) : J X ws k n pc lv [.double v] := by
  obtain ⟨p, l0, e, R, s, m, args, below, meth, c, D0, ct0, sa0, A, nL, Q⟩ := X
  obtain ⟨hx, hb, hml, ho, hts, hK, hA, hlk, hEX, rfl, rfl, rfl, rfl, rfl, rfl⟩ := C
  obtain ⟨rfl, rfl, hr⟩ := E
  intro H locs ls hP hD hS hl
  refine W.widen hk hn (vx_ret ?_)
  exact W.dret hx hb hr (fun t ht hW => ⟨⟨_, ws, rfl, h, by rw [ht]; exact hP, hD⟩, hS.F ht⟩) hS.2.2 d hlk
theorem j_areturn (C : jC X l D ct sa cc nL1 own R0) {v : Nat} {rt : FieldType} (E : jE X ws0 K0 KX0 mc0 ms0 (some rt)) (hrt : (∃ n, rt = .object n) ∨ ∃ t, rt = .array t) (d : decode cc pc = .ok (.areturn, 1)) (hk : k ≤ mc0) (hn : n ≤ ms0) (h : K0 (some (.ref v)) ws) : J X ws k n pc lv [.ref v] := by
  obtain ⟨p, l0, e, R, s, m, args, below, meth, c, D0, ct0, sa0, A, nL, Q⟩ := X
  obtain ⟨hx, hb, hml, ho, hts, hK, hA, hlk, hEX, rfl, rfl, rfl, rfl, rfl, rfl⟩ := C
  obtain ⟨rfl, rfl, hr⟩ := E
  intro H locs ls hP hD hS hl
  refine W.widen hk hn (vx_ret ?_)
  exact W.aret hx hb hr hrt (Or.inr ⟨v, rfl⟩) (fun t ht hW => ⟨⟨_, ws, rfl, h, by rw [ht]; exact hP, hD⟩, hS.F ht⟩) hS.2.2 d hlk
theorem j_return (C : jC X l D ct sa cc nL1 own R0)  (E : jE X ws0 K0 KX0 mc0 ms0 none) (d : decode cc pc = .ok (.return_, 1)) (hk : k ≤ mc0) (hn : n ≤ ms0) (h : K0 none ws) : J X ws k n pc lv [] := by
  obtain ⟨p, l0, e, R, s, m, args, below, meth, c, D0, ct0, sa0, A, nL, Q⟩ := X
  obtain ⟨hx, hb, hml, ho, hts, hK, hA, hlk, hEX, rfl, rfl, rfl, rfl, rfl, rfl⟩ := C
  obtain ⟨rfl, rfl, hr⟩ := E
  intro H locs ls hP hD hS hl
  refine W.widen hk hn (vx_ret ?_)
  exact W.vret hx hb hr (fun t ht hW => ⟨⟨_, ws, rfl, h, by rw [ht]; exact hP, hD⟩, hS.F ht⟩) hS.2.2 d hlk
theorem j_widen {k1 n1 : Nat} (h1 : k ≤ k1) (h2 : n ≤ n1) (kk : J X ws k1 n1 pc lv st) : J X ws k n pc lv st := by
  obtain ⟨p, l0, e, R, s, m, args, below, meth, c, D0, ct0, sa0, A, nL, Q⟩ := X
  intro H locs ls hP hD hS hl
  exact W.widen h1 h2 (kk H locs ls hP hD hS hl)
theorem j_lv {lv1 : List (Nat × Value)} (h : lv = lv1) (kk : J X ws k n pc lv1 st) : J X ws k n pc lv st := h ▸ kk
theorem j_lvs {lv1 : List (Nat × Value)} (ks : List Nat) (h : lv_pick lv ks = lv1) (kk : J X ws k n pc lv1 st) : J X ws k n pc lv st := by
  obtain ⟨p, l0, e, R, s, m, args, below, meth, c, D0, ct0, sa0, A, nL, Q⟩ := X
  intro H locs ls hP hD hS hl
  exact kk H locs ls hP hD hS (lv_sub hl ks h)
theorem j_st {st1 : List Value} (h : st = st1) (kk : J X ws k n pc lv st1) : J X ws k n pc lv st := h ▸ kk
theorem j_ws {ws1 : va_W} (h : ws = ws1) (kk : J X ws1 k n pc lv st) : J X ws k n pc lv st := h ▸ kk
/-- the cells in another order, or fewer -/
theorem j_by {ws1 : va_W} (g : Nat → Nat) (hg : ∀ (k : Nat) (q : Nat × va_E), ws1[k]? = some q → ws[g k]? = some q) (hi : ∀ i j : Nat, i < ws1.length → j < ws1.length → g i = g j → i = j) (kk : J X ws1 k n pc lv st) : J X ws k n pc lv st := by
  obtain ⟨p, l0, e, R, s, m, args, below, meth, c, D0, ct0, sa0, A, nL, Q⟩ := X
  intro H locs ls hP hD hS hl
  exact kk H locs ls (hP.by g hg) (hD.by g hg hi) hS hl
theorem j_swap {a b c0 : va_W} (h : ws = (a ++ b) ++ c0) (kk : J X ((a ++ c0) ++ b) k n pc lv st) : J X ws k n pc lv st := by
  subst h
  obtain ⟨p, l0, e, R, s, m, args, below, meth, c, D0, ct0, sa0, A, nL, Q⟩ := X
  intro H locs ls hP hD hS hl
  exact kk H locs ls hP.swap hD.swap hS hl
/-- the cells in front are forgotten, or those behind -/
theorem j_drop {a b : va_W} (h : ws = a ++ b) (kk : J X a k n pc lv st) : J X ws k n pc lv st := by
  subst h
  refine j_by (fun i => i) (fun i q hq => ?_) (fun i j _ _ h => h) kk
  have hl : i < a.length := (List.getElem?_eq_some_iff.mp hq).1
  rw [List.getElem?_append_left hl]
  exact hq

theorem jt_out (C : jC X l D ct sa cc nL1 own R0) (E : jE X ws0 K0 KX0 mc0 ms0 rt0) (T0 : jT0 X) {En : String} (h0 : ws = ws0) (hk : k ≤ mc0) (hn : n ≤ ms0) (h : KX0 En) : JT X ws k n pc lv En := by
  obtain ⟨p, l0, e, R, s, m, args, below, meth, c, D0, ct0, sa0, A, nL, Q⟩ := X
  obtain ⟨hx, hb, hml, ho, hts, hK, hA, hlk, hEX, rfl, rfl, rfl, rfl, rfl, rfl⟩ := C
  obtain ⟨rfl, rfl, hr⟩ := E
  subst h0
  intro H locs ls rest q ce hP hD hS hl hce hcv hcl
  exact vx_out (fun x hx => (T0 x hx).elim) hlk hce hcv hcl (fun t ht hW => ⟨⟨h, by rw [ht]; exact hP, hD⟩, hS.F ht⟩) hS.2.2 hk hn
theorem j_throwS (C : jC X l D ct sa cc nL1 own R0) (E : jE X ws0 K0 KX0 mc0 ms0 rt0) (T0 : jT0 X) (htr : l.stackTraces = false) {cls text : String} {names : List String} {ik is ic : Nat} (hown : own = "LetterLocks") (hcls : Bundle.fit cls = true) (hnames : ∀ n ∈ names, Bundle.fit n = true) (hk1 : Cond.classLink own ik cls ∈ GW) (hini : Cond.initialized cls ∈ GW) (hstr : (is, text) ∈ STRS) (hat : ∀ w ∈ vx_atS own ic cls names, w ∈ GW ∨ w ∈ NW) (hgood : ∀ w ∈ Cond.classLink own ik cls :: Cond.initialized cls :: vx_atS own ic cls names, vx_ot w = true) (d0 : decode cc pc = .ok (.new ik, 3)) (d3 : decode cc (pc + 3) = .ok (.dup, 1)) (d4 : decode cc (pc + 4) = .ok (.ldc is, 2)) (d6 : decode cc (pc + 6) = .ok (.invokespecial ic, 3)) (d9 : decode cc (pc + 9) = .ok (.athrow, 1)) (hRf : names.length + 3 < R0.frames) (hRl : (st.map fun v => v.category).sum + (13 * (names.length + 1) + 43) ≤ R0.locals) (hRc : k + 1 ≤ R0.cells) (hRs : n + 6 ≤ R0.slots) (h0 : ws = ws0) (h : KX0 cls) (hk : k + 1 ≤ mc0) (hn : n + 6 ≤ ms0) : J X ws k n pc lv st := by
  obtain ⟨p, l0, e, R, s, m, args, below, meth, c, D0, ct0, sa0, A, nL, Q⟩ := X
  obtain ⟨hx, hb, hml, ho, hts, hK, hA, hlk, hEX, rfl, rfl, rfl, rfl, rfl, rfl⟩ := C
  obtain ⟨rfl, rfl, hr⟩ := E
  subst h0
  subst hown
  intro H locs ls hP hD hS hl
  exact vx_throwS hx hb htr ho hcls hnames (hts _ hk1) (hts _ hini) (hEX.2.1 _ hstr) (fun w hw => (hat w hw).elim (fun q => hts _ q) (fun q => va_Nw.use (nw_tab (List.mem_filter.mp q).2) (hEX.1 _ q))) hgood hEX.2.2.2.2.2.1 hEX.2.2.2.2.2.2.1 hS (hl.1.trans hml.symm) d0 d3 d4 d6 d9 (fun x hx => (T0 x hx).elim) hRf hRl hRc hRs hlk
    (fun t hal hz hq => ⟨⟨h, hP.kept (fun i q hi => hq _ (hP i q hi).lt), hD⟩, ⟨Nat.le_trans hS.1 hz, fun q h1 h2 => (hq q (Nat.lt_of_lt_of_le h1 hS.1)).trans (hS.2.1 q h1 h2)⟩⟩) hS.2.2 hk hn
theorem jr_core {p : Program} {e : Env} {R : Room} {s : State} {m : MethodId} {args : Array Value} {below : List Frame} {meth : Method} {c : Code} {A : Nat → Prop} {nL : Nat} {Q : State → Prop} {H : Heap} {locs : List Loc} {ls : Array Slot} {mc ms : Nat} {rest st0 : List Value} {K : Option Value → va_W → Prop} {a : Array Value}
    (hA : ∀ q, va_A ws H.size q → A q) (hS : va_S A s.heap H locs) (hl : lv_has ls nL lv)
    (hr : va_Run p l e R s m args below meth c H locs k n mc ms (F0 m pc ls st0) rest (jQ D ct H.size ws K a) (va_A ws H.size))
    (kk : ∀ v w, K v w → J (p, l, e, R, s, m, args, below, meth, c, D, ct, sa, A, nL, Q) w (k + mc) (n + ms) (pc + 3) lv (v.toList ++ rest)) : W p l e R s m args below meth c H locs k n Q (F0 m pc ls st0) := by
  intro T hT Xs
  obtain ⟨v, st₀, t, T', L, h0, X', hL, e1, e2, ⟨⟨r, w, hv, hk, hP1, hD1⟩, hF⟩, stp⟩ := hr T hT Xs
  cases hv
  obtain ⟨k1, k2, k3⟩ := vx_keep h0 e1 hS (fun q _ h => hA q h) (fun q h => hA q h) hL hF
  obtain ⟨t2, a1, b1⟩ := kk v w hk T'.heap (locs ++ L) ls (by rw [e1]; exact hP1) (hD1.weaken (fun _ _ _ h => hA _ h)) k3 hl T' rfl X'
  exact ⟨t2, stp t2 a1, b1⟩
theorem jr_coreX {p : Program} {e : Env} {R : Room} {s : State} {m : MethodId} {args : Array Value} {below : List Frame} {meth : Method} {c : Code} {A : Nat → Prop} {nL : Nat} {Q : State → Prop} {H : Heap} {locs : List Loc} {ls : Array Slot} {mc ms : Nat} {rest st0 : List Value} {K : Option Value → va_W → Prop} {KX : String → Prop} {a : Array Value}
    (hA : ∀ q, va_A ws H.size q → A q) (hS : va_S A s.heap H locs) (hl : lv_has ls nL lv)
    (hr : vx_Run p l e R s m args below meth c H locs k n mc ms (F0 m pc ls st0) rest (jQ D ct H.size ws K a) (jX D ct H.size ws KX) (va_A ws H.size))
    (kx : ∀ En, KX En → JT (p, l, e, R, s, m, args, below, meth, c, D, ct, sa, A, nL, Q) ws (k + mc) (n + ms) pc lv En)
    (kk : ∀ v w, K v w → J (p, l, e, R, s, m, args, below, meth, c, D, ct, sa, A, nL, Q) w (k + mc) (n + ms) (pc + 3) lv (v.toList ++ rest)) : W p l e R s m args below meth c H locs k n Q (F0 m pc ls st0) := by
  intro T hT Xs
  rcases hr T hT Xs with ⟨v, st₀, t, T', L, h0, X', hL, e1, e2, ⟨⟨r, w, hv, hk, hP1, hD1⟩, hF⟩, stp⟩ | ⟨q, st₀, t, T', L, En, ce, h0, X', hL, e1, e2, ⟨⟨hkx, hP1, hD1⟩, hF⟩, hce, hcv, hcl, stp⟩
  · cases hv
    obtain ⟨k1, k2, k3⟩ := vx_keep h0 e1 hS (fun q _ h => hA q h) (fun q h => hA q h) hL hF
    obtain ⟨t2, a1, b1⟩ := kk v w hk T'.heap (locs ++ L) ls (by rw [e1]; exact hP1) (hD1.weaken (fun _ _ _ h => hA _ h)) k3 hl T' rfl X'
    exact ⟨t2, stp t2 a1, b1⟩
  · obtain ⟨k1, k2, k3⟩ := vx_keep h0 e1 hS (fun q _ h => hA q h) (fun q h => hA q h) hL hF
    obtain ⟨t2, a1, b1⟩ := kx En hkx T'.heap (locs ++ L) ls rest q ce (by rw [e1]; exact hP1) (hD1.weaken (fun _ _ _ h => hA _ h)) k3 hl (by rw [e1]; exact hce) hcv hcl T' rfl X'
    exact ⟨t2, stp.trans a1, b1⟩
theorem gi_V {own Cn : String} {index : Nat} {y : MethodName} {wl : List Cond} (w1 : Cond.methodLink own index y ∈ GW) (w2 : Cond.instanceMethod y ∈ GW) (w3 : Cond.selects Cn y y ∈ GW) (w4 : Cond.initialized Cn ∈ GW) (hw : ∀ w ∈ wl, w ∈ GW) : GoodIn GW (wsV own index Cn y wl) := by
  refine good_in (fun w h => ?_)
  rcases List.mem_append.mp h with h | h
  · simp only [List.mem_cons, List.not_mem_nil, or_false] at h
    rcases h with rfl | rfl | rfl | rfl
    · exact w1
    · exact w2
    · exact w3
    · exact w4
  · exact hw w h
theorem gi_S {own : String} {index : Nat} {y : MethodName} {wl : List Cond} (w1 : Cond.methodLink own index y ∈ GW) (w2 : Cond.static y ∈ GW) (w4 : Cond.initialized y.cls ∈ GW) (hw : ∀ w ∈ wl, w ∈ GW) : GoodIn GW (va_wsS own index y wl) := by
  refine good_in (fun w h => ?_)
  rcases List.mem_append.mp h with h | h
  · simp only [List.mem_cons, List.not_mem_nil, or_false] at h
    rcases h with rfl | rfl | rfl
    · exact w1
    · exact w2
    · exact w4
  · exact hw w h
theorem gi_c {w : Cond} (h : w ∈ GW) : ∀ q ∈ w :: GW, q ∈ GW := fun q hq => (List.mem_cons.mp hq).elim (fun e => e ▸ h) id

theorem j_callV (C : jC X l D ct sa cc nL1 own R0) {y : MethodName} {bytes : ByteArray} {maxL index f mc ms lo nargs : Nat} {ret : Option FieldType} {As rest : List Value} {K : Option Value → va_W → Prop}  {b ci : Nat} {fs : List Value} {Cn : String} {r0 : vw_C} (q0 : Nat) (he : ws[q0]? = some (b, .inr (ci, fs))) (hc : vwCl[ci]? = some r0) (hr0 : r0.1 = Cn) (w1 : Cond.methodLink own index y ∈ GW) (w2 : Cond.instanceMethod y ∈ GW) (w3 : Cond.selects Cn y y ∈ GW) (w4 : Cond.initialized Cn ∈ GW) (hM : jM l y (Cond.code y bytes maxL ret :: GW) (rM f mc ms lo) D ct sa (.ref b :: As) ws K mc ms) (w5 : Cond.code y bytes maxL ret ∈ GW) (hy : y.cls = Cn ∧ y.cls ≠ "java/lang/invoke/MethodHandle" ∧ y.cls ≠ "java/lang/invoke/VarHandle" ∧ (parseMethodDescriptor y.desc).map (fun d => d.parameters.length) = some nargs) (hn : As.length = nargs) (d : decode cc pc = .ok (.invokevirtual index, 3)) (hR : f + 1 ≤ R0.frames ∧ 8 + (maxL + 11) + lo ≤ R0.locals) (hf : k + mc ≤ R0.cells ∧ n + ms ≤ R0.slots) (hrest : (rest.map fun v => v.category).sum ≤ 8) (kk : ∀ v w, K v w → J X w (k + mc) (n + ms) (pc + 3) lv (v.toList ++ rest)) : J X ws k n pc lv (As.reverse ++ .ref b :: rest) := by
  obtain ⟨p, l0, e, R, s, m, args, below, meth, c, D0, ct0, sa0, A, nL, Q⟩ := X
  obtain ⟨hx, hb, hml, ho, hts, hK, hA, hlk, hEX, rfl, rfl, rfl, rfl, rfl, rfl⟩ := C
  intro H locs ls hP hD hS hl
  obtain ⟨hsub, hpre⟩ := jp_pre hK hA hEX hP hD hS
  exact jr_core hsub hS hl (va_runV (C := Cn) (As := As) (rest := rest) ⟨hx, hb, hml, ho, hts⟩ (hM H.size) (cwV nargs hts (gi_V w1 w2 w3 w4 (gi_c w5)) rfl rfl rfl hy hR) ⟨jp_blind, by obtain ⟨cb, h1, h2, h3⟩ := va_recv hK hP hc he; exact ⟨cb, h1, h2, hr0 ▸ h3⟩, fun U hU hW => ⟨rfl, hpre U hU hW⟩⟩ rfl hn hl.1 rfl (lv_room hrest) d hf) kk
theorem j_callS (C : jC X l D ct sa cc nL1 own R0) {y : MethodName} {bytes : ByteArray} {maxL index f mc ms lo nargs : Nat} {ret : Option FieldType} {As rest : List Value} {K : Option Value → va_W → Prop}  (w1 : Cond.methodLink own index y ∈ GW) (w2 : Cond.static y ∈ GW) (w4 : Cond.initialized y.cls ∈ GW) (hM : jM l y (Cond.code y bytes maxL ret :: GW) (rM f mc ms lo) D ct sa As ws K mc ms) (w5 : Cond.code y bytes maxL ret ∈ GW) (hy : y.cls ≠ "java/lang/invoke/MethodHandle" ∧ y.cls ≠ "java/lang/invoke/VarHandle" ∧ (parseMethodDescriptor y.desc).map (fun d => d.parameters.length) = some nargs) (hn : As.length = nargs) (d : decode cc pc = .ok (.invokestatic index, 3)) (hR : f + 1 ≤ R0.frames ∧ 8 + (maxL + 11) + lo ≤ R0.locals) (hf : k + mc ≤ R0.cells ∧ n + ms ≤ R0.slots) (hrest : (rest.map fun v => v.category).sum ≤ 8) (kk : ∀ v w, K v w → J X w (k + mc) (n + ms) (pc + 3) lv (v.toList ++ rest)) : J X ws k n pc lv (As.reverse ++ rest) := by
  obtain ⟨p, l0, e, R, s, m, args, below, meth, c, D0, ct0, sa0, A, nL, Q⟩ := X
  obtain ⟨hx, hb, hml, ho, hts, hK, hA, hlk, hEX, rfl, rfl, rfl, rfl, rfl, rfl⟩ := C
  intro H locs ls hP hD hS hl
  obtain ⟨hsub, hpre⟩ := jp_pre hK hA hEX hP hD hS
  exact jr_core hsub hS hl (va_runS (As := As) (rest := rest) ⟨hx, hb, hml, ho, hts⟩ (hM H.size) (va_cwS nargs hts (gi_S w1 w2 w4 (gi_c w5)) rfl rfl rfl hy hR) ⟨jp_blind, fun U hU hW => ⟨rfl, hpre U hU hW⟩⟩ rfl hn hl.1 rfl (lv_room hrest) d hf) kk
theorem j_callVX (C : jC X l D ct sa cc nL1 own R0) {y : MethodName} {bytes : ByteArray} {maxL index f mc ms lo nargs : Nat} {ret : Option FieldType} {As rest : List Value} {K : Option Value → va_W → Prop} {KX : String → Prop}  {b ci : Nat} {fs : List Value} {Cn : String} {r0 : vw_C} (q0 : Nat) (he : ws[q0]? = some (b, .inr (ci, fs))) (hc : vwCl[ci]? = some r0) (hr0 : r0.1 = Cn) (w1 : Cond.methodLink own index y ∈ GW) (w2 : Cond.instanceMethod y ∈ GW) (w3 : Cond.selects Cn y y ∈ GW) (w4 : Cond.initialized Cn ∈ GW) (hM : jMX l y (Cond.code y bytes maxL ret :: GW) (rM f mc ms lo) D ct sa (.ref b :: As) ws K KX mc ms) (w5 : Cond.code y bytes maxL ret ∈ GW) (hy : y.cls = Cn ∧ y.cls ≠ "java/lang/invoke/MethodHandle" ∧ y.cls ≠ "java/lang/invoke/VarHandle" ∧ (parseMethodDescriptor y.desc).map (fun d => d.parameters.length) = some nargs) (hn : As.length = nargs) (d : decode cc pc = .ok (.invokevirtual index, 3)) (hR : f + 1 ≤ R0.frames ∧ 8 + (maxL + 11) + lo ≤ R0.locals) (hf : k + mc ≤ R0.cells ∧ n + ms ≤ R0.slots) (hrest : (rest.map fun v => v.category).sum ≤ 8) (kx : ∀ En, KX En → JT X ws (k + mc) (n + ms) pc lv En) (kk : ∀ v w, K v w → J X w (k + mc) (n + ms) (pc + 3) lv (v.toList ++ rest)) : J X ws k n pc lv (As.reverse ++ .ref b :: rest) := by
  obtain ⟨p, l0, e, R, s, m, args, below, meth, c, D0, ct0, sa0, A, nL, Q⟩ := X
  obtain ⟨hx, hb, hml, ho, hts, hK, hA, hlk, hEX, rfl, rfl, rfl, rfl, rfl, rfl⟩ := C
  intro H locs ls hP hD hS hl
  obtain ⟨hsub, hpre⟩ := jp_pre hK hA hEX hP hD hS
  exact jr_coreX hsub hS hl (vx_runV (C := Cn) (As := As) (rest := rest) ⟨hx, hb, hml, ho, hts⟩ (hM H.size) (cwV nargs hts (gi_V w1 w2 w3 w4 (gi_c w5)) rfl rfl rfl hy hR) ⟨jp_blind, by obtain ⟨cb, h1, h2, h3⟩ := va_recv hK hP hc he; exact ⟨cb, h1, h2, hr0 ▸ h3⟩, fun U hU hW => ⟨rfl, hpre U hU hW⟩⟩ rfl hn hl.1 rfl (lv_room hrest) d hf) kx kk
theorem j_callSX (C : jC X l D ct sa cc nL1 own R0) {y : MethodName} {bytes : ByteArray} {maxL index f mc ms lo nargs : Nat} {ret : Option FieldType} {As rest : List Value} {K : Option Value → va_W → Prop} {KX : String → Prop}  (w1 : Cond.methodLink own index y ∈ GW) (w2 : Cond.static y ∈ GW) (w4 : Cond.initialized y.cls ∈ GW) (hM : jMX l y (Cond.code y bytes maxL ret :: GW) (rM f mc ms lo) D ct sa As ws K KX mc ms) (w5 : Cond.code y bytes maxL ret ∈ GW) (hy : y.cls ≠ "java/lang/invoke/MethodHandle" ∧ y.cls ≠ "java/lang/invoke/VarHandle" ∧ (parseMethodDescriptor y.desc).map (fun d => d.parameters.length) = some nargs) (hn : As.length = nargs) (d : decode cc pc = .ok (.invokestatic index, 3)) (hR : f + 1 ≤ R0.frames ∧ 8 + (maxL + 11) + lo ≤ R0.locals) (hf : k + mc ≤ R0.cells ∧ n + ms ≤ R0.slots) (hrest : (rest.map fun v => v.category).sum ≤ 8) (kx : ∀ En, KX En → JT X ws (k + mc) (n + ms) pc lv En) (kk : ∀ v w, K v w → J X w (k + mc) (n + ms) (pc + 3) lv (v.toList ++ rest)) : J X ws k n pc lv (As.reverse ++ rest) := by
  obtain ⟨p, l0, e, R, s, m, args, below, meth, c, D0, ct0, sa0, A, nL, Q⟩ := X
  obtain ⟨hx, hb, hml, ho, hts, hK, hA, hlk, hEX, rfl, rfl, rfl, rfl, rfl, rfl⟩ := C
  intro H locs ls hP hD hS hl
  obtain ⟨hsub, hpre⟩ := jp_pre hK hA hEX hP hD hS
  exact jr_coreX hsub hS hl (vx_runS (As := As) (rest := rest) ⟨hx, hb, hml, ho, hts⟩ (hM H.size) (va_cwS nargs hts (gi_S w1 w2 w4 (gi_c w5)) rfl rfl rfl hy hR) ⟨jp_blind, fun U hU hW => ⟨rfl, hpre U hU hW⟩⟩ rfl hn hl.1 rfl (lv_room hrest) d hf) kx kk
theorem j_callSW (C : jC X l D ct sa cc nL1 own R0) {y : MethodName} {bytes : ByteArray} {maxL index f mc ms lo nargs : Nat} {ret : Option FieldType} {As rest : List Value} {K : Option Value → va_W → Prop} {hh : List (Nat × Nat × Nat × Nat)} (w1 : Cond.methodLink own index y ∈ GW) (w2 : Cond.static y ∈ GW) (w4 : Cond.initialized y.cls ∈ GW) (hM : jM l y (Cond.codeWith y bytes maxL ret hh :: GW) (rM f mc ms lo) D ct sa As ws K mc ms) (w5 : Cond.codeWith y bytes maxL ret hh ∈ GW) (hy : y.cls ≠ "java/lang/invoke/MethodHandle" ∧ y.cls ≠ "java/lang/invoke/VarHandle" ∧ (parseMethodDescriptor y.desc).map (fun d => d.parameters.length) = some nargs) (hn : As.length = nargs) (d : decode cc pc = .ok (.invokestatic index, 3)) (hR : f + 1 ≤ R0.frames ∧ 8 + (maxL + 11) + lo ≤ R0.locals) (hf : k + mc ≤ R0.cells ∧ n + ms ≤ R0.slots) (hrest : (rest.map fun v => v.category).sum ≤ 8) (kk : ∀ v w, K v w → J X w (k + mc) (n + ms) (pc + 3) lv (v.toList ++ rest)) : J X ws k n pc lv (As.reverse ++ rest) := by
  obtain ⟨p, l0, e, R, s, m, args, below, meth, c, D0, ct0, sa0, A, nL, Q⟩ := X
  obtain ⟨hx, hb, hml, ho, hts, hK, hA, hlk, hEX, rfl, rfl, rfl, rfl, rfl, rfl⟩ := C
  intro H locs ls hP hD hS hl
  obtain ⟨hsub, hpre⟩ := jp_pre hK hA hEX hP hD hS
  exact jr_core hsub hS hl (vx_runSW (As := As) (rest := rest) ⟨hx, hb, hml, ho, hts⟩ (hM H.size) (vx_cwSW (hh := hh) nargs hts (gi_S w1 w2 w4 (gi_c w5)) rfl rfl rfl hy hR) ⟨jp_blind, fun U hU hW => ⟨rfl, hpre U hU hW⟩⟩ rfl hn hl.1 rfl (lv_room hrest) d hf) kk
theorem j_callI (C : jC X l D ct sa cc nL1 own R0) {y : MethodName} {bytes : ByteArray} {maxL index f mc ms lo nargs : Nat} {As rest : List Value} {K : Option Value → va_W → Prop}  {b : Nat} (w1 : Cond.methodLink own index y ∈ GW) (w2 : Cond.instanceMethod y ∈ GW) (w4 : Cond.initialized y.cls ∈ GW) (hi0 : y.name = "<init>") (hM : jM l y (Cond.code y bytes maxL none :: GW) (rM f mc ms lo) D ct sa (.ref b :: As) ws K mc ms) (w5 : Cond.code y bytes maxL none ∈ GW) (hy : y.cls ≠ "java/lang/invoke/MethodHandle" ∧ y.cls ≠ "java/lang/invoke/VarHandle" ∧ (parseMethodDescriptor y.desc).map (fun d => d.parameters.length) = some nargs) (hn : As.length = nargs) (d : decode cc pc = .ok (.invokespecial index, 3)) (hR : f + 1 ≤ R0.frames ∧ 8 + (maxL + 11) + lo ≤ R0.locals) (hf : k + mc ≤ R0.cells ∧ n + ms ≤ R0.slots) (hrest : (rest.map fun v => v.category).sum ≤ 8) (kk : ∀ v w, K v w → J X w (k + mc) (n + ms) (pc + 3) lv (v.toList ++ rest)) : J X ws k n pc lv (As.reverse ++ .ref b :: rest) := by
  obtain ⟨p, l0, e, R, s, m, args, below, meth, c, D0, ct0, sa0, A, nL, Q⟩ := X
  obtain ⟨hx, hb, hml, ho, hts, hK, hA, hlk, hEX, rfl, rfl, rfl, rfl, rfl, rfl⟩ := C
  intro H locs ls hP hD hS hl
  obtain ⟨hsub, hpre⟩ := jp_pre hK hA hEX hP hD hS
  exact jr_core hsub hS hl (va_runI (As := As) (rest := rest) ⟨hx, hb, hml, ho, hts⟩ (hM H.size) (cwI nargs hts (good_in (gi_c w5)) rfl rfl rfl (hts _ w4) (hts _ w1) (hts _ w2) hi0 hy hR) ⟨jp_blind, fun U hU hW => ⟨rfl, hpre U hU hW⟩⟩ rfl hn hl.1 rfl (lv_room hrest) d hf) kk
theorem j_callSN (C : jC X l D ct sa cc nL1 own R0) {y : MethodName} {bytes : ByteArray} {maxL index f mc ms lo nargs : Nat} {ret : Option FieldType} {As rest : List Value} {K : Option Value → va_W → Prop}  {host : String} (w1 : Cond.methodLinkNest own index y host ∈ NW) (w2 : Cond.static y ∈ GW) (w4 : Cond.initialized y.cls ∈ GW) (hM : jM l y (Cond.code y bytes maxL ret :: GW) (rM f mc ms lo) D ct sa As ws K mc ms) (w5 : Cond.code y bytes maxL ret ∈ GW) (hy : y.cls ≠ "java/lang/invoke/MethodHandle" ∧ y.cls ≠ "java/lang/invoke/VarHandle" ∧ (parseMethodDescriptor y.desc).map (fun d => d.parameters.length) = some nargs) (hn : As.length = nargs) (d : decode cc pc = .ok (.invokestatic index, 3)) (hR : f + 1 ≤ R0.frames ∧ 8 + (maxL + 11) + lo ≤ R0.locals) (hf : k + mc ≤ R0.cells ∧ n + ms ≤ R0.slots) (hrest : (rest.map fun v => v.category).sum ≤ 8) (kk : ∀ v w, K v w → J X w (k + mc) (n + ms) (pc + 3) lv (v.toList ++ rest)) : J X ws k n pc lv (As.reverse ++ rest) := by
  obtain ⟨p, l0, e, R, s, m, args, below, meth, c, D0, ct0, sa0, A, nL, Q⟩ := X
  obtain ⟨hx, hb, hml, ho, hts, hK, hA, hlk, hEX, rfl, rfl, rfl, rfl, rfl, rfl⟩ := C
  intro H locs ls hP hD hS hl
  obtain ⟨hsub, hpre⟩ := jp_pre hK hA hEX hP hD hS
  exact jr_core hsub hS hl (va_runSN (As := As) (rest := rest) ⟨hx, hb, hml, ho, hts⟩ (hM H.size) (⟨va_cnB nargs hts (good_in (gi_c w5)) rfl rfl rfl (hEX.1 _ w1) (hts _ w4) hy hR, hts _ w2, trivial⟩) ⟨jp_blind, fun U hU hW => ⟨rfl, hpre U hU hW⟩⟩ rfl hn hl.1 rfl (lv_room hrest) d hf) kk
theorem j_callIN (C : jC X l D ct sa cc nL1 own R0) {y : MethodName} {bytes : ByteArray} {maxL index f mc ms lo nargs : Nat} {As rest : List Value} {K : Option Value → va_W → Prop}  {b : Nat} {host : String} (w1 : Cond.methodLinkNest own index y host ∈ NW) (w2 : Cond.instanceMethod y ∈ GW) (w4 : Cond.initialized y.cls ∈ GW) (hi0 : y.name = "<init>") (hM : jM l y (Cond.code y bytes maxL none :: GW) (rM f mc ms lo) D ct sa (.ref b :: As) ws K mc ms) (w5 : Cond.code y bytes maxL none ∈ GW) (hy : y.cls ≠ "java/lang/invoke/MethodHandle" ∧ y.cls ≠ "java/lang/invoke/VarHandle" ∧ (parseMethodDescriptor y.desc).map (fun d => d.parameters.length) = some nargs) (hn : As.length = nargs) (d : decode cc pc = .ok (.invokespecial index, 3)) (hR : f + 1 ≤ R0.frames ∧ 8 + (maxL + 11) + lo ≤ R0.locals) (hf : k + mc ≤ R0.cells ∧ n + ms ≤ R0.slots) (hrest : (rest.map fun v => v.category).sum ≤ 8) (kk : ∀ v w, K v w → J X w (k + mc) (n + ms) (pc + 3) lv (v.toList ++ rest)) : J X ws k n pc lv (As.reverse ++ .ref b :: rest) := by
  obtain ⟨p, l0, e, R, s, m, args, below, meth, c, D0, ct0, sa0, A, nL, Q⟩ := X
  obtain ⟨hx, hb, hml, ho, hts, hK, hA, hlk, hEX, rfl, rfl, rfl, rfl, rfl, rfl⟩ := C
  intro H locs ls hP hD hS hl
  obtain ⟨hsub, hpre⟩ := jp_pre hK hA hEX hP hD hS
  exact jr_core hsub hS hl (va_runIN (As := As) (rest := rest) ⟨hx, hb, hml, ho, hts⟩ (hM H.size) (⟨va_cnB nargs hts (good_in (gi_c w5)) rfl rfl rfl (hEX.1 _ w1) (hts _ w4) hy hR, hi0, hts _ w2⟩) ⟨jp_blind, fun U hU hW => ⟨rfl, hpre U hU hW⟩⟩ rfl hn hl.1 rfl (lv_room hrest) d hf) kk
theorem j_mmin (C : jC X l D ct sa cc nL1 own R0) {index : Nat} {x y : Int32} (w1 : Cond.methodLink own index Lib.Math.min.name ∈ GW) (w2 : Cond.static Lib.Math.min.name ∈ GW) (w4 : Cond.initialized "java/lang/Math" ∈ GW) (w5 : Cond.code Lib.Math.min.name Lib.Math.min.code 2 (some .int) ∈ GW) (hR : 1 ≤ R0.frames ∧ (st.map fun v => v.category).sum + 13 ≤ R0.locals) (hf : k ≤ R0.cells ∧ n ≤ R0.slots) (d : decode cc pc = .ok (.invokestatic index, 3)) (kk : J X ws k n (pc + 3) lv (.int (if y < x then y else x) :: st)) : J X ws k n pc lv (.int y :: .int x :: st) := by
  obtain ⟨p, l0, e, R, s, m, args, below, meth, c, D0, ct0, sa0, A, nL, Q⟩ := X
  obtain ⟨hx, hb, hml, ho, hts, hK, hA, hlk, hEX, rfl, rfl, rfl, rfl, rfl, rfl⟩ := C
  intro H locs ls hP hD hS hl
  exact va_mmin hx hb (hml.trans hl.1.symm) ho (hts _ w1) (hts _ w2) (hts _ w4) (hts _ w5) hR.1 hR.2 hf.1 hf.2 d (kk H locs ls hP hD hS hl)
theorem j_mmax (C : jC X l D ct sa cc nL1 own R0) {index : Nat} {x y : Int32} (w1 : Cond.methodLink own index Lib.Math.max.name ∈ GW) (w2 : Cond.static Lib.Math.max.name ∈ GW) (w4 : Cond.initialized "java/lang/Math" ∈ GW) (w5 : Cond.code Lib.Math.max.name Lib.Math.max.code 2 (some .int) ∈ GW) (hR : 1 ≤ R0.frames ∧ (st.map fun v => v.category).sum + 13 ≤ R0.locals) (hf : k ≤ R0.cells ∧ n ≤ R0.slots) (d : decode cc pc = .ok (.invokestatic index, 3)) (kk : J X ws k n (pc + 3) lv (.int (if x < y then y else x) :: st)) : J X ws k n pc lv (.int y :: .int x :: st) := by
  obtain ⟨p, l0, e, R, s, m, args, below, meth, c, D0, ct0, sa0, A, nL, Q⟩ := X
  obtain ⟨hx, hb, hml, ho, hts, hK, hA, hlk, hEX, rfl, rfl, rfl, rfl, rfl, rfl⟩ := C
  intro H locs ls hP hD hS hl
  exact va_mmax hx hb (hml.trans hl.1.symm) ho (hts _ w1) (hts _ w2) (hts _ w4) (hts _ w5) hR.1 hR.2 hf.1 hf.2 d (kk H locs ls hP hD hS hl)
theorem j_mabs (C : jC X l D ct sa cc nL1 own R0) {index : Nat} {x : Int32} (w1 : Cond.methodLink own index Lib.Math.abs.name ∈ GW) (w2 : Cond.static Lib.Math.abs.name ∈ GW) (w4 : Cond.initialized "java/lang/Math" ∈ GW) (w5 : Cond.code Lib.Math.abs.name Lib.Math.abs.code 1 (some .int) ∈ GW) (hR : 1 ≤ R0.frames ∧ (st.map fun v => v.category).sum + 13 ≤ R0.locals) (hf : k ≤ R0.cells ∧ n ≤ R0.slots) (d : decode cc pc = .ok (.invokestatic index, 3)) (kk : J X ws k n (pc + 3) lv (.int (if 0 ≤ x then x else 0 - x) :: st)) : J X ws k n pc lv (.int x :: st) := by
  obtain ⟨p, l0, e, R, s, m, args, below, meth, c, D0, ct0, sa0, A, nL, Q⟩ := X
  obtain ⟨hx, hb, hml, ho, hts, hK, hA, hlk, hEX, rfl, rfl, rfl, rfl, rfl, rfl⟩ := C
  intro H locs ls hP hD hS hl
  exact va_mabs hx hb (hml.trans hl.1.symm) ho (hts _ w1) (hts _ w2) (hts _ w4) (hts _ w5) hR.1 hR.2 hf.1 hf.2 d (kk H locs ls hP hD hS hl)
theorem j_objInit (C : jC X l D ct sa cc nL1 own R0) {index a : Nat} (w1 : Cond.methodLink own index objectInit ∈ GW) (w2 : Cond.instanceMethod objectInit ∈ GW) (w5 : Cond.code objectInit ⟨#[0xb1]⟩ 1 none ∈ GW) (hR : 1 ≤ R0.frames ∧ (st.map fun v => v.category).sum + 12 ≤ R0.locals) (d : decode cc pc = .ok (.invokespecial index, 3)) (kk : J X ws k n (pc + 3) lv st) : J X ws k n pc lv (.ref a :: st) := by
  obtain ⟨p, l0, e, R, s, m, args, below, meth, c, D0, ct0, sa0, A, nL, Q⟩ := X
  obtain ⟨hx, hb, hml, ho, hts, hK, hA, hlk, hEX, rfl, rfl, rfl, rfl, rfl, rfl⟩ := C
  intro H locs ls hP hD hS hl
  have hm : 2 * (F0 m pc ls (.ref a :: st)).monitorRoom + (st.map fun v => v.category).sum + 12 ≤ R.locals := by
    have : (F0 m pc ls (.ref a :: st)).monitorRoom = 0 := rfl
    rw [this]
    have := hR.2
    omega
  refine W.objInit hx hb ho (hts _ w1) (hts _ w2) (hts _ w5) rfl (hl.1.trans hml.symm) rfl d hR.1 hm ?_
  exact kk H locs ls hP hD hS hl
theorem j_aald (C : jC X l D ct sa cc nL1 own R0) {a N : Nat} {cA : ClassId} {ty : FieldType} {f : Nat → Option Nat} {i : Int32} {b : Nat} (q0 t0 : Nat) (ha : ws[q0]? = some (a, .inl (cA, N, .inr (.inr (.inr (.inr f)))))) (ht : (TY ct)[t0]? = some (cA, ty)) (hty : ty.isReference = true) (j : Nat) (hi : i = nI j) (hj : j < N) (hN : N < 2 ^ 31) (hb2 : f j = some b) (d : decode cc pc = .ok (.aaload, 1)) (kk : J X ws k n (pc + 1) lv (.ref b :: st)) : J X ws k n pc lv (.int i :: .ref a :: st) := by
  obtain ⟨p, l0, e, R, s, m, args, below, meth, c, D0, ct0, sa0, A, nL, Q⟩ := X
  obtain ⟨hx, hb, hml, ho, hts, hK, hA, hlk, hEX, rfl, rfl, rfl, rfl, rfl, rfl⟩ := C
  intro H locs ls hP hD hS hl
  subst hi
  have hin : vp_in (nI j) N := vp_in_nI hj hN
  have ec : (nI j).toNatClampNeg = j := nI_clamp (Nat.lt_trans hj hN)
  exact W.aald (v := .ref b) (ty := ty) hx hb (hP q0 _ ha) ((hK.2 t0 _ ht).1 N (fun j => va_rf (f j))) hty (fun q => by cases q) (by show ¬ (nI j < 0 ∨ (arrV _ _ _).slots.size ≤ _); rw [arrV_size]; exact hin) (by show (arrV _ _ _).slots[_]? = _; rw [ec, arrV_read _ _ hj, hb2]; rfl) rfl rfl d (kk H locs ls hP hD hS hl)
theorem j_cast (C : jC X l D ct sa cc nL1 own R0) {a ci index : Nat} {fs : List Value} {nm : String} {r0 : vw_C} (q0 : Nat) (he : ws[q0]? = some (a, .inr (ci, fs))) (hc : vwCl[ci]? = some r0) (w1 : Cond.classLink own index nm ∈ GW) (w2 : Cond.castable r0.1 nm ∈ NW) (d : decode cc pc = .ok (.checkcast index, 3)) (kk : J X ws k n (pc + 3) lv (.ref a :: st)) : J X ws k n pc lv (.ref a :: st) := by
  obtain ⟨p, l0, e, R, s, m, args, below, meth, c, D0, ct0, sa0, A, nL, Q⟩ := X
  obtain ⟨hx, hb, hml, ho, hts, hK, hA, hlk, hEX, rfl, rfl, rfl, rfl, rfl, rfl⟩ := C
  intro H locs ls hP hD hS hl
  exact va_castY hx hb ho (hts _ w1) (hEX.1 _ w2) (va_recv hK hP hc he) d (kk H locs ls hP hD hS hl)
end JC
