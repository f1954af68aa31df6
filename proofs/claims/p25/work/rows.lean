section
-- ===== PART A: goes FIRST, ahead of the names: the tables' words, and 'selects' of the private methods out of them =====
/-- a private method of a class that the tables say can be made, by its rows of tables_1 -/
def lw_okq (q : MethodName × Nat) : Prop := (q.1.cls ≠ "java/lang/invoke/MethodHandle" ∧ q.1.cls ≠ "java/lang/invoke/VarHandle") ∧ Cond.instantiable q.1.cls q.2 ∈ tables_1 ∧ Cond.privateMethod q.1 ∈ tables_1 ∧ Cond.instanceMethod q.1 ∈ tables_1
theorem lw_p0 : lw_okq (⟨"LetterLocks", "lockAt", "(I)LLetterLocks$Lock;"⟩, 6) := ⟨⟨by decide +kernel, by decide +kernel⟩, List.mem_of_getElem? (i := 23) (by decide +kernel), List.mem_of_getElem? (i := 142) (by decide +kernel), List.mem_of_getElem? (i := 143) (by decide +kernel)⟩
theorem lw_p1 : lw_okq (⟨"java/lang/Throwable", "fillInStackTrace", "(I)Ljava/lang/Throwable;"⟩, 6) := ⟨⟨by decide +kernel, by decide +kernel⟩, List.mem_of_getElem? (i := 188) (by decide +kernel), List.mem_of_getElem? (i := 186) (by decide +kernel), List.mem_of_getElem? (i := 187) (by decide +kernel)⟩
theorem lw_p2 : lw_okq (⟨"LetterLocks$Lock", "mostWorn", "(I)I"⟩, 6) := ⟨⟨by decide +kernel, by decide +kernel⟩, List.mem_of_getElem? (i := 90) (by decide +kernel), List.mem_of_getElem? (i := 292) (by decide +kernel), List.mem_of_getElem? (i := 293) (by decide +kernel)⟩
theorem lw_p3 : lw_okq (⟨"LetterLocks", "rackAt", "(I)LLetterLocks$Rack;"⟩, 6) := ⟨⟨by decide +kernel, by decide +kernel⟩, List.mem_of_getElem? (i := 23) (by decide +kernel), List.mem_of_getElem? (i := 311) (by decide +kernel), List.mem_of_getElem? (i := 312) (by decide +kernel)⟩
theorem lw_p4 : lw_okq (⟨"LetterLocks", "isRack", "(I)Z"⟩, 6) := ⟨⟨by decide +kernel, by decide +kernel⟩, List.mem_of_getElem? (i := 23) (by decide +kernel), List.mem_of_getElem? (i := 315) (by decide +kernel), List.mem_of_getElem? (i := 316) (by decide +kernel)⟩
theorem lw_p5 : lw_okq (⟨"LetterLocks", "locksIn", "(I)I"⟩, 6) := ⟨⟨by decide +kernel, by decide +kernel⟩, List.mem_of_getElem? (i := 23) (by decide +kernel), List.mem_of_getElem? (i := 320) (by decide +kernel), List.mem_of_getElem? (i := 321) (by decide +kernel)⟩
theorem lw_p6 : lw_okq (⟨"LetterLocks", "openLocksIn", "(I)I"⟩, 6) := ⟨⟨by decide +kernel, by decide +kernel⟩, List.mem_of_getElem? (i := 23) (by decide +kernel), List.mem_of_getElem? (i := 328) (by decide +kernel), List.mem_of_getElem? (i := 329) (by decide +kernel)⟩
theorem lw_p7 : lw_okq (⟨"LetterLocks", "openLocks", "()I"⟩, 6) := ⟨⟨by decide +kernel, by decide +kernel⟩, List.mem_of_getElem? (i := 23) (by decide +kernel), List.mem_of_getElem? (i := 336) (by decide +kernel), List.mem_of_getElem? (i := 337) (by decide +kernel)⟩
theorem lw_p8 : lw_okq (⟨"LetterLocks", "lostWords", "()I"⟩, 6) := ⟨⟨by decide +kernel, by decide +kernel⟩, List.mem_of_getElem? (i := 23) (by decide +kernel), List.mem_of_getElem? (i := 340) (by decide +kernel), List.mem_of_getElem? (i := 341) (by decide +kernel)⟩
theorem lw_p9 : lw_okq (⟨"LetterLocks", "allWear", "()I"⟩, 6) := ⟨⟨by decide +kernel, by decide +kernel⟩, List.mem_of_getElem? (i := 23) (by decide +kernel), List.mem_of_getElem? (i := 344) (by decide +kernel), List.mem_of_getElem? (i := 345) (by decide +kernel)⟩
theorem lw_p10 : lw_okq (⟨"LetterLocks", "locksInRacks", "()I"⟩, 6) := ⟨⟨by decide +kernel, by decide +kernel⟩, List.mem_of_getElem? (i := 23) (by decide +kernel), List.mem_of_getElem? (i := 352) (by decide +kernel), List.mem_of_getElem? (i := 353) (by decide +kernel)⟩
theorem lw_p11 : lw_okq (⟨"LetterLocks$Thief", "wordsWith", "(II)I"⟩, 1) := ⟨⟨by decide +kernel, by decide +kernel⟩, List.mem_of_getElem? (i := 77) (by decide +kernel), List.mem_of_getElem? (i := 379) (by decide +kernel), List.mem_of_getElem? (i := 380) (by decide +kernel)⟩
theorem lw_p12 : lw_okq (⟨"LetterLocks$Thief", "lesserWordsOfSum", "(LLetterLocks$Lock;II)I"⟩, 1) := ⟨⟨by decide +kernel, by decide +kernel⟩, List.mem_of_getElem? (i := 77) (by decide +kernel), List.mem_of_getElem? (i := 383) (by decide +kernel), List.mem_of_getElem? (i := 384) (by decide +kernel)⟩
theorem lw_p13 : lw_okq (⟨"LetterLocks", "letHourGoBy", "(LLetterLocks$Lock;I)Z"⟩, 6) := ⟨⟨by decide +kernel, by decide +kernel⟩, List.mem_of_getElem? (i := 23) (by decide +kernel), List.mem_of_getElem? (i := 399) (by decide +kernel), List.mem_of_getElem? (i := 400) (by decide +kernel)⟩
theorem lw_p14 : lw_okq (⟨"LetterLocks$Lock", "wearMore", "(III)V"⟩, 6) := ⟨⟨by decide +kernel, by decide +kernel⟩, List.mem_of_getElem? (i := 90) (by decide +kernel), List.mem_of_getElem? (i := 407) (by decide +kernel), List.mem_of_getElem? (i := 408) (by decide +kernel)⟩
theorem lw_p15 : lw_okq (⟨"LetterLocks", "isInClosedRack", "(LLetterLocks$Lock;I)Z"⟩, 6) := ⟨⟨by decide +kernel, by decide +kernel⟩, List.mem_of_getElem? (i := 23) (by decide +kernel), List.mem_of_getElem? (i := 413) (by decide +kernel), List.mem_of_getElem? (i := 414) (by decide +kernel)⟩
def lw_privs_1 : List (MethodName × Nat) := [(⟨"LetterLocks", "lockAt", "(I)LLetterLocks$Lock;"⟩, 6), (⟨"java/lang/Throwable", "fillInStackTrace", "(I)Ljava/lang/Throwable;"⟩, 6), (⟨"LetterLocks$Lock", "mostWorn", "(I)I"⟩, 6), (⟨"LetterLocks", "rackAt", "(I)LLetterLocks$Rack;"⟩, 6), (⟨"LetterLocks", "isRack", "(I)Z"⟩, 6), (⟨"LetterLocks", "locksIn", "(I)I"⟩, 6), (⟨"LetterLocks", "openLocksIn", "(I)I"⟩, 6), (⟨"LetterLocks", "openLocks", "()I"⟩, 6), (⟨"LetterLocks", "lostWords", "()I"⟩, 6), (⟨"LetterLocks", "allWear", "()I"⟩, 6), (⟨"LetterLocks", "locksInRacks", "()I"⟩, 6), (⟨"LetterLocks$Thief", "wordsWith", "(II)I"⟩, 1), (⟨"LetterLocks$Thief", "lesserWordsOfSum", "(LLetterLocks$Lock;II)I"⟩, 1), (⟨"LetterLocks", "letHourGoBy", "(LLetterLocks$Lock;I)Z"⟩, 6), (⟨"LetterLocks$Lock", "wearMore", "(III)V"⟩, 6), (⟨"LetterLocks", "isInClosedRack", "(LLetterLocks$Lock;I)Z"⟩, 6)]
theorem lw_r1 : ∀ q ∈ lw_privs_1, lw_okq q := List.forall_mem_cons.mpr ⟨lw_p0, List.forall_mem_cons.mpr ⟨lw_p1, List.forall_mem_cons.mpr ⟨lw_p2, List.forall_mem_cons.mpr ⟨lw_p3, List.forall_mem_cons.mpr ⟨lw_p4, List.forall_mem_cons.mpr ⟨lw_p5, List.forall_mem_cons.mpr ⟨lw_p6, List.forall_mem_cons.mpr ⟨lw_p7, List.forall_mem_cons.mpr ⟨lw_p8, List.forall_mem_cons.mpr ⟨lw_p9, List.forall_mem_cons.mpr ⟨lw_p10, List.forall_mem_cons.mpr ⟨lw_p11, List.forall_mem_cons.mpr ⟨lw_p12, List.forall_mem_cons.mpr ⟨lw_p13, List.forall_mem_cons.mpr ⟨lw_p14, List.forall_mem_cons.mpr ⟨lw_p15, fun _ h => absurd h List.not_mem_nil⟩⟩⟩⟩⟩⟩⟩⟩⟩⟩⟩⟩⟩⟩⟩⟩
theorem lw_p16 : lw_okq (⟨"java/util/ArrayList", "add", "(Ljava/lang/Object;[Ljava/lang/Object;I)V"⟩, 3) := ⟨⟨by decide +kernel, by decide +kernel⟩, List.mem_of_getElem? (i := 31) (by decide +kernel), List.mem_of_getElem? (i := 531) (by decide +kernel), List.mem_of_getElem? (i := 532) (by decide +kernel)⟩
theorem lw_p17 : lw_okq (⟨"java/util/ArrayList", "grow", "()[Ljava/lang/Object;"⟩, 3) := ⟨⟨by decide +kernel, by decide +kernel⟩, List.mem_of_getElem? (i := 31) (by decide +kernel), List.mem_of_getElem? (i := 535) (by decide +kernel), List.mem_of_getElem? (i := 536) (by decide +kernel)⟩
theorem lw_p18 : lw_okq (⟨"java/util/ArrayList", "grow", "(I)[Ljava/lang/Object;"⟩, 3) := ⟨⟨by decide +kernel, by decide +kernel⟩, List.mem_of_getElem? (i := 31) (by decide +kernel), List.mem_of_getElem? (i := 539) (by decide +kernel), List.mem_of_getElem? (i := 540) (by decide +kernel)⟩
theorem lw_p19 : lw_okq (⟨"LetterLocks", "takesAnother", "(I)Z"⟩, 6) := ⟨⟨by decide +kernel, by decide +kernel⟩, List.mem_of_getElem? (i := 23) (by decide +kernel), List.mem_of_getElem? (i := 619) (by decide +kernel), List.mem_of_getElem? (i := 620) (by decide +kernel)⟩
def lw_privs_2 : List (MethodName × Nat) := [(⟨"java/util/ArrayList", "add", "(Ljava/lang/Object;[Ljava/lang/Object;I)V"⟩, 3), (⟨"java/util/ArrayList", "grow", "()[Ljava/lang/Object;"⟩, 3), (⟨"java/util/ArrayList", "grow", "(I)[Ljava/lang/Object;"⟩, 3), (⟨"LetterLocks", "takesAnother", "(I)Z"⟩, 6)]
theorem lw_r2 : ∀ q ∈ lw_privs_2, lw_okq q := List.forall_mem_cons.mpr ⟨lw_p16, List.forall_mem_cons.mpr ⟨lw_p17, List.forall_mem_cons.mpr ⟨lw_p18, List.forall_mem_cons.mpr ⟨lw_p19, fun _ h => absurd h List.not_mem_nil⟩⟩⟩⟩
def lw_privs : List (MethodName × Nat) := lw_privs_1 ++ (lw_privs_2)
def lw_tbl : List Cond := k2_sels lw_privs ++ tables_1
theorem lw_privs_ok : ∀ q ∈ lw_privs, lw_okq q := by
  show ∀ q ∈ lw_privs_1 ++ (lw_privs_2), lw_okq q
  exact List.forall_mem_append.mpr ⟨lw_r1, lw_r2⟩
/-- the streams that the claim lets the run draw from -/
abbrev lw_cs : List Choice := [Jvm.Choice.named "NaN.bits"]
theorem lw_bits : nanBits ∈ lw_cs := by first | decide | exact List.mem_cons_self | simp [lw_cs, nanBits]
/-- an array of arrays may be made: the tables' word -/
def va_AOA (ty : FieldType) (U : State) : Prop := (Cond.arrayOver (.array ty)).before #[] U = true
theorem va_AOA.use {ty : FieldType} {A : Array Value} {U : State} (h : va_AOA ty U) : (Cond.arrayOver (.array ty)).before A U = true := h
end
section
/-! ===== BEGIN words of one list among another's, by their places ===== -/
theorem goodIn_r {big : List Cond} (ws : List Cond) (ps : List Nat) (hp : ws = ps.filterMap (fun i => big[i]?)) (h : ws.all goodWord = true) : GoodIn big ws := by
  intro w hw
  have h1 := List.all_eq_true.mp h w hw
  rw [hp] at hw
  obtain ⟨i, -, hi⟩ := List.mem_filterMap.mp hw
  have hm : w ∈ big := by first | exact List.mem_of_getElem? hi | exact List.getElem?_mem hi
  exact ⟨hm, good_of_word h1⟩
theorem goodIn_app {big a b : List Cond} (ha : GoodIn big a) (hb : GoodIn big b) : GoodIn big (a ++ b) := fun w h => (List.mem_append.mp h).elim (ha w) (hb w)
theorem goodIn_ca {big a b : List Cond} {c : Cond} (ha : GoodIn big (c :: a)) (hb : GoodIn big b) : GoodIn big (c :: (a ++ b)) := fun w h => (List.mem_cons.mp h).elim (fun e => ha w (List.mem_cons.mpr (Or.inl e))) (fun h => (List.mem_append.mp h).elim (fun h => ha w (List.mem_cons.mpr (Or.inr h))) (hb w))
theorem goodIn_sub {big ws : List Cond} (hm : ∀ w ∈ ws, w ∈ big) (h : ws.all goodWord = true) : GoodIn big ws := fun w hw => ⟨hm w hw, good_of_word (List.all_eq_true.mp h w hw)⟩
/-! ===== END ===== -/

/-! ===== BEGIN new T[n][m]: the outer array a place, the inner ones among the pooled ===== -/
/-- f, but v at every address of l -/
def vr_up {α : Type} (f : Nat → α) (l : List Nat) (v : α) : Nat → α := fun a => if a ∈ l then v else f a
theorem vr_up_in {α : Type} {f : Nat → α} {l : List Nat} {v : α} {a : Nat} (h : a ∈ l) : vr_up f l v a = v := if_pos h
theorem vr_up_ne {α : Type} {f : Nat → α} {l : List Nat} {v : α} {a : Nat} (h : a ∉ l) : vr_up f l v a = f a := if_neg h
theorem vr_rows {L l : List Nat} {f : Nat → va_E} {e : va_E} (h : ∀ a, a ∈ l → a ∉ L) : va_pl L f ++ l.map (fun a => (a, e)) = va_pl (L ++ l) (vr_up f l e) := by
  unfold va_pl
  rw [List.map_append]
  congr 1
  · apply List.map_congr_left
    intro a ha
    rw [vr_up_ne (fun q => h a q ha)]
  · apply List.map_congr_left
    intro a ha
    rw [vr_up_in ha]
theorem vr_lay {X rows : va_W} {x : Nat × va_E} {pl : va_W} {D : va_G} {cl : List vw_C} {H : Heap} (hP : va_P D cl (((X ++ pl) ++ [x]) ++ rows) H) : va_P D cl ((X ++ [x]) ++ (pl ++ rows)) H := by
  rw [List.append_assoc (X ++ pl)] at hP
  have h := va_P.swap hP
  rw [← List.append_assoc X] at h
  have h2 := va_P.swap h
  rw [List.append_assoc (X ++ [x])] at h2
  exact h2
theorem vr_layD {X rows : va_W} {x : Nat × va_E} {pl : va_W} {A : Nat → Prop} (hD : va_D A (((X ++ pl) ++ [x]) ++ rows)) : va_D A ((X ++ [x]) ++ (pl ++ rows)) := by
  rw [List.append_assoc (X ++ pl)] at hD
  have h := va_D.swap hD
  rw [← List.append_assoc X] at h
  have h2 := va_D.swap h
  rw [List.append_assoc (X ++ [x])] at h2
  exact h2
theorem vr_outer (c : ClassId) (N h0 : Nat) : ∀ i : Nat, Jvm.Free.Multi.outerC c N h0 i = arrV c N (fun j => va_rf (if j < i then some (h0 + 1 + j) else none))
  | 0 => by
    show ({ cls := c, slots := Array.replicate N .null, vm := .none } : Cell) = _
    rw [arrV_new]
    refine congrArg (arrV c N) (funext fun j => ?_)
    simp [va_rf]
  | i + 1 => by
    show (Jvm.Free.Multi.outerC c N h0 i).setSlot i (.ref (h0 + 1 + i)) = _
    rw [vr_outer c N h0 i, arrV_store]
    refine congrArg (arrV c N) (funext fun j => ?_)
    by_cases e : j = i
    · subst e
      simp [updV, va_rf]
    · by_cases h : j < i
      · simp [updV, e, h, Nat.lt_succ_of_lt h]
      · simp [updV, e, h, show ¬ j < i + 1 by omega]
section VGM
variable {p : Program} {l : Launch} {e : Env} {R : Room} {s : State} {m : MethodId} {args : Array Value} {below : List Frame} {meth : Method} {c : Code} {H : Heap} {locs : List Loc} {cells slots : Nat} {Q : State → Prop}
variable {cc : ByteArray} {pc : Nat} {ls : Array Slot} {rest : List Value} {D : va_G} {cl : List vw_C} {A : Nat → Prop} {a : Nat} {tys : List (ClassId × FieldType)} {ws : va_W} {H0 : Heap}
theorem va_mna {X : va_W} {L : List Nat} {f : Nat → va_E} {cc : ByteArray} (hexec : p.tables.exec = Jvm.exec) (hb : c.code = cc) {own : String} {index : Nat} {ty : FieldType} {cy : ClassId} (hown : s.vm.findClass own = some m.cls) (hclink : (Cond.classLink own index ("[" ++ (FieldType.array ty).toString)).before args s = true) (hover : va_AOA ty s) (harr : (Cond.arrayClass ty).before args s = true) (hcy : s.vm.findClass (FieldType.array ty).toString = some cy)
    (hK : va_K D cl tys s) (hP : va_P D cl (X ++ va_pl L f) H) (hD : va_D A (X ++ va_pl L f)) (hS : va_S A H0 H locs) (hA : ∀ q, H0.size ≤ q → A q) {n k : Int32} {N' K' : Nat} {z : vp_A} (hn : ¬ n < 0) (hk : ¬ k < 0) (hN : n.toNatClampNeg = N') (hM : k.toNatClampNeg = K')
    (hb1 : N' * 4 ≤ 536870912) (hb2 : K' * componentBytes ty ≤ 536870912) (hb3 : K' ≤ 536870912) (hdf : fits ty (defaultValue ty) = true) (hdd : (defaultValue ty).isDefault = true) (hcells : cells + (1 + N') ≤ R.cells) (hslots : slots + (N' + N' * K') ≤ R.slots) (hz : ∀ c : ClassId, Jvm.Free.Multi.innerC c K' (defaultValue ty) = vp_cell c z) (hdg : decode cc pc = .ok (.multianewarray index 2, 4))
    (kk : ∀ (q : Nat) (r : Nat → Nat) (cA : ClassId) (H1 : Heap), (∀ i j : Nat, i < N' → j < N' → r i = r j → i = j) → (∀ i : Nat, i < N' → r i ∉ L) → va_K D cl (tys ++ [(cA, .array ty)]) s →
      va_P D cl ((X ++ [(q, .inl (cA, N', .inr (.inr (.inr (.inr (fun i => if i < N' then some (r i) else none))))))]) ++ va_pl (L ++ (List.range N').map r) (vr_up f ((List.range N').map r) (.inl (cy, z)))) H1 → va_D A ((X ++ [(q, .inl (cA, N', .inr (.inr (.inr (.inr (fun i => if i < N' then some (r i) else none))))))]) ++ va_pl (L ++ (List.range N').map r) (vr_up f ((List.range N').map r) (.inl (cy, z)))) → va_S A H0 H1 locs →
      W p l e R s m args below meth c H1 locs (cells + 1 + N') (slots + N' + N' * K') Q (F0 m (pc + 4) ls (.ref q :: rest))) : W p l e R s m args below meth c H locs cells slots Q (F0 m pc ls (.int k :: .int n :: rest)) := by
  subst hN
  subst hM
  intro T hT Xs
  obtain ⟨vm₁, cA, comp, -, fA, fC, hO, -, X', step⟩ := Xs.multianewarray2F hexec hown hclink (va_AOA.use hover) harr (g := F0 m pc ls (.int k :: .int n :: rest)) rfl (by rw [hb]; exact hdg) rfl hn hk hb1 hb2 hb3 hdf hdd hcells hslots
  have ec : some cy = some comp := hcy.symm.trans fC
  cases ec
  generalize hF : Jvm.Free.Multi.fill (T.setVm vm₁) cA cy n.toNatClampNeg k.toNatClampNeg (defaultValue ty) n.toNatClampNeg = F at X' step
  have hTh : (T.setVm vm₁).heap = H := hT
  obtain ⟨f1, f2, -, -⟩ := Jvm.Free.Multi.fill_facts (T.setVm vm₁) cA cy n.toNatClampNeg k.toNatClampNeg (defaultValue ty) n.toNatClampNeg
  rw [hF, hTh] at f1 f2
  have hold : ∀ x : Nat, x < H.size → F.heap[x]? = H[x]? := fun x hx => by
    have := Jvm.Free.Multi.fill_old (T.setVm vm₁) cA cy n.toNatClampNeg k.toNatClampNeg (defaultValue ty) (a := x) (by rw [hTh]; exact hx) n.toNatClampNeg
    rw [hF, hTh] at this
    exact this
  have hrow : ∀ j : Nat, j < n.toNatClampNeg → F.heap[H.size + 1 + j]? = some (vp_cell cy z) := fun j hj => by
    have := Jvm.Free.Multi.fill_inner (T.setVm vm₁) cA cy n.toNatClampNeg k.toNatClampNeg (defaultValue ty) n.toNatClampNeg j hj
    rw [hF, hTh, hz] at this
    exact this
  have hout : Jvm.Free.Multi.outerC cA n.toNatClampNeg H.size n.toNatClampNeg = vp_cell cA (n.toNatClampNeg, .inr (.inr (.inr (.inr (fun i => if i < n.toNatClampNeg then some (H.size + 1 + i) else none))))) := by
    rw [vp_cell_q]
    exact vr_outer cA n.toNatClampNeg H.size n.toNatClampNeg
  rw [hout] at f2
  have hlt : ∀ a, a ∈ L → a < H.size := fun a ha => by
    obtain ⟨k9, hk9⟩ := va_pl_get (X := X) (f := f) ha
    exact (hP k9 _ hk9).lt
  have hnl : ∀ i : Nat, i < n.toNatClampNeg → H.size + 1 + i ∉ L := fun i _ h => by
    have := hlt _ h
    omega
  have hnm : ∀ a, a ∈ (List.range n.toNatClampNeg).map (fun i => H.size + 1 + i) → a ∉ L := fun a ha h => by
    obtain ⟨i, -, rfl⟩ := List.mem_map.mp ha
    have := hlt _ h
    omega
  have hP0 : va_P D cl (X ++ va_pl L f) F.heap := hP.kept (fun k9 x hx => hold x.1 ((hP k9 x hx).lt))
  have hP1 : va_P D cl ((X ++ va_pl L f) ++ [(H.size, .inl (cA, n.toNatClampNeg, .inr (.inr (.inr (.inr (fun i => if i < n.toNatClampNeg then some (H.size + 1 + i) else none))))))]) F.heap := hP0.app (fun k9 x hx => by
    have h0 : k9 < 1 := (List.getElem?_eq_some_iff.mp hx).1
    rw [show k9 = 0 by omega] at hx
    cases hx
    exact f2)
  have hP2 : va_P D cl (((X ++ va_pl L f) ++ [(H.size, .inl (cA, n.toNatClampNeg, .inr (.inr (.inr (.inr (fun i => if i < n.toNatClampNeg then some (H.size + 1 + i) else none))))))]) ++ ((List.range n.toNatClampNeg).map (fun i => H.size + 1 + i)).map (fun a => (a, .inl (cy, z)))) F.heap := hP1.app (fun k9 x hx => by
    obtain ⟨a, ha, rfl⟩ := List.mem_map.mp (List.mem_of_getElem? hx)
    obtain ⟨i, hi, rfl⟩ := List.mem_map.mp ha
    exact hrow i (List.mem_range.mp hi))
  have hD2 : va_D A (((X ++ va_pl L f) ++ [(H.size, .inl (cA, n.toNatClampNeg, .inr (.inr (.inr (.inr (fun i => if i < n.toNatClampNeg then some (H.size + 1 + i) else none))))))]) ++ ((List.range n.toNatClampNeg).map (fun i => H.size + 1 + i)).map (fun a => (a, .inl (cy, z)))) := by
    have hD1 := hD.push (e := .inl (cA, n.toNatClampNeg, .inr (.inr (.inr (.inr (fun i => if i < n.toNatClampNeg then some (H.size + 1 + i) else none)))))) hP rfl (hA _ hS.1)
    generalize hW1 : (X ++ va_pl L f) ++ [(H.size, .inl (cA, n.toNatClampNeg, .inr (.inr (.inr (.inr (fun i => if i < n.toNatClampNeg then some (H.size + 1 + i) else none))))))] = W1 at hD1 hP1 ⊢
    have hle : ∀ (k9 : Nat) (x : Nat × va_E), W1[k9]? = some x → x.1 ≤ H.size := fun k9 x hx => by
      rw [← hW1] at hx
      by_cases hl : k9 < (X ++ va_pl L f).length
      · rw [List.getElem?_append_left hl] at hx
        exact Nat.le_of_lt ((hP k9 x hx).lt)
      · rw [List.getElem?_append_right (by omega)] at hx
        have h0 : k9 - (X ++ va_pl L f).length < 1 := (List.getElem?_eq_some_iff.mp hx).1
        rw [show k9 - (X ++ va_pl L f).length = 0 by omega] at hx
        cases hx
        exact Nat.le_refl _
    have hr : ∀ (k9 : Nat) (x : Nat × va_E), (((List.range n.toNatClampNeg).map (fun i => H.size + 1 + i)).map (fun a => ((a, .inl (cy, z)) : Nat × va_E)))[k9]? = some x → x.1 = H.size + 1 + k9 := fun k9 x hx => by
      rw [List.getElem?_map, List.getElem?_map] at hx
      by_cases h9 : k9 < n.toNatClampNeg
      · rw [List.getElem?_range h9] at hx
        cases hx
        rfl
      · have hn0 : (List.range n.toNatClampNeg)[k9]? = none := List.getElem?_eq_none (by rw [List.length_range]; omega)
        rw [hn0] at hx
        cases hx
    refine ⟨fun i j x y hi hj hxy => ?_, fun k9 x hx => ?_⟩
    · by_cases h1 : i < W1.length <;> by_cases h2 : j < W1.length
      · rw [List.getElem?_append_left h1] at hi
        rw [List.getElem?_append_left h2] at hj
        exact hD1.1 i j x y hi hj hxy
      · rw [List.getElem?_append_left h1] at hi
        rw [List.getElem?_append_right (by omega)] at hj
        have := hle _ _ hi
        have := hr _ _ hj
        omega
      · rw [List.getElem?_append_right (by omega)] at hi
        rw [List.getElem?_append_left h2] at hj
        have := hle _ _ hj
        have := hr _ _ hi
        omega
      · rw [List.getElem?_append_right (by omega)] at hi hj
        have := hr _ _ hi
        have := hr _ _ hj
        omega
    · by_cases h1 : k9 < W1.length
      · rw [List.getElem?_append_left h1] at hx
        exact hD1.2 k9 x hx
      · rw [List.getElem?_append_right (by omega)] at hx
        have := hr _ _ hx
        exact hA _ (by have := hS.1; omega)
  have hAr : ArrOfT s cA (.array ty) := fun N9 z9 => by
    obtain ⟨-, k9, hk9, cm9, hkk9⟩ := (hO 0 0 0).1
    exact ⟨(fun q hq => by cases hq), k9, hk9, cm9, hkk9⟩
  have hK2 : va_K D cl (tys ++ [(cA, .array ty)]) s := ⟨hK.1, fun k9 x hx => by
    by_cases hl : k9 < tys.length
    · rw [List.getElem?_append_left hl] at hx
      exact hK.2 k9 x hx
    · rw [List.getElem?_append_right (by omega)] at hx
      have h0 : k9 - tys.length < 1 := (List.getElem?_eq_some_iff.mp hx).1
      rw [show k9 - tys.length = 0 by omega] at hx
      cases hx
      exact ⟨hAr, fA⟩⟩
  obtain ⟨t, a1, b1⟩ := kk H.size (fun i => H.size + 1 + i) cA F.heap (fun i j _ _ h => by have h9 : H.size + 1 + i = H.size + 1 + j := h; omega) hnl hK2 (by rw [← vr_rows hnm]; exact vr_lay hP2) (by rw [← vr_rows hnm]; exact vr_layD hD2) ⟨by rw [f1]; have := hS.1; omega, fun x h1 h2 => (hold x (Nat.lt_of_lt_of_le h1 hS.1)).trans (hS.2.1 x h1 h2), hS.2.2⟩ F rfl X'
  refine ⟨t, step t ?_, b1⟩
  have e : T.heap.size = H.size := by rw [hT]
  rw [e]
  exact a1
end VGM
/-! ===== END ===== -/

/-! ===== BEGIN exceptions that leave a method, and their catching by the caller (launches without stack traces) ===== -/
section VXA
/-! The laws vx_back, vx_callV, vx_callS, vx_callSW, vx_throw0, vx_throwS follow proofs of the library, with one case more: JvmDerived/Free/Laws.lean (Back.of_free), Shelf42/LK1.lean (callV, callS), Shelf/KitTraced.lean (throwNew0V, throwNewS). -/
/-- where a method has thrown q: the class by its name, the cell, what was written, the world -/
def vx_T (XC : String → State → State → Prop) (st : State) (q : Addr) (t : State) (mc ms : Nat) (free : Addr → Prop) : Prop :=
  ∃ (E : String) (ce : Cell) (L : List Loc), XC E st t ∧ t.heap[q]? = some ce ∧ ce.vm = .none ∧ st.vm.findClass E = some ce.cls ∧ st.WarmedH t.vm ∧ st.sameButNew ({ t with vm := st.vm } : State) L mc ms ∧ ∀ z ∈ L, free z.base
def vx_Q (Qc : Array Value → State → Outcome → State → Prop) (XC : String → State → State → Prop) (mc ms : Nat) (free : Addr → Prop) : Array Value → State → Outcome → State → Prop := fun a st o t =>
  (Qc a st o t ∧ ∃ L, FrameEnd st o t L mc ms ∧ ∀ q ∈ L, free q.base) ∨ ∃ q, o = .threw q ∧ vx_T XC st q t mc ms free
/-- a callee that returns or throws -/
def vx_Met (l : Launch) (y : MethodName) (ws : List Cond) (rm : Room) (Pc : Array Value → State → Prop) (Qc : Array Value → State → Outcome → State → Prop) (XC : String → State → State → Prop) (mc ms : Nat) (free : Addr → Prop) : Prop :=
  MetFree l y (headSpec ws rm) Pc (fun _ _ _ _ _ => True) (vx_Q Qc XC mc ms free)
def vx_Post (XC : String → State → State → Prop) (mc ms : Nat) (free : Addr → Prop) : Pt → Array Value → Addr → Pt → Prop := fun A a q B =>
  ∃ (g : JFrame) (mk : MethodId) (t : State) (L : List Loc) (E : String) (ce : Cell), B.U.heap = t.heap ∧ B.U.vm = t.vm ∧ XC E (A.U.calling g mk a) t ∧ t.heap[q]? = some ce ∧ ce.vm = .none ∧ A.U.vm.findClass E = some ce.cls ∧ B.locs = A.locs ++ L ∧ (∀ z ∈ L, free z.base) ∧ B.cells = A.cells + mc ∧ B.slots = A.slots + ms
def vx_Back (l : Launch) (R : Room) (p : Program) (e : Env) (below : List Frame) (s : State) (sargs : Array Value) (y : MethodName) (len W9 : Nat)
    (Pre : Pt → Array Value → Prop) (Post : Pt → Array Value → Option Value → Pt → Prop) (PostX : Pt → Array Value → Addr → Pt → Prop) : Prop :=
  ∀ (m : MethodId) (meth : Method) (c : Code) (A : Pt) (g : JFrame) (ig : Instr) (mk : MethodId) (a : Array Value),
    Stand p l e R s m sargs below meth c A.U A.locs A.cells A.slots → g.method = m → g.locals.size = c.maxLocals → decode c.code g.pc = .ok (ig, len) →
    2 * g.monitorRoom + (g.stack.map fun v => v.category).sum ≤ W9 → A.U.methodNamed? y = some mk → Pre A a →
    (∃ (v : Option Value) (B : Pt), Stand p l e R s m sargs below meth c B.U B.locs B.cells B.slots ∧ Post A a v B ∧
      Steps p.tables e below (doInvoke e (A.U.setTop g) [] mk a).1 (B.U.setTop { g with pc := g.pc + len, stack := v.toList ++ g.stack })) ∨
    (∃ (q : Addr) (B : Pt), Stand p l e R s m sargs below meth c B.U B.locs B.cells B.slots ∧ PostX A a q B ∧
      Steps p.tables e below (doInvoke e (A.U.setTop g) [] mk a).1 ((B.U.setTop g).pushFrame (.throwing q)))
section Payer
variable {l : Launch} {R : Room} {p : Program} {e : Env} {below : List Frame} {s : State} {sargs : Array Value} {y : MethodName} {len W9 : Nat}
theorem vx_back {ws : List Cond} {rm : Room} {Pc : Array Value → State → Prop} {Qc : Array Value → State → Outcome → State → Prop} {XC : String → State → State → Prop} {mc ms : Nat} {free : Addr → Prop} {bytes : ByteArray} {maxL : Nat} {ret : Option FieldType}
    (hM : vx_Met l y ws rm Pc Qc XC mc ms free) (hblind : FrameBlind Pc) (hrc : rm.cells = mc) (hrs : rm.slots = ms)
    (hframes : rm.frames + 1 ≤ R.frames) (hlocals : W9 + (maxL + 11) + rm.locals ≤ R.locals)
    (hws : ∀ w ∈ ws, ∀ a' U, s.WarmedH U.vm → w.before a' U = true) (hcode : Cond.code y bytes maxL ret ∈ ws) (hinit : ∀ a' U, s.WarmedH U.vm → (Cond.initialized y.cls).before a' U = true) :
    vx_Back l R p e below s sargs y len W9 (PreOf R mc ms Pc) (PostOf Qc mc ms free) (vx_Post XC mc ms free) := by
  intro m meth c A g ig mk a X hg hsize hdg hW hn hp
  have h1 : (headSpec ws rm).pre.before a A.U = true := atoms_intro fun w hw => hws w hw _ _ X.warmed
  have h2 : (Cond.code y bytes maxL ret).before a A.U = true := hws _ hcode _ _ X.warmed
  have h3 : (Cond.initialized y.cls).before a A.U = true := hinit _ _ X.warmed
  have h4 : A.cells + (headSpec ws rm).room.cells ≤ R.cells := by rw [show (headSpec ws rm).room.cells = mc from hrc]; exact hp.1
  have h5 : A.slots + (headSpec ws rm).room.slots ≤ R.slots := by rw [show (headSpec ws rm).room.slots = ms from hrs]; exact hp.2.1
  have hPc : Pc a (A.U.calling g mk a) := hblind _ _ _ _ hp.2.2
  obtain ⟨U, Ls, c0, s0⟩ := A
  dsimp only [Pt.U, Pt.locs, Pt.cells, Pt.slots] at h1 h2 h3 h4 h5 X hn hPc ⊢
  obtain ⟨methY, cY, hmY, hcY, -, hlY, -, -, -, -⟩ := Cond.code_spec hn h2
  obtain ⟨kY, hkY, -⟩ := className_of_methodNamed hn
  have hinitY : kY.init = .initialized := Cond.initialized_spec (findClass_of_methodNamed hn) hkY h3
  have h : At U g.method c below := by rw [hg]; exact X.here
  have hlocals9 : W9 + (maxL + 11) + (headSpec ws rm).room.locals ≤ R.locals := hlocals
  have happ : (headSpec ws rm).appliesLoose y e.platform (U.calling g mk a) = true :=
    Spec.appliesLoose_calling (g := g) h hdg hn hkY hinitY
      (X.room_calling (g := g) (R' := (headSpec ws rm).room) hsize hmY hcY hframes (by rw [hlY]; omega) h4 h5) h1
  obtain ⟨mid, hmid⟩ := h.above
  have hfr : (U.setTop g).frames = (.java g :: mid) ++ below := by rw [State.frames_setTop' g h.top, hmid]; rfl
  obtain ⟨o, s₂, hsteps, -, hend, hq⟩ := Steps.callFree hM p X.admits X.cas X.clock (acts := []) hfr happ hPc trivial
  have hq' : vx_Q Qc XC mc ms free a (U.calling g mk a) o s₂ := hq
  rw [State.frames_setTop' g h.top] at hend
  obtain ⟨g₀, hg0⟩ := Option.isSome_iff_exists.mp h.top
  obtain ⟨r, hr⟩ := State.topJava?_eq_some.mp hg0
  have hr' : (({ U with heap := s₂.heap, slotsUsed := s₂.slotsUsed } : State).setVm s₂.vm).frames = .java g₀ :: r := hr
  rcases hq' with ⟨hqc, L, hfe, hL⟩ | ⟨q, rfl, E, ce, L, hx, hce, hcv, hcl, hW₂, hsm, hL⟩
  · obtain ⟨⟨v, rfl⟩, hW₂, e2, q2, q3, q4, q5, q6⟩ := id hfe
    have e3 : s₂ = ({ (U.calling g mk a).setFrames s₂.frames with heap := s₂.heap, slotsUsed := s₂.slotsUsed } : State).setVm s₂.vm := by
      have : s₂ = ({ s₂ with vm := (U.calling g mk a).vm } : State).setVm s₂.vm := rfl
      rw [e2] at this
      exact this
    obtain ⟨c₂, i₂, len₂, hc₂, hd₂, hf₂⟩ := hend
    have hW' : U.WarmedH s₂.vm := hW₂
    have hcc : c₂ = c := by
      have h1 : s₂.code? g.method = U.code? g.method := by
        rw [State.code?_eq, State.code?_eq, hW'.alike.method?]
      exact Option.some.inj (hc₂.symm.trans (h1.trans h.code))
    subst hcc
    have hlen : len₂ = len := by rw [hdg] at hd₂; cases hd₂; rfl
    subst hlen
    have hs₂ : s₂ = (({ U with heap := s₂.heap, slotsUsed := s₂.slotsUsed } : State).setVm s₂.vm).setTop { g with pc := g.pc + len₂, stack := v.toList ++ g.stack } := by
      refine e3.trans ?_
      rw [hf₂, State.calling_eq h.top, State.setFrames_setFrames, State.setTop_of_frames _ hr', hr]
      rfl
    have hsame : U.sameButNew ({ U with heap := s₂.heap, slotsUsed := s₂.slotsUsed } : State) L mc ms := by
      refine ⟨?_, q2, q3, q4, q5, q6⟩
      obtain ⟨t, ht, -⟩ := State.frames_cons hr
      show ({ U with heap := s₂.heap, slotsUsed := s₂.slotsUsed } : State) = { U.setFrames U.frames with heap := s₂.heap, slotsUsed := s₂.slotsUsed }
      rw [State.setFrames_self ht]
    subst hg
    refine Or.inl ⟨v, ⟨(({ U with heap := s₂.heap, slotsUsed := s₂.slotsUsed } : State).setVm s₂.vm), Ls ++ L, c0 + mc, s0 + ms⟩,
      ⟨X.admits, X.cas, X.clock, X.frames, X.room, X.hears, X.method, X.code, (X.here.setHeapUsed s₂.heap s₂.slotsUsed).setVm hW'.alike, X.tail, State.WarmedH.trans X.warmed hW', X.limits, X.bytes, X.same.trans (hsame.setVm s.vm)⟩,
      ⟨g, mk, s₂, L, rfl, rfl, hqc, rfl, hL, rfl, rfl⟩, ?_⟩
    show Steps p.tables e below _ ((({ U with heap := s₂.heap, slotsUsed := s₂.slotsUsed } : State).setVm s₂.vm).setTop { g with pc := g.pc + len₂, stack := v.toList ++ g.stack })
    rw [← hs₂]
    exact hsteps
  · obtain ⟨e2, q2, q3, q4, q5, q6⟩ := id hsm
    have e3 : s₂ = ({ (U.calling g mk a).setFrames s₂.frames with heap := s₂.heap, slotsUsed := s₂.slotsUsed } : State).setVm s₂.vm := by
      have : s₂ = ({ s₂ with vm := (U.calling g mk a).vm } : State).setVm s₂.vm := rfl
      rw [e2] at this
      exact this
    have hf₂ : s₂.frames = .throwing q :: .java g :: U.frames.tail := hend
    have hW' : U.WarmedH s₂.vm := hW₂
    have hs₂ : s₂ = ((({ U with heap := s₂.heap, slotsUsed := s₂.slotsUsed } : State).setVm s₂.vm).setTop g).pushFrame (.throwing q) := by
      refine e3.trans ?_
      rw [hf₂, State.calling_eq h.top, State.setFrames_setFrames, State.pushFrame, State.frames_setTop _ hr', State.setTop_of_frames _ hr', State.setFrames_setFrames, hr]
      rfl
    have hsame : U.sameButNew ({ U with heap := s₂.heap, slotsUsed := s₂.slotsUsed } : State) L mc ms := by
      refine ⟨?_, q2, q3, q4, q5, q6⟩
      obtain ⟨t, ht, -⟩ := State.frames_cons hr
      show ({ U with heap := s₂.heap, slotsUsed := s₂.slotsUsed } : State) = { U.setFrames U.frames with heap := s₂.heap, slotsUsed := s₂.slotsUsed }
      rw [State.setFrames_self ht]
    subst hg
    refine Or.inr ⟨q, ⟨(({ U with heap := s₂.heap, slotsUsed := s₂.slotsUsed } : State).setVm s₂.vm), Ls ++ L, c0 + mc, s0 + ms⟩,
      ⟨X.admits, X.cas, X.clock, X.frames, X.room, X.hears, X.method, X.code, (X.here.setHeapUsed s₂.heap s₂.slotsUsed).setVm hW'.alike, X.tail, State.WarmedH.trans X.warmed hW', X.limits, X.bytes, X.same.trans (hsame.setVm s.vm)⟩,
      ⟨g, mk, s₂, L, E, ce, rfl, rfl, hx, hce, hcv, hcl, rfl, hL, rfl, rfl⟩, ?_⟩
    show Steps p.tables e below _ (((({ U with heap := s₂.heap, slotsUsed := s₂.slotsUsed } : State).setVm s₂.vm).setTop g).pushFrame (.throwing q))
    rw [← hs₂]
    exact hsteps
end Payer
section Calls
variable {p : Program} {l : Launch} {e : Env} {R : Room} {s : State} {m : MethodId} {args : Array Value} {below : List Frame} {meth : Method} {c : Code} {T : State} {locs : List Loc} {cells slots : Nat}
theorem vx_callV (X : Stand p l e R s m args below meth c T locs cells slots) (hexec : p.tables.exec = Jvm.exec) {own C : String} {index : Nat} {y : MethodName} {bytes : ByteArray} {maxL : Nat} {ret : Option FieldType}
    (hown : s.vm.findClass own = some m.cls) (hlink : (Cond.methodLink own index y).before args s = true) (hinst : (Cond.instanceMethod y).before args s = true) (hsel : (Cond.selects C y y).before args s = true)
    (hcode : (Cond.code y bytes maxL ret).before args s = true) (hy : y.cls ≠ "java/lang/invoke/MethodHandle" ∧ y.cls ≠ "java/lang/invoke/VarHandle")
    {W9 : Nat} {Pre : Pt → Array Value → Prop} {Post : Pt → Array Value → Option Value → Pt → Prop} {PostX : Pt → Array Value → Addr → Pt → Prop} (hK : vx_Back l R p e below s args y 3 W9 Pre Post PostX)
    {b : Addr} {cellB : Cell} (hcell : T.heap[b]? = some cellB) (hobj : cellB.vm.isStatics = false) (hcls : s.vm.findClass C = some cellB.cls)
    {g : JFrame} (hg : g.method = m) (hsize : g.locals.size = c.maxLocals) {argsL rest : List Value} (hlen : ∀ sig, parseMethodDescriptor y.desc = some sig → argsL.length = sig.parameters.length)
    (hstack : g.stack = argsL.reverse ++ .ref b :: rest) (hW : 2 * g.monitorRoom + (rest.map fun v => v.category).sum ≤ W9) (hdg : decode c.code g.pc = .ok (.invokevirtual index, 3))
    (hpre : ∀ vm₁, s.WarmedH vm₁ → Pre ⟨T.setVm vm₁, locs, cells, slots⟩ (Value.ref b :: argsL).toArray) :
    (∃ (v : Option Value) (vm₁ : Vm) (B : Pt), s.WarmedH vm₁ ∧ Stand p l e R s m args below meth c B.U B.locs B.cells B.slots ∧ Post ⟨T.setVm vm₁, locs, cells, slots⟩ (Value.ref b :: argsL).toArray v B ∧
      ∀ target, Steps p.tables e below (B.U.setTop { g with pc := g.pc + 3, stack := v.toList ++ rest }) target → Steps p.tables e below (T.setTop g) target) ∨
    (∃ (q : Addr) (vm₁ : Vm) (B : Pt), s.WarmedH vm₁ ∧ Stand p l e R s m args below meth c B.U B.locs B.cells B.slots ∧ PostX ⟨T.setVm vm₁, locs, cells, slots⟩ (Value.ref b :: argsL).toArray q B ∧
      Steps p.tables e below (T.setTop g) ((B.U.setTop { g with stack := rest }).pushFrame (.throwing q))) := by
  obtain ⟨mk, methM, hnamed, hmethM, hstM, habM⟩ := Cond.instanceMethod_spec hinst
  obtain ⟨methM', cM, hmethM', -, -, -, -, -, -, hsigM⟩ := Cond.code_spec hnamed hcode
  cases hmethM.symm.trans hmethM'
  obtain ⟨c2, r2, m2, q1, q2, q3, q4, kP, hkP, hkPi⟩ := Cond.selects_spec hsel
  cases hcls.symm.trans q1
  cases (State.methodFound?_of_named hnamed hy).symm.trans q2
  cases hnamed.symm.trans q3
  have hselP : selectMethod e.platform s.vm cellB.cls mk = .method mk := by rw [Launch.admits_selectMethod X.admits]; exact q4
  obtain ⟨vm₁, X₁, hstep₁⟩ := X.invokevirtual hexec hown hlink hnamed hmethM hstM hkP hkPi hy (a := b) (cell := cellB) hcell
    (fun z h => by rw [h] at hobj; cases hobj) hselP hmethM habM hkP hkPi (g := g) hg (argsL := argsL) (rest := rest) (hlen _ hsigM) hstack hdg
  rcases hK m meth c ⟨T.setVm vm₁, locs, cells, slots⟩ { g with stack := rest } (.invokevirtual index) mk (Value.ref b :: argsL).toArray X₁ hg hsize hdg hW (X₁.named hnamed) (hpre vm₁ X₁.warmed) with ⟨v, B, X', hpost, hsteps⟩ | ⟨q, B, X', hpost, hsteps⟩
  · exact Or.inl ⟨v, vm₁, B, X₁.warmed, X', hpost, fun target h => hstep₁ _ fun acts => by rw [doInvoke_state]; exact hsteps.trans h⟩
  · exact Or.inr ⟨q, vm₁, B, X₁.warmed, X', hpost, hstep₁ _ fun acts => by rw [doInvoke_state]; exact hsteps⟩
theorem vx_callS (X : Stand p l e R s m args below meth c T locs cells slots) (hexec : p.tables.exec = Jvm.exec) {own : String} {index : Nat} {y : MethodName} {bytes : ByteArray} {maxL : Nat} {ret : Option FieldType}
    (hown : s.vm.findClass own = some m.cls) (hlink : (Cond.methodLink own index y).before args s = true) (hstat : (Cond.static y).before args s = true) (hinit : (Cond.initialized y.cls).before args s = true)
    (hcode : (Cond.code y bytes maxL ret).before args s = true) (hy : y.cls ≠ "java/lang/invoke/MethodHandle" ∧ y.cls ≠ "java/lang/invoke/VarHandle")
    {W9 : Nat} {Pre : Pt → Array Value → Prop} {Post : Pt → Array Value → Option Value → Pt → Prop} {PostX : Pt → Array Value → Addr → Pt → Prop} (hK : vx_Back l R p e below s args y 3 W9 Pre Post PostX)
    {g : JFrame} (hg : g.method = m) (hsize : g.locals.size = c.maxLocals) {argsL rest : List Value} (hlen : ∀ sig, parseMethodDescriptor y.desc = some sig → argsL.length = sig.parameters.length)
    (hstack : g.stack = argsL.reverse ++ rest) (hW : 2 * g.monitorRoom + (rest.map fun v => v.category).sum ≤ W9) (hdg : decode c.code g.pc = .ok (.invokestatic index, 3))
    (hpre : ∀ vm₁, s.WarmedH vm₁ → Pre ⟨T.setVm vm₁, locs, cells, slots⟩ argsL.toArray) :
    (∃ (v : Option Value) (vm₁ : Vm) (B : Pt), s.WarmedH vm₁ ∧ Stand p l e R s m args below meth c B.U B.locs B.cells B.slots ∧ Post ⟨T.setVm vm₁, locs, cells, slots⟩ argsL.toArray v B ∧
      ∀ target, Steps p.tables e below (B.U.setTop { g with pc := g.pc + 3, stack := v.toList ++ rest }) target → Steps p.tables e below (T.setTop g) target) ∨
    (∃ (q : Addr) (vm₁ : Vm) (B : Pt), s.WarmedH vm₁ ∧ Stand p l e R s m args below meth c B.U B.locs B.cells B.slots ∧ PostX ⟨T.setVm vm₁, locs, cells, slots⟩ argsL.toArray q B ∧
      Steps p.tables e below (T.setTop g) ((B.U.setTop { g with stack := rest }).pushFrame (.throwing q))) := by
  obtain ⟨mk, hnamed⟩ := Cond.code_named hcode
  obtain ⟨methM, cM, hmethM, -, -, -, -, -, -, hsigM⟩ := Cond.code_spec hnamed hcode
  have hstatic : methM.isStatic = true := Cond.static_spec hnamed hmethM hstat
  obtain ⟨kP, hkP, -⟩ := className_of_methodNamed hnamed
  have hinitP : kP.init = .initialized := Cond.initialized_spec (findClass_of_methodNamed hnamed) hkP hinit
  obtain ⟨vm₁, X₁, hstep₁⟩ := X.invokestatic hexec hown hlink hnamed hmethM hstatic hkP hinitP hy (g := g) hg (argsL := argsL) (rest := rest) (hlen _ hsigM) hstack hdg
  rcases hK m meth c ⟨T.setVm vm₁, locs, cells, slots⟩ { g with stack := rest } (.invokestatic index) mk argsL.toArray X₁ hg hsize hdg hW (X₁.named hnamed) (hpre vm₁ X₁.warmed) with ⟨v, B, X', hpost, hsteps⟩ | ⟨q, B, X', hpost, hsteps⟩
  · exact Or.inl ⟨v, vm₁, B, X₁.warmed, X', hpost, fun target h => hstep₁ _ fun acts => by rw [doInvoke_state]; exact hsteps.trans h⟩
  · exact Or.inr ⟨q, vm₁, B, X₁.warmed, X', hpost, hstep₁ _ fun acts => by rw [doInvoke_state]; exact hsteps⟩
end Calls
theorem vx_cls {s : State} {T : State} {vm₁ : Vm} {E : String} {k : ClassId} (hW : s.WarmedH vm₁) (h : (T.setVm vm₁).vm.findClass E = some k) : s.vm.findClass E = some k := by
  have h1 : vm₁.findClass E = some k := h
  rw [hW.alike.findClass] at h1
  exact h1
/-- the method's frame g, with q thrown over it -/
def vx_W (p : Program) (l : Launch) (e : Env) (R : Room) (s : State) (m : MethodId) (args : Array Value) (below : List Frame) (meth : Method) (c : Code) (H : Heap) (locs : List Loc) (cells slots : Nat) (Q : State → Prop) (g : JFrame) (q : Addr) : Prop :=
  ∀ T : State, T.heap = H → Stand p l e R s m args below meth c T locs cells slots → ∃ t, Steps p.tables e below ((T.setTop g).pushFrame (.throwing q)) t ∧ Q t
def vx_Run (p : Program) (l : Launch) (e : Env) (R : Room) (s : State) (m : MethodId) (args : Array Value) (below : List Frame) (meth : Method) (c : Code) (H : Heap) (locs : List Loc) (cells slots mc ms : Nat) (g : JFrame) (rest : List Value) (Qa : State → Outcome → State → Prop) (XC : String → State → State → Prop) (free : Addr → Prop) : Prop :=
  ∀ T : State, T.heap = H → Stand p l e R s m args below meth c T locs cells slots →
    (∃ (v : Option Value) (st₀ t T' : State) (L : List Loc), st₀.heap = H ∧ Stand p l e R s m args below meth c T' (locs ++ L) (cells + mc) (slots + ms) ∧ (∀ q ∈ L, free q.base) ∧ T'.heap = t.heap ∧ T'.vm = t.vm ∧ Qa st₀ (.returned v) t ∧
      Goes p e below T g T' { g with pc := g.pc + 3, stack := v.toList ++ rest }) ∨
    (∃ (q : Addr) (st₀ t T' : State) (L : List Loc) (E : String) (ce : Cell), st₀.heap = H ∧ Stand p l e R s m args below meth c T' (locs ++ L) (cells + mc) (slots + ms) ∧ (∀ z ∈ L, free z.base) ∧ T'.heap = t.heap ∧ T'.vm = t.vm ∧ XC E st₀ t ∧ t.heap[q]? = some ce ∧ ce.vm = .none ∧ s.vm.findClass E = some ce.cls ∧
      Steps p.tables e below (T.setTop g) ((T'.setTop { g with stack := rest }).pushFrame (.throwing q)))
def vx_X {S : Type} (px : S → Prop) (B : String → S → State → Prop) (A : Nat → Prop) : String → State → State → Prop := fun E st t => ∃ u : S, px u ∧ B E u t ∧ va_F A st t
section Runs
variable {p : Program} {l : Launch} {e : Env} {R : Room} {s : State} {m : MethodId} {args : Array Value} {below : List Frame} {meth : Method} {c : Code} {H : Heap} {locs : List Loc} {cells slots : Nat}
variable {y : MethodName} {bytes cc : ByteArray} {maxL nL mc ms n index : Nat} {ret : Option FieldType} {ws : List Cond} {rm : Room} {Pc : Array Value → State → Prop} {Qc : Array Value → State → Outcome → State → Prop} {XC : String → State → State → Prop} {free : Addr → Prop} {Ts : List Cond} {own C : String} {b : Addr} {As rest : List Value} {g : JFrame}
theorem vx_callBack (cb : CallB R s args own index y bytes maxL ret ws rm mc ms n) (hM : vx_Met l y ws rm Pc Qc XC mc ms free) (hbl : FrameBlind Pc) : vx_Back l R p e below s args y 3 8 (PreOf R mc ms Pc) (PostOf Qc mc ms free) (vx_Post XC mc ms free) := by
  obtain ⟨hrc, hrs, hfr, hlo, hws, hcw, -, hini, -⟩ := cb
  exact vx_back (bytes := bytes) (maxL := maxL) (ret := ret) hM hbl hrc hrs hfr hlo hws hcw (fun a' U hW => word_at hW (Or.inl (by first | rfl | simp [Cond.onTables, Cond.keeps, Cond.steady])) hini)
theorem vx_runV (S : CallFix p m c cc nL s args Ts own) (hM : vx_Met l y ws rm Pc Qc XC mc ms free) (cw : CallW R s args own C index y bytes maxL ret ws rm mc ms n) (hp : PreV s H C b Pc As)
    (hg : g.method = m) (hn : As.length = n) (hsize : g.locals.size = nL) (hstack : g.stack = As.reverse ++ .ref b :: rest) (hW : 2 * g.monitorRoom + (rest.map fun v => v.category).sum ≤ 8) (hdg : decode cc g.pc = .ok (.invokevirtual index, 3)) (hf : cells + mc ≤ R.cells ∧ slots + ms ≤ R.slots) :
    vx_Run p l e R s m args below meth c H locs cells slots mc ms g rest (Qc (Value.ref b :: As).toArray) XC free := by
  have hK : vx_Back l R p e below s args y 3 8 (PreOf R mc ms Pc) (PostOf Qc mc ms free) (vx_Post XC mc ms free) := vx_callBack cw.1 hM hp.1
  obtain ⟨⟨-, -, -, -, -, -, hcode, -, hy, hlen, hl⟩, hin, hse⟩ := cw
  obtain ⟨hx, hb, hml, ho, -⟩ := S
  obtain ⟨-, ⟨cellB, hcB, hoB, hclB⟩, hPc⟩ := hp
  intro T hT X
  rcases vx_callV X hx (C := C) (bytes := bytes) (maxL := maxL) (ret := ret) ho hl hin hse hcode hy hK (by rw [hT]; exact hcB) hoB hclB hg (hsize.trans hml.symm) (argsL := As) (rest := rest) (fun sig h => hn.trans (hlen sig h)) hstack hW (by rw [hb]; exact hdg)
    (fun vm₁ hW₁ => ⟨hf.1, hf.2, hPc (T.setVm vm₁) hT hW₁⟩) with ⟨v, vm₁, ⟨U', l2, c2, s2⟩, hW₁, X', ⟨g', mk, t, L, e1, e2, hq, h1, hL, h2, h3⟩, st⟩ | ⟨q, vm₁, ⟨U', l2, c2, s2⟩, hW₁, X', ⟨g', mk, t, L, E, ce, e1, e2, hq, hce, hcv, hcl, h1, hL, h2, h3⟩, st⟩
  · dsimp only [Pt.U, Pt.locs, Pt.cells, Pt.slots] at X' e1 e2 h1 h2 h3 st
    subst h1; subst h2; subst h3
    exact Or.inl ⟨v, (T.setVm vm₁).calling g' mk (Value.ref b :: As).toArray, t, U', L, hT, X', hL, e1, e2, hq, st⟩
  · dsimp only [Pt.U, Pt.locs, Pt.cells, Pt.slots] at X' e1 e2 h1 h2 h3 st hcl
    subst h1; subst h2; subst h3
    exact Or.inr ⟨q, (T.setVm vm₁).calling g' mk (Value.ref b :: As).toArray, t, U', L, E, ce, hT, X', hL, e1, e2, hq, hce, hcv, vx_cls hW₁ hcl, st⟩
theorem vx_runS (S : CallFix p m c cc nL s args Ts own) (hM : vx_Met l y ws rm Pc Qc XC mc ms free) (cw : CallB R s args own index y bytes maxL ret ws rm mc ms n ∧ (Cond.static y).before args s = true) (hp : PreS s H Pc As)
    (hg : g.method = m) (hn : As.length = n) (hsize : g.locals.size = nL) (hstack : g.stack = As.reverse ++ rest) (hW : 2 * g.monitorRoom + (rest.map fun v => v.category).sum ≤ 8) (hdg : decode cc g.pc = .ok (.invokestatic index, 3)) (hf : cells + mc ≤ R.cells ∧ slots + ms ≤ R.slots) :
    vx_Run p l e R s m args below meth c H locs cells slots mc ms g rest (Qc As.toArray) XC free := by
  have hK : vx_Back l R p e below s args y 3 8 (PreOf R mc ms Pc) (PostOf Qc mc ms free) (vx_Post XC mc ms free) := vx_callBack cw.1 hM hp.1
  obtain ⟨⟨-, -, -, -, -, -, hcode, hini, hy, hlen, hl⟩, hstt⟩ := cw
  obtain ⟨hx, hb, hml, ho, -⟩ := S
  intro T hT X
  rcases vx_callS X hx (bytes := bytes) (maxL := maxL) (ret := ret) ho hl hstt hini hcode hy hK hg (hsize.trans hml.symm) (argsL := As) (rest := rest) (fun sig h => hn.trans (hlen sig h)) hstack hW (by rw [hb]; exact hdg)
    (fun vm₁ hW₁ => ⟨hf.1, hf.2, hp.2 (T.setVm vm₁) hT hW₁⟩) with ⟨v, vm₁, ⟨U', l2, c2, s2⟩, hW₁, X', ⟨g', mk, t, L, e1, e2, hq, h1, hL, h2, h3⟩, st⟩ | ⟨q, vm₁, ⟨U', l2, c2, s2⟩, hW₁, X', ⟨g', mk, t, L, E, ce, e1, e2, hq, hce, hcv, hcl, h1, hL, h2, h3⟩, st⟩
  · dsimp only [Pt.U, Pt.locs, Pt.cells, Pt.slots] at X' e1 e2 h1 h2 h3 st
    subst h1; subst h2; subst h3
    exact Or.inl ⟨v, (T.setVm vm₁).calling g' mk As.toArray, t, U', L, hT, X', hL, e1, e2, hq, st⟩
  · dsimp only [Pt.U, Pt.locs, Pt.cells, Pt.slots] at X' e1 e2 h1 h2 h3 st hcl
    subst h1; subst h2; subst h3
    exact Or.inr ⟨q, (T.setVm vm₁).calling g' mk As.toArray, t, U', L, E, ce, hT, X', hL, e1, e2, hq, hce, hcv, vx_cls hW₁ hcl, st⟩
end Runs
section Rows
variable {p : Program} {l : Launch} {e : Env} {R : Room} {s : State} {m : MethodId} {args : Array Value} {below : List Frame} {meth : Method} {c : Code} {H : Heap} {locs : List Loc} {cells slots : Nat} {Q : State → Prop}
variable {mc ms : Nat} {free : Addr → Prop} {A0 A1 : Nat → Prop} {H0 : Heap} {a : Array Value} {pc : Nat} {ls : Array Slot} {st0 rest : List Value}
theorem vx_keep {st₀ t T' : State} {L : List Loc} (h0 : st₀.heap = H) (e1 : T'.heap = t.heap) (hS : va_S A0 H0 H locs) (hA : ∀ q, q < H.size → A1 q → A0 q) (hf : ∀ q, free q → A0 q) (hL : ∀ q ∈ L, free q.base) (hF : va_F A1 st₀ t) :
    H.size ≤ T'.heap.size ∧ (∀ q : Nat, q < H.size → ¬ A1 q → T'.heap[q]? = H[q]?) ∧ va_S A0 H0 T'.heap (locs ++ L) := by
  obtain ⟨hz, hk⟩ := hF
  rw [h0] at hz hk
  exact ⟨by rw [e1]; exact hz, fun q h1 h2 => by rw [e1]; exact hk q h1 h2,
    ⟨Nat.le_trans hS.1 (by rw [e1]; exact hz), fun q h1 h2 => by rw [e1, hk q (Nat.lt_of_lt_of_le h1 hS.1) (fun z => h2 (hA q (Nat.lt_of_lt_of_le h1 hS.1) z))]; exact hS.2.1 q h1 h2, fun q hq => by
      rcases List.mem_append.mp hq with h | h
      · exact hS.2.2 q h
      · exact hf _ (hL q h)⟩⟩
theorem vx_calli {S SX : Type} {post : Int32 → S → Prop} {px : SX → Prop} {B : S → State → Prop} {BX : String → SX → State → Prop} {AX : Nat → Prop} (hr : vx_Run p l e R s m args below meth c H locs cells slots mc ms (F0 m pc ls st0) rest (va_Qi post B A1 a) (vx_X px BX AX) free) (hS : va_S A0 H0 H locs) (hA : ∀ q, q < H.size → A1 q → A0 q) (hf : ∀ q, free q → A0 q) (hAX : ∀ q, q < H.size → AX q → A0 q)
    (kx : ∀ (E : String) (ce : Cell) (q9 : Addr) (u : SX) (t : State) (H1 : Heap) (locs1 : List Loc), t.heap = H1 → s.vm.Alike t.vm → px u → BX E u t → H.size ≤ H1.size → (∀ q : Nat, q < H.size → ¬ AX q → H1[q]? = H[q]?) → va_S A0 H0 H1 locs1 → H1[q9]? = some ce → ce.vm = .none → s.vm.findClass E = some ce.cls → vx_W p l e R s m args below meth c H1 locs1 (cells + mc) (slots + ms) Q (F0 m pc ls rest) q9)
    (kk : ∀ (r : Int32) (u : S) (t : State) (H1 : Heap) (locs1 : List Loc), t.heap = H1 → s.vm.Alike t.vm → post r u → B u t → H.size ≤ H1.size → (∀ q : Nat, q < H.size → ¬ A1 q → H1[q]? = H[q]?) → va_S A0 H0 H1 locs1 → W p l e R s m args below meth c H1 locs1 (cells + mc) (slots + ms) Q (F0 m (pc + 3) ls (.int r :: rest))) : W p l e R s m args below meth c H locs cells slots Q (F0 m pc ls st0) := by
  intro T hT X
  rcases hr T hT X with ⟨v, st₀, t, T', L, h0, X', hL, e1, e2, ⟨⟨r, u, hv, hp, hb⟩, hF⟩, st⟩ | ⟨q, st₀, t, T', L, E, ce, h0, X', hL, e1, e2, ⟨u, hp, hb, hF⟩, hce, hcv, hcl, st⟩
  · cases hv
    obtain ⟨k1, k2, k3⟩ := vx_keep h0 e1 hS hA hf hL hF
    obtain ⟨t2, a1, b1⟩ := kk r u t T'.heap (locs ++ L) e1.symm (by rw [← e2]; exact X'.warmed.alike) hp hb k1 k2 k3 T' rfl X'
    exact ⟨t2, st t2 a1, b1⟩
  · obtain ⟨k1, k2, k3⟩ := vx_keep h0 e1 hS hAX hf hL hF
    obtain ⟨t2, a1, b1⟩ := kx E ce q u t T'.heap (locs ++ L) e1.symm (by rw [← e2]; exact X'.warmed.alike) hp hb k1 k2 k3 (by rw [e1]; exact hce) hcv hcl T' rfl X'
    exact ⟨t2, st.trans a1, b1⟩
theorem vx_calll {S SX : Type} {post : Int64 → S → Prop} {px : SX → Prop} {B : S → State → Prop} {BX : String → SX → State → Prop} {AX : Nat → Prop} (hr : vx_Run p l e R s m args below meth c H locs cells slots mc ms (F0 m pc ls st0) rest (va_Ql post B A1 a) (vx_X px BX AX) free) (hS : va_S A0 H0 H locs) (hA : ∀ q, q < H.size → A1 q → A0 q) (hf : ∀ q, free q → A0 q) (hAX : ∀ q, q < H.size → AX q → A0 q)
    (kx : ∀ (E : String) (ce : Cell) (q9 : Addr) (u : SX) (t : State) (H1 : Heap) (locs1 : List Loc), t.heap = H1 → s.vm.Alike t.vm → px u → BX E u t → H.size ≤ H1.size → (∀ q : Nat, q < H.size → ¬ AX q → H1[q]? = H[q]?) → va_S A0 H0 H1 locs1 → H1[q9]? = some ce → ce.vm = .none → s.vm.findClass E = some ce.cls → vx_W p l e R s m args below meth c H1 locs1 (cells + mc) (slots + ms) Q (F0 m pc ls rest) q9)
    (kk : ∀ (r : Int64) (u : S) (t : State) (H1 : Heap) (locs1 : List Loc), t.heap = H1 → s.vm.Alike t.vm → post r u → B u t → H.size ≤ H1.size → (∀ q : Nat, q < H.size → ¬ A1 q → H1[q]? = H[q]?) → va_S A0 H0 H1 locs1 → W p l e R s m args below meth c H1 locs1 (cells + mc) (slots + ms) Q (F0 m (pc + 3) ls (.long r :: rest))) : W p l e R s m args below meth c H locs cells slots Q (F0 m pc ls st0) := by
  intro T hT X
  rcases hr T hT X with ⟨v, st₀, t, T', L, h0, X', hL, e1, e2, ⟨⟨r, u, hv, hp, hb⟩, hF⟩, st⟩ | ⟨q, st₀, t, T', L, E, ce, h0, X', hL, e1, e2, ⟨u, hp, hb, hF⟩, hce, hcv, hcl, st⟩
  · cases hv
    obtain ⟨k1, k2, k3⟩ := vx_keep h0 e1 hS hA hf hL hF
    obtain ⟨t2, a1, b1⟩ := kk r u t T'.heap (locs ++ L) e1.symm (by rw [← e2]; exact X'.warmed.alike) hp hb k1 k2 k3 T' rfl X'
    exact ⟨t2, st t2 a1, b1⟩
  · obtain ⟨k1, k2, k3⟩ := vx_keep h0 e1 hS hAX hf hL hF
    obtain ⟨t2, a1, b1⟩ := kx E ce q u t T'.heap (locs ++ L) e1.symm (by rw [← e2]; exact X'.warmed.alike) hp hb k1 k2 k3 (by rw [e1]; exact hce) hcv hcl T' rfl X'
    exact ⟨t2, st.trans a1, b1⟩
theorem vx_callf {S SX : Type} {post : UInt32 → S → Prop} {px : SX → Prop} {B : S → State → Prop} {BX : String → SX → State → Prop} {AX : Nat → Prop} (hr : vx_Run p l e R s m args below meth c H locs cells slots mc ms (F0 m pc ls st0) rest (va_Qf post B A1 a) (vx_X px BX AX) free) (hS : va_S A0 H0 H locs) (hA : ∀ q, q < H.size → A1 q → A0 q) (hf : ∀ q, free q → A0 q) (hAX : ∀ q, q < H.size → AX q → A0 q)
    (kx : ∀ (E : String) (ce : Cell) (q9 : Addr) (u : SX) (t : State) (H1 : Heap) (locs1 : List Loc), t.heap = H1 → s.vm.Alike t.vm → px u → BX E u t → H.size ≤ H1.size → (∀ q : Nat, q < H.size → ¬ AX q → H1[q]? = H[q]?) → va_S A0 H0 H1 locs1 → H1[q9]? = some ce → ce.vm = .none → s.vm.findClass E = some ce.cls → vx_W p l e R s m args below meth c H1 locs1 (cells + mc) (slots + ms) Q (F0 m pc ls rest) q9)
    (kk : ∀ (r : UInt32) (u : S) (t : State) (H1 : Heap) (locs1 : List Loc), t.heap = H1 → s.vm.Alike t.vm → post r u → B u t → H.size ≤ H1.size → (∀ q : Nat, q < H.size → ¬ A1 q → H1[q]? = H[q]?) → va_S A0 H0 H1 locs1 → W p l e R s m args below meth c H1 locs1 (cells + mc) (slots + ms) Q (F0 m (pc + 3) ls (.float r :: rest))) : W p l e R s m args below meth c H locs cells slots Q (F0 m pc ls st0) := by
  intro T hT X
  rcases hr T hT X with ⟨v, st₀, t, T', L, h0, X', hL, e1, e2, ⟨⟨r, u, hv, hp, hb⟩, hF⟩, st⟩ | ⟨q, st₀, t, T', L, E, ce, h0, X', hL, e1, e2, ⟨u, hp, hb, hF⟩, hce, hcv, hcl, st⟩
  · cases hv
    obtain ⟨k1, k2, k3⟩ := vx_keep h0 e1 hS hA hf hL hF
    obtain ⟨t2, a1, b1⟩ := kk r u t T'.heap (locs ++ L) e1.symm (by rw [← e2]; exact X'.warmed.alike) hp hb k1 k2 k3 T' rfl X'
    exact ⟨t2, st t2 a1, b1⟩
  · obtain ⟨k1, k2, k3⟩ := vx_keep h0 e1 hS hAX hf hL hF
    obtain ⟨t2, a1, b1⟩ := kx E ce q u t T'.heap (locs ++ L) e1.symm (by rw [← e2]; exact X'.warmed.alike) hp hb k1 k2 k3 (by rw [e1]; exact hce) hcv hcl T' rfl X'
    exact ⟨t2, st.trans a1, b1⟩
theorem vx_calld {S SX : Type} {post : UInt64 → S → Prop} {px : SX → Prop} {B : S → State → Prop} {BX : String → SX → State → Prop} {AX : Nat → Prop} (hr : vx_Run p l e R s m args below meth c H locs cells slots mc ms (F0 m pc ls st0) rest (va_Qd post B A1 a) (vx_X px BX AX) free) (hS : va_S A0 H0 H locs) (hA : ∀ q, q < H.size → A1 q → A0 q) (hf : ∀ q, free q → A0 q) (hAX : ∀ q, q < H.size → AX q → A0 q)
    (kx : ∀ (E : String) (ce : Cell) (q9 : Addr) (u : SX) (t : State) (H1 : Heap) (locs1 : List Loc), t.heap = H1 → s.vm.Alike t.vm → px u → BX E u t → H.size ≤ H1.size → (∀ q : Nat, q < H.size → ¬ AX q → H1[q]? = H[q]?) → va_S A0 H0 H1 locs1 → H1[q9]? = some ce → ce.vm = .none → s.vm.findClass E = some ce.cls → vx_W p l e R s m args below meth c H1 locs1 (cells + mc) (slots + ms) Q (F0 m pc ls rest) q9)
    (kk : ∀ (r : UInt64) (u : S) (t : State) (H1 : Heap) (locs1 : List Loc), t.heap = H1 → s.vm.Alike t.vm → post r u → B u t → H.size ≤ H1.size → (∀ q : Nat, q < H.size → ¬ A1 q → H1[q]? = H[q]?) → va_S A0 H0 H1 locs1 → W p l e R s m args below meth c H1 locs1 (cells + mc) (slots + ms) Q (F0 m (pc + 3) ls (.double r :: rest))) : W p l e R s m args below meth c H locs cells slots Q (F0 m pc ls st0) := by
  intro T hT X
  rcases hr T hT X with ⟨v, st₀, t, T', L, h0, X', hL, e1, e2, ⟨⟨r, u, hv, hp, hb⟩, hF⟩, st⟩ | ⟨q, st₀, t, T', L, E, ce, h0, X', hL, e1, e2, ⟨u, hp, hb, hF⟩, hce, hcv, hcl, st⟩
  · cases hv
    obtain ⟨k1, k2, k3⟩ := vx_keep h0 e1 hS hA hf hL hF
    obtain ⟨t2, a1, b1⟩ := kk r u t T'.heap (locs ++ L) e1.symm (by rw [← e2]; exact X'.warmed.alike) hp hb k1 k2 k3 T' rfl X'
    exact ⟨t2, st t2 a1, b1⟩
  · obtain ⟨k1, k2, k3⟩ := vx_keep h0 e1 hS hAX hf hL hF
    obtain ⟨t2, a1, b1⟩ := kx E ce q u t T'.heap (locs ++ L) e1.symm (by rw [← e2]; exact X'.warmed.alike) hp hb k1 k2 k3 (by rw [e1]; exact hce) hcv hcl T' rfl X'
    exact ⟨t2, st.trans a1, b1⟩
theorem vx_callv {S SX : Type} {post : S → Prop} {px : SX → Prop} {B : S → State → Prop} {BX : String → SX → State → Prop} {AX : Nat → Prop} (hr : vx_Run p l e R s m args below meth c H locs cells slots mc ms (F0 m pc ls st0) rest (va_Qv post B A1 a) (vx_X px BX AX) free) (hS : va_S A0 H0 H locs) (hA : ∀ q, q < H.size → A1 q → A0 q) (hf : ∀ q, free q → A0 q) (hAX : ∀ q, q < H.size → AX q → A0 q)
    (kx : ∀ (E : String) (ce : Cell) (q9 : Addr) (u : SX) (t : State) (H1 : Heap) (locs1 : List Loc), t.heap = H1 → s.vm.Alike t.vm → px u → BX E u t → H.size ≤ H1.size → (∀ q : Nat, q < H.size → ¬ AX q → H1[q]? = H[q]?) → va_S A0 H0 H1 locs1 → H1[q9]? = some ce → ce.vm = .none → s.vm.findClass E = some ce.cls → vx_W p l e R s m args below meth c H1 locs1 (cells + mc) (slots + ms) Q (F0 m pc ls rest) q9)
    (kk : ∀ (u : S) (t : State) (H1 : Heap) (locs1 : List Loc), t.heap = H1 → s.vm.Alike t.vm → post u → B u t → H.size ≤ H1.size → (∀ q : Nat, q < H.size → ¬ A1 q → H1[q]? = H[q]?) → va_S A0 H0 H1 locs1 → W p l e R s m args below meth c H1 locs1 (cells + mc) (slots + ms) Q (F0 m (pc + 3) ls (rest))) : W p l e R s m args below meth c H locs cells slots Q (F0 m pc ls st0) := by
  intro T hT X
  rcases hr T hT X with ⟨v, st₀, t, T', L, h0, X', hL, e1, e2, ⟨⟨u, hv, hp, hb⟩, hF⟩, st⟩ | ⟨q, st₀, t, T', L, E, ce, h0, X', hL, e1, e2, ⟨u, hp, hb, hF⟩, hce, hcv, hcl, st⟩
  · cases hv
    obtain ⟨k1, k2, k3⟩ := vx_keep h0 e1 hS hA hf hL hF
    obtain ⟨t2, a1, b1⟩ := kk u t T'.heap (locs ++ L) e1.symm (by rw [← e2]; exact X'.warmed.alike) hp hb k1 k2 k3 T' rfl X'
    exact ⟨t2, st t2 a1, b1⟩
  · obtain ⟨k1, k2, k3⟩ := vx_keep h0 e1 hS hAX hf hL hF
    obtain ⟨t2, a1, b1⟩ := kx E ce q u t T'.heap (locs ++ L) e1.symm (by rw [← e2]; exact X'.warmed.alike) hp hb k1 k2 k3 (by rw [e1]; exact hce) hcv hcl T' rfl X'
    exact ⟨t2, st.trans a1, b1⟩
/-- caught by the row x of this method's table; the rows ahead don't take it -/
theorem vx_catch {own name : String} {E : String} {ce : Cell} {q : Addr} (hown : s.vm.findClass own = some m.cls) (pre : List ExceptionTableEntry) (x : ExceptionTableEntry) (suf : List ExceptionTableEntry) (hsplit : c.exceptionTable.toList = pre ++ x :: suf)
    (hpass : ∀ z ∈ pre, covers z pc = false ∨ (z.catchType ≠ 0 ∧ ∃ nm : String, (Cond.classLink own z.catchType nm).before args s = true ∧ va_Nc E nm s)) (hx : covers x pc = true) (h0 : x.catchType ≠ 0)
    (hlink : (Cond.classLink own x.catchType name).before args s = true) (hcast : (Cond.castable E name).before args s = true) (hcell : H[q]? = some ce) (hv : ce.vm = .none) (hcl : s.vm.findClass E = some ce.cls)
    (kk : W p l e R s m args below meth c H locs cells slots Q (F0 m x.handlerPc ls [.ref q])) : vx_W p l e R s m args below meth c H locs cells slots Q (F0 m pc ls rest) q := by
  intro T hT X
  have hpl : e.platform.magicAccessors = ({} : Platform).magicAccessors := by rw [X.admits.platform]
  obtain ⟨c3, c4, hc3, hc4, hasg⟩ := Cond.castable_spec hcast
  cases Option.some.inj (hc3.symm.trans hcl)
  obtain ⟨c5, hc5, hcl5⟩ := Cond.classLink_spec hown hlink e.platform hpl
  cases Option.some.inj (hc4.symm.trans hc5)
  obtain ⟨vm', X', st⟩ := X.thenCaughtThrough q (g := F0 m pc ls rest) rfl (Steps.refl _) (by rw [hT]; exact hcell) (by rw [hv]; rfl) (by obtain ⟨k9, h9, -⟩ := Vm.findClass_spec hcl; exact ⟨k9, h9⟩) pre x suf hsplit
    (fun z hz => by
      rcases hpass z hz with h | ⟨hz0, nm, hl1, hn1⟩
      · exact Or.inl h
      · obtain ⟨c6, hc6, hcl6⟩ := Cond.classLink_spec hown hl1 e.platform hpl
        obtain ⟨a8, b8, h1, h2, h3⟩ := hn1
        cases Option.some.inj (h1.symm.trans hcl)
        cases Option.some.inj (h2.symm.trans hc6)
        exact Or.inr ⟨hz0, _, hcl6, h3⟩) hx (Or.inr ⟨h0, c4, hcl5, hasg⟩)
  obtain ⟨t, a1, b1⟩ := kk (T.setVm vm') hT X'
  exact ⟨t, st.trans a1, b1⟩
end Rows
section Ends
variable {p : Program} {l : Launch} {e : Env} {R : Room} {s : State} {m : MethodId} {args : Array Value} {below : List Frame} {meth : Method} {c : Code} {H : Heap} {locs : List Loc} {cells slots : Nat} {Q : State → Prop}
variable {mc ms : Nat} {free : Addr → Prop} {A0 A1 : Nat → Prop} {H0 : Heap} {a : Array Value} {ls : Array Slot} {st0 rest : List Value}
variable {Qc : Array Value → State → Outcome → State → Prop} {XC : String → State → State → Prop}
/-- what a body that may throw owes at its end -/
def vx_MQ (below : List Frame) (Qc : Array Value → State → Outcome → State → Prop) (XC : String → State → State → Prop) (a : Array Value) (s : State) (mc ms : Nat) (free : Addr → Prop) : State → Prop := fun t =>
  ∃ o, t.status = .running ∧ Ended t below o ∧ vx_Q Qc XC mc ms free a s o t
theorem vx_ret {g : JFrame} {mc ms : Nat} (k : W p l e R s m args below meth c H locs cells slots (MQ below Qc args s mc ms free) g) : W p l e R s m args below meth c H locs cells slots (vx_MQ below Qc XC args s mc ms free) g := by
  intro T hT X
  obtain ⟨t, a1, o, b1, b2, b3, b4⟩ := k T hT X
  exact ⟨t, a1, o, b1, b2, Or.inl ⟨b3, b4⟩⟩
/-- not caught here: it goes on to the caller -/
theorem vx_widen {g : JFrame} {q : Addr} {k n : Nat} (h1 : cells ≤ k) (h2 : slots ≤ n) (kk : vx_W p l e R s m args below meth c H locs k n Q g q) : vx_W p l e R s m args below meth c H locs cells slots Q g q := fun T hT X => kk T hT (stand_widen X h1 h2)
theorem vx_out {pc : Nat} {E : String} {ce : Cell} {q : Addr} {mc ms : Nat} (hout : ∀ x ∈ c.exceptionTable.toList, covers x pc = false) (hlocks : meth.locks = false) (hcell : H[q]? = some ce) (hv : ce.vm = .none) (hcl : s.vm.findClass E = some ce.cls)
    (hx : ∀ t : State, t.heap = H → s.vm.Alike t.vm → XC E s t) (hf : ∀ z ∈ locs, free z.base) (hc : cells ≤ mc) (hs : slots ≤ ms) :
    vx_W p l e R s m args below meth c H locs cells slots (vx_MQ below Qc XC args s mc ms free) (F0 m pc ls rest) q := by
  intro T hT X
  obtain ⟨st1, hrun, hend, hW, hsm⟩ := X.leaveThrown q (g := F0 m pc ls rest) rfl rfl rfl hout hlocks
  have hcell9 : (T.setFrames (.throwing q :: below)).heap[q]? = some ce := by
    show T.heap[q]? = some ce
    rw [hT]; exact hcell
  exact ⟨_, st1, .threw q, hrun, hend, Or.inr ⟨q, rfl, E, ce, locs, hx _ hT hW.alike, hcell9, hv, hcl, hW, hsm.mono hc hs, hf⟩⟩
theorem vx_frame {U : State} {k n : Nat} (h : s.sameButNew ({ U with vm := s.vm } : State) locs k n) : s.heap.size ≤ U.heap.size ∧ ∀ q : Nat, q < s.heap.size → (∀ z ∈ locs, z.base ≠ q) → U.heap[q]? = s.heap[q]? := by
  obtain ⟨-, h2, -, -, -, h6⟩ := h
  refine ⟨h2, fun q hq hz => ?_⟩
  obtain ⟨c9, e1, e2, e3, e4⟩ := h6 q _ (Array.getElem?_eq_getElem hq)
  have hs : c9.slots = (s.heap[q]).slots := Array.ext_getElem? fun i => e4 i fun hm => hz _ hm rfl
  have h9 : c9 = s.heap[q] := by
    rw [hs] at e2
    exact e2
  have e5 : U.heap[q]? = some c9 := e1
  rw [e5, h9, Array.getElem?_eq_getElem hq]
/-- the words of a throw but the four that speak of the heap -/
def vx_no (w : Cond) : Bool := decide (w ≠ .isRef (.static Bundle.tN "UNASSIGNED_STACK" Bundle.steD)) && decide (w ≠ .isRef (.static Bundle.tN "SUPPRESSED_SENTINEL" Bundle.listD)) && decide (w ≠ .laysStatic Bundle.tN "UNASSIGNED_STACK" Bundle.steD) && decide (w ≠ .laysStatic Bundle.tN "SUPPRESSED_SENTINEL" Bundle.listD)
def vx_at0 (own : String) (ic : Nat) (X : String) (names : List String) : List Cond := (Bundle.ownAtoms0 own ic X names).filter vx_no
def vx_atS (own : String) (ic : Nat) (X : String) (names : List String) : List Cond := (Bundle.ownAtoms own ic X names).filter vx_no
/-- a word that the tables alone decide, or a good one -/
def vx_ot (w : Cond) : Bool := w.onTables || goodWord w
theorem vx_ot_at {args a' : Array Value} {s U : State} {w : Cond} (hW : s.WarmedH U.vm) (hvm : s.vm = U.vm) (hg : vx_ot w = true) (h : w.before args s = true) : w.before a' U = true := by
  simp only [vx_ot, Bool.or_eq_true] at hg
  rcases hg with hg | hg
  · exact va_tabs hg hvm h
  · exact word_at hW (good_of_word hg) h
/-- a list's words: the good ones out of the method's own list, the others by premises of their own -/
theorem vx_hat {args : Array Value} {s : State} {L B : List Cond} (h1 : ∀ w ∈ L.filter goodWord, w.before args s = true) (h2 : ∀ w ∈ L.filter (fun w => !goodWord w), w ∈ B) (h3 : ∀ w ∈ B, w.before args s = true) : ∀ w ∈ L, w.before args s = true := by
  intro w hw
  by_cases g : goodWord w = true
  · exact h1 w (List.mem_filter.mpr ⟨hw, g⟩)
  · refine h3 w (h2 w (List.mem_filter.mpr ⟨hw, ?_⟩))
    show (!goodWord w) = true
    cases hgw : goodWord w
    · rfl
    · exact absurd hgw g
theorem vx_c {args : Array Value} {s : State} {w : Cond} {B : List Cond} (h : w.before args s = true) (t : ∀ w ∈ B, w.before args s = true) : ∀ w' ∈ w :: B, w'.before args s = true := fun w' h' => (List.mem_cons.mp h').elim (fun e => by rw [e]; exact h) (t w')
theorem vx_n {args : Array Value} {s : State} : ∀ w ∈ ([] : List Cond), w.before args s = true := fun _ h => nomatch h
theorem vx_own {args : Array Value} {s : State} {L : List Cond} (h1 : ∀ w ∈ L.filter vx_no, w.before args s = true)
    (hU : (Cond.isRef (.static Bundle.tN "UNASSIGNED_STACK" Bundle.steD)).before args s = true) (hN : (Cond.isRef (.static Bundle.tN "SUPPRESSED_SENTINEL" Bundle.listD)).before args s = true)
    (lU : (Cond.laysStatic Bundle.tN "UNASSIGNED_STACK" Bundle.steD).before args s = true) (lN : (Cond.laysStatic Bundle.tN "SUPPRESSED_SENTINEL" Bundle.listD).before args s = true) : ∀ w ∈ L, w.before args s = true := by
  intro w hw
  by_cases e1 : w = .isRef (.static Bundle.tN "UNASSIGNED_STACK" Bundle.steD)
  · rw [e1]; exact hU
  · by_cases e2 : w = .isRef (.static Bundle.tN "SUPPRESSED_SENTINEL" Bundle.listD)
    · rw [e2]; exact hN
    · by_cases e3 : w = .laysStatic Bundle.tN "UNASSIGNED_STACK" Bundle.steD
      · rw [e3]; exact lU
      · by_cases e4 : w = .laysStatic Bundle.tN "SUPPRESSED_SENTINEL" Bundle.listD
        · rw [e4]; exact lN
        · exact h1 w (List.mem_filter.mpr ⟨hw, by unfold vx_no; rw [decide_eq_true e1, decide_eq_true e2, decide_eq_true e3, decide_eq_true e4]; rfl⟩)
/-- where a static field lies, its class's statics cell in H -/
def vx_L (C n d : String) (A : Nat → Prop) (U : State) (H : Heap) : Prop := ∃ (c : ClassId) (k : Class) (i : Nat) (f : Field) (a : Nat) (cell : Cell), U.vm.findClass C = some c ∧ U.fieldFound? C n d = some (c, k, i, f) ∧ f.isStatic = true ∧ k.statics = some a ∧ H[a]? = some cell ∧ cell.vm.isStatics = true ∧ cell.cls = c ∧ f.slot < cell.slots.size ∧ k.staticTypes[f.slot]? = some f.type ∧ ¬ A a
theorem vx_L.moved {C n d : String} {A : Nat → Prop} {u U : State} {H : Heap} (hvm : u.vm.Alike U.vm) (h : vx_L C n d A u H) : vx_L C n d A U H := by
  obtain ⟨c, k, i, f, a, cell, h1, h2, h3, h4, h5, h6, h7, h8, h9, h10⟩ := h
  obtain ⟨k', hi', he⟩ := State.fieldFound?_setVm hvm h2
  exact ⟨c, k', i, f, a, cell, by rw [hvm.findClass]; exact h1, hi', h3, by rw [he]; exact h4, h5, h6, h7, h8, by rw [he]; exact h9, h10⟩
theorem vx_L.kept {C n d : String} {A : Nat → Prop} {U : State} {H H1 : Heap} (h : vx_L C n d A U H) (hq : ∀ a : Nat, a < H.size → ¬ A a → H1[a]? = H[a]?) : vx_L C n d A U H1 := by
  obtain ⟨c, k, i, f, a, cell, h1, h2, h3, h4, h5, h6, h7, h8, h9, h10⟩ := h
  exact ⟨c, k, i, f, a, cell, h1, h2, h3, h4, by rw [hq a (Array.getElem?_eq_some_iff.mp h5).1 h10]; exact h5, h6, h7, h8, h9, h10⟩
theorem vx_L.narrow {C n d : String} {A B : Nat → Prop} {U : State} {H : Heap} (h : vx_L C n d A U H) (hAB : ∀ q, B q → A q) : vx_L C n d B U H := by
  obtain ⟨c, k, i, f, a, cell, h1, h2, h3, h4, h5, h6, h7, h8, h9, h10⟩ := h
  exact ⟨c, k, i, f, a, cell, h1, h2, h3, h4, h5, h6, h7, h8, h9, fun z => h10 (hAB _ z)⟩
theorem vx_L.word {C n d : String} {A : Nat → Prop} {s : State} {args : Array Value} (h : vx_L C n d A s s.heap) : (Cond.laysStatic C n d).before args s = true := by
  obtain ⟨c, k, i, f, a, cell, h1, h2, h3, h4, h5, h6, h7, h8, h9, -⟩ := h
  show (Cond.laysStatic C n d).holds args s none s [] = true
  exact Cond.laysStatic_of h1 h2 h3 h4 h5 h6 h7 h8 h9
/-- .. and what it holds: null or some reference -/
def vx_Zq (C n d : String) (A : Nat → Prop) (U : State) (H : Heap) : Prop := va_Zq C n d A U H ∧ vx_L C n d A U H
theorem vx_Zq.moved {C n d : String} {A : Nat → Prop} {u U : State} {H : Heap} (hvm : u.vm.Alike U.vm) (h : vx_Zq C n d A u H) : vx_Zq C n d A U H := ⟨va_Zq.moved hvm h.1, vx_L.moved hvm h.2⟩
theorem vx_Zq.kept {C n d : String} {A : Nat → Prop} {U : State} {H H1 : Heap} (h : vx_Zq C n d A U H) (hq : ∀ a : Nat, a < H.size → ¬ A a → H1[a]? = H[a]?) : vx_Zq C n d A U H1 := ⟨va_Zq.kept h.1 hq, vx_L.kept h.2 hq⟩
theorem vx_Zq.narrow {C n d : String} {A B : Nat → Prop} {U : State} {H : Heap} (h : vx_Zq C n d A U H) (hAB : ∀ q, B q → A q) : vx_Zq C n d B U H := ⟨va_Zq.narrow h.1 hAB, vx_L.narrow h.2 hAB⟩
theorem vx_Zqof {args : Array Value} {s : State} {C n d : String} {A : Nat → Prop} (hl : (Cond.laysStatic C n d).before args s = true) (hini : (Cond.initialized C).before args s = true) (h : (Cond.isRef (.static C n d)).before args s = true) (hA : ∀ a : Nat, a < s.heap.size → ¬ A a) : vx_Zq C n d A s s.heap := by
  refine ⟨va_Zqof hl hini h hA, ?_⟩
  obtain ⟨c, k, i, f, a, cell, h1, h2, h3, h4, h5, h6, h7, h8, h9⟩ := Cond.laysStatic_spec hl
  exact ⟨c, k, i, f, a, cell, h1, h2, h3, h4, h5, h6, h7, h8, h9, hA a (Array.getElem?_eq_some_iff.mp h5).1⟩
theorem vx_isRef {C n d : String} {v : Value} {A : Nat → Prop} {s : State} {args : Array Value} (h : va_Z C n d v A s s.heap) (hv : v.isRef = true) : (Cond.isRef (.static C n d)).before args s = true := by
  obtain ⟨cf, kf, fi, f, a, cell, h1, h2, h3, h4, h5, h6, h7, -⟩ := h
  have he : (Term.static C n d).eval args s none [] s = some v := by
    simp [Term.eval, State.fieldNamed?, h1, h2, h4, h5, h6, h7]
  simp only [Cond.before, Cond.holds, Cond.value, he]
  cases v <;> simp_all [Value.isRef]
theorem vx_isRefq {C n d : String} {A : Nat → Prop} {s : State} {args : Array Value} (h : va_Zq C n d A s s.heap) : (Cond.isRef (.static C n d)).before args s = true := by
  rcases h with h | ⟨t, h⟩
  · exact vx_isRef h rfl
  · exact vx_isRef h rfl
/-- the same frame, seen from here: as if the method were called anew in this heap -/
theorem vx_rebase {T : State} (X : Stand p l e R s m args below meth c T locs cells slots) {R' : Room} (hf : R'.frames ≤ R.frames) (hl : R'.locals ≤ R.locals) (hc : cells + R'.cells ≤ R.cells) (hs : slots + R'.slots ≤ R.slots) :
    Stand p l e R' ((T.setVm s.vm).setFrames (.invoking m args :: below)) m args below meth c T [] 0 0 := by
  have htop : (T.setVm s.vm).topJava?.isSome := X.here.top
  have hF : ((T.setVm s.vm).setFrames (.invoking m args :: below)).frames = .invoking m args :: below := State.frames_setFrames _ (State.cur_lt_of_top htop)
  obtain ⟨g₀, hg0⟩ := Option.isSome_iff_exists.mp htop
  obtain ⟨r, hr⟩ := State.topJava?_eq_some.mp hg0
  have hl9 : e.platform.stackLimits (T.setVm s.vm).me = e.platform.stackLimits s.me := X.limits
  have hb9 : (T.setVm s.vm).me.stackBytes = s.me.stackBytes := X.bytes
  refine ⟨X.admits, X.cas, X.clock, hF, ?_, X.hears, X.method, X.code, X.here, X.tail, X.warmed, ?_, ?_, ?_⟩
  · have h := X.room
    have hU : ((T.setVm s.vm).setFrames (.invoking m args :: below)).localsInUse = s.localsInUse := by
      rw [State.localsInUse_invoking hF (meth := meth) (c := c) X.method X.code, State.localsInUse_invoking X.frames X.method X.code]
    simp only [State.hasRoom, Bool.and_eq_true, decide_eq_true_eq] at h ⊢
    obtain ⟨⟨⟨⟨h1, h2, h3, h4, h5, h6⟩, h7⟩, h8⟩, h9⟩ := h
    rw [X.frames, List.length_cons] at h2 h3
    have q1 := X.heapSize
    have q2 := X.used
    simp only [hF, hU, List.length_cons, State.stackLimits_setFrames, State.stackBytes_setFrames, hl9, hb9]
    refine ⟨⟨⟨⟨by omega, by omega, by omega, by omega, by omega, h6⟩, ?_⟩, ?_⟩, X.book⟩
    · show T.heap.size + R'.cells ≤ e.platform.maxCells
      omega
    · show T.slotsUsed + R'.slots ≤ e.platform.maxSlots
      omega
  · rw [State.stackLimits_setFrames]; rfl
  · rw [State.stackBytes_setFrames]; rfl
  · refine ⟨?_, Nat.le_refl _, Nat.le_refl _, ?_, ?_, fun a c9 h9 => ⟨c9, h9, rfl, rfl, fun _ _ => rfl⟩⟩
    · obtain ⟨t, ht, -⟩ := State.frames_cons hr
      show T.setVm s.vm = { ((T.setVm s.vm).setFrames (.invoking m args :: below)).setFrames (T.setVm s.vm).frames with heap := T.heap, slotsUsed := T.slotsUsed }
      rw [State.setFrames_setFrames, State.setFrames_self ht]
      rfl
    · show T.slotsUsed = T.slotsUsed + ((T.heap.toList.drop T.heap.size).map (·.slots.size)).sum
      rw [List.drop_eq_nil_of_le (Nat.le_of_eq Array.length_toList)]
      rfl
    · show ((T.heap.toList.drop T.heap.size).map (·.slots.size)).sum ≤ 0
      rw [List.drop_eq_nil_of_le (Nat.le_of_eq Array.length_toList)]
      exact Nat.le_refl _
/-- 'throw new E()': new; dup; invokespecial; athrow -/
theorem vx_throw0 {cc : ByteArray} {pc : Nat} (hexec : p.tables.exec = Jvm.exec) (hb : c.code = cc) (hl : l.stackTraces = false) {own cls : String} {names : List String} {ik ic mc ms : Nat} {A : Nat → Prop}
    (hown : s.vm.findClass own = some m.cls) (hcls : Bundle.fit cls = true) (hnames : ∀ n ∈ names, Bundle.fit n = true)
    (hk : (Cond.classLink own ik cls).before args s = true) (hini : (Cond.initialized cls).before args s = true) (hat : ∀ w ∈ vx_at0 own ic cls names, w.before args s = true)
    (hgood : ∀ w ∈ Cond.classLink own ik cls :: Cond.initialized cls :: vx_at0 own ic cls names, vx_ot w = true)
    (hU : vx_Zq Bundle.tN "UNASSIGNED_STACK" Bundle.steD A s s.heap) (hN : vx_Zq Bundle.tN "SUPPRESSED_SENTINEL" Bundle.listD A s s.heap) (hS : va_S A s.heap H locs) (hsize : ls.size = c.maxLocals)
    (d0 : decode cc pc = .ok (.new ik, 3)) (d3 : decode cc (pc + 3) = .ok (.dup, 1)) (d4 : decode cc (pc + 4) = .ok (.invokespecial ic, 3)) (d7 : decode cc (pc + 7) = .ok (.athrow, 1))
    (hout : ∀ x ∈ c.exceptionTable.toList, covers x (pc + 7) = false)
    (hRframes : names.length + 3 < R.frames) (hRlocals : (rest.map fun v => v.category).sum + (13 * (names.length + 1) + 42) ≤ R.locals) (hRcells : cells + 1 ≤ R.cells) (hRslots : slots + 6 ≤ R.slots) (hlocks : meth.locks = false)
    (hx : ∀ t : State, s.vm.Alike t.vm → H.size ≤ t.heap.size → (∀ q : Nat, q < H.size → t.heap[q]? = H[q]?) → XC cls s t)
    (hf : ∀ z ∈ locs, free z.base) (hc : cells + 1 ≤ mc) (hs : slots + 6 ≤ ms) :
    W p l e R s m args below meth c H locs cells slots (vx_MQ below Qc XC args s mc ms free) (F0 m pc ls rest) := by
  intro T hT X
  have htr : e.platform.stackTraces = false := (show e.platform.stackTraces = l.stackTraces by rw [X.admits.platform]).trans hl
  have Y := vx_rebase X (R' := { frames := R.frames, locals := R.locals, cells := 1, slots := 6 }) (Nat.le_refl _) (Nat.le_refl _) hRcells hRslots
  obtain ⟨s', hA⟩ : ∃ z, z = (T.setVm s.vm).setFrames (.invoking m args :: below) := ⟨_, rfl⟩
  rw [← hA] at Y
  have hvm : s'.vm = s.vm := by rw [hA]; rfl
  have hhp : s'.heap = H := by rw [hA]; exact hT
  have hW0 : s.WarmedH s'.vm := by rw [hvm]; exact State.WarmedH.refl s
  have hat' : ∀ w ∈ vx_at0 own ic cls names, w.before args s' = true := fun w hw => vx_ot_at hW0 hvm.symm (hgood w (List.mem_cons_of_mem _ (List.mem_cons_of_mem _ hw))) (hat w hw)
  have hk' : (Cond.classLink own ik cls).before args s' = true := vx_ot_at hW0 hvm.symm (hgood _ List.mem_cons_self) hk
  have hini' : (Cond.initialized cls).before args s' = true := vx_ot_at hW0 hvm.symm (hgood _ (List.mem_cons_of_mem _ List.mem_cons_self)) hini
  have hU' : vx_Zq Bundle.tN "UNASSIGNED_STACK" Bundle.steD A s' s'.heap := by rw [hhp]; exact vx_Zq.moved hW0.alike (hU.kept hS.2.1)
  have hN' : vx_Zq Bundle.tN "SUPPRESSED_SENTINEL" Bundle.listD A s' s'.heap := by rw [hhp]; exact vx_Zq.moved hW0.alike (hN.kept hS.2.1)
  have h : ∀ w ∈ Bundle.ownAtoms0 own ic cls names, w.before args s' = true := vx_own hat' (vx_isRefq hU'.1) (vx_isRefq hN'.1) hU'.2.word hN'.2.word
  have hown' : s'.vm.findClass own = some m.cls := by rw [hvm]; exact hown
  have hins : (Cond.instantiable cls 6).before args s' = true := h _ (by simp [Bundle.ownAtoms0])
  obtain ⟨vm₁, cX, kX, hfX, hkX, -, -, X₁, st1⟩ := Y.newCold hexec (own := own) (C := cls) (index := ik) (n := 6) hown' hk' hins hini'
    (g := F0 m pc ls rest) rfl (by rw [hb]; exact d0) (Nat.le_refl _) (Nat.le_refl _)
  generalize hT1 : (T.setVm vm₁).pushCell { cls := cX, slots := kX.instanceTypes.map defaultValue, vm := .none } = T1 at X₁ st1
  have hcat : (Value.ref T.heap.size).category = 1 := rfl
  have hcellA : T1.heap[T.heap.size]? = some (freshCell cX kX) := by rw [← hT1]; exact State.heap_pushCell_size _ _
  have d3' : decode c.code (pc + 3) = .ok (.dup, 1) := by rw [hb]; exact d3
  obtain ⟨U, hsteps, hrun, hend, hW, hsame, ce, hce, hO⟩ := X₁.ctorThrow0 hexec htr (own := own) (cls := cls) (names := names) (ic := ic) hown' hcls hnames h (fun x hx => nomatch hx) hfX hkX hcellA (by rw [hhp, hT]; exact Nat.le_refl _)
    (g := { method := m, pc := pc + 4, locals := ls, stack := .ref T.heap.size :: .ref T.heap.size :: rest, locked := none }) rfl hsize rfl rfl (rest := rest) rfl
    (by rw [hb]; exact d4) (by rw [hb]; exact d7) hout hRframes (by simp only [List.map_cons, List.sum_cons, hcat]; omega) hlocks
  obtain ⟨f1, f2⟩ := vx_frame hsame
  rw [hhp] at f1 f2
  have hWs : s.WarmedH U.vm := State.WarmedH.trans hW0 hW
  have hcl : s.vm.findClass cls = some ce.cls := by
    have h9 := hO.cls
    rw [hvm] at h9
    exact h9
  have hall : s.sameButNew ({ U with vm := s.vm } : State) locs mc ms := by
    subst hA
    obtain ⟨e1, e2⟩ := hsame
    rw [State.setFrames_setFrames] at e1
    have h2 : (T.setVm s.vm).sameButNew ({ U with vm := s.vm } : State) [] (0 + 1) (0 + 6) := ⟨e1, e2⟩
    have h3 := X.same.trans h2
    rw [List.append_nil] at h3
    exact h3.mono hc hs
  refine ⟨U, ?_, .threw T.heap.size, hrun, hend, Or.inr ⟨T.heap.size, rfl, cls, ce, locs, hx U hWs.alike f1 (fun q hq => f2 q hq (fun z hz => nomatch hz)), hce, hO.vm, hcl, hWs, hall, hf⟩⟩
  refine st1 _ ?_
  show Steps p.tables e below (T1.setTop { method := m, pc := pc + 3, locals := ls, stack := .ref T.heap.size :: rest, locked := none }) _
  jvm_step X₁.here [X₁.here.top, hexec, d3', Value.category]
  exact hsteps
/-- 'throw new E("text")': new; dup; ldc; invokespecial; athrow -/
theorem vx_throwS {cc : ByteArray} {pc : Nat} (hexec : p.tables.exec = Jvm.exec) (hb : c.code = cc) (hl : l.stackTraces = false) {own cls text : String} {names : List String} {ik is ic mc ms sa : Nat} {A : Nat → Prop}
    (hown : s.vm.findClass own = some m.cls) (hcls : Bundle.fit cls = true) (hnames : ∀ n ∈ names, Bundle.fit n = true)
    (hk : (Cond.classLink own ik cls).before args s = true) (hini : (Cond.initialized cls).before args s = true) (hstr : vk_R own is text sa s) (hat : ∀ w ∈ vx_atS own ic cls names, w.before args s = true)
    (hgood : ∀ w ∈ Cond.classLink own ik cls :: Cond.initialized cls :: vx_atS own ic cls names, vx_ot w = true)
    (hU : vx_Zq Bundle.tN "UNASSIGNED_STACK" Bundle.steD A s s.heap) (hN : vx_Zq Bundle.tN "SUPPRESSED_SENTINEL" Bundle.listD A s s.heap) (hS : va_S A s.heap H locs) (hsize : ls.size = c.maxLocals)
    (d0 : decode cc pc = .ok (.new ik, 3)) (d3 : decode cc (pc + 3) = .ok (.dup, 1)) (d4 : decode cc (pc + 4) = .ok (.ldc is, 2)) (d6 : decode cc (pc + 6) = .ok (.invokespecial ic, 3)) (d9 : decode cc (pc + 9) = .ok (.athrow, 1))
    (hout : ∀ x ∈ c.exceptionTable.toList, covers x (pc + 9) = false)
    (hRframes : names.length + 3 < R.frames) (hRlocals : (rest.map fun v => v.category).sum + (13 * (names.length + 1) + 43) ≤ R.locals) (hRcells : cells + 1 ≤ R.cells) (hRslots : slots + 6 ≤ R.slots) (hlocks : meth.locks = false)
    (hx : ∀ t : State, s.vm.Alike t.vm → H.size ≤ t.heap.size → (∀ q : Nat, q < H.size → t.heap[q]? = H[q]?) → XC cls s t)
    (hf : ∀ z ∈ locs, free z.base) (hc : cells + 1 ≤ mc) (hs : slots + 6 ≤ ms) :
    W p l e R s m args below meth c H locs cells slots (vx_MQ below Qc XC args s mc ms free) (F0 m pc ls rest) := by
  intro T hT X
  have htr : e.platform.stackTraces = false := (show e.platform.stackTraces = l.stackTraces by rw [X.admits.platform]).trans hl
  have Y := vx_rebase X (R' := { frames := R.frames, locals := R.locals, cells := 1, slots := 6 }) (Nat.le_refl _) (Nat.le_refl _) hRcells hRslots
  obtain ⟨s', hA⟩ : ∃ z, z = (T.setVm s.vm).setFrames (.invoking m args :: below) := ⟨_, rfl⟩
  rw [← hA] at Y
  have hvm : s'.vm = s.vm := by rw [hA]; rfl
  have hhp : s'.heap = H := by rw [hA]; exact hT
  have hW0 : s.WarmedH s'.vm := by rw [hvm]; exact State.WarmedH.refl s
  have hat' : ∀ w ∈ vx_atS own ic cls names, w.before args s' = true := fun w hw => vx_ot_at hW0 hvm.symm (hgood w (List.mem_cons_of_mem _ (List.mem_cons_of_mem _ hw))) (hat w hw)
  have hk' : (Cond.classLink own ik cls).before args s' = true := vx_ot_at hW0 hvm.symm (hgood _ List.mem_cons_self) hk
  have hini' : (Cond.initialized cls).before args s' = true := vx_ot_at hW0 hvm.symm (hgood _ (List.mem_cons_of_mem _ List.mem_cons_self)) hini
  have hU' : vx_Zq Bundle.tN "UNASSIGNED_STACK" Bundle.steD A s' s'.heap := by rw [hhp]; exact vx_Zq.moved hW0.alike (hU.kept hS.2.1)
  have hN' : vx_Zq Bundle.tN "SUPPRESSED_SENTINEL" Bundle.listD A s' s'.heap := by rw [hhp]; exact vx_Zq.moved hW0.alike (hN.kept hS.2.1)
  have h : ∀ w ∈ Bundle.ownAtoms own ic cls names, w.before args s' = true := vx_own hat' (vx_isRefq hU'.1) (vx_isRefq hN'.1) hU'.2.word hN'.2.word
  have hown' : s'.vm.findClass own = some m.cls := by rw [hvm]; exact hown
  have hins : (Cond.instantiable cls 6).before args s' = true := h _ (by simp [Bundle.ownAtoms])
  obtain ⟨vm₁, cX, kX, hfX, hkX, -, -, X₁, st1⟩ := Y.newCold hexec (own := own) (C := cls) (index := ik) (n := 6) hown' hk' hins hini'
    (g := F0 m pc ls rest) rfl (by rw [hb]; exact d0) (Nat.le_refl _) (Nat.le_refl _)
  generalize hT1 : (T.setVm vm₁).pushCell { cls := cX, slots := kX.instanceTypes.map defaultValue, vm := .none } = T1 at X₁ st1
  have hcat : (Value.ref T.heap.size).category = 1 := rfl
  have hcellA : T1.heap[T.heap.size]? = some (freshCell cX kX) := by rw [← hT1]; exact State.heap_pushCell_size _ _
  have d3' : decode c.code (pc + 3) = .ok (.dup, 1) := by rw [hb]; exact d3
  have d4' : decode c.code (pc + 4) = .ok (.ldc is, 2) := by rw [hb]; exact d4
  have hstr' : vk_R own is text sa s' := vk_R.warm hW0 hstr
  obtain ⟨U, hsteps, hrun, hend, hW, hsame, ce, hce, hO⟩ := X₁.ctorThrowS hexec htr (own := own) (cls := cls) (names := names) (ic := ic) hown' hcls hnames h (fun x hx => nomatch hx) hfX hkX hcellA (by rw [hhp, hT]; exact Nat.le_refl _) (msg := .ref sa) rfl
    (g := { method := m, pc := pc + 6, locals := ls, stack := .ref sa :: .ref T.heap.size :: .ref T.heap.size :: rest, locked := none }) rfl hsize rfl rfl (rest := rest) rfl
    (by rw [hb]; exact d6) (by rw [hb]; exact d9) hout hRframes (by simp only [List.map_cons, List.sum_cons, hcat]; omega) hlocks
  obtain ⟨f1, f2⟩ := vx_frame hsame
  rw [hhp] at f1 f2
  have hWs : s.WarmedH U.vm := State.WarmedH.trans hW0 hW
  have hcl : s.vm.findClass cls = some ce.cls := by
    have h9 := hO.cls
    rw [hvm] at h9
    exact h9
  have hall : s.sameButNew ({ U with vm := s.vm } : State) locs mc ms := by
    subst hA
    obtain ⟨e1, e2⟩ := hsame
    rw [State.setFrames_setFrames] at e1
    have h2 : (T.setVm s.vm).sameButNew ({ U with vm := s.vm } : State) [] (0 + 1) (0 + 6) := ⟨e1, e2⟩
    have h3 := X.same.trans h2
    rw [List.append_nil] at h3
    exact h3.mono hc hs
  refine ⟨U, ?_, .threw T.heap.size, hrun, hend, Or.inr ⟨T.heap.size, rfl, cls, ce, locs, hx U hWs.alike f1 (fun q hq => f2 q hq (fun z hz => nomatch hz)), hce, hO.vm, hcl, hWs, hall, hf⟩⟩
  refine st1 _ ?_
  show Steps p.tables e below (T1.setTop { method := m, pc := pc + 3, locals := ls, stack := .ref T.heap.size :: rest, locked := none }) _
  jvm_step X₁.here [X₁.here.top, hexec, d3', Value.category]
  exact X₁.ldcString hexec (own := own) (text := text) (index := is) (a := sa) hown' hstr'.1 hstr'.2
    (g := { method := m, pc := pc + 4, locals := ls, stack := .ref T.heap.size :: .ref T.heap.size :: rest, locked := none }) rfl d4' _ hsteps
/-- 'throw new E("text")', the text by a wide index -/
theorem vx_throwSW {cc : ByteArray} {pc : Nat} (hexec : p.tables.exec = Jvm.exec) (hb : c.code = cc) (hl : l.stackTraces = false) {own cls text : String} {names : List String} {ik is ic mc ms sa : Nat} {A : Nat → Prop}
    (hown : s.vm.findClass own = some m.cls) (hcls : Bundle.fit cls = true) (hnames : ∀ n ∈ names, Bundle.fit n = true)
    (hk : (Cond.classLink own ik cls).before args s = true) (hini : (Cond.initialized cls).before args s = true) (hstr : vk_R own is text sa s) (hat : ∀ w ∈ vx_atS own ic cls names, w.before args s = true)
    (hgood : ∀ w ∈ Cond.classLink own ik cls :: Cond.initialized cls :: vx_atS own ic cls names, vx_ot w = true)
    (hU : vx_Zq Bundle.tN "UNASSIGNED_STACK" Bundle.steD A s s.heap) (hN : vx_Zq Bundle.tN "SUPPRESSED_SENTINEL" Bundle.listD A s s.heap) (hS : va_S A s.heap H locs) (hsize : ls.size = c.maxLocals)
    (d0 : decode cc pc = .ok (.new ik, 3)) (d3 : decode cc (pc + 3) = .ok (.dup, 1)) (d4 : decode cc (pc + 4) = .ok (.ldc_w is, 3)) (d7 : decode cc (pc + 7) = .ok (.invokespecial ic, 3)) (d10 : decode cc (pc + 10) = .ok (.athrow, 1))
    (hout : ∀ x ∈ c.exceptionTable.toList, covers x (pc + 10) = false)
    (hRframes : names.length + 3 < R.frames) (hRlocals : (rest.map fun v => v.category).sum + (13 * (names.length + 1) + 43) ≤ R.locals) (hRcells : cells + 1 ≤ R.cells) (hRslots : slots + 6 ≤ R.slots) (hlocks : meth.locks = false)
    (hx : ∀ t : State, s.vm.Alike t.vm → H.size ≤ t.heap.size → (∀ q : Nat, q < H.size → t.heap[q]? = H[q]?) → XC cls s t)
    (hf : ∀ z ∈ locs, free z.base) (hc : cells + 1 ≤ mc) (hs : slots + 6 ≤ ms) :
    W p l e R s m args below meth c H locs cells slots (vx_MQ below Qc XC args s mc ms free) (F0 m pc ls rest) := by
  intro T hT X
  have htr : e.platform.stackTraces = false := (show e.platform.stackTraces = l.stackTraces by rw [X.admits.platform]).trans hl
  have Y := vx_rebase X (R' := { frames := R.frames, locals := R.locals, cells := 1, slots := 6 }) (Nat.le_refl _) (Nat.le_refl _) hRcells hRslots
  obtain ⟨s', hA⟩ : ∃ z, z = (T.setVm s.vm).setFrames (.invoking m args :: below) := ⟨_, rfl⟩
  rw [← hA] at Y
  have hvm : s'.vm = s.vm := by rw [hA]; rfl
  have hhp : s'.heap = H := by rw [hA]; exact hT
  have hW0 : s.WarmedH s'.vm := by rw [hvm]; exact State.WarmedH.refl s
  have hat' : ∀ w ∈ vx_atS own ic cls names, w.before args s' = true := fun w hw => vx_ot_at hW0 hvm.symm (hgood w (List.mem_cons_of_mem _ (List.mem_cons_of_mem _ hw))) (hat w hw)
  have hk' : (Cond.classLink own ik cls).before args s' = true := vx_ot_at hW0 hvm.symm (hgood _ List.mem_cons_self) hk
  have hini' : (Cond.initialized cls).before args s' = true := vx_ot_at hW0 hvm.symm (hgood _ (List.mem_cons_of_mem _ List.mem_cons_self)) hini
  have hU' : vx_Zq Bundle.tN "UNASSIGNED_STACK" Bundle.steD A s' s'.heap := by rw [hhp]; exact vx_Zq.moved hW0.alike (hU.kept hS.2.1)
  have hN' : vx_Zq Bundle.tN "SUPPRESSED_SENTINEL" Bundle.listD A s' s'.heap := by rw [hhp]; exact vx_Zq.moved hW0.alike (hN.kept hS.2.1)
  have h : ∀ w ∈ Bundle.ownAtoms own ic cls names, w.before args s' = true := vx_own hat' (vx_isRefq hU'.1) (vx_isRefq hN'.1) hU'.2.word hN'.2.word
  have hown' : s'.vm.findClass own = some m.cls := by rw [hvm]; exact hown
  have hins : (Cond.instantiable cls 6).before args s' = true := h _ (by simp [Bundle.ownAtoms])
  obtain ⟨vm₁, cX, kX, hfX, hkX, -, -, X₁, st1⟩ := Y.newCold hexec (own := own) (C := cls) (index := ik) (n := 6) hown' hk' hins hini'
    (g := F0 m pc ls rest) rfl (by rw [hb]; exact d0) (Nat.le_refl _) (Nat.le_refl _)
  generalize hT1 : (T.setVm vm₁).pushCell { cls := cX, slots := kX.instanceTypes.map defaultValue, vm := .none } = T1 at X₁ st1
  have hcat : (Value.ref T.heap.size).category = 1 := rfl
  have hcellA : T1.heap[T.heap.size]? = some (freshCell cX kX) := by rw [← hT1]; exact State.heap_pushCell_size _ _
  have d3' : decode c.code (pc + 3) = .ok (.dup, 1) := by rw [hb]; exact d3
  have d4' : decode c.code (pc + 4) = .ok (.ldc_w is, 3) := by rw [hb]; exact d4
  have hstr' : vk_R own is text sa s' := vk_R.warm hW0 hstr
  obtain ⟨U, hsteps, hrun, hend, hW, hsame, ce, hce, hO⟩ := X₁.ctorThrowS hexec htr (own := own) (cls := cls) (names := names) (ic := ic) hown' hcls hnames h (fun x hx => nomatch hx) hfX hkX hcellA (by rw [hhp, hT]; exact Nat.le_refl _) (msg := .ref sa) rfl
    (g := { method := m, pc := pc + 7, locals := ls, stack := .ref sa :: .ref T.heap.size :: .ref T.heap.size :: rest, locked := none }) rfl hsize rfl rfl (rest := rest) rfl
    (by rw [hb]; exact d7) (by rw [hb]; exact d10) hout hRframes (by simp only [List.map_cons, List.sum_cons, hcat]; omega) hlocks
  obtain ⟨f1, f2⟩ := vx_frame hsame
  rw [hhp] at f1 f2
  have hWs : s.WarmedH U.vm := State.WarmedH.trans hW0 hW
  have hcl : s.vm.findClass cls = some ce.cls := by
    have h9 := hO.cls
    rw [hvm] at h9
    exact h9
  have hall : s.sameButNew ({ U with vm := s.vm } : State) locs mc ms := by
    subst hA
    obtain ⟨e1, e2⟩ := hsame
    rw [State.setFrames_setFrames] at e1
    have h2 : (T.setVm s.vm).sameButNew ({ U with vm := s.vm } : State) [] (0 + 1) (0 + 6) := ⟨e1, e2⟩
    have h3 := X.same.trans h2
    rw [List.append_nil] at h3
    exact h3.mono hc hs
  refine ⟨U, ?_, .threw T.heap.size, hrun, hend, Or.inr ⟨T.heap.size, rfl, cls, ce, locs, hx U hWs.alike f1 (fun q hq => f2 q hq (fun z hz => nomatch hz)), hce, hO.vm, hcl, hWs, hall, hf⟩⟩
  refine st1 _ ?_
  show Steps p.tables e below (T1.setTop { method := m, pc := pc + 3, locals := ls, stack := .ref T.heap.size :: rest, locked := none }) _
  jvm_step X₁.here [X₁.here.top, hexec, d3', Value.category]
  exact X₁.ldcStringW hexec (own := own) (text := text) (index := is) (a := sa) hown' hstr'.1 hstr'.2
    (g := { method := m, pc := pc + 4, locals := ls, stack := .ref T.heap.size :: .ref T.heap.size :: rest, locked := none }) rfl d4' _ hsteps
end Ends
section Bodies
variable {l : Launch}
theorem vx_ofW {y : MethodName} {ws ws' : List Cond} {rm : Room} {Pc : Array Value → State → Prop} {Qc : Array Value → State → Outcome → State → Prop} {XC : String → State → State → Prop} {mc ms : Nat} {free : Addr → Prop} {cc : ByteArray} {maxL : Nat} {ret : Option FieldType}
    (hy : plainName y.cls = true) (hw : ws = Cond.code y cc maxL ret :: ws')
    (body : ∀ p e s m args below meth c s₁, BodyLoose p l y (headSpec ws rm) cc maxL ret e s m args below meth c s₁ → c.maxLocals = maxL → (∀ x ∈ c.exceptionTable.toList, False) → Pc args s →
      W p l e (headSpec ws rm).room s m args below meth c s.heap [] 0 0 (vx_MQ below Qc XC args s mc ms free) (entryFrame m args maxL)) : vx_Met l y ws rm Pc Qc XC mc ms free := by
  refine MetFree.of_bodyS (code := cc) (maxLocals := maxL) (ret := ret) hy ?_ ?_
  · intro args s m h hn
    obtain ⟨meth, c, h1, h2, h3, h4, h5, h6, -, -⟩ := Cond.code_spec hn (atoms_spec (ws := ws) h _ (by rw [hw]; exact List.mem_cons_self))
    exact ⟨meth, c, h1, h2, h3, h4, h5, h6⟩
  · intro p e s m args below meth c s₁ B hml hP _
    have hh0 : s₁.heap = s.heap := by rw [B.state]; rfl
    have ht : ∀ x ∈ c.exceptionTable.toList, False := by
      obtain ⟨meth9, c9, h1, h2, -, -, -, -, h7, -⟩ := Cond.code_spec B.named (atoms_spec (ws := ws) B.pre _ (by rw [hw]; exact List.mem_cons_self))
      cases Option.some.inj (h1.symm.trans B.method)
      cases Option.some.inj (h2.symm.trans (Stand.of_body B).code)
      intro x hx
      rw [Array.isEmpty_iff.mp h7] at hx
      cases hx
    obtain ⟨t, a1, o, b1, b2, b3⟩ := body p e s m args below meth c s₁ B hml ht hP s₁ hh0 (Stand.of_body B)
    exact ⟨t, o, a1, b1, b2, b3⟩
/-- the table of a body with handlers -/
theorem vx_table {p : Program} {x y : MethodName} {S : Spec} {cc bytes : ByteArray} {maxL maxL' : Nat} {ret ret' : Option FieldType} {e : Env} {s s₁ : State} {m : MethodId} {args : Array Value} {below : List Frame} {meth : Method} {c : Code} {hh : List (Nat × Nat × Nat × Nat)}
    (B : BodyLoose p l y S cc maxL ret e s m args below meth c s₁) (h : (Cond.codeWith y bytes maxL' ret' hh).before args s = true) : c.exceptionTable.toList = tableOf hh := by
  obtain ⟨m9, meth9, c9, hn9, h1, h2, -, -, h6, -⟩ := Cond.codeWith_spec h
  cases Option.some.inj (hn9.symm.trans B.named)
  cases Option.some.inj (h1.symm.trans B.method)
  cases Option.some.inj (h2.symm.trans (Stand.of_body B).code)
  rw [← h6, table_eq]
end Bodies
end VXA
/-! ===== END ===== -/
/-! ===== BEGIN a static call of a method with an exception table ===== -/
section VXS
variable {p : Program} {l : Launch} {e : Env} {R : Room} {s : State} {m : MethodId} {args : Array Value} {below : List Frame} {meth : Method} {c : Code} {T : State} {H : Heap} {locs : List Loc} {cells slots : Nat}
abbrev vx_CSW (R : Room) (s : State) (args : Array Value) (own : String) (index : Nat) (y : MethodName) (bytes : ByteArray) (maxL : Nat) (ret : Option FieldType) (hh : List (Nat × Nat × Nat × Nat)) (ws : List Cond) (rm : Room) (mc ms n : Nat) : Prop :=
  (rm.cells = mc ∧ rm.slots = ms ∧ rm.frames + 1 ≤ R.frames ∧ 8 + (maxL + 11) + rm.locals ≤ R.locals ∧ (∀ w ∈ ws, ∀ (a' : Array Value) (U : State), s.WarmedH U.vm → w.before a' U = true) ∧ Cond.codeWith y bytes maxL ret hh ∈ ws) ∧
  (Cond.codeWith y bytes maxL ret hh).before args s = true ∧ (Cond.initialized y.cls).before args s = true ∧ (y.cls ≠ "java/lang/invoke/MethodHandle" ∧ y.cls ≠ "java/lang/invoke/VarHandle") ∧
  (∀ sig, parseMethodDescriptor y.desc = some sig → n = sig.parameters.length) ∧ (Cond.methodLink own index y).before args s = true ∧ (Cond.static y).before args s = true
theorem vx_cwSW {own : String} {index maxL mc ms : Nat} {y : MethodName} {bytes : ByteArray} {ret : Option FieldType} {hh : List (Nat × Nat × Nat × Nat)} {Ts ws ws' : List Cond} {rm : Room} (n : Nat) (ht : ∀ w ∈ Ts, w.before args s = true) (hT : GoodIn Ts (va_wsS own index y ws)) (hw : ws = Cond.codeWith y bytes maxL ret hh :: ws') (hrc : rm.cells = mc) (hrs : rm.slots = ms)
    (hd : y.cls ≠ "java/lang/invoke/MethodHandle" ∧ y.cls ≠ "java/lang/invoke/VarHandle" ∧ (parseMethodDescriptor y.desc).map (fun d => d.parameters.length) = some n) (hR : rm.frames + 1 ≤ R.frames ∧ 8 + (maxL + 11) + rm.locals ≤ R.locals) :
    vx_CSW R s args own index y bytes maxL ret hh ws rm mc ms n := by
  have ok : ∀ w ∈ va_wsS own index y ws, w.before args s = true := fun w h => ht w (hT w h).1
  have hG : GoodIn Ts ws := fun w h => hT w (by unfold va_wsS; exact List.mem_append_right _ h)
  have hc : Cond.codeWith y bytes maxL ret hh ∈ ws := by rw [hw]; exact List.mem_cons_self
  refine ⟨⟨hrc, hrs, hR.1, hR.2, pay_in ht hG, hc⟩, ht _ (hG _ hc).1, ok _ (by simp [va_wsS]), ⟨hd.1, hd.2.1⟩, fun sig h => ?_, ok _ (by simp [va_wsS]), ok _ (by simp [va_wsS])⟩
  have h2 := hd.2.2
  rw [h] at h2
  exact (Option.some.inj h2).symm
theorem vx_callSW (X : Stand p l e R s m args below meth c T locs cells slots) (hexec : p.tables.exec = Jvm.exec) {own : String} {index : Nat} {y : MethodName} {bytes : ByteArray} {maxL : Nat} {ret : Option FieldType} {hh : List (Nat × Nat × Nat × Nat)}
    (hown : s.vm.findClass own = some m.cls) (hlink : (Cond.methodLink own index y).before args s = true) (hstat : (Cond.static y).before args s = true) (hinit : (Cond.initialized y.cls).before args s = true)
    (hcode : (Cond.codeWith y bytes maxL ret hh).before args s = true) (hy : y.cls ≠ "java/lang/invoke/MethodHandle" ∧ y.cls ≠ "java/lang/invoke/VarHandle")
    {W9 : Nat} {Pre : Pt → Array Value → Prop} {Post : Pt → Array Value → Option Value → Pt → Prop} (hK : Back l R p e below s args y 3 W9 Pre Post)
    {g : JFrame} (hg : g.method = m) (hsize : g.locals.size = c.maxLocals) {argsL rest : List Value} (hlen : ∀ sig, parseMethodDescriptor y.desc = some sig → argsL.length = sig.parameters.length)
    (hstack : g.stack = argsL.reverse ++ rest) (hW : 2 * g.monitorRoom + (rest.map fun v => v.category).sum ≤ W9) (hdg : decode c.code g.pc = .ok (.invokestatic index, 3))
    (hpre : ∀ vm₁, s.WarmedH vm₁ → Pre ⟨T.setVm vm₁, locs, cells, slots⟩ argsL.toArray) :
    ∃ (v : Option Value) (vm₁ : Vm) (B : Pt), s.WarmedH vm₁ ∧ Stand p l e R s m args below meth c B.U B.locs B.cells B.slots ∧ Post ⟨T.setVm vm₁, locs, cells, slots⟩ argsL.toArray v B ∧
      ∀ target, Steps p.tables e below (B.U.setTop { g with pc := g.pc + 3, stack := v.toList ++ rest }) target → Steps p.tables e below (T.setTop g) target := by
  obtain ⟨mk, methM, cM, hnamed, hmethM, -, -, -, -, -, -, hsigM⟩ := Cond.codeWith_spec hcode
  have hstatic : methM.isStatic = true := Cond.static_spec hnamed hmethM hstat
  obtain ⟨kP, hkP, -⟩ := className_of_methodNamed hnamed
  have hinitP : kP.init = .initialized := Cond.initialized_spec (findClass_of_methodNamed hnamed) hkP hinit
  obtain ⟨vm₁, X₁, hstep₁⟩ := X.invokestatic hexec hown hlink hnamed hmethM hstatic hkP hinitP hy (g := g) hg (argsL := argsL) (rest := rest) (hlen _ hsigM) hstack hdg
  obtain ⟨v, B, X', hpost, hsteps⟩ := hK m meth c ⟨T.setVm vm₁, locs, cells, slots⟩ { g with stack := rest } (.invokestatic index) mk argsL.toArray X₁ hg hsize hdg hW (X₁.named hnamed) (hpre vm₁ X₁.warmed)
  exact ⟨v, vm₁, B, X₁.warmed, X', hpost, fun target h => hstep₁ _ fun acts => by rw [doInvoke_state]; exact hsteps.trans h⟩
theorem vx_runSW {y : MethodName} {bytes cc : ByteArray} {maxL nL mc ms n index : Nat} {ret : Option FieldType} {hh : List (Nat × Nat × Nat × Nat)} {ws : List Cond} {rm : Room} {Pc : Array Value → State → Prop} {Qc : Array Value → State → Outcome → State → Prop} {free : Addr → Prop} {Ts : List Cond} {own : String} {As rest : List Value} {g : JFrame}
    (S : CallFix p m c cc nL s args Ts own) (hM : Met l y ws rm Pc Qc mc ms free) (cw : vx_CSW R s args own index y bytes maxL ret hh ws rm mc ms n) (hp : PreS s H Pc As)
    (hg : g.method = m) (hn : As.length = n) (hsize : g.locals.size = nL) (hstack : g.stack = As.reverse ++ rest) (hW : 2 * g.monitorRoom + (rest.map fun v => v.category).sum ≤ 8) (hdg : decode cc g.pc = .ok (.invokestatic index, 3)) (hf : cells + mc ≤ R.cells ∧ slots + ms ≤ R.slots) :
    va_Run p l e R s m args below meth c H locs cells slots mc ms g rest (Qc As.toArray) (free) := by
  obtain ⟨⟨hrc, hrs, hfr, hlo, hws, hcw⟩, hcode, hini, hy, hlen, hl, hstt⟩ := cw
  have hK : Back l R p e below s args y 3 8 (PreOf R mc ms Pc) (PostOf Qc mc ms free) := va_backW (hh := hh) (bytes := bytes) (maxL := maxL) (ret := ret) hM hp.1 hrc hrs hfr hlo hws hcw (fun a' U hW => word_at hW (Or.inl (by first | rfl | simp [Cond.onTables, Cond.keeps, Cond.steady])) hini)
  obtain ⟨hx, hb, hml, ho, -⟩ := S
  intro T hT X
  obtain ⟨v, vm₁, ⟨U', l2, c2, s2⟩, hW₁, X', ⟨g', mk, t, L, e1, e2, hq, h1, hL, h2, h3⟩, st⟩ := vx_callSW X hx (hh := hh) (bytes := bytes) (maxL := maxL) (ret := ret) ho hl hstt hini hcode hy hK hg (hsize.trans hml.symm) (argsL := As) (rest := rest) (fun sig h => hn.trans (hlen sig h)) hstack hW (by rw [hb]; exact hdg)
    (fun vm₁ hW₁ => ⟨hf.1, hf.2, hp.2 (T.setVm vm₁) hT hW₁⟩)
  dsimp only [Pt.U, Pt.locs, Pt.cells, Pt.slots] at X' e1 e2 h1 h2 h3 st
  subst h1; subst h2; subst h3
  exact ⟨v, (T.setVm vm₁).calling g' mk As.toArray, t, U', L, hT, X', hL, e1, e2, hq, st⟩
/-- not caught here, past rows that name other classes: it goes on to the caller -/
theorem vx_outP {p : Program} {l : Launch} {e : Env} {R : Room} {s : State} {m : MethodId} {args : Array Value} {below : List Frame} {meth : Method} {c : Code} {H : Heap} {locs : List Loc} {cells slots : Nat} {free : Addr → Prop} {ls : Array Slot} {rest : List Value} {Qc : Array Value → State → Outcome → State → Prop} {XC : String → State → State → Prop}
    {pc : Nat} {own E : String} {ce : Cell} {q : Addr} {mc ms : Nat} (hown : s.vm.findClass own = some m.cls) (hlocks : meth.locks = false)
    (hpass : ∀ z ∈ c.exceptionTable.toList, covers z pc = false ∨ (z.catchType ≠ 0 ∧ ∃ nm : String, (Cond.classLink own z.catchType nm).before args s = true ∧ va_Nc E nm s)) (hcell : H[q]? = some ce) (hv : ce.vm = .none) (hcl : s.vm.findClass E = some ce.cls)
    (hx : ∀ t : State, t.heap = H → s.vm.Alike t.vm → XC E s t) (hf : ∀ z ∈ locs, free z.base) (hc : cells ≤ mc) (hs : slots ≤ ms) :
    vx_W p l e R s m args below meth c H locs cells slots (vx_MQ below Qc XC args s mc ms free) (F0 m pc ls rest) q := by
  intro T hT X
  have hpl : e.platform.magicAccessors = ({} : Platform).magicAccessors := by rw [X.admits.platform]
  obtain ⟨vm', hW', X', st⟩ := X.outThrough hlocks q (g := F0 m pc ls rest) rfl rfl rfl (cell := ce) (by rw [hT]; exact hcell) (by rw [hv]; rfl)
    (by obtain ⟨k9, h9, -⟩ := Vm.findClass_spec hcl; exact ⟨k9, h9⟩) (fun z hz => by
      rcases hpass z hz with h | ⟨hz0, nm, hl1, hn1⟩
      · exact Or.inl h
      · obtain ⟨c6, hc6, hcl6⟩ := Cond.classLink_spec hown hl1 e.platform hpl
        obtain ⟨a8, b8, h1, h2, h3⟩ := hn1
        cases Option.some.inj (h1.symm.trans hcl)
        cases Option.some.inj (h2.symm.trans hc6)
        exact Or.inr ⟨hz0, _, hcl6, h3⟩)
  obtain ⟨g₀, hfr⟩ := X'.frames_eq
  have hcell9 : ((T.setVm vm').setFrames (.throwing q :: below)).heap[q]? = some ce := by
    show T.heap[q]? = some ce
    rw [hT]; exact hcell
  have hend : Ended ((T.setVm vm').setFrames (.throwing q :: below)) below (.threw q) := State.frames_setFrames _ (State.cur_lt_of_frames hfr)
  refine ⟨(T.setVm vm').setFrames (.throwing q :: below), ?_, .threw q, X'.here.running, hend, Or.inr ⟨q, rfl, E, ce, locs, hx _ hT (X'.ends _).1.alike, hcell9, hv, hcl, (X'.ends _).1, (X'.ends _).2.mono hc hs, hf⟩⟩
  rw [X.pushThrowing_eq]
  exact st
/-- a thing of a world lies in the heap -/
theorem vx_lt {D : va_G} {cl : List vw_C} {ws : va_W} {H1 : Heap} (h : va_P D cl ws H1) {k : Nat} {q : Nat × va_E} (hk : ws[k]? = some q) : q.1 < H1.size := (h k q hk).lt
end VXS
/-! ===== END ===== -/
/-! ===== BEGIN methods with a table of their own: called by a name, returning or throwing ===== -/
section VXH
/-! vx_backW, vx_callVX, vx_callSX, vx_callVW, vx_runVW, vx_runVX, vx_runSX, vx_ofWH follow the same proofs as their sisters above (Free/Laws.lean, Shelf42/LK1.lean); vx_outP calls Shelf42/NT130.lean (outThrough). -/
section
variable {l : Launch} {R : Room} {p : Program} {e : Env} {below : List Frame} {s : State} {sargs : Array Value} {y : MethodName} {len W9 : Nat}
theorem vx_backW {ws : List Cond} {rm : Room} {Pc : Array Value → State → Prop} {Qc : Array Value → State → Outcome → State → Prop} {XC : String → State → State → Prop} {mc ms : Nat} {free : Addr → Prop} {bytes : ByteArray} {maxL : Nat} {ret : Option FieldType} {hh : List (Nat × Nat × Nat × Nat)}
    (hM : vx_Met l y ws rm Pc Qc XC mc ms free) (hblind : FrameBlind Pc) (hrc : rm.cells = mc) (hrs : rm.slots = ms)
    (hframes : rm.frames + 1 ≤ R.frames) (hlocals : W9 + (maxL + 11) + rm.locals ≤ R.locals)
    (hws : ∀ w ∈ ws, ∀ a' U, s.WarmedH U.vm → w.before a' U = true) (hcode : Cond.codeWith y bytes maxL ret hh ∈ ws) (hinit : ∀ a' U, s.WarmedH U.vm → (Cond.initialized y.cls).before a' U = true) :
    vx_Back l R p e below s sargs y len W9 (PreOf R mc ms Pc) (PostOf Qc mc ms free) (vx_Post XC mc ms free) := by
  intro m meth c A g ig mk a X hg hsize hdg hW hn hp
  have h1 : (headSpec ws rm).pre.before a A.U = true := atoms_intro fun w hw => hws w hw _ _ X.warmed
  have h2 : (Cond.codeWith y bytes maxL ret hh).before a A.U = true := hws _ hcode _ _ X.warmed
  have h3 : (Cond.initialized y.cls).before a A.U = true := hinit _ _ X.warmed
  have h4 : A.cells + (headSpec ws rm).room.cells ≤ R.cells := by rw [show (headSpec ws rm).room.cells = mc from hrc]; exact hp.1
  have h5 : A.slots + (headSpec ws rm).room.slots ≤ R.slots := by rw [show (headSpec ws rm).room.slots = ms from hrs]; exact hp.2.1
  have hPc : Pc a (A.U.calling g mk a) := hblind _ _ _ _ hp.2.2
  obtain ⟨U, Ls, c0, s0⟩ := A
  dsimp only [Pt.U, Pt.locs, Pt.cells, Pt.slots] at h1 h2 h3 h4 h5 X hn hPc ⊢
  obtain ⟨m9, methY, cY, hn9, hmY, hcY, -, hlY, -⟩ := Cond.codeWith_spec h2
  cases Option.some.inj (hn9.symm.trans hn)
  obtain ⟨kY, hkY, -⟩ := className_of_methodNamed hn
  have hinitY : kY.init = .initialized := Cond.initialized_spec (findClass_of_methodNamed hn) hkY h3
  have h : At U g.method c below := by rw [hg]; exact X.here
  have hlocals9 : W9 + (maxL + 11) + (headSpec ws rm).room.locals ≤ R.locals := hlocals
  have happ : (headSpec ws rm).appliesLoose y e.platform (U.calling g mk a) = true :=
    Spec.appliesLoose_calling (g := g) h hdg hn hkY hinitY
      (X.room_calling (g := g) (R' := (headSpec ws rm).room) hsize hmY hcY hframes (by rw [hlY]; omega) h4 h5) h1
  obtain ⟨mid, hmid⟩ := h.above
  have hfr : (U.setTop g).frames = (.java g :: mid) ++ below := by rw [State.frames_setTop' g h.top, hmid]; rfl
  obtain ⟨o, s₂, hsteps, -, hend, hq⟩ := Steps.callFree hM p X.admits X.cas X.clock (acts := []) hfr happ hPc trivial
  have hq' : vx_Q Qc XC mc ms free a (U.calling g mk a) o s₂ := hq
  rw [State.frames_setTop' g h.top] at hend
  obtain ⟨g₀, hg0⟩ := Option.isSome_iff_exists.mp h.top
  obtain ⟨r, hr⟩ := State.topJava?_eq_some.mp hg0
  have hr' : (({ U with heap := s₂.heap, slotsUsed := s₂.slotsUsed } : State).setVm s₂.vm).frames = .java g₀ :: r := hr
  rcases hq' with ⟨hqc, L, hfe, hL⟩ | ⟨q, rfl, E, ce, L, hx, hce, hcv, hcl, hW₂, hsm, hL⟩
  · obtain ⟨⟨v, rfl⟩, hW₂, e2, q2, q3, q4, q5, q6⟩ := id hfe
    have e3 : s₂ = ({ (U.calling g mk a).setFrames s₂.frames with heap := s₂.heap, slotsUsed := s₂.slotsUsed } : State).setVm s₂.vm := by
      have : s₂ = ({ s₂ with vm := (U.calling g mk a).vm } : State).setVm s₂.vm := rfl
      rw [e2] at this
      exact this
    obtain ⟨c₂, i₂, len₂, hc₂, hd₂, hf₂⟩ := hend
    have hW' : U.WarmedH s₂.vm := hW₂
    have hcc : c₂ = c := by
      have h1 : s₂.code? g.method = U.code? g.method := by
        rw [State.code?_eq, State.code?_eq, hW'.alike.method?]
      exact Option.some.inj (hc₂.symm.trans (h1.trans h.code))
    subst hcc
    have hlen : len₂ = len := by rw [hdg] at hd₂; cases hd₂; rfl
    subst hlen
    have hs₂ : s₂ = (({ U with heap := s₂.heap, slotsUsed := s₂.slotsUsed } : State).setVm s₂.vm).setTop { g with pc := g.pc + len₂, stack := v.toList ++ g.stack } := by
      refine e3.trans ?_
      rw [hf₂, State.calling_eq h.top, State.setFrames_setFrames, State.setTop_of_frames _ hr', hr]
      rfl
    have hsame : U.sameButNew ({ U with heap := s₂.heap, slotsUsed := s₂.slotsUsed } : State) L mc ms := by
      refine ⟨?_, q2, q3, q4, q5, q6⟩
      obtain ⟨t, ht, -⟩ := State.frames_cons hr
      show ({ U with heap := s₂.heap, slotsUsed := s₂.slotsUsed } : State) = { U.setFrames U.frames with heap := s₂.heap, slotsUsed := s₂.slotsUsed }
      rw [State.setFrames_self ht]
    subst hg
    refine Or.inl ⟨v, ⟨(({ U with heap := s₂.heap, slotsUsed := s₂.slotsUsed } : State).setVm s₂.vm), Ls ++ L, c0 + mc, s0 + ms⟩,
      ⟨X.admits, X.cas, X.clock, X.frames, X.room, X.hears, X.method, X.code, (X.here.setHeapUsed s₂.heap s₂.slotsUsed).setVm hW'.alike, X.tail, State.WarmedH.trans X.warmed hW', X.limits, X.bytes, X.same.trans (hsame.setVm s.vm)⟩,
      ⟨g, mk, s₂, L, rfl, rfl, hqc, rfl, hL, rfl, rfl⟩, ?_⟩
    show Steps p.tables e below _ ((({ U with heap := s₂.heap, slotsUsed := s₂.slotsUsed } : State).setVm s₂.vm).setTop { g with pc := g.pc + len₂, stack := v.toList ++ g.stack })
    rw [← hs₂]
    exact hsteps
  · obtain ⟨e2, q2, q3, q4, q5, q6⟩ := id hsm
    have e3 : s₂ = ({ (U.calling g mk a).setFrames s₂.frames with heap := s₂.heap, slotsUsed := s₂.slotsUsed } : State).setVm s₂.vm := by
      have : s₂ = ({ s₂ with vm := (U.calling g mk a).vm } : State).setVm s₂.vm := rfl
      rw [e2] at this
      exact this
    have hf₂ : s₂.frames = .throwing q :: .java g :: U.frames.tail := hend
    have hW' : U.WarmedH s₂.vm := hW₂
    have hs₂ : s₂ = ((({ U with heap := s₂.heap, slotsUsed := s₂.slotsUsed } : State).setVm s₂.vm).setTop g).pushFrame (.throwing q) := by
      refine e3.trans ?_
      rw [hf₂, State.calling_eq h.top, State.setFrames_setFrames, State.pushFrame, State.frames_setTop _ hr', State.setTop_of_frames _ hr', State.setFrames_setFrames, hr]
      rfl
    have hsame : U.sameButNew ({ U with heap := s₂.heap, slotsUsed := s₂.slotsUsed } : State) L mc ms := by
      refine ⟨?_, q2, q3, q4, q5, q6⟩
      obtain ⟨t, ht, -⟩ := State.frames_cons hr
      show ({ U with heap := s₂.heap, slotsUsed := s₂.slotsUsed } : State) = { U.setFrames U.frames with heap := s₂.heap, slotsUsed := s₂.slotsUsed }
      rw [State.setFrames_self ht]
    subst hg
    refine Or.inr ⟨q, ⟨(({ U with heap := s₂.heap, slotsUsed := s₂.slotsUsed } : State).setVm s₂.vm), Ls ++ L, c0 + mc, s0 + ms⟩,
      ⟨X.admits, X.cas, X.clock, X.frames, X.room, X.hears, X.method, X.code, (X.here.setHeapUsed s₂.heap s₂.slotsUsed).setVm hW'.alike, X.tail, State.WarmedH.trans X.warmed hW', X.limits, X.bytes, X.same.trans (hsame.setVm s.vm)⟩,
      ⟨g, mk, s₂, L, E, ce, rfl, rfl, hx, hce, hcv, hcl, rfl, hL, rfl, rfl⟩, ?_⟩
    show Steps p.tables e below _ (((({ U with heap := s₂.heap, slotsUsed := s₂.slotsUsed } : State).setVm s₂.vm).setTop g).pushFrame (.throwing q))
    rw [← hs₂]
    exact hsteps
end
variable {p : Program} {l : Launch} {e : Env} {R : Room} {s : State} {m : MethodId} {args : Array Value} {below : List Frame} {meth : Method} {c : Code} {T : State} {H : Heap} {locs : List Loc} {cells slots : Nat}
theorem vx_callVX (X : Stand p l e R s m args below meth c T locs cells slots) (hexec : p.tables.exec = Jvm.exec) {own C : String} {index : Nat} {y : MethodName} {bytes : ByteArray} {maxL : Nat} {ret : Option FieldType} {hh : List (Nat × Nat × Nat × Nat)}
    (hown : s.vm.findClass own = some m.cls) (hlink : (Cond.methodLink own index y).before args s = true) (hinst : (Cond.instanceMethod y).before args s = true) (hsel : (Cond.selects C y y).before args s = true)
    (hcode : (Cond.codeWith y bytes maxL ret hh).before args s = true) (hy : y.cls ≠ "java/lang/invoke/MethodHandle" ∧ y.cls ≠ "java/lang/invoke/VarHandle")
    {W9 : Nat} {Pre : Pt → Array Value → Prop} {Post : Pt → Array Value → Option Value → Pt → Prop} {PostX : Pt → Array Value → Addr → Pt → Prop} (hK : vx_Back l R p e below s args y 3 W9 Pre Post PostX)
    {b : Addr} {cellB : Cell} (hcell : T.heap[b]? = some cellB) (hobj : cellB.vm.isStatics = false) (hcls : s.vm.findClass C = some cellB.cls)
    {g : JFrame} (hg : g.method = m) (hsize : g.locals.size = c.maxLocals) {argsL rest : List Value} (hlen : ∀ sig, parseMethodDescriptor y.desc = some sig → argsL.length = sig.parameters.length)
    (hstack : g.stack = argsL.reverse ++ .ref b :: rest) (hW : 2 * g.monitorRoom + (rest.map fun v => v.category).sum ≤ W9) (hdg : decode c.code g.pc = .ok (.invokevirtual index, 3))
    (hpre : ∀ vm₁, s.WarmedH vm₁ → Pre ⟨T.setVm vm₁, locs, cells, slots⟩ (Value.ref b :: argsL).toArray) :
    (∃ (v : Option Value) (vm₁ : Vm) (B : Pt), s.WarmedH vm₁ ∧ Stand p l e R s m args below meth c B.U B.locs B.cells B.slots ∧ Post ⟨T.setVm vm₁, locs, cells, slots⟩ (Value.ref b :: argsL).toArray v B ∧
      ∀ target, Steps p.tables e below (B.U.setTop { g with pc := g.pc + 3, stack := v.toList ++ rest }) target → Steps p.tables e below (T.setTop g) target) ∨
    (∃ (q : Addr) (vm₁ : Vm) (B : Pt), s.WarmedH vm₁ ∧ Stand p l e R s m args below meth c B.U B.locs B.cells B.slots ∧ PostX ⟨T.setVm vm₁, locs, cells, slots⟩ (Value.ref b :: argsL).toArray q B ∧
      Steps p.tables e below (T.setTop g) ((B.U.setTop { g with stack := rest }).pushFrame (.throwing q))) := by
  obtain ⟨mk, methM, hnamed, hmethM, hstM, habM⟩ := Cond.instanceMethod_spec hinst
  obtain ⟨m8, methM', cM, hn8, hmethM', -, -, -, -, -, -, hsigM⟩ := Cond.codeWith_spec hcode
  cases Option.some.inj (hn8.symm.trans hnamed)
  cases hmethM.symm.trans hmethM'
  obtain ⟨c2, r2, m2, q1, q2, q3, q4, kP, hkP, hkPi⟩ := Cond.selects_spec hsel
  cases hcls.symm.trans q1
  cases (State.methodFound?_of_named hnamed hy).symm.trans q2
  cases hnamed.symm.trans q3
  have hselP : selectMethod e.platform s.vm cellB.cls mk = .method mk := by rw [Launch.admits_selectMethod X.admits]; exact q4
  obtain ⟨vm₁, X₁, hstep₁⟩ := X.invokevirtual hexec hown hlink hnamed hmethM hstM hkP hkPi hy (a := b) (cell := cellB) hcell
    (fun z h => by rw [h] at hobj; cases hobj) hselP hmethM habM hkP hkPi (g := g) hg (argsL := argsL) (rest := rest) (hlen _ hsigM) hstack hdg
  rcases hK m meth c ⟨T.setVm vm₁, locs, cells, slots⟩ { g with stack := rest } (.invokevirtual index) mk (Value.ref b :: argsL).toArray X₁ hg hsize hdg hW (X₁.named hnamed) (hpre vm₁ X₁.warmed) with ⟨v, B, X', hpost, hsteps⟩ | ⟨q, B, X', hpost, hsteps⟩
  · exact Or.inl ⟨v, vm₁, B, X₁.warmed, X', hpost, fun target h => hstep₁ _ fun acts => by rw [doInvoke_state]; exact hsteps.trans h⟩
  · exact Or.inr ⟨q, vm₁, B, X₁.warmed, X', hpost, hstep₁ _ fun acts => by rw [doInvoke_state]; exact hsteps⟩
theorem vx_callSX (X : Stand p l e R s m args below meth c T locs cells slots) (hexec : p.tables.exec = Jvm.exec) {own : String} {index : Nat} {y : MethodName} {bytes : ByteArray} {maxL : Nat} {ret : Option FieldType} {hh : List (Nat × Nat × Nat × Nat)}
    (hown : s.vm.findClass own = some m.cls) (hlink : (Cond.methodLink own index y).before args s = true) (hstat : (Cond.static y).before args s = true) (hinit : (Cond.initialized y.cls).before args s = true)
    (hcode : (Cond.codeWith y bytes maxL ret hh).before args s = true) (hy : y.cls ≠ "java/lang/invoke/MethodHandle" ∧ y.cls ≠ "java/lang/invoke/VarHandle")
    {W9 : Nat} {Pre : Pt → Array Value → Prop} {Post : Pt → Array Value → Option Value → Pt → Prop} {PostX : Pt → Array Value → Addr → Pt → Prop} (hK : vx_Back l R p e below s args y 3 W9 Pre Post PostX)
    {g : JFrame} (hg : g.method = m) (hsize : g.locals.size = c.maxLocals) {argsL rest : List Value} (hlen : ∀ sig, parseMethodDescriptor y.desc = some sig → argsL.length = sig.parameters.length)
    (hstack : g.stack = argsL.reverse ++ rest) (hW : 2 * g.monitorRoom + (rest.map fun v => v.category).sum ≤ W9) (hdg : decode c.code g.pc = .ok (.invokestatic index, 3))
    (hpre : ∀ vm₁, s.WarmedH vm₁ → Pre ⟨T.setVm vm₁, locs, cells, slots⟩ argsL.toArray) :
    (∃ (v : Option Value) (vm₁ : Vm) (B : Pt), s.WarmedH vm₁ ∧ Stand p l e R s m args below meth c B.U B.locs B.cells B.slots ∧ Post ⟨T.setVm vm₁, locs, cells, slots⟩ argsL.toArray v B ∧
      ∀ target, Steps p.tables e below (B.U.setTop { g with pc := g.pc + 3, stack := v.toList ++ rest }) target → Steps p.tables e below (T.setTop g) target) ∨
    (∃ (q : Addr) (vm₁ : Vm) (B : Pt), s.WarmedH vm₁ ∧ Stand p l e R s m args below meth c B.U B.locs B.cells B.slots ∧ PostX ⟨T.setVm vm₁, locs, cells, slots⟩ argsL.toArray q B ∧
      Steps p.tables e below (T.setTop g) ((B.U.setTop { g with stack := rest }).pushFrame (.throwing q))) := by
  obtain ⟨mk, methM, cM, hnamed, hmethM, -, -, -, -, -, -, hsigM⟩ := Cond.codeWith_spec hcode
  have hstatic : methM.isStatic = true := Cond.static_spec hnamed hmethM hstat
  obtain ⟨kP, hkP, -⟩ := className_of_methodNamed hnamed
  have hinitP : kP.init = .initialized := Cond.initialized_spec (findClass_of_methodNamed hnamed) hkP hinit
  obtain ⟨vm₁, X₁, hstep₁⟩ := X.invokestatic hexec hown hlink hnamed hmethM hstatic hkP hinitP hy (g := g) hg (argsL := argsL) (rest := rest) (hlen _ hsigM) hstack hdg
  rcases hK m meth c ⟨T.setVm vm₁, locs, cells, slots⟩ { g with stack := rest } (.invokestatic index) mk argsL.toArray X₁ hg hsize hdg hW (X₁.named hnamed) (hpre vm₁ X₁.warmed) with ⟨v, B, X', hpost, hsteps⟩ | ⟨q, B, X', hpost, hsteps⟩
  · exact Or.inl ⟨v, vm₁, B, X₁.warmed, X', hpost, fun target h => hstep₁ _ fun acts => by rw [doInvoke_state]; exact hsteps.trans h⟩
  · exact Or.inr ⟨q, vm₁, B, X₁.warmed, X', hpost, hstep₁ _ fun acts => by rw [doInvoke_state]; exact hsteps⟩
theorem vx_callVW (X : Stand p l e R s m args below meth c T locs cells slots) (hexec : p.tables.exec = Jvm.exec) {own C : String} {index : Nat} {y : MethodName} {bytes : ByteArray} {maxL : Nat} {ret : Option FieldType} {hh : List (Nat × Nat × Nat × Nat)}
    (hown : s.vm.findClass own = some m.cls) (hlink : (Cond.methodLink own index y).before args s = true) (hinst : (Cond.instanceMethod y).before args s = true) (hsel : (Cond.selects C y y).before args s = true)
    (hcode : (Cond.codeWith y bytes maxL ret hh).before args s = true) (hy : y.cls ≠ "java/lang/invoke/MethodHandle" ∧ y.cls ≠ "java/lang/invoke/VarHandle")
    {W9 : Nat} {Pre : Pt → Array Value → Prop} {Post : Pt → Array Value → Option Value → Pt → Prop} (hK : Back l R p e below s args y 3 W9 Pre Post)
    {b : Addr} {cellB : Cell} (hcell : T.heap[b]? = some cellB) (hobj : cellB.vm.isStatics = false) (hcls : s.vm.findClass C = some cellB.cls)
    {g : JFrame} (hg : g.method = m) (hsize : g.locals.size = c.maxLocals) {argsL rest : List Value} (hlen : ∀ sig, parseMethodDescriptor y.desc = some sig → argsL.length = sig.parameters.length)
    (hstack : g.stack = argsL.reverse ++ .ref b :: rest) (hW : 2 * g.monitorRoom + (rest.map fun v => v.category).sum ≤ W9) (hdg : decode c.code g.pc = .ok (.invokevirtual index, 3))
    (hpre : ∀ vm₁, s.WarmedH vm₁ → Pre ⟨T.setVm vm₁, locs, cells, slots⟩ (Value.ref b :: argsL).toArray) :
    ∃ (v : Option Value) (vm₁ : Vm) (B : Pt), s.WarmedH vm₁ ∧ Stand p l e R s m args below meth c B.U B.locs B.cells B.slots ∧ Post ⟨T.setVm vm₁, locs, cells, slots⟩ (Value.ref b :: argsL).toArray v B ∧
      ∀ target, Steps p.tables e below (B.U.setTop { g with pc := g.pc + 3, stack := v.toList ++ rest }) target → Steps p.tables e below (T.setTop g) target := by
  obtain ⟨mk, methM, hnamed, hmethM, hstM, habM⟩ := Cond.instanceMethod_spec hinst
  obtain ⟨m8, methM', cM, hn8, hmethM', -, -, -, -, -, -, hsigM⟩ := Cond.codeWith_spec hcode
  cases Option.some.inj (hn8.symm.trans hnamed)
  cases hmethM.symm.trans hmethM'
  obtain ⟨c2, r2, m2, q1, q2, q3, q4, kP, hkP, hkPi⟩ := Cond.selects_spec hsel
  cases hcls.symm.trans q1
  cases (State.methodFound?_of_named hnamed hy).symm.trans q2
  cases hnamed.symm.trans q3
  have hselP : selectMethod e.platform s.vm cellB.cls mk = .method mk := by rw [Launch.admits_selectMethod X.admits]; exact q4
  obtain ⟨vm₁, X₁, hstep₁⟩ := X.invokevirtual hexec hown hlink hnamed hmethM hstM hkP hkPi hy (a := b) (cell := cellB) hcell
    (fun z h => by rw [h] at hobj; cases hobj) hselP hmethM habM hkP hkPi (g := g) hg (argsL := argsL) (rest := rest) (hlen _ hsigM) hstack hdg
  obtain ⟨v, B, X', hpost, hsteps⟩ := hK m meth c ⟨T.setVm vm₁, locs, cells, slots⟩ { g with stack := rest } (.invokevirtual index) mk (Value.ref b :: argsL).toArray X₁ hg hsize hdg hW (X₁.named hnamed) (hpre vm₁ X₁.warmed)
  exact ⟨v, vm₁, B, X₁.warmed, X', hpost, fun target h => hstep₁ _ fun acts => by rw [doInvoke_state]; exact hsteps.trans h⟩
abbrev vx_CVW (R : Room) (s : State) (args : Array Value) (own C : String) (index : Nat) (y : MethodName) (bytes : ByteArray) (maxL : Nat) (ret : Option FieldType) (hh : List (Nat × Nat × Nat × Nat)) (ws : List Cond) (rm : Room) (mc ms n : Nat) : Prop :=
  (rm.cells = mc ∧ rm.slots = ms ∧ rm.frames + 1 ≤ R.frames ∧ 8 + (maxL + 11) + rm.locals ≤ R.locals ∧ (∀ w ∈ ws, ∀ (a' : Array Value) (U : State), s.WarmedH U.vm → w.before a' U = true) ∧ Cond.codeWith y bytes maxL ret hh ∈ ws) ∧
  (Cond.codeWith y bytes maxL ret hh).before args s = true ∧ (Cond.initialized y.cls).before args s = true ∧ (y.cls ≠ "java/lang/invoke/MethodHandle" ∧ y.cls ≠ "java/lang/invoke/VarHandle") ∧
  (∀ sig, parseMethodDescriptor y.desc = some sig → n = sig.parameters.length) ∧ (Cond.methodLink own index y).before args s = true ∧ (Cond.instanceMethod y).before args s = true ∧ (Cond.selects C y y).before args s = true
theorem vx_cwVW {own C : String} {index maxL mc ms : Nat} {y : MethodName} {bytes : ByteArray} {ret : Option FieldType} {hh : List (Nat × Nat × Nat × Nat)} {Ts ws ws' : List Cond} {rm : Room} (n : Nat) (ht : ∀ w ∈ Ts, w.before args s = true) (hT : GoodIn Ts (wsV own index C y ws)) (hw : ws = Cond.codeWith y bytes maxL ret hh :: ws') (hrc : rm.cells = mc) (hrs : rm.slots = ms)
    (hd : y.cls = C ∧ y.cls ≠ "java/lang/invoke/MethodHandle" ∧ y.cls ≠ "java/lang/invoke/VarHandle" ∧ (parseMethodDescriptor y.desc).map (fun d => d.parameters.length) = some n) (hR : rm.frames + 1 ≤ R.frames ∧ 8 + (maxL + 11) + rm.locals ≤ R.locals) :
    vx_CVW R s args own C index y bytes maxL ret hh ws rm mc ms n := by
  obtain ⟨hC, hd⟩ := hd
  subst hC
  have ok : ∀ w ∈ wsV own index y.cls y ws, w.before args s = true := fun w h => ht w (hT w h).1
  have hG : GoodIn Ts ws := fun w h => hT w (by unfold wsV; exact List.mem_append_right _ h)
  have hc : Cond.codeWith y bytes maxL ret hh ∈ ws := by rw [hw]; exact List.mem_cons_self
  refine ⟨⟨hrc, hrs, hR.1, hR.2, pay_in ht hG, hc⟩, ht _ (hG _ hc).1, ok _ (by simp [wsV]), ⟨hd.1, hd.2.1⟩, fun sig h => ?_, ok _ (by simp [wsV]), ok _ (by simp [wsV]), ok _ (by simp [wsV])⟩
  have h2 := hd.2.2
  rw [h] at h2
  exact (Option.some.inj h2).symm
theorem vx_runVW {y : MethodName} {bytes cc : ByteArray} {maxL nL mc ms n index : Nat} {ret : Option FieldType} {hh : List (Nat × Nat × Nat × Nat)} {ws : List Cond} {rm : Room} {Pc : Array Value → State → Prop} {Qc : Array Value → State → Outcome → State → Prop} {free : Addr → Prop} {Ts : List Cond} {own C : String} {b : Addr} {As rest : List Value} {g : JFrame}
    (S : CallFix p m c cc nL s args Ts own) (hM : Met l y ws rm Pc Qc mc ms free) (cw : vx_CVW R s args own C index y bytes maxL ret hh ws rm mc ms n) (hp : PreV s H C b Pc As)
    (hg : g.method = m) (hn : As.length = n) (hsize : g.locals.size = nL) (hstack : g.stack = As.reverse ++ .ref b :: rest) (hW : 2 * g.monitorRoom + (rest.map fun v => v.category).sum ≤ 8) (hdg : decode cc g.pc = .ok (.invokevirtual index, 3)) (hf : cells + mc ≤ R.cells ∧ slots + ms ≤ R.slots) :
    va_Run p l e R s m args below meth c H locs cells slots mc ms g rest (Qc (Value.ref b :: As).toArray) free := by
  obtain ⟨⟨hrc, hrs, hfr, hlo, hws, hcw⟩, hcode, hini, hy, hlen, hl, hin, hse⟩ := cw
  have hK : Back l R p e below s args y 3 8 (PreOf R mc ms Pc) (PostOf Qc mc ms free) := va_backW (hh := hh) (bytes := bytes) (maxL := maxL) (ret := ret) hM hp.1 hrc hrs hfr hlo hws hcw (fun a' U hW => word_at hW (Or.inl (by first | rfl | simp [Cond.onTables, Cond.keeps, Cond.steady])) hini)
  obtain ⟨hx, hb, hml, ho, -⟩ := S
  obtain ⟨-, ⟨cellB, hcB, hoB, hclB⟩, hPc⟩ := hp
  intro T hT X
  obtain ⟨v, vm₁, ⟨U', l2, c2, s2⟩, hW₁, X', ⟨g', mk, t, L, e1, e2, hq, h1, hL, h2, h3⟩, st⟩ := vx_callVW X hx (C := C) (hh := hh) (bytes := bytes) (maxL := maxL) (ret := ret) ho hl hin hse hcode hy hK (by rw [hT]; exact hcB) hoB hclB hg (hsize.trans hml.symm) (argsL := As) (rest := rest) (fun sig h => hn.trans (hlen sig h)) hstack hW (by rw [hb]; exact hdg)
    (fun vm₁ hW₁ => ⟨hf.1, hf.2, hPc (T.setVm vm₁) hT hW₁⟩)
  dsimp only [Pt.U, Pt.locs, Pt.cells, Pt.slots] at X' e1 e2 h1 h2 h3 st
  subst h1; subst h2; subst h3
  exact ⟨v, (T.setVm vm₁).calling g' mk (Value.ref b :: As).toArray, t, U', L, hT, X', hL, e1, e2, hq, st⟩
section
variable {y : MethodName} {bytes cc : ByteArray} {maxL nL mc ms n index : Nat} {ret : Option FieldType} {ws : List Cond} {rm : Room} {Pc : Array Value → State → Prop} {Qc : Array Value → State → Outcome → State → Prop} {XC : String → State → State → Prop} {free : Addr → Prop} {Ts : List Cond} {own C : String} {b : Addr} {As rest : List Value} {g : JFrame}
theorem vx_runVX {hh : List (Nat × Nat × Nat × Nat)} (S : CallFix p m c cc nL s args Ts own) (hM : vx_Met l y ws rm Pc Qc XC mc ms free) (cw : vx_CVW R s args own C index y bytes maxL ret hh ws rm mc ms n) (hp : PreV s H C b Pc As)
    (hg : g.method = m) (hn : As.length = n) (hsize : g.locals.size = nL) (hstack : g.stack = As.reverse ++ .ref b :: rest) (hW : 2 * g.monitorRoom + (rest.map fun v => v.category).sum ≤ 8) (hdg : decode cc g.pc = .ok (.invokevirtual index, 3)) (hf : cells + mc ≤ R.cells ∧ slots + ms ≤ R.slots) :
    vx_Run p l e R s m args below meth c H locs cells slots mc ms g rest (Qc (Value.ref b :: As).toArray) XC free := by
  obtain ⟨⟨hrc, hrs, hfr, hlo, hws, hcw⟩, hcode, hini, hy, hlen, hl, hin, hse⟩ := cw
  have hK : vx_Back l R p e below s args y 3 8 (PreOf R mc ms Pc) (PostOf Qc mc ms free) (vx_Post XC mc ms free) := vx_backW (hh := hh) (bytes := bytes) (maxL := maxL) (ret := ret) hM hp.1 hrc hrs hfr hlo hws hcw (fun a' U hW => word_at hW (Or.inl (by first | rfl | simp [Cond.onTables, Cond.keeps, Cond.steady])) hini)
  obtain ⟨hx, hb, hml, ho, -⟩ := S
  obtain ⟨-, ⟨cellB, hcB, hoB, hclB⟩, hPc⟩ := hp
  intro T hT X
  rcases vx_callVX X hx (C := C) (hh := hh) (bytes := bytes) (maxL := maxL) (ret := ret) ho hl hin hse hcode hy hK (by rw [hT]; exact hcB) hoB hclB hg (hsize.trans hml.symm) (argsL := As) (rest := rest) (fun sig h => hn.trans (hlen sig h)) hstack hW (by rw [hb]; exact hdg)
    (fun vm₁ hW₁ => ⟨hf.1, hf.2, hPc (T.setVm vm₁) hT hW₁⟩) with ⟨v, vm₁, ⟨U', l2, c2, s2⟩, hW₁, X', ⟨g', mk, t, L, e1, e2, hq, h1, hL, h2, h3⟩, st⟩ | ⟨q, vm₁, ⟨U', l2, c2, s2⟩, hW₁, X', ⟨g', mk, t, L, E, ce, e1, e2, hq, hce, hcv, hcl, h1, hL, h2, h3⟩, st⟩
  · dsimp only [Pt.U, Pt.locs, Pt.cells, Pt.slots] at X' e1 e2 h1 h2 h3 st
    subst h1; subst h2; subst h3
    exact Or.inl ⟨v, (T.setVm vm₁).calling g' mk (Value.ref b :: As).toArray, t, U', L, hT, X', hL, e1, e2, hq, st⟩
  · dsimp only [Pt.U, Pt.locs, Pt.cells, Pt.slots] at X' e1 e2 h1 h2 h3 st hcl
    subst h1; subst h2; subst h3
    exact Or.inr ⟨q, (T.setVm vm₁).calling g' mk (Value.ref b :: As).toArray, t, U', L, E, ce, hT, X', hL, e1, e2, hq, hce, hcv, vx_cls hW₁ hcl, st⟩
theorem vx_runSX {hh : List (Nat × Nat × Nat × Nat)} (S : CallFix p m c cc nL s args Ts own) (hM : vx_Met l y ws rm Pc Qc XC mc ms free) (cw : vx_CSW R s args own index y bytes maxL ret hh ws rm mc ms n) (hp : PreS s H Pc As)
    (hg : g.method = m) (hn : As.length = n) (hsize : g.locals.size = nL) (hstack : g.stack = As.reverse ++ rest) (hW : 2 * g.monitorRoom + (rest.map fun v => v.category).sum ≤ 8) (hdg : decode cc g.pc = .ok (.invokestatic index, 3)) (hf : cells + mc ≤ R.cells ∧ slots + ms ≤ R.slots) :
    vx_Run p l e R s m args below meth c H locs cells slots mc ms g rest (Qc As.toArray) XC free := by
  obtain ⟨⟨hrc, hrs, hfr, hlo, hws, hcw⟩, hcode, hini, hy, hlen, hl, hstt⟩ := cw
  have hK : vx_Back l R p e below s args y 3 8 (PreOf R mc ms Pc) (PostOf Qc mc ms free) (vx_Post XC mc ms free) := vx_backW (hh := hh) (bytes := bytes) (maxL := maxL) (ret := ret) hM hp.1 hrc hrs hfr hlo hws hcw (fun a' U hW => word_at hW (Or.inl (by first | rfl | simp [Cond.onTables, Cond.keeps, Cond.steady])) hini)
  obtain ⟨hx, hb, hml, ho, -⟩ := S
  intro T hT X
  rcases vx_callSX X hx (hh := hh) (bytes := bytes) (maxL := maxL) (ret := ret) ho hl hstt hini hcode hy hK hg (hsize.trans hml.symm) (argsL := As) (rest := rest) (fun sig h => hn.trans (hlen sig h)) hstack hW (by rw [hb]; exact hdg)
    (fun vm₁ hW₁ => ⟨hf.1, hf.2, hp.2 (T.setVm vm₁) hT hW₁⟩) with ⟨v, vm₁, ⟨U', l2, c2, s2⟩, hW₁, X', ⟨g', mk, t, L, e1, e2, hq, h1, hL, h2, h3⟩, st⟩ | ⟨q, vm₁, ⟨U', l2, c2, s2⟩, hW₁, X', ⟨g', mk, t, L, E, ce, e1, e2, hq, hce, hcv, hcl, h1, hL, h2, h3⟩, st⟩
  · dsimp only [Pt.U, Pt.locs, Pt.cells, Pt.slots] at X' e1 e2 h1 h2 h3 st
    subst h1; subst h2; subst h3
    exact Or.inl ⟨v, (T.setVm vm₁).calling g' mk As.toArray, t, U', L, hT, X', hL, e1, e2, hq, st⟩
  · dsimp only [Pt.U, Pt.locs, Pt.cells, Pt.slots] at X' e1 e2 h1 h2 h3 st hcl
    subst h1; subst h2; subst h3
    exact Or.inr ⟨q, (T.setVm vm₁).calling g' mk As.toArray, t, U', L, E, ce, hT, X', hL, e1, e2, hq, hce, hcv, vx_cls hW₁ hcl, st⟩
end
end VXH
theorem vx_ofWH {l : Launch} {y : MethodName} {ws ws' : List Cond} {rm : Room} {Pc : Array Value → State → Prop} {Qc : Array Value → State → Outcome → State → Prop} {XC : String → State → State → Prop} {mc ms : Nat} {free : Addr → Prop} {cc : ByteArray} {maxL : Nat} {ret : Option FieldType} {hh : List (Nat × Nat × Nat × Nat)}
    (hy : plainName y.cls = true) (hw : ws = Cond.codeWith y cc maxL ret hh :: ws')
    (body : ∀ p e s m args below meth c s₁, BodyLoose p l y (headSpec ws rm) cc maxL ret e s m args below meth c s₁ → c.maxLocals = maxL → Pc args s →
      W p l e (headSpec ws rm).room s m args below meth c s.heap [] 0 0 (vx_MQ below Qc XC args s mc ms free) (entryFrame m args maxL)) : vx_Met l y ws rm Pc Qc XC mc ms free := by
  refine MetFree.of_bodyS (code := cc) (maxLocals := maxL) (ret := ret) hy ?_ ?_
  · intro args s m h hn
    obtain ⟨m9, meth, c, hn9, h1, h2, h3, h4, -, h5, h6, -⟩ := Cond.codeWith_spec (atoms_spec (ws := ws) h _ (by rw [hw]; exact List.mem_cons_self))
    cases hn.symm.trans hn9
    exact ⟨meth, c, h1, h2, h3, h4, h5, h6⟩
  · intro p e s m args below meth c s₁ B hml hP _
    have hh0 : s₁.heap = s.heap := by rw [B.state]; rfl
    obtain ⟨t, a1, o, b1, b2, b3⟩ := body p e s m args below meth c s₁ B hml hP s₁ hh0 (Stand.of_body B)
    exact ⟨t, o, a1, b1, b2, b3⟩
/-! ===== END ===== -/
end
section
def RX0 : String := "LetterLocks$Lock"
def TX0 : u_T := fun k => match k with
  | 0 => ("LetterLocks$Lock", "letters", "[I", true)
  | 1 => ("LetterLocks$Lock", "wears", "[I", true)
  | 2 => ("LetterLocks$Lock", "word", "I", false)
  | 3 => ("LetterLocks$Lock", "inRack", "I", false)
  | 4 => ("LetterLocks$Lock", "isOpen", "Z", false)
  | _ => ("LetterLocks$Lock", "isLost", "Z", false)
def tyX0 : Nat → FieldType := fun k => match k with
  | 0 => .array .int
  | 1 => .array .int
  | 2 => .int
  | 3 => .int
  | 4 => .boolean
  | _ => .boolean
abbrev wsX00 : List Cond := u_ws RX0 TX0 6
theorem nmX0 : ∀ a, a < 6 → ∀ b, b < 6 → a ≠ b → (TX0 a).2.1 ≠ (TX0 b).2.1 := by decide +kernel
theorem tyX0_ok : ∀ k, k < 6 → parseFieldDescriptor (TX0 k).2.2.1 = some (tyX0 k) := by decide +kernel
abbrev cX0_init : ByteArray := prog_2_method_1_code
def yX0_init : MethodName := ⟨RX0, "<init>", "(I)V"⟩
abbrev cX0_letterAt : ByteArray := prog_2_method_3_code
def yX0_letterAt : MethodName := ⟨RX0, "letterAt", "(I)I"⟩
abbrev cX0_turnTo : ByteArray := prog_2_method_4_code
def yX0_turnTo : MethodName := ⟨RX0, "turnTo", "(II)V"⟩
abbrev cX0_standing : ByteArray := prog_2_method_5_code
def yX0_standing : MethodName := ⟨RX0, "standing", "()I"⟩
abbrev cX0_close : ByteArray := prog_2_method_6_code
def yX0_close : MethodName := ⟨RX0, "close", "()V"⟩
abbrev cX0_wearAt : ByteArray := prog_2_method_7_code
def yX0_wearAt : MethodName := ⟨RX0, "wearAt", "(II)I"⟩
abbrev cX0_wearByAnHour : ByteArray := prog_2_method_8_code
def yX0_wearByAnHour : MethodName := ⟨RX0, "wearByAnHour", "()V"⟩
abbrev cX0_wearMore : ByteArray := prog_2_method_9_code
def yX0_wearMore : MethodName := ⟨RX0, "wearMore", "(III)V"⟩
abbrev cX0_allWears : ByteArray := prog_2_method_10_code
def yX0_allWears : MethodName := ⟨RX0, "allWears", "()I"⟩
abbrev cX0_showing : ByteArray := prog_2_method_11_code
def yX0_showing : MethodName := ⟨RX0, "showing", "()I"⟩
abbrev cX0_mostWorn : ByteArray := prog_2_method_12_code
def yX0_mostWorn : MethodName := ⟨RX0, "mostWorn", "(I)I"⟩
abbrev cX0_placeInOrder : ByteArray := prog_2_method_13_code
def yX0_placeInOrder : MethodName := ⟨RX0, "placeInOrder", "(II)I"⟩
def RX1 : String := "LetterLocks$Rack"
def TX1 : u_T := fun k => match k with
  | 0 => ("LetterLocks$Rack", "places", "I", false)
  | 1 => ("LetterLocks$Rack", "from", "I", false)
  | _ => ("LetterLocks$Rack", "to", "I", false)
def tyX1 : Nat → FieldType := fun k => match k with
  | 0 => .int
  | 1 => .int
  | _ => .int
abbrev wsX10 : List Cond := u_ws RX1 TX1 3
theorem nmX1 : ∀ a, a < 3 → ∀ b, b < 3 → a ≠ b → (TX1 a).2.1 ≠ (TX1 b).2.1 := by decide +kernel
theorem tyX1_ok : ∀ k, k < 3 → parseFieldDescriptor (TX1 k).2.2.1 = some (tyX1 k) := by decide +kernel
abbrev cX1_init : ByteArray := prog_3_method_1_code
def yX1_init : MethodName := ⟨RX1, "<init>", "()V"⟩
abbrev cX1_isOpenIn : ByteArray := prog_3_method_2_code
def yX1_isOpenIn : MethodName := ⟨RX1, "isOpenIn", "(I)Z"⟩
def RX2 : String := "LetterLocks$Thief"
def TX2 : u_T := fun k => match k with
  | _ => ("LetterLocks$Thief", "wordsOfRingsAndSum", "[[I", true)
def tyX2 : Nat → FieldType := fun k => match k with
  | _ => .array (.array .int)
abbrev wsX20 : List Cond := u_ws RX2 TX2 1
theorem nmX2 : ∀ a, a < 1 → ∀ b, b < 1 → a ≠ b → (TX2 a).2.1 ≠ (TX2 b).2.1 := by decide +kernel
theorem tyX2_ok : ∀ k, k < 1 → parseFieldDescriptor (TX2 k).2.2.1 = some (tyX2 k) := by decide +kernel
abbrev cX2_init : ByteArray := prog_4_method_1_code
def yX2_init : MethodName := ⟨RX2, "<init>", "()V"⟩
abbrev cX2_trialOf : ByteArray := prog_4_method_2_code
def yX2_trialOf : MethodName := ⟨RX2, "trialOf", "(LLetterLocks$Lock;I)I"⟩
abbrev cX2_sumOfPlaces : ByteArray := prog_4_method_3_code
def yX2_sumOfPlaces : MethodName := ⟨RX2, "sumOfPlaces", "(LLetterLocks$Lock;I)I"⟩
abbrev cX2_lesserWordsOfSum : ByteArray := prog_4_method_4_code
def yX2_lesserWordsOfSum : MethodName := ⟨RX2, "lesserWordsOfSum", "(LLetterLocks$Lock;II)I"⟩
abbrev cX2_wordsWith : ByteArray := prog_4_method_5_code
def yX2_wordsWith : MethodName := ⟨RX2, "wordsWith", "(II)I"⟩
def RX3 : String := "LetterLocks"
def TX3 : u_T := fun k => match k with
  | 0 => ("LetterLocks", "locks", "Ljava/util/ArrayList;", true)
  | 1 => ("LetterLocks", "racks", "[LLetterLocks$Rack;", true)
  | 2 => ("LetterLocks", "thief", "LLetterLocks$Thief;", true)
  | 3 => ("LetterLocks", "foreseen", "LLetterLocks$Lock;", true)
  | 4 => ("LetterLocks", "hour", "I", false)
  | _ => ("LetterLocks", "turns", "I", false)
def tyX3 : Nat → FieldType := fun k => match k with
  | 0 => .object "java/util/ArrayList"
  | 1 => .array (.object "LetterLocks$Rack")
  | 2 => .object "LetterLocks$Thief"
  | 3 => .object "LetterLocks$Lock"
  | 4 => .int
  | _ => .int
abbrev wsX30 : List Cond := u_ws RX3 TX3 6
theorem nmX3 : ∀ a, a < 6 → ∀ b, b < 6 → a ≠ b → (TX3 a).2.1 ≠ (TX3 b).2.1 := by decide +kernel
theorem tyX3_ok : ∀ k, k < 6 → parseFieldDescriptor (TX3 k).2.2.1 = some (tyX3 k) := by decide +kernel
abbrev cX3_init : ByteArray := prog_1_method_1_code
def yX3_init : MethodName := ⟨RX3, "<init>", "()V"⟩
abbrev cX3_lock : ByteArray := prog_1_method_2_code
def yX3_lock : MethodName := ⟨RX3, "lock", "(I)I"⟩
abbrev cX3_turn : ByteArray := prog_1_method_3_code
def yX3_turn : MethodName := ⟨RX3, "turn", "(III)I"⟩
abbrev cX3_open : ByteArray := prog_1_method_4_code
def yX3_open : MethodName := ⟨RX3, "open", "(I)Z"⟩
abbrev cX3_shut : ByteArray := prog_1_method_5_code
def yX3_shut : MethodName := ⟨RX3, "shut", "(I)I"⟩
abbrev cX3_rename : ByteArray := prog_1_method_6_code
def yX3_rename : MethodName := ⟨RX3, "rename", "(II)I"⟩
abbrev cX3_lose : ByteArray := prog_1_method_7_code
def yX3_lose : MethodName := ⟨RX3, "lose", "(IZ)Z"⟩
abbrev cX3_setPlaces : ByteArray := prog_1_method_8_code
def yX3_setPlaces : MethodName := ⟨RX3, "setPlaces", "(II)I"⟩
abbrev cX3_setHours : ByteArray := prog_1_method_9_code
def yX3_setHours : MethodName := ⟨RX3, "setHours", "(III)I"⟩
abbrev cX3_put : ByteArray := prog_1_method_10_code
def yX3_put : MethodName := ⟨RX3, "put", "(II)I"⟩
abbrev cX3_told : ByteArray := prog_1_method_11_code
def yX3_told : MethodName := ⟨RX3, "told", "(II)I"⟩
abbrev cX3_wear : ByteArray := prog_1_method_12_code
def yX3_wear : MethodName := ⟨RX3, "wear", "(III)I"⟩
abbrev cX3_rack : ByteArray := prog_1_method_13_code
def yX3_rack : MethodName := ⟨RX3, "rack", "(II)I"⟩
abbrev cX3_count : ByteArray := prog_1_method_14_code
def yX3_count : MethodName := ⟨RX3, "count", "(I)I"⟩
abbrev cX3_trial : ByteArray := prog_1_method_16_code
def yX3_trial : MethodName := ⟨RX3, "trial", "(II)I"⟩
abbrev cX3_safe : ByteArray := prog_1_method_17_code
def yX3_safe : MethodName := ⟨RX3, "safe", "(I)I"⟩
abbrev cX3_pass : ByteArray := prog_1_method_18_code
def yX3_pass : MethodName := ⟨RX3, "pass", "(I)I"⟩
abbrev cX3_mean : ByteArray := prog_1_method_22_code
def yX3_mean : MethodName := ⟨RX3, "mean", "()D"⟩
abbrev cX3_lockAt : ByteArray := prog_1_method_25_code
def yX3_lockAt : MethodName := ⟨RX3, "lockAt", "(I)LLetterLocks$Lock;"⟩
abbrev cX3_rackAt : ByteArray := prog_1_method_26_code
def yX3_rackAt : MethodName := ⟨RX3, "rackAt", "(I)LLetterLocks$Rack;"⟩
abbrev cX3_requireRing : ByteArray := prog_1_method_27_code
def yX3_requireRing : MethodName := ⟨RX3, "requireRing", "(I)V"⟩
abbrev cX3_requireWord : ByteArray := prog_1_method_28_code
def yX3_requireWord : MethodName := ⟨RX3, "requireWord", "(I)V"⟩
abbrev cX3_requireHours : ByteArray := prog_1_method_29_code
def yX3_requireHours : MethodName := ⟨RX3, "requireHours", "(I)V"⟩
abbrev cX3_requireOpen : ByteArray := prog_1_method_30_code
def yX3_requireOpen : MethodName := ⟨RX3, "requireOpen", "(LLetterLocks$Lock;)V"⟩
abbrev cX3_isRack : ByteArray := prog_1_method_31_code
def yX3_isRack : MethodName := ⟨RX3, "isRack", "(I)Z"⟩
abbrev cX3_isRing : ByteArray := prog_1_method_32_code
def yX3_isRing : MethodName := ⟨RX3, "isRing", "(I)Z"⟩
abbrev cX3_isLetter : ByteArray := prog_1_method_33_code
def yX3_isLetter : MethodName := ⟨RX3, "isLetter", "(I)Z"⟩
abbrev cX3_letterOf : ByteArray := prog_1_method_34_code
def yX3_letterOf : MethodName := ⟨RX3, "letterOf", "(II)I"⟩
abbrev cX3_turnsBetween : ByteArray := prog_1_method_35_code
def yX3_turnsBetween : MethodName := ⟨RX3, "turnsBetween", "(II)I"⟩
abbrev cX3_locksIn : ByteArray := prog_1_method_36_code
def yX3_locksIn : MethodName := ⟨RX3, "locksIn", "(I)I"⟩
abbrev cX3_openLocksIn : ByteArray := prog_1_method_37_code
def yX3_openLocksIn : MethodName := ⟨RX3, "openLocksIn", "(I)I"⟩
abbrev cX3_takesAnother : ByteArray := prog_1_method_38_code
def yX3_takesAnother : MethodName := ⟨RX3, "takesAnother", "(I)Z"⟩
abbrev cX3_isInClosedRack : ByteArray := prog_1_method_39_code
def yX3_isInClosedRack : MethodName := ⟨RX3, "isInClosedRack", "(LLetterLocks$Lock;I)Z"⟩
abbrev cX3_letHourGoBy : ByteArray := prog_1_method_40_code
def yX3_letHourGoBy : MethodName := ⟨RX3, "letHourGoBy", "(LLetterLocks$Lock;I)Z"⟩
abbrev cX3_openLocks : ByteArray := prog_1_method_41_code
def yX3_openLocks : MethodName := ⟨RX3, "openLocks", "()I"⟩
abbrev cX3_lostWords : ByteArray := prog_1_method_42_code
def yX3_lostWords : MethodName := ⟨RX3, "lostWords", "()I"⟩
abbrev cX3_allWear : ByteArray := prog_1_method_43_code
def yX3_allWear : MethodName := ⟨RX3, "allWear", "()I"⟩
abbrev cX3_locksInRacks : ByteArray := prog_1_method_44_code
def yX3_locksInRacks : MethodName := ⟨RX3, "locksInRacks", "()I"⟩
def RX4 : String := "LetterLocksLaw$Lock"
def TX4 : u_T := fun k => match k with
  | 0 => ("LetterLocksLaw$Lock", "word", "[I", false)
  | 1 => ("LetterLocksLaw$Lock", "rings", "[I", false)
  | 2 => ("LetterLocksLaw$Lock", "wear", "[[I", false)
  | 3 => ("LetterLocksLaw$Lock", "isOpen", "Z", false)
  | 4 => ("LetterLocksLaw$Lock", "isLost", "Z", false)
  | _ => ("LetterLocksLaw$Lock", "rack", "I", false)
def tyX4 : Nat → FieldType := fun k => match k with
  | 0 => .array .int
  | 1 => .array .int
  | 2 => .array (.array .int)
  | 3 => .boolean
  | 4 => .boolean
  | _ => .int
abbrev wsX40 : List Cond := u_ws RX4 TX4 6
theorem nmX4 : ∀ a, a < 6 → ∀ b, b < 6 → a ≠ b → (TX4 a).2.1 ≠ (TX4 b).2.1 := by decide +kernel
theorem tyX4_ok : ∀ k, k < 6 → parseFieldDescriptor (TX4 k).2.2.1 = some (tyX4 k) := by decide +kernel
abbrev cX4_init : ByteArray := prog_6_method_1_code
def yX4_init : MethodName := ⟨RX4, "<init>", "()V"⟩
abbrev cX4_shut : ByteArray := prog_6_method_3_code
def yX4_shut : MethodName := ⟨RX4, "shut", "()V"⟩
def RX5 : String := "LetterLocksLaw$Sim"
def TX5 : u_T := fun k => match k with
  | 0 => ("LetterLocksLaw$Sim", "hour", "I", false)
  | 1 => ("LetterLocksLaw$Sim", "turns", "I", false)
  | 2 => ("LetterLocksLaw$Sim", "locks", "[LLetterLocksLaw$Lock;", false)
  | _ => ("LetterLocksLaw$Sim", "racks", "[[I", false)
def tyX5 : Nat → FieldType := fun k => match k with
  | 0 => .int
  | 1 => .int
  | 2 => .array (.object "LetterLocksLaw$Lock")
  | _ => .array (.array .int)
abbrev wsX50 : List Cond := u_ws RX5 TX5 4
theorem nmX5 : ∀ a, a < 4 → ∀ b, b < 4 → a ≠ b → (TX5 a).2.1 ≠ (TX5 b).2.1 := by decide +kernel
theorem tyX5_ok : ∀ k, k < 4 → parseFieldDescriptor (TX5 k).2.2.1 = some (tyX5 k) := by decide +kernel
abbrev cX5_init : ByteArray := prog_7_method_1_code
def yX5_init : MethodName := ⟨RX5, "<init>", "()V"⟩
abbrev cX5_isOpen : ByteArray := prog_7_method_3_code
def yX5_isOpen : MethodName := ⟨RX5, "isOpen", "(I)Z"⟩
abbrev cX5_in : ByteArray := prog_7_method_4_code
def yX5_in : MethodName := ⟨RX5, "in", "(I)I"⟩
abbrev cX5_pass : ByteArray := prog_7_method_5_code
def yX5_pass : MethodName := ⟨RX5, "pass", "()I"⟩
abbrev cX5_best : ByteArray := prog_7_method_6_code
def yX5_best : MethodName := ⟨RX5, "best", "([I)I"⟩
abbrev cX5_isSame : ByteArray := prog_7_method_10_code
def yX5_isSame : MethodName := ⟨RX5, "isSame", "(LLetterLocks;)Z"⟩
def RX6 : String := "LetterLocksModel"
def TX6 : u_T := fun k => match k with
  | _ => ("", "", "", false)
def tyX6 : Nat → FieldType := fun k => match k with
  | _ => .int
abbrev wsX60 : List Cond := u_ws RX6 TX6 0
theorem nmX6 : ∀ a, a < 0 → ∀ b, b < 0 → a ≠ b → (TX6 a).2.1 ≠ (TX6 b).2.1 := by decide +kernel
theorem tyX6_ok : ∀ k, k < 0 → parseFieldDescriptor (TX6 k).2.2.1 = some (tyX6 k) := by decide +kernel
def RJx145de : String := "java/io/Serializable"
def TJx145de : u_T := fun k => match k with
  | _ => ("", "", "", false)
def tyJx145de : Nat → FieldType := fun k => match k with
  | _ => .int
abbrev wsJx145de0 : List Cond := u_ws RJx145de TJx145de 0
theorem nmJx145de : ∀ a, a < 0 → ∀ b, b < 0 → a ≠ b → (TJx145de a).2.1 ≠ (TJx145de b).2.1 := by decide +kernel
theorem tyJx145de_ok : ∀ k, k < 0 → parseFieldDescriptor (TJx145de k).2.2.1 = some (tyJx145de k) := by decide +kernel
def RJx8e188 : String := "java/lang/Cloneable"
def TJx8e188 : u_T := fun k => match k with
  | _ => ("", "", "", false)
def tyJx8e188 : Nat → FieldType := fun k => match k with
  | _ => .int
abbrev wsJx8e1880 : List Cond := u_ws RJx8e188 TJx8e188 0
theorem nmJx8e188 : ∀ a, a < 0 → ∀ b, b < 0 → a ≠ b → (TJx8e188 a).2.1 ≠ (TJx8e188 b).2.1 := by decide +kernel
theorem tyJx8e188_ok : ∀ k, k < 0 → parseFieldDescriptor (TJx8e188 k).2.2.1 = some (tyJx8e188 k) := by decide +kernel
def RJxab1ab : String := "java/lang/Iterable"
def TJxab1ab : u_T := fun k => match k with
  | _ => ("", "", "", false)
def tyJxab1ab : Nat → FieldType := fun k => match k with
  | _ => .int
abbrev wsJxab1ab0 : List Cond := u_ws RJxab1ab TJxab1ab 0
theorem nmJxab1ab : ∀ a, a < 0 → ∀ b, b < 0 → a ≠ b → (TJxab1ab a).2.1 ≠ (TJxab1ab b).2.1 := by decide +kernel
theorem tyJxab1ab_ok : ∀ k, k < 0 → parseFieldDescriptor (TJxab1ab k).2.2.1 = some (tyJxab1ab k) := by decide +kernel
def RJ9 : String := "java/lang/Math"
def TJ9 : u_T := fun k => match k with
  | _ => ("", "", "", false)
def tyJ9 : Nat → FieldType := fun k => match k with
  | _ => .int
abbrev wsJ90 : List Cond := u_ws RJ9 TJ9 0
theorem nmJ9 : ∀ a, a < 0 → ∀ b, b < 0 → a ≠ b → (TJ9 a).2.1 ≠ (TJ9 b).2.1 := by decide +kernel
theorem tyJ9_ok : ∀ k, k < 0 → parseFieldDescriptor (TJ9 k).2.2.1 = some (tyJ9 k) := by decide +kernel
abbrev cJ9_abs_0f7a4 : ByteArray := prog_16_method_59_code
def yJ9_abs_0f7a4 : MethodName := ⟨RJ9, "abs", "(I)I"⟩
abbrev cJ9_max_7cf53 : ByteArray := prog_16_method_65_code
def yJ9_max_7cf53 : MethodName := ⟨RJ9, "max", "(II)I"⟩
abbrev cJ9_min_7cf53 : ByteArray := prog_16_method_69_code
def yJ9_min_7cf53 : MethodName := ⟨RJ9, "min", "(II)I"⟩
def RJ0 : String := "java/lang/String"
def TJ0 : u_T := fun k => match k with
  | _ => ("", "", "", false)
def tyJ0 : Nat → FieldType := fun k => match k with
  | _ => .int
abbrev wsJ00 : List Cond := u_ws RJ0 TJ0 0
theorem nmJ0 : ∀ a, a < 0 → ∀ b, b < 0 → a ≠ b → (TJ0 a).2.1 ≠ (TJ0 b).2.1 := by decide +kernel
theorem tyJ0_ok : ∀ k, k < 0 → parseFieldDescriptor (TJ0 k).2.2.1 = some (tyJ0 k) := by decide +kernel
def RJ10 : String := "java/lang/System"
def TJ10 : u_T := fun k => match k with
  | _ => ("", "", "", false)
def tyJ10 : Nat → FieldType := fun k => match k with
  | _ => .int
abbrev wsJ100 : List Cond := u_ws RJ10 TJ10 0
theorem nmJ10 : ∀ a, a < 0 → ∀ b, b < 0 → a ≠ b → (TJ10 a).2.1 ≠ (TJ10 b).2.1 := by decide +kernel
theorem tyJ10_ok : ∀ k, k < 0 → parseFieldDescriptor (TJ10 k).2.2.1 = some (tyJ10 k) := by decide +kernel
def RJxa1e45 : String := "java/util/AbstractCollection"
def TJxa1e45 : u_T := fun k => match k with
  | _ => ("", "", "", false)
def tyJxa1e45 : Nat → FieldType := fun k => match k with
  | _ => .int
abbrev wsJxa1e450 : List Cond := u_ws RJxa1e45 TJxa1e45 0
theorem nmJxa1e45 : ∀ a, a < 0 → ∀ b, b < 0 → a ≠ b → (TJxa1e45 a).2.1 ≠ (TJxa1e45 b).2.1 := by decide +kernel
theorem tyJxa1e45_ok : ∀ k, k < 0 → parseFieldDescriptor (TJxa1e45 k).2.2.1 = some (tyJxa1e45 k) := by decide +kernel
abbrev cJxa1e45_init_da8c8 : ByteArray := prog_21_method_1_code
def yJxa1e45_init_da8c8 : MethodName := ⟨RJxa1e45, "<init>", "()V"⟩
def RJxc12de : String := "java/util/AbstractList"
def TJxc12de : u_T := fun k => match k with
  | _ => ("", "", "", false)
def tyJxc12de : Nat → FieldType := fun k => match k with
  | _ => .int
abbrev wsJxc12de0 : List Cond := u_ws RJxc12de TJxc12de 0
theorem nmJxc12de : ∀ a, a < 0 → ∀ b, b < 0 → a ≠ b → (TJxc12de a).2.1 ≠ (TJxc12de b).2.1 := by decide +kernel
theorem tyJxc12de_ok : ∀ k, k < 0 → parseFieldDescriptor (TJxc12de k).2.2.1 = some (tyJxc12de k) := by decide +kernel
abbrev cJxc12de_init_da8c8 : ByteArray := prog_22_method_1_code
def yJxc12de_init_da8c8 : MethodName := ⟨RJxc12de, "<init>", "()V"⟩
def RJx4a65c : String := "java/util/ArrayList"
def TJx4a65c : u_T := fun k => match k with
  | 0 => ("java/util/AbstractList", "modCount", "I", false)
  | 1 => ("java/util/ArrayList", "elementData", "[Ljava/lang/Object;", false)
  | _ => ("java/util/ArrayList", "size", "I", false)
def tyJx4a65c : Nat → FieldType := fun k => match k with
  | 0 => .int
  | 1 => .array (.object "java/lang/Object")
  | _ => .int
abbrev wsJx4a65c0 : List Cond := u_ws RJx4a65c TJx4a65c 3
theorem nmJx4a65c : ∀ a, a < 3 → ∀ b, b < 3 → a ≠ b → (TJx4a65c a).2.1 ≠ (TJx4a65c b).2.1 := by decide +kernel
theorem tyJx4a65c_ok : ∀ k, k < 3 → parseFieldDescriptor (TJx4a65c k).2.2.1 = some (tyJx4a65c k) := by decide +kernel
abbrev cJx4a65c_init_da8c8 : ByteArray := prog_23_method_2_code
def yJx4a65c_init_da8c8 : MethodName := ⟨RJx4a65c, "<init>", "()V"⟩
abbrev cJx4a65c_grow_92f84 : ByteArray := prog_23_method_6_code
def yJx4a65c_grow_92f84 : MethodName := ⟨RJx4a65c, "grow", "(I)[Ljava/lang/Object;"⟩
abbrev cJx4a65c_grow_d5877 : ByteArray := prog_23_method_7_code
def yJx4a65c_grow_d5877 : MethodName := ⟨RJx4a65c, "grow", "()[Ljava/lang/Object;"⟩
abbrev cJx4a65c_size_8abf5 : ByteArray := prog_23_method_8_code
def yJx4a65c_size_8abf5 : MethodName := ⟨RJx4a65c, "size", "()I"⟩
abbrev cJx4a65c_elementData_915e3 : ByteArray := prog_23_method_18_code
def yJx4a65c_elementData_915e3 : MethodName := ⟨RJx4a65c, "elementData", "(I)Ljava/lang/Object;"⟩
abbrev cJx4a65c_get_915e3 : ByteArray := prog_23_method_20_code
def yJx4a65c_get_915e3 : MethodName := ⟨RJx4a65c, "get", "(I)Ljava/lang/Object;"⟩
abbrev cJx4a65c_add_72be8 : ByteArray := prog_23_method_24_code
def yJx4a65c_add_72be8 : MethodName := ⟨RJx4a65c, "add", "(Ljava/lang/Object;[Ljava/lang/Object;I)V"⟩
abbrev cJx4a65c_add_9ea2d : ByteArray := prog_23_method_25_code
def yJx4a65c_add_9ea2d : MethodName := ⟨RJx4a65c, "add", "(Ljava/lang/Object;)Z"⟩
def RJ7 : String := "java/util/Arrays"
def TJ7 : u_T := fun k => match k with
  | _ => ("", "", "", false)
def tyJ7 : Nat → FieldType := fun k => match k with
  | _ => .int
abbrev wsJ70 : List Cond := u_ws RJ7 TJ7 0
theorem nmJ7 : ∀ a, a < 0 → ∀ b, b < 0 → a ≠ b → (TJ7 a).2.1 ≠ (TJ7 b).2.1 := by decide +kernel
theorem tyJ7_ok : ∀ k, k < 0 → parseFieldDescriptor (TJ7 k).2.2.1 = some (tyJ7 k) := by decide +kernel
abbrev cJ7_copyOf_1904c : ByteArray := prog_24_method_119_code
def yJ7_copyOf_1904c : MethodName := ⟨RJ7, "copyOf", "([Ljava/lang/Object;I)[Ljava/lang/Object;"⟩
abbrev cJ7_copyOf_6403c : ByteArray := prog_24_method_120_code
def yJ7_copyOf_6403c : MethodName := ⟨RJ7, "copyOf", "([Ljava/lang/Object;ILjava/lang/Class;)[Ljava/lang/Object;"⟩
def RJx5ef63 : String := "java/util/Collection"
def TJx5ef63 : u_T := fun k => match k with
  | _ => ("", "", "", false)
def tyJx5ef63 : Nat → FieldType := fun k => match k with
  | _ => .int
abbrev wsJx5ef630 : List Cond := u_ws RJx5ef63 TJx5ef63 0
theorem nmJx5ef63 : ∀ a, a < 0 → ∀ b, b < 0 → a ≠ b → (TJx5ef63 a).2.1 ≠ (TJx5ef63 b).2.1 := by decide +kernel
theorem tyJx5ef63_ok : ∀ k, k < 0 → parseFieldDescriptor (TJx5ef63 k).2.2.1 = some (tyJx5ef63 k) := by decide +kernel
def RJxbd725 : String := "java/util/List"
def TJxbd725 : u_T := fun k => match k with
  | _ => ("", "", "", false)
def tyJxbd725 : Nat → FieldType := fun k => match k with
  | _ => .int
abbrev wsJxbd7250 : List Cond := u_ws RJxbd725 TJxbd725 0
theorem nmJxbd725 : ∀ a, a < 0 → ∀ b, b < 0 → a ≠ b → (TJxbd725 a).2.1 ≠ (TJxbd725 b).2.1 := by decide +kernel
theorem tyJxbd725_ok : ∀ k, k < 0 → parseFieldDescriptor (TJxbd725 k).2.2.1 = some (tyJxbd725 k) := by decide +kernel
def RJ15 : String := "java/util/Objects"
def TJ15 : u_T := fun k => match k with
  | _ => ("", "", "", false)
def tyJ15 : Nat → FieldType := fun k => match k with
  | _ => .int
abbrev wsJ150 : List Cond := u_ws RJ15 TJ15 0
theorem nmJ15 : ∀ a, a < 0 → ∀ b, b < 0 → a ≠ b → (TJ15 a).2.1 ≠ (TJ15 b).2.1 := by decide +kernel
theorem tyJ15_ok : ∀ k, k < 0 → parseFieldDescriptor (TJ15 k).2.2.1 = some (tyJ15 k) := by decide +kernel
abbrev cJ15_checkIndex_7cf53 : ByteArray := prog_27_method_17_code
def yJ15_checkIndex_7cf53 : MethodName := ⟨RJ15, "checkIndex", "(II)I"⟩
def RJxf0a74 : String := "java/util/RandomAccess"
def TJxf0a74 : u_T := fun k => match k with
  | _ => ("", "", "", false)
def tyJxf0a74 : Nat → FieldType := fun k => match k with
  | _ => .int
abbrev wsJxf0a740 : List Cond := u_ws RJxf0a74 TJxf0a74 0
theorem nmJxf0a74 : ∀ a, a < 0 → ∀ b, b < 0 → a ≠ b → (TJxf0a74 a).2.1 ≠ (TJxf0a74 b).2.1 := by decide +kernel
theorem tyJxf0a74_ok : ∀ k, k < 0 → parseFieldDescriptor (TJxf0a74 k).2.2.1 = some (tyJxf0a74 k) := by decide +kernel
def RJxa66e6 : String := "java/util/SequencedCollection"
def TJxa66e6 : u_T := fun k => match k with
  | _ => ("", "", "", false)
def tyJxa66e6 : Nat → FieldType := fun k => match k with
  | _ => .int
abbrev wsJxa66e60 : List Cond := u_ws RJxa66e6 TJxa66e6 0
theorem nmJxa66e6 : ∀ a, a < 0 → ∀ b, b < 0 → a ≠ b → (TJxa66e6 a).2.1 ≠ (TJxa66e6 b).2.1 := by decide +kernel
theorem tyJxa66e6_ok : ∀ k, k < 0 → parseFieldDescriptor (TJxa66e6 k).2.2.1 = some (tyJxa66e6 k) := by decide +kernel
def RJ8 : String := "jdk/internal/util/ArraysSupport"
def TJ8 : u_T := fun k => match k with
  | _ => ("", "", "", false)
def tyJ8 : Nat → FieldType := fun k => match k with
  | _ => .int
abbrev wsJ80 : List Cond := u_ws RJ8 TJ8 0
theorem nmJ8 : ∀ a, a < 0 → ∀ b, b < 0 → a ≠ b → (TJ8 a).2.1 ≠ (TJ8 b).2.1 := by decide +kernel
theorem tyJ8_ok : ∀ k, k < 0 → parseFieldDescriptor (TJ8 k).2.2.1 = some (tyJ8 k) := by decide +kernel
abbrev cJ8_newLength_cabcc : ByteArray := prog_30_method_27_code
def yJ8_newLength_cabcc : MethodName := ⟨RJ8, "newLength", "(III)I"⟩
abbrev cJ8_hugeLength_7cf53 : ByteArray := prog_30_method_28_code
def yJ8_hugeLength_7cf53 : MethodName := ⟨RJ8, "hugeLength", "(II)I"⟩
def RJ3 : String := "jdk/internal/util/Preconditions"
def TJ3 : u_T := fun k => match k with
  | _ => ("", "", "", false)
def tyJ3 : Nat → FieldType := fun k => match k with
  | _ => .int
abbrev wsJ30 : List Cond := u_ws RJ3 TJ3 0
theorem nmJ3 : ∀ a, a < 0 → ∀ b, b < 0 → a ≠ b → (TJ3 a).2.1 ≠ (TJ3 b).2.1 := by decide +kernel
theorem tyJ3_ok : ∀ k, k < 0 → parseFieldDescriptor (TJ3 k).2.2.1 = some (tyJ3 k) := by decide +kernel
abbrev cJ3_checkIndex_8e157 : ByteArray := prog_31_method_11_code
def yJ3_checkIndex_8e157 : MethodName := ⟨RJ3, "checkIndex", "(IILjava/util/function/BiFunction;)I"⟩
def RL : String := "LetterLocksLaw"
abbrev cL_below : ByteArray := method_2_code
def yL_below : MethodName := ⟨RL, "below", "(II)I"⟩
abbrev cL_cell : ByteArray := method_3_code
def yL_cell : MethodName := ⟨RL, "cell", "([II)I"⟩
abbrev cL_letters : ByteArray := method_4_code
def yL_letters : MethodName := ⟨RL, "letters", "(I)[I"⟩
abbrev cL_word : ByteArray := method_5_code
def yL_word : MethodName := ⟨RL, "word", "([I)I"⟩
abbrev cL_far : ByteArray := method_6_code
def yL_far : MethodName := ⟨RL, "far", "(II)I"⟩
abbrev cL_act : ByteArray := method_7_code
def yL_act : MethodName := ⟨RL, "act", "(LLetterLocks;LLetterLocksLaw$Sim;I)Z"⟩
abbrev cL_build : ByteArray := method_8_code
def yL_build : MethodName := ⟨RL, "build", "(LLetterLocks;[I)LLetterLocksLaw$Sim;"⟩
abbrev cL_law : ByteArray := code
def yL_law : MethodName := ⟨RL, "law", "([I)Z"⟩
abbrev vwCl : List vw_C := [(RJx4a65c, TJx4a65c, 3), (RX0, TX0, 6), (RX1, TX1, 3), (RX2, TX2, 1), (RX3, TX3, 6), (RX4, TX4, 6), (RX5, TX5, 4)]
end
section
theorem dX0_init_0 : decode cX0_init 0 = .ok (.aload_n 0, 1) := by decide +kernel
theorem dX0_init_1 : decode cX0_init 1 = .ok (.invokespecial 3, 3) := by decide +kernel
theorem dX0_init_4 : decode cX0_init 4 = .ok (.aload_n 0, 1) := by decide +kernel
theorem dX0_init_5 : decode cX0_init 5 = .ok (.iconst 4, 1) := by decide +kernel
theorem dX0_init_6 : decode cX0_init 6 = .ok (.newarray .int, 2) := by decide +kernel
theorem dX0_init_8 : decode cX0_init 8 = .ok (.putfield 9, 3) := by decide +kernel
theorem dX0_init_11 : decode cX0_init 11 = .ok (.aload_n 0, 1) := by decide +kernel
theorem dX0_init_12 : decode cX0_init 12 = .ok (.bipush 24, 2) := by decide +kernel
theorem dX0_init_14 : decode cX0_init 14 = .ok (.newarray .int, 2) := by decide +kernel
theorem dX0_init_16 : decode cX0_init 16 = .ok (.putfield 15, 3) := by decide +kernel
theorem dX0_init_19 : decode cX0_init 19 = .ok (.aload_n 0, 1) := by decide +kernel
theorem dX0_init_20 : decode cX0_init 20 = .ok (.iconst (-1), 1) := by decide +kernel
theorem dX0_init_21 : decode cX0_init 21 = .ok (.putfield 18, 3) := by decide +kernel
theorem dX0_init_24 : decode cX0_init 24 = .ok (.aload_n 0, 1) := by decide +kernel
theorem dX0_init_25 : decode cX0_init 25 = .ok (.iconst 1, 1) := by decide +kernel
theorem dX0_init_26 : decode cX0_init 26 = .ok (.putfield 22, 3) := by decide +kernel
theorem dX0_init_29 : decode cX0_init 29 = .ok (.aload_n 0, 1) := by decide +kernel
theorem dX0_init_30 : decode cX0_init 30 = .ok (.iconst 0, 1) := by decide +kernel
theorem dX0_init_31 : decode cX0_init 31 = .ok (.putfield 26, 3) := by decide +kernel
theorem dX0_init_34 : decode cX0_init 34 = .ok (.aload_n 0, 1) := by decide +kernel
theorem dX0_init_35 : decode cX0_init 35 = .ok (.iload_n 1, 1) := by decide +kernel
theorem dX0_init_36 : decode cX0_init 36 = .ok (.putfield 29, 3) := by decide +kernel
theorem dX0_init_39 : decode cX0_init 39 = .ok (.return_, 1) := by decide +kernel
theorem dX0_letterAt_0 : decode cX0_letterAt 0 = .ok (.iload_n 1, 1) := by decide +kernel
theorem dX0_letterAt_1 : decode cX0_letterAt 1 = .ok (.invokestatic 38, 3) := by decide +kernel
theorem dX0_letterAt_4 : decode cX0_letterAt 4 = .ok (.ifCond .eq 12, 3) := by decide +kernel
theorem dX0_letterAt_7 : decode cX0_letterAt 7 = .ok (.aload_n 0, 1) := by decide +kernel
theorem dX0_letterAt_8 : decode cX0_letterAt 8 = .ok (.getfield 9, 3) := by decide +kernel
theorem dX0_letterAt_11 : decode cX0_letterAt 11 = .ok (.iload_n 1, 1) := by decide +kernel
theorem dX0_letterAt_12 : decode cX0_letterAt 12 = .ok (.iaload, 1) := by decide +kernel
theorem dX0_letterAt_13 : decode cX0_letterAt 13 = .ok (.goto 4, 3) := by decide +kernel
theorem dX0_letterAt_16 : decode cX0_letterAt 16 = .ok (.iconst 0, 1) := by decide +kernel
theorem dX0_letterAt_17 : decode cX0_letterAt 17 = .ok (.ireturn, 1) := by decide +kernel
theorem dX0_turnTo_0 : decode cX0_turnTo 0 = .ok (.iload_n 1, 1) := by decide +kernel
theorem dX0_turnTo_1 : decode cX0_turnTo 1 = .ok (.invokestatic 38, 3) := by decide +kernel
theorem dX0_turnTo_4 : decode cX0_turnTo 4 = .ok (.ifCond .eq 10, 3) := by decide +kernel
theorem dX0_turnTo_7 : decode cX0_turnTo 7 = .ok (.aload_n 0, 1) := by decide +kernel
theorem dX0_turnTo_8 : decode cX0_turnTo 8 = .ok (.getfield 9, 3) := by decide +kernel
theorem dX0_turnTo_11 : decode cX0_turnTo 11 = .ok (.iload_n 1, 1) := by decide +kernel
theorem dX0_turnTo_12 : decode cX0_turnTo 12 = .ok (.iload_n 2, 1) := by decide +kernel
theorem dX0_turnTo_13 : decode cX0_turnTo 13 = .ok (.iastore, 1) := by decide +kernel
theorem dX0_turnTo_14 : decode cX0_turnTo 14 = .ok (.return_, 1) := by decide +kernel
theorem dX0_standing_0 : decode cX0_standing 0 = .ok (.iconst 0, 1) := by decide +kernel
theorem dX0_standing_1 : decode cX0_standing 1 = .ok (.istore_n 1, 1) := by decide +kernel
theorem dX0_standing_2 : decode cX0_standing 2 = .ok (.iconst 0, 1) := by decide +kernel
theorem dX0_standing_3 : decode cX0_standing 3 = .ok (.istore_n 2, 1) := by decide +kernel
theorem dX0_standing_4 : decode cX0_standing 4 = .ok (.iload_n 2, 1) := by decide +kernel
theorem dX0_standing_5 : decode cX0_standing 5 = .ok (.iconst 4, 1) := by decide +kernel
theorem dX0_standing_6 : decode cX0_standing 6 = .ok (.if_icmp .ge 21, 3) := by decide +kernel
theorem dX0_standing_9 : decode cX0_standing 9 = .ok (.iload_n 1, 1) := by decide +kernel
theorem dX0_standing_10 : decode cX0_standing 10 = .ok (.bipush 6, 2) := by decide +kernel
theorem dX0_standing_12 : decode cX0_standing 12 = .ok (.imul, 1) := by decide +kernel
theorem dX0_standing_13 : decode cX0_standing 13 = .ok (.aload_n 0, 1) := by decide +kernel
theorem dX0_standing_14 : decode cX0_standing 14 = .ok (.getfield 9, 3) := by decide +kernel
theorem dX0_standing_17 : decode cX0_standing 17 = .ok (.iload_n 2, 1) := by decide +kernel
theorem dX0_standing_18 : decode cX0_standing 18 = .ok (.iaload, 1) := by decide +kernel
theorem dX0_standing_19 : decode cX0_standing 19 = .ok (.iadd, 1) := by decide +kernel
theorem dX0_standing_20 : decode cX0_standing 20 = .ok (.istore_n 1, 1) := by decide +kernel
theorem dX0_standing_21 : decode cX0_standing 21 = .ok (.iinc 2 1, 3) := by decide +kernel
theorem dX0_standing_24 : decode cX0_standing 24 = .ok (.goto (-20), 3) := by decide +kernel
theorem dX0_standing_27 : decode cX0_standing 27 = .ok (.iload_n 1, 1) := by decide +kernel
theorem dX0_standing_28 : decode cX0_standing 28 = .ok (.ireturn, 1) := by decide +kernel
theorem dX0_close_0 : decode cX0_close 0 = .ok (.iconst 0, 1) := by decide +kernel
theorem dX0_close_1 : decode cX0_close 1 = .ok (.istore_n 1, 1) := by decide +kernel
theorem dX0_close_2 : decode cX0_close 2 = .ok (.iload_n 1, 1) := by decide +kernel
theorem dX0_close_3 : decode cX0_close 3 = .ok (.iconst 4, 1) := by decide +kernel
theorem dX0_close_4 : decode cX0_close 4 = .ok (.if_icmp .ge 28, 3) := by decide +kernel
theorem dX0_close_7 : decode cX0_close 7 = .ok (.aload_n 0, 1) := by decide +kernel
theorem dX0_close_8 : decode cX0_close 8 = .ok (.getfield 9, 3) := by decide +kernel
theorem dX0_close_11 : decode cX0_close 11 = .ok (.iload_n 1, 1) := by decide +kernel
theorem dX0_close_12 : decode cX0_close 12 = .ok (.aload_n 0, 1) := by decide +kernel
theorem dX0_close_13 : decode cX0_close 13 = .ok (.getfield 9, 3) := by decide +kernel
theorem dX0_close_16 : decode cX0_close 16 = .ok (.iload_n 1, 1) := by decide +kernel
theorem dX0_close_17 : decode cX0_close 17 = .ok (.iaload, 1) := by decide +kernel
theorem dX0_close_18 : decode cX0_close 18 = .ok (.iload_n 1, 1) := by decide +kernel
theorem dX0_close_19 : decode cX0_close 19 = .ok (.iadd, 1) := by decide +kernel
theorem dX0_close_20 : decode cX0_close 20 = .ok (.iconst 1, 1) := by decide +kernel
theorem dX0_close_21 : decode cX0_close 21 = .ok (.iadd, 1) := by decide +kernel
theorem dX0_close_22 : decode cX0_close 22 = .ok (.bipush 6, 2) := by decide +kernel
theorem dX0_close_24 : decode cX0_close 24 = .ok (.irem, 1) := by decide +kernel
theorem dX0_close_25 : decode cX0_close 25 = .ok (.iastore, 1) := by decide +kernel
theorem dX0_close_26 : decode cX0_close 26 = .ok (.iinc 1 1, 3) := by decide +kernel
theorem dX0_close_29 : decode cX0_close 29 = .ok (.goto (-27), 3) := by decide +kernel
theorem dX0_close_32 : decode cX0_close 32 = .ok (.aload_n 0, 1) := by decide +kernel
theorem dX0_close_33 : decode cX0_close 33 = .ok (.iconst 0, 1) := by decide +kernel
theorem dX0_close_34 : decode cX0_close 34 = .ok (.putfield 22, 3) := by decide +kernel
theorem dX0_close_37 : decode cX0_close 37 = .ok (.return_, 1) := by decide +kernel
theorem dX0_wearAt_0 : decode cX0_wearAt 0 = .ok (.iload_n 1, 1) := by decide +kernel
theorem dX0_wearAt_1 : decode cX0_wearAt 1 = .ok (.invokestatic 38, 3) := by decide +kernel
theorem dX0_wearAt_4 : decode cX0_wearAt 4 = .ok (.ifCond .eq 24, 3) := by decide +kernel
theorem dX0_wearAt_7 : decode cX0_wearAt 7 = .ok (.iload_n 2, 1) := by decide +kernel
theorem dX0_wearAt_8 : decode cX0_wearAt 8 = .ok (.invokestatic 42, 3) := by decide +kernel
theorem dX0_wearAt_11 : decode cX0_wearAt 11 = .ok (.ifCond .eq 17, 3) := by decide +kernel
theorem dX0_wearAt_14 : decode cX0_wearAt 14 = .ok (.aload_n 0, 1) := by decide +kernel
theorem dX0_wearAt_15 : decode cX0_wearAt 15 = .ok (.getfield 15, 3) := by decide +kernel
theorem dX0_wearAt_18 : decode cX0_wearAt 18 = .ok (.iload_n 1, 1) := by decide +kernel
theorem dX0_wearAt_19 : decode cX0_wearAt 19 = .ok (.bipush 6, 2) := by decide +kernel
theorem dX0_wearAt_21 : decode cX0_wearAt 21 = .ok (.imul, 1) := by decide +kernel
theorem dX0_wearAt_22 : decode cX0_wearAt 22 = .ok (.iload_n 2, 1) := by decide +kernel
theorem dX0_wearAt_23 : decode cX0_wearAt 23 = .ok (.iadd, 1) := by decide +kernel
theorem dX0_wearAt_24 : decode cX0_wearAt 24 = .ok (.iaload, 1) := by decide +kernel
theorem dX0_wearAt_25 : decode cX0_wearAt 25 = .ok (.goto 4, 3) := by decide +kernel
theorem dX0_wearAt_28 : decode cX0_wearAt 28 = .ok (.iconst 0, 1) := by decide +kernel
theorem dX0_wearAt_29 : decode cX0_wearAt 29 = .ok (.ireturn, 1) := by decide +kernel
theorem dX0_wearByAnHour_0 : decode cX0_wearByAnHour 0 = .ok (.iconst 0, 1) := by decide +kernel
theorem dX0_wearByAnHour_1 : decode cX0_wearByAnHour 1 = .ok (.istore_n 1, 1) := by decide +kernel
theorem dX0_wearByAnHour_2 : decode cX0_wearByAnHour 2 = .ok (.iload_n 1, 1) := by decide +kernel
theorem dX0_wearByAnHour_3 : decode cX0_wearByAnHour 3 = .ok (.iconst 4, 1) := by decide +kernel
theorem dX0_wearByAnHour_4 : decode cX0_wearByAnHour 4 = .ok (.if_icmp .ge 53, 3) := by decide +kernel
theorem dX0_wearByAnHour_7 : decode cX0_wearByAnHour 7 = .ok (.aload_n 0, 1) := by decide +kernel
theorem dX0_wearByAnHour_8 : decode cX0_wearByAnHour 8 = .ok (.getfield 22, 3) := by decide +kernel
theorem dX0_wearByAnHour_11 : decode cX0_wearByAnHour 11 = .ok (.ifCond .ne 18, 3) := by decide +kernel
theorem dX0_wearByAnHour_14 : decode cX0_wearByAnHour 14 = .ok (.aload_n 0, 1) := by decide +kernel
theorem dX0_wearByAnHour_15 : decode cX0_wearByAnHour 15 = .ok (.iload_n 1, 1) := by decide +kernel
theorem dX0_wearByAnHour_16 : decode cX0_wearByAnHour 16 = .ok (.aload_n 0, 1) := by decide +kernel
theorem dX0_wearByAnHour_17 : decode cX0_wearByAnHour 17 = .ok (.getfield 9, 3) := by decide +kernel
theorem dX0_wearByAnHour_20 : decode cX0_wearByAnHour 20 = .ok (.iload_n 1, 1) := by decide +kernel
theorem dX0_wearByAnHour_21 : decode cX0_wearByAnHour 21 = .ok (.iaload, 1) := by decide +kernel
theorem dX0_wearByAnHour_22 : decode cX0_wearByAnHour 22 = .ok (.iconst 1, 1) := by decide +kernel
theorem dX0_wearByAnHour_23 : decode cX0_wearByAnHour 23 = .ok (.invokevirtual 45, 3) := by decide +kernel
theorem dX0_wearByAnHour_26 : decode cX0_wearByAnHour 26 = .ok (.goto 25, 3) := by decide +kernel
theorem dX0_wearByAnHour_29 : decode cX0_wearByAnHour 29 = .ok (.aload_n 0, 1) := by decide +kernel
theorem dX0_wearByAnHour_30 : decode cX0_wearByAnHour 30 = .ok (.getfield 18, 3) := by decide +kernel
theorem dX0_wearByAnHour_33 : decode cX0_wearByAnHour 33 = .ok (.iconst (-1), 1) := by decide +kernel
theorem dX0_wearByAnHour_34 : decode cX0_wearByAnHour 34 = .ok (.if_icmp .eq 17, 3) := by decide +kernel
theorem dX0_wearByAnHour_37 : decode cX0_wearByAnHour 37 = .ok (.aload_n 0, 1) := by decide +kernel
theorem dX0_wearByAnHour_38 : decode cX0_wearByAnHour 38 = .ok (.iload_n 1, 1) := by decide +kernel
theorem dX0_wearByAnHour_39 : decode cX0_wearByAnHour 39 = .ok (.aload_n 0, 1) := by decide +kernel
theorem dX0_wearByAnHour_40 : decode cX0_wearByAnHour 40 = .ok (.getfield 29, 3) := by decide +kernel
theorem dX0_wearByAnHour_43 : decode cX0_wearByAnHour 43 = .ok (.iload_n 1, 1) := by decide +kernel
theorem dX0_wearByAnHour_44 : decode cX0_wearByAnHour 44 = .ok (.invokestatic 49, 3) := by decide +kernel
theorem dX0_wearByAnHour_47 : decode cX0_wearByAnHour 47 = .ok (.iconst 2, 1) := by decide +kernel
theorem dX0_wearByAnHour_48 : decode cX0_wearByAnHour 48 = .ok (.invokevirtual 45, 3) := by decide +kernel
theorem dX0_wearByAnHour_51 : decode cX0_wearByAnHour 51 = .ok (.iinc 1 1, 3) := by decide +kernel
theorem dX0_wearByAnHour_54 : decode cX0_wearByAnHour 54 = .ok (.goto (-52), 3) := by decide +kernel
theorem dX0_wearByAnHour_57 : decode cX0_wearByAnHour 57 = .ok (.return_, 1) := by decide +kernel
theorem dX0_wearMore_0 : decode cX0_wearMore 0 = .ok (.iload_n 1, 1) := by decide +kernel
theorem dX0_wearMore_1 : decode cX0_wearMore 1 = .ok (.invokestatic 38, 3) := by decide +kernel
theorem dX0_wearMore_4 : decode cX0_wearMore 4 = .ok (.ifCond .eq 39, 3) := by decide +kernel
theorem dX0_wearMore_7 : decode cX0_wearMore 7 = .ok (.iload_n 2, 1) := by decide +kernel
theorem dX0_wearMore_8 : decode cX0_wearMore 8 = .ok (.invokestatic 42, 3) := by decide +kernel
theorem dX0_wearMore_11 : decode cX0_wearMore 11 = .ok (.ifCond .eq 32, 3) := by decide +kernel
theorem dX0_wearMore_14 : decode cX0_wearMore 14 = .ok (.iload_n 1, 1) := by decide +kernel
theorem dX0_wearMore_15 : decode cX0_wearMore 15 = .ok (.bipush 6, 2) := by decide +kernel
theorem dX0_wearMore_17 : decode cX0_wearMore 17 = .ok (.imul, 1) := by decide +kernel
theorem dX0_wearMore_18 : decode cX0_wearMore 18 = .ok (.iload_n 2, 1) := by decide +kernel
theorem dX0_wearMore_19 : decode cX0_wearMore 19 = .ok (.iadd, 1) := by decide +kernel
theorem dX0_wearMore_20 : decode cX0_wearMore 20 = .ok (.istore 4, 2) := by decide +kernel
theorem dX0_wearMore_22 : decode cX0_wearMore 22 = .ok (.aload_n 0, 1) := by decide +kernel
theorem dX0_wearMore_23 : decode cX0_wearMore 23 = .ok (.getfield 15, 3) := by decide +kernel
theorem dX0_wearMore_26 : decode cX0_wearMore 26 = .ok (.iload 4, 2) := by decide +kernel
theorem dX0_wearMore_28 : decode cX0_wearMore 28 = .ok (.bipush 99, 2) := by decide +kernel
theorem dX0_wearMore_30 : decode cX0_wearMore 30 = .ok (.aload_n 0, 1) := by decide +kernel
theorem dX0_wearMore_31 : decode cX0_wearMore 31 = .ok (.getfield 15, 3) := by decide +kernel
theorem dX0_wearMore_34 : decode cX0_wearMore 34 = .ok (.iload 4, 2) := by decide +kernel
theorem dX0_wearMore_36 : decode cX0_wearMore 36 = .ok (.iaload, 1) := by decide +kernel
theorem dX0_wearMore_37 : decode cX0_wearMore 37 = .ok (.iload_n 3, 1) := by decide +kernel
theorem dX0_wearMore_38 : decode cX0_wearMore 38 = .ok (.iadd, 1) := by decide +kernel
theorem dX0_wearMore_39 : decode cX0_wearMore 39 = .ok (.invokestatic 53, 3) := by decide +kernel
theorem dX0_wearMore_42 : decode cX0_wearMore 42 = .ok (.iastore, 1) := by decide +kernel
theorem dX0_wearMore_43 : decode cX0_wearMore 43 = .ok (.return_, 1) := by decide +kernel
theorem dX0_allWears_0 : decode cX0_allWears 0 = .ok (.iconst 0, 1) := by decide +kernel
theorem dX0_allWears_1 : decode cX0_allWears 1 = .ok (.istore_n 1, 1) := by decide +kernel
theorem dX0_allWears_2 : decode cX0_allWears 2 = .ok (.iconst 0, 1) := by decide +kernel
theorem dX0_allWears_3 : decode cX0_allWears 3 = .ok (.istore_n 2, 1) := by decide +kernel
theorem dX0_allWears_4 : decode cX0_allWears 4 = .ok (.iload_n 2, 1) := by decide +kernel
theorem dX0_allWears_5 : decode cX0_allWears 5 = .ok (.aload_n 0, 1) := by decide +kernel
theorem dX0_allWears_6 : decode cX0_allWears 6 = .ok (.getfield 15, 3) := by decide +kernel
theorem dX0_allWears_9 : decode cX0_allWears 9 = .ok (.arraylength, 1) := by decide +kernel
theorem dX0_allWears_10 : decode cX0_allWears 10 = .ok (.if_icmp .ge 18, 3) := by decide +kernel
theorem dX0_allWears_13 : decode cX0_allWears 13 = .ok (.iload_n 1, 1) := by decide +kernel
theorem dX0_allWears_14 : decode cX0_allWears 14 = .ok (.aload_n 0, 1) := by decide +kernel
theorem dX0_allWears_15 : decode cX0_allWears 15 = .ok (.getfield 15, 3) := by decide +kernel
theorem dX0_allWears_18 : decode cX0_allWears 18 = .ok (.iload_n 2, 1) := by decide +kernel
theorem dX0_allWears_19 : decode cX0_allWears 19 = .ok (.iaload, 1) := by decide +kernel
theorem dX0_allWears_20 : decode cX0_allWears 20 = .ok (.iadd, 1) := by decide +kernel
theorem dX0_allWears_21 : decode cX0_allWears 21 = .ok (.istore_n 1, 1) := by decide +kernel
theorem dX0_allWears_22 : decode cX0_allWears 22 = .ok (.iinc 2 1, 3) := by decide +kernel
theorem dX0_allWears_25 : decode cX0_allWears 25 = .ok (.goto (-21), 3) := by decide +kernel
theorem dX0_allWears_28 : decode cX0_allWears 28 = .ok (.iload_n 1, 1) := by decide +kernel
theorem dX0_allWears_29 : decode cX0_allWears 29 = .ok (.ireturn, 1) := by decide +kernel
theorem dX0_showing_0 : decode cX0_showing 0 = .ok (.iconst 0, 1) := by decide +kernel
theorem dX0_showing_1 : decode cX0_showing 1 = .ok (.istore_n 1, 1) := by decide +kernel
theorem dX0_showing_2 : decode cX0_showing 2 = .ok (.iconst 0, 1) := by decide +kernel
theorem dX0_showing_3 : decode cX0_showing 3 = .ok (.istore_n 2, 1) := by decide +kernel
theorem dX0_showing_4 : decode cX0_showing 4 = .ok (.iload_n 2, 1) := by decide +kernel
theorem dX0_showing_5 : decode cX0_showing 5 = .ok (.iconst 4, 1) := by decide +kernel
theorem dX0_showing_6 : decode cX0_showing 6 = .ok (.if_icmp .ge 20, 3) := by decide +kernel
theorem dX0_showing_9 : decode cX0_showing 9 = .ok (.iload_n 1, 1) := by decide +kernel
theorem dX0_showing_10 : decode cX0_showing 10 = .ok (.bipush 6, 2) := by decide +kernel
theorem dX0_showing_12 : decode cX0_showing 12 = .ok (.imul, 1) := by decide +kernel
theorem dX0_showing_13 : decode cX0_showing 13 = .ok (.aload_n 0, 1) := by decide +kernel
theorem dX0_showing_14 : decode cX0_showing 14 = .ok (.iload_n 2, 1) := by decide +kernel
theorem dX0_showing_15 : decode cX0_showing 15 = .ok (.invokevirtual 58, 3) := by decide +kernel
theorem dX0_showing_18 : decode cX0_showing 18 = .ok (.iadd, 1) := by decide +kernel
theorem dX0_showing_19 : decode cX0_showing 19 = .ok (.istore_n 1, 1) := by decide +kernel
theorem dX0_showing_20 : decode cX0_showing 20 = .ok (.iinc 2 1, 3) := by decide +kernel
theorem dX0_showing_23 : decode cX0_showing 23 = .ok (.goto (-19), 3) := by decide +kernel
theorem dX0_showing_26 : decode cX0_showing 26 = .ok (.iload_n 1, 1) := by decide +kernel
theorem dX0_showing_27 : decode cX0_showing 27 = .ok (.ireturn, 1) := by decide +kernel
theorem dX0_mostWorn_0 : decode cX0_mostWorn 0 = .ok (.iconst 0, 1) := by decide +kernel
theorem dX0_mostWorn_1 : decode cX0_mostWorn 1 = .ok (.istore_n 2, 1) := by decide +kernel
theorem dX0_mostWorn_2 : decode cX0_mostWorn 2 = .ok (.iconst 1, 1) := by decide +kernel
theorem dX0_mostWorn_3 : decode cX0_mostWorn 3 = .ok (.istore_n 3, 1) := by decide +kernel
theorem dX0_mostWorn_4 : decode cX0_mostWorn 4 = .ok (.iload_n 3, 1) := by decide +kernel
theorem dX0_mostWorn_5 : decode cX0_mostWorn 5 = .ok (.bipush 6, 2) := by decide +kernel
theorem dX0_mostWorn_7 : decode cX0_mostWorn 7 = .ok (.if_icmp .ge 26, 3) := by decide +kernel
theorem dX0_mostWorn_10 : decode cX0_mostWorn 10 = .ok (.aload_n 0, 1) := by decide +kernel
theorem dX0_mostWorn_11 : decode cX0_mostWorn 11 = .ok (.iload_n 1, 1) := by decide +kernel
theorem dX0_mostWorn_12 : decode cX0_mostWorn 12 = .ok (.iload_n 3, 1) := by decide +kernel
theorem dX0_mostWorn_13 : decode cX0_mostWorn 13 = .ok (.invokevirtual 62, 3) := by decide +kernel
theorem dX0_mostWorn_16 : decode cX0_mostWorn 16 = .ok (.aload_n 0, 1) := by decide +kernel
theorem dX0_mostWorn_17 : decode cX0_mostWorn 17 = .ok (.iload_n 1, 1) := by decide +kernel
theorem dX0_mostWorn_18 : decode cX0_mostWorn 18 = .ok (.iload_n 2, 1) := by decide +kernel
theorem dX0_mostWorn_19 : decode cX0_mostWorn 19 = .ok (.invokevirtual 62, 3) := by decide +kernel
theorem dX0_mostWorn_22 : decode cX0_mostWorn 22 = .ok (.if_icmp .le 5, 3) := by decide +kernel
theorem dX0_mostWorn_25 : decode cX0_mostWorn 25 = .ok (.iload_n 3, 1) := by decide +kernel
theorem dX0_mostWorn_26 : decode cX0_mostWorn 26 = .ok (.istore_n 2, 1) := by decide +kernel
theorem dX0_mostWorn_27 : decode cX0_mostWorn 27 = .ok (.iinc 3 1, 3) := by decide +kernel
theorem dX0_mostWorn_30 : decode cX0_mostWorn 30 = .ok (.goto (-26), 3) := by decide +kernel
theorem dX0_mostWorn_33 : decode cX0_mostWorn 33 = .ok (.iload_n 2, 1) := by decide +kernel
theorem dX0_mostWorn_34 : decode cX0_mostWorn 34 = .ok (.ireturn, 1) := by decide +kernel
theorem dX0_placeInOrder_0 : decode cX0_placeInOrder 0 = .ok (.iconst 0, 1) := by decide +kernel
theorem dX0_placeInOrder_1 : decode cX0_placeInOrder 1 = .ok (.istore_n 3, 1) := by decide +kernel
theorem dX0_placeInOrder_2 : decode cX0_placeInOrder 2 = .ok (.aload_n 0, 1) := by decide +kernel
theorem dX0_placeInOrder_3 : decode cX0_placeInOrder 3 = .ok (.iload_n 1, 1) := by decide +kernel
theorem dX0_placeInOrder_4 : decode cX0_placeInOrder 4 = .ok (.iload_n 2, 1) := by decide +kernel
theorem dX0_placeInOrder_5 : decode cX0_placeInOrder 5 = .ok (.invokevirtual 62, 3) := by decide +kernel
theorem dX0_placeInOrder_8 : decode cX0_placeInOrder 8 = .ok (.istore 4, 2) := by decide +kernel
theorem dX0_placeInOrder_10 : decode cX0_placeInOrder 10 = .ok (.iconst 0, 1) := by decide +kernel
theorem dX0_placeInOrder_11 : decode cX0_placeInOrder 11 = .ok (.istore 5, 2) := by decide +kernel
theorem dX0_placeInOrder_13 : decode cX0_placeInOrder 13 = .ok (.iload 5, 2) := by decide +kernel
theorem dX0_placeInOrder_15 : decode cX0_placeInOrder 15 = .ok (.bipush 6, 2) := by decide +kernel
theorem dX0_placeInOrder_17 : decode cX0_placeInOrder 17 = .ok (.if_icmp .ge 41, 3) := by decide +kernel
theorem dX0_placeInOrder_20 : decode cX0_placeInOrder 20 = .ok (.aload_n 0, 1) := by decide +kernel
theorem dX0_placeInOrder_21 : decode cX0_placeInOrder 21 = .ok (.iload_n 1, 1) := by decide +kernel
theorem dX0_placeInOrder_22 : decode cX0_placeInOrder 22 = .ok (.iload 5, 2) := by decide +kernel
theorem dX0_placeInOrder_24 : decode cX0_placeInOrder 24 = .ok (.invokevirtual 62, 3) := by decide +kernel
theorem dX0_placeInOrder_27 : decode cX0_placeInOrder 27 = .ok (.istore 6, 2) := by decide +kernel
theorem dX0_placeInOrder_29 : decode cX0_placeInOrder 29 = .ok (.iload 6, 2) := by decide +kernel
theorem dX0_placeInOrder_31 : decode cX0_placeInOrder 31 = .ok (.iload 4, 2) := by decide +kernel
theorem dX0_placeInOrder_33 : decode cX0_placeInOrder 33 = .ok (.if_icmp .gt 16, 3) := by decide +kernel
theorem dX0_placeInOrder_36 : decode cX0_placeInOrder 36 = .ok (.iload 6, 2) := by decide +kernel
theorem dX0_placeInOrder_38 : decode cX0_placeInOrder 38 = .ok (.iload 4, 2) := by decide +kernel
theorem dX0_placeInOrder_40 : decode cX0_placeInOrder 40 = .ok (.if_icmp .ne 12, 3) := by decide +kernel
theorem dX0_placeInOrder_43 : decode cX0_placeInOrder 43 = .ok (.iload 5, 2) := by decide +kernel
theorem dX0_placeInOrder_45 : decode cX0_placeInOrder 45 = .ok (.iload_n 2, 1) := by decide +kernel
theorem dX0_placeInOrder_46 : decode cX0_placeInOrder 46 = .ok (.if_icmp .ge 6, 3) := by decide +kernel
theorem dX0_placeInOrder_49 : decode cX0_placeInOrder 49 = .ok (.iinc 3 1, 3) := by decide +kernel
theorem dX0_placeInOrder_52 : decode cX0_placeInOrder 52 = .ok (.iinc 5 1, 3) := by decide +kernel
theorem dX0_placeInOrder_55 : decode cX0_placeInOrder 55 = .ok (.goto (-42), 3) := by decide +kernel
theorem dX0_placeInOrder_58 : decode cX0_placeInOrder 58 = .ok (.iload_n 3, 1) := by decide +kernel
theorem dX0_placeInOrder_59 : decode cX0_placeInOrder 59 = .ok (.ireturn, 1) := by decide +kernel
theorem dX1_init_0 : decode cX1_init 0 = .ok (.aload_n 0, 1) := by decide +kernel
theorem dX1_init_1 : decode cX1_init 1 = .ok (.invokespecial 3, 3) := by decide +kernel
theorem dX1_init_4 : decode cX1_init 4 = .ok (.aload_n 0, 1) := by decide +kernel
theorem dX1_init_5 : decode cX1_init 5 = .ok (.iconst 4, 1) := by decide +kernel
theorem dX1_init_6 : decode cX1_init 6 = .ok (.putfield 9, 3) := by decide +kernel
theorem dX1_init_9 : decode cX1_init 9 = .ok (.aload_n 0, 1) := by decide +kernel
theorem dX1_init_10 : decode cX1_init 10 = .ok (.iconst 0, 1) := by decide +kernel
theorem dX1_init_11 : decode cX1_init 11 = .ok (.putfield 15, 3) := by decide +kernel
theorem dX1_init_14 : decode cX1_init 14 = .ok (.aload_n 0, 1) := by decide +kernel
theorem dX1_init_15 : decode cX1_init 15 = .ok (.bipush 24, 2) := by decide +kernel
theorem dX1_init_17 : decode cX1_init 17 = .ok (.putfield 18, 3) := by decide +kernel
theorem dX1_init_20 : decode cX1_init 20 = .ok (.return_, 1) := by decide +kernel
theorem dX1_isOpenIn_0 : decode cX1_isOpenIn 0 = .ok (.iload_n 1, 1) := by decide +kernel
theorem dX1_isOpenIn_1 : decode cX1_isOpenIn 1 = .ok (.bipush 24, 2) := by decide +kernel
theorem dX1_isOpenIn_3 : decode cX1_isOpenIn 3 = .ok (.irem, 1) := by decide +kernel
theorem dX1_isOpenIn_4 : decode cX1_isOpenIn 4 = .ok (.istore_n 2, 1) := by decide +kernel
theorem dX1_isOpenIn_5 : decode cX1_isOpenIn 5 = .ok (.aload_n 0, 1) := by decide +kernel
theorem dX1_isOpenIn_6 : decode cX1_isOpenIn 6 = .ok (.getfield 15, 3) := by decide +kernel
theorem dX1_isOpenIn_9 : decode cX1_isOpenIn 9 = .ok (.aload_n 0, 1) := by decide +kernel
theorem dX1_isOpenIn_10 : decode cX1_isOpenIn 10 = .ok (.getfield 18, 3) := by decide +kernel
theorem dX1_isOpenIn_13 : decode cX1_isOpenIn 13 = .ok (.if_icmp .gt 25, 3) := by decide +kernel
theorem dX1_isOpenIn_16 : decode cX1_isOpenIn 16 = .ok (.iload_n 2, 1) := by decide +kernel
theorem dX1_isOpenIn_17 : decode cX1_isOpenIn 17 = .ok (.aload_n 0, 1) := by decide +kernel
theorem dX1_isOpenIn_18 : decode cX1_isOpenIn 18 = .ok (.getfield 15, 3) := by decide +kernel
theorem dX1_isOpenIn_21 : decode cX1_isOpenIn 21 = .ok (.if_icmp .lt 15, 3) := by decide +kernel
theorem dX1_isOpenIn_24 : decode cX1_isOpenIn 24 = .ok (.iload_n 2, 1) := by decide +kernel
theorem dX1_isOpenIn_25 : decode cX1_isOpenIn 25 = .ok (.aload_n 0, 1) := by decide +kernel
theorem dX1_isOpenIn_26 : decode cX1_isOpenIn 26 = .ok (.getfield 18, 3) := by decide +kernel
theorem dX1_isOpenIn_29 : decode cX1_isOpenIn 29 = .ok (.if_icmp .ge 7, 3) := by decide +kernel
theorem dX1_isOpenIn_32 : decode cX1_isOpenIn 32 = .ok (.iconst 1, 1) := by decide +kernel
theorem dX1_isOpenIn_33 : decode cX1_isOpenIn 33 = .ok (.goto 4, 3) := by decide +kernel
theorem dX1_isOpenIn_36 : decode cX1_isOpenIn 36 = .ok (.iconst 0, 1) := by decide +kernel
theorem dX1_isOpenIn_37 : decode cX1_isOpenIn 37 = .ok (.ireturn, 1) := by decide +kernel
theorem dX1_isOpenIn_38 : decode cX1_isOpenIn 38 = .ok (.iload_n 2, 1) := by decide +kernel
theorem dX1_isOpenIn_39 : decode cX1_isOpenIn 39 = .ok (.aload_n 0, 1) := by decide +kernel
theorem dX1_isOpenIn_40 : decode cX1_isOpenIn 40 = .ok (.getfield 15, 3) := by decide +kernel
theorem dX1_isOpenIn_43 : decode cX1_isOpenIn 43 = .ok (.if_icmp .ge 11, 3) := by decide +kernel
theorem dX1_isOpenIn_46 : decode cX1_isOpenIn 46 = .ok (.iload_n 2, 1) := by decide +kernel
theorem dX1_isOpenIn_47 : decode cX1_isOpenIn 47 = .ok (.aload_n 0, 1) := by decide +kernel
theorem dX1_isOpenIn_48 : decode cX1_isOpenIn 48 = .ok (.getfield 18, 3) := by decide +kernel
theorem dX1_isOpenIn_51 : decode cX1_isOpenIn 51 = .ok (.if_icmp .ge 7, 3) := by decide +kernel
theorem dX1_isOpenIn_54 : decode cX1_isOpenIn 54 = .ok (.iconst 1, 1) := by decide +kernel
theorem dX1_isOpenIn_55 : decode cX1_isOpenIn 55 = .ok (.goto 4, 3) := by decide +kernel
theorem dX1_isOpenIn_58 : decode cX1_isOpenIn 58 = .ok (.iconst 0, 1) := by decide +kernel
theorem dX1_isOpenIn_59 : decode cX1_isOpenIn 59 = .ok (.ireturn, 1) := by decide +kernel
theorem dX2_init_0 : decode cX2_init 0 = .ok (.aload_n 0, 1) := by decide +kernel
theorem dX2_init_1 : decode cX2_init 1 = .ok (.invokespecial 3, 3) := by decide +kernel
theorem dX2_init_4 : decode cX2_init 4 = .ok (.aload_n 0, 1) := by decide +kernel
theorem dX2_init_5 : decode cX2_init 5 = .ok (.iconst 5, 1) := by decide +kernel
theorem dX2_init_6 : decode cX2_init 6 = .ok (.bipush 21, 2) := by decide +kernel
theorem dX2_init_8 : decode cX2_init 8 = .ok (.multianewarray 11 2, 4) := by decide +kernel
theorem dX2_init_12 : decode cX2_init 12 = .ok (.putfield 13, 3) := by decide +kernel
theorem dX2_init_15 : decode cX2_init 15 = .ok (.aload_n 0, 1) := by decide +kernel
theorem dX2_init_16 : decode cX2_init 16 = .ok (.getfield 13, 3) := by decide +kernel
theorem dX2_init_19 : decode cX2_init 19 = .ok (.iconst 0, 1) := by decide +kernel
theorem dX2_init_20 : decode cX2_init 20 = .ok (.aaload, 1) := by decide +kernel
theorem dX2_init_21 : decode cX2_init 21 = .ok (.iconst 0, 1) := by decide +kernel
theorem dX2_init_22 : decode cX2_init 22 = .ok (.iconst 1, 1) := by decide +kernel
theorem dX2_init_23 : decode cX2_init 23 = .ok (.iastore, 1) := by decide +kernel
theorem dX2_init_24 : decode cX2_init 24 = .ok (.iconst 1, 1) := by decide +kernel
theorem dX2_init_25 : decode cX2_init 25 = .ok (.istore_n 1, 1) := by decide +kernel
theorem dX2_init_26 : decode cX2_init 26 = .ok (.iload_n 1, 1) := by decide +kernel
theorem dX2_init_27 : decode cX2_init 27 = .ok (.iconst 4, 1) := by decide +kernel
theorem dX2_init_28 : decode cX2_init 28 = .ok (.if_icmp .gt 65, 3) := by decide +kernel
theorem dX2_init_31 : decode cX2_init 31 = .ok (.iconst 0, 1) := by decide +kernel
theorem dX2_init_32 : decode cX2_init 32 = .ok (.istore_n 2, 1) := by decide +kernel
theorem dX2_init_33 : decode cX2_init 33 = .ok (.iload_n 2, 1) := by decide +kernel
theorem dX2_init_34 : decode cX2_init 34 = .ok (.bipush 20, 2) := by decide +kernel
theorem dX2_init_36 : decode cX2_init 36 = .ok (.if_icmp .gt 51, 3) := by decide +kernel
theorem dX2_init_39 : decode cX2_init 39 = .ok (.iconst 0, 1) := by decide +kernel
theorem dX2_init_40 : decode cX2_init 40 = .ok (.istore_n 3, 1) := by decide +kernel
theorem dX2_init_41 : decode cX2_init 41 = .ok (.iload_n 3, 1) := by decide +kernel
theorem dX2_init_42 : decode cX2_init 42 = .ok (.bipush 6, 2) := by decide +kernel
theorem dX2_init_44 : decode cX2_init 44 = .ok (.if_icmp .ge 37, 3) := by decide +kernel
theorem dX2_init_47 : decode cX2_init 47 = .ok (.iload_n 3, 1) := by decide +kernel
theorem dX2_init_48 : decode cX2_init 48 = .ok (.iload_n 2, 1) := by decide +kernel
theorem dX2_init_49 : decode cX2_init 49 = .ok (.if_icmp .gt 32, 3) := by decide +kernel
theorem dX2_init_52 : decode cX2_init 52 = .ok (.aload_n 0, 1) := by decide +kernel
theorem dX2_init_53 : decode cX2_init 53 = .ok (.getfield 13, 3) := by decide +kernel
theorem dX2_init_56 : decode cX2_init 56 = .ok (.iload_n 1, 1) := by decide +kernel
theorem dX2_init_57 : decode cX2_init 57 = .ok (.aaload, 1) := by decide +kernel
theorem dX2_init_58 : decode cX2_init 58 = .ok (.iload_n 2, 1) := by decide +kernel
theorem dX2_init_59 : decode cX2_init 59 = .ok (.dup2, 1) := by decide +kernel
theorem dX2_init_60 : decode cX2_init 60 = .ok (.iaload, 1) := by decide +kernel
theorem dX2_init_61 : decode cX2_init 61 = .ok (.aload_n 0, 1) := by decide +kernel
theorem dX2_init_62 : decode cX2_init 62 = .ok (.getfield 13, 3) := by decide +kernel
theorem dX2_init_65 : decode cX2_init 65 = .ok (.iload_n 1, 1) := by decide +kernel
theorem dX2_init_66 : decode cX2_init 66 = .ok (.iconst 1, 1) := by decide +kernel
theorem dX2_init_67 : decode cX2_init 67 = .ok (.isub, 1) := by decide +kernel
theorem dX2_init_68 : decode cX2_init 68 = .ok (.aaload, 1) := by decide +kernel
theorem dX2_init_69 : decode cX2_init 69 = .ok (.iload_n 2, 1) := by decide +kernel
theorem dX2_init_70 : decode cX2_init 70 = .ok (.iload_n 3, 1) := by decide +kernel
theorem dX2_init_71 : decode cX2_init 71 = .ok (.isub, 1) := by decide +kernel
theorem dX2_init_72 : decode cX2_init 72 = .ok (.iaload, 1) := by decide +kernel
theorem dX2_init_73 : decode cX2_init 73 = .ok (.iadd, 1) := by decide +kernel
theorem dX2_init_74 : decode cX2_init 74 = .ok (.iastore, 1) := by decide +kernel
theorem dX2_init_75 : decode cX2_init 75 = .ok (.iinc 3 1, 3) := by decide +kernel
theorem dX2_init_78 : decode cX2_init 78 = .ok (.goto (-37), 3) := by decide +kernel
theorem dX2_init_81 : decode cX2_init 81 = .ok (.iinc 2 1, 3) := by decide +kernel
theorem dX2_init_84 : decode cX2_init 84 = .ok (.goto (-51), 3) := by decide +kernel
theorem dX2_init_87 : decode cX2_init 87 = .ok (.iinc 1 1, 3) := by decide +kernel
theorem dX2_init_90 : decode cX2_init 90 = .ok (.goto (-64), 3) := by decide +kernel
theorem dX2_init_93 : decode cX2_init 93 = .ok (.return_, 1) := by decide +kernel
theorem dX2_trialOf_0 : decode cX2_trialOf 0 = .ok (.aload_n 1, 1) := by decide +kernel
theorem dX2_trialOf_1 : decode cX2_trialOf 1 = .ok (.iload_n 2, 1) := by decide +kernel
theorem dX2_trialOf_2 : decode cX2_trialOf 2 = .ok (.invokestatic 16, 3) := by decide +kernel
theorem dX2_trialOf_5 : decode cX2_trialOf 5 = .ok (.istore_n 3, 1) := by decide +kernel
theorem dX2_trialOf_6 : decode cX2_trialOf 6 = .ok (.iconst 0, 1) := by decide +kernel
theorem dX2_trialOf_7 : decode cX2_trialOf 7 = .ok (.istore 4, 2) := by decide +kernel
theorem dX2_trialOf_9 : decode cX2_trialOf 9 = .ok (.iconst 0, 1) := by decide +kernel
theorem dX2_trialOf_10 : decode cX2_trialOf 10 = .ok (.istore 5, 2) := by decide +kernel
theorem dX2_trialOf_12 : decode cX2_trialOf 12 = .ok (.iload 5, 2) := by decide +kernel
theorem dX2_trialOf_14 : decode cX2_trialOf 14 = .ok (.iload_n 3, 1) := by decide +kernel
theorem dX2_trialOf_15 : decode cX2_trialOf 15 = .ok (.if_icmp .ge 21, 3) := by decide +kernel
theorem dX2_trialOf_18 : decode cX2_trialOf 18 = .ok (.iload 4, 2) := by decide +kernel
theorem dX2_trialOf_20 : decode cX2_trialOf 20 = .ok (.aload_n 0, 1) := by decide +kernel
theorem dX2_trialOf_21 : decode cX2_trialOf 21 = .ok (.iconst 4, 1) := by decide +kernel
theorem dX2_trialOf_22 : decode cX2_trialOf 22 = .ok (.iload 5, 2) := by decide +kernel
theorem dX2_trialOf_24 : decode cX2_trialOf 24 = .ok (.invokevirtual 20, 3) := by decide +kernel
theorem dX2_trialOf_27 : decode cX2_trialOf 27 = .ok (.iadd, 1) := by decide +kernel
theorem dX2_trialOf_28 : decode cX2_trialOf 28 = .ok (.istore 4, 2) := by decide +kernel
theorem dX2_trialOf_30 : decode cX2_trialOf 30 = .ok (.iinc 5 1, 3) := by decide +kernel
theorem dX2_trialOf_33 : decode cX2_trialOf 33 = .ok (.goto (-21), 3) := by decide +kernel
theorem dX2_trialOf_36 : decode cX2_trialOf 36 = .ok (.iload 4, 2) := by decide +kernel
theorem dX2_trialOf_38 : decode cX2_trialOf 38 = .ok (.aload_n 0, 1) := by decide +kernel
theorem dX2_trialOf_39 : decode cX2_trialOf 39 = .ok (.aload_n 1, 1) := by decide +kernel
theorem dX2_trialOf_40 : decode cX2_trialOf 40 = .ok (.iload_n 2, 1) := by decide +kernel
theorem dX2_trialOf_41 : decode cX2_trialOf 41 = .ok (.iload_n 3, 1) := by decide +kernel
theorem dX2_trialOf_42 : decode cX2_trialOf 42 = .ok (.invokevirtual 24, 3) := by decide +kernel
theorem dX2_trialOf_45 : decode cX2_trialOf 45 = .ok (.iadd, 1) := by decide +kernel
theorem dX2_trialOf_46 : decode cX2_trialOf 46 = .ok (.iconst 1, 1) := by decide +kernel
theorem dX2_trialOf_47 : decode cX2_trialOf 47 = .ok (.iadd, 1) := by decide +kernel
theorem dX2_trialOf_48 : decode cX2_trialOf 48 = .ok (.ireturn, 1) := by decide +kernel
theorem dX2_sumOfPlaces_0 : decode cX2_sumOfPlaces 0 = .ok (.iconst 0, 1) := by decide +kernel
theorem dX2_sumOfPlaces_1 : decode cX2_sumOfPlaces 1 = .ok (.istore_n 2, 1) := by decide +kernel
theorem dX2_sumOfPlaces_2 : decode cX2_sumOfPlaces 2 = .ok (.iconst 0, 1) := by decide +kernel
theorem dX2_sumOfPlaces_3 : decode cX2_sumOfPlaces 3 = .ok (.istore_n 3, 1) := by decide +kernel
theorem dX2_sumOfPlaces_4 : decode cX2_sumOfPlaces 4 = .ok (.iload_n 3, 1) := by decide +kernel
theorem dX2_sumOfPlaces_5 : decode cX2_sumOfPlaces 5 = .ok (.iconst 4, 1) := by decide +kernel
theorem dX2_sumOfPlaces_6 : decode cX2_sumOfPlaces 6 = .ok (.if_icmp .ge 22, 3) := by decide +kernel
theorem dX2_sumOfPlaces_9 : decode cX2_sumOfPlaces 9 = .ok (.iload_n 2, 1) := by decide +kernel
theorem dX2_sumOfPlaces_10 : decode cX2_sumOfPlaces 10 = .ok (.aload_n 0, 1) := by decide +kernel
theorem dX2_sumOfPlaces_11 : decode cX2_sumOfPlaces 11 = .ok (.iload_n 3, 1) := by decide +kernel
theorem dX2_sumOfPlaces_12 : decode cX2_sumOfPlaces 12 = .ok (.iload_n 1, 1) := by decide +kernel
theorem dX2_sumOfPlaces_13 : decode cX2_sumOfPlaces 13 = .ok (.iload_n 3, 1) := by decide +kernel
theorem dX2_sumOfPlaces_14 : decode cX2_sumOfPlaces 14 = .ok (.invokestatic 28, 3) := by decide +kernel
theorem dX2_sumOfPlaces_17 : decode cX2_sumOfPlaces 17 = .ok (.invokevirtual 31, 3) := by decide +kernel
theorem dX2_sumOfPlaces_20 : decode cX2_sumOfPlaces 20 = .ok (.iadd, 1) := by decide +kernel
theorem dX2_sumOfPlaces_21 : decode cX2_sumOfPlaces 21 = .ok (.istore_n 2, 1) := by decide +kernel
theorem dX2_sumOfPlaces_22 : decode cX2_sumOfPlaces 22 = .ok (.iinc 3 1, 3) := by decide +kernel
theorem dX2_sumOfPlaces_25 : decode cX2_sumOfPlaces 25 = .ok (.goto (-21), 3) := by decide +kernel
theorem dX2_sumOfPlaces_28 : decode cX2_sumOfPlaces 28 = .ok (.iload_n 2, 1) := by decide +kernel
theorem dX2_sumOfPlaces_29 : decode cX2_sumOfPlaces 29 = .ok (.ireturn, 1) := by decide +kernel
theorem dX2_lesserWordsOfSum_0 : decode cX2_lesserWordsOfSum 0 = .ok (.iconst 0, 1) := by decide +kernel
theorem dX2_lesserWordsOfSum_1 : decode cX2_lesserWordsOfSum 1 = .ok (.istore 4, 2) := by decide +kernel
theorem dX2_lesserWordsOfSum_3 : decode cX2_lesserWordsOfSum 3 = .ok (.iload_n 3, 1) := by decide +kernel
theorem dX2_lesserWordsOfSum_4 : decode cX2_lesserWordsOfSum 4 = .ok (.istore 5, 2) := by decide +kernel
theorem dX2_lesserWordsOfSum_6 : decode cX2_lesserWordsOfSum 6 = .ok (.iconst 0, 1) := by decide +kernel
theorem dX2_lesserWordsOfSum_7 : decode cX2_lesserWordsOfSum 7 = .ok (.istore 6, 2) := by decide +kernel
theorem dX2_lesserWordsOfSum_9 : decode cX2_lesserWordsOfSum 9 = .ok (.iload 6, 2) := by decide +kernel
theorem dX2_lesserWordsOfSum_11 : decode cX2_lesserWordsOfSum 11 = .ok (.iconst 4, 1) := by decide +kernel
theorem dX2_lesserWordsOfSum_12 : decode cX2_lesserWordsOfSum 12 = .ok (.if_icmp .ge 74, 3) := by decide +kernel
theorem dX2_lesserWordsOfSum_15 : decode cX2_lesserWordsOfSum 15 = .ok (.iload_n 2, 1) := by decide +kernel
theorem dX2_lesserWordsOfSum_16 : decode cX2_lesserWordsOfSum 16 = .ok (.iload 6, 2) := by decide +kernel
theorem dX2_lesserWordsOfSum_18 : decode cX2_lesserWordsOfSum 18 = .ok (.invokestatic 28, 3) := by decide +kernel
theorem dX2_lesserWordsOfSum_21 : decode cX2_lesserWordsOfSum 21 = .ok (.istore 7, 2) := by decide +kernel
theorem dX2_lesserWordsOfSum_23 : decode cX2_lesserWordsOfSum 23 = .ok (.iconst 3, 1) := by decide +kernel
theorem dX2_lesserWordsOfSum_24 : decode cX2_lesserWordsOfSum 24 = .ok (.iload 6, 2) := by decide +kernel
theorem dX2_lesserWordsOfSum_26 : decode cX2_lesserWordsOfSum 26 = .ok (.isub, 1) := by decide +kernel
theorem dX2_lesserWordsOfSum_27 : decode cX2_lesserWordsOfSum 27 = .ok (.istore 8, 2) := by decide +kernel
theorem dX2_lesserWordsOfSum_29 : decode cX2_lesserWordsOfSum 29 = .ok (.iconst 0, 1) := by decide +kernel
theorem dX2_lesserWordsOfSum_30 : decode cX2_lesserWordsOfSum 30 = .ok (.istore 9, 2) := by decide +kernel
theorem dX2_lesserWordsOfSum_32 : decode cX2_lesserWordsOfSum 32 = .ok (.iload 9, 2) := by decide +kernel
theorem dX2_lesserWordsOfSum_34 : decode cX2_lesserWordsOfSum 34 = .ok (.iload 7, 2) := by decide +kernel
theorem dX2_lesserWordsOfSum_36 : decode cX2_lesserWordsOfSum 36 = .ok (.if_icmp .ge 31, 3) := by decide +kernel
theorem dX2_lesserWordsOfSum_39 : decode cX2_lesserWordsOfSum 39 = .ok (.iload 4, 2) := by decide +kernel
theorem dX2_lesserWordsOfSum_41 : decode cX2_lesserWordsOfSum 41 = .ok (.aload_n 0, 1) := by decide +kernel
theorem dX2_lesserWordsOfSum_42 : decode cX2_lesserWordsOfSum 42 = .ok (.iload 8, 2) := by decide +kernel
theorem dX2_lesserWordsOfSum_44 : decode cX2_lesserWordsOfSum 44 = .ok (.iload 5, 2) := by decide +kernel
theorem dX2_lesserWordsOfSum_46 : decode cX2_lesserWordsOfSum 46 = .ok (.aload_n 1, 1) := by decide +kernel
theorem dX2_lesserWordsOfSum_47 : decode cX2_lesserWordsOfSum 47 = .ok (.iload 6, 2) := by decide +kernel
theorem dX2_lesserWordsOfSum_49 : decode cX2_lesserWordsOfSum 49 = .ok (.iload 9, 2) := by decide +kernel
theorem dX2_lesserWordsOfSum_51 : decode cX2_lesserWordsOfSum 51 = .ok (.invokevirtual 31, 3) := by decide +kernel
theorem dX2_lesserWordsOfSum_54 : decode cX2_lesserWordsOfSum 54 = .ok (.isub, 1) := by decide +kernel
theorem dX2_lesserWordsOfSum_55 : decode cX2_lesserWordsOfSum 55 = .ok (.invokevirtual 20, 3) := by decide +kernel
theorem dX2_lesserWordsOfSum_58 : decode cX2_lesserWordsOfSum 58 = .ok (.iadd, 1) := by decide +kernel
theorem dX2_lesserWordsOfSum_59 : decode cX2_lesserWordsOfSum 59 = .ok (.istore 4, 2) := by decide +kernel
theorem dX2_lesserWordsOfSum_61 : decode cX2_lesserWordsOfSum 61 = .ok (.iinc 9 1, 3) := by decide +kernel
theorem dX2_lesserWordsOfSum_64 : decode cX2_lesserWordsOfSum 64 = .ok (.goto (-32), 3) := by decide +kernel
theorem dX2_lesserWordsOfSum_67 : decode cX2_lesserWordsOfSum 67 = .ok (.iload 5, 2) := by decide +kernel
theorem dX2_lesserWordsOfSum_69 : decode cX2_lesserWordsOfSum 69 = .ok (.aload_n 1, 1) := by decide +kernel
theorem dX2_lesserWordsOfSum_70 : decode cX2_lesserWordsOfSum 70 = .ok (.iload 6, 2) := by decide +kernel
theorem dX2_lesserWordsOfSum_72 : decode cX2_lesserWordsOfSum 72 = .ok (.iload 7, 2) := by decide +kernel
theorem dX2_lesserWordsOfSum_74 : decode cX2_lesserWordsOfSum 74 = .ok (.invokevirtual 31, 3) := by decide +kernel
theorem dX2_lesserWordsOfSum_77 : decode cX2_lesserWordsOfSum 77 = .ok (.isub, 1) := by decide +kernel
theorem dX2_lesserWordsOfSum_78 : decode cX2_lesserWordsOfSum 78 = .ok (.istore 5, 2) := by decide +kernel
theorem dX2_lesserWordsOfSum_80 : decode cX2_lesserWordsOfSum 80 = .ok (.iinc 6 1, 3) := by decide +kernel
theorem dX2_lesserWordsOfSum_83 : decode cX2_lesserWordsOfSum 83 = .ok (.goto (-74), 3) := by decide +kernel
theorem dX2_lesserWordsOfSum_86 : decode cX2_lesserWordsOfSum 86 = .ok (.iload 4, 2) := by decide +kernel
theorem dX2_lesserWordsOfSum_88 : decode cX2_lesserWordsOfSum 88 = .ok (.ireturn, 1) := by decide +kernel
theorem dX2_wordsWith_0 : decode cX2_wordsWith 0 = .ok (.iload_n 1, 1) := by decide +kernel
theorem dX2_wordsWith_1 : decode cX2_wordsWith 1 = .ok (.ifCond .lt 18, 3) := by decide +kernel
theorem dX2_wordsWith_4 : decode cX2_wordsWith 4 = .ok (.iload_n 1, 1) := by decide +kernel
theorem dX2_wordsWith_5 : decode cX2_wordsWith 5 = .ok (.iconst 4, 1) := by decide +kernel
theorem dX2_wordsWith_6 : decode cX2_wordsWith 6 = .ok (.if_icmp .gt 13, 3) := by decide +kernel
theorem dX2_wordsWith_9 : decode cX2_wordsWith 9 = .ok (.iload_n 2, 1) := by decide +kernel
theorem dX2_wordsWith_10 : decode cX2_wordsWith 10 = .ok (.ifCond .lt 9, 3) := by decide +kernel
theorem dX2_wordsWith_13 : decode cX2_wordsWith 13 = .ok (.iload_n 2, 1) := by decide +kernel
theorem dX2_wordsWith_14 : decode cX2_wordsWith 14 = .ok (.bipush 20, 2) := by decide +kernel
theorem dX2_wordsWith_16 : decode cX2_wordsWith 16 = .ok (.if_icmp .le 5, 3) := by decide +kernel
theorem dX2_wordsWith_19 : decode cX2_wordsWith 19 = .ok (.iconst 0, 1) := by decide +kernel
theorem dX2_wordsWith_20 : decode cX2_wordsWith 20 = .ok (.ireturn, 1) := by decide +kernel
theorem dX2_wordsWith_21 : decode cX2_wordsWith 21 = .ok (.aload_n 0, 1) := by decide +kernel
theorem dX2_wordsWith_22 : decode cX2_wordsWith 22 = .ok (.getfield 13, 3) := by decide +kernel
theorem dX2_wordsWith_25 : decode cX2_wordsWith 25 = .ok (.iload_n 1, 1) := by decide +kernel
theorem dX2_wordsWith_26 : decode cX2_wordsWith 26 = .ok (.aaload, 1) := by decide +kernel
theorem dX2_wordsWith_27 : decode cX2_wordsWith 27 = .ok (.iload_n 2, 1) := by decide +kernel
theorem dX2_wordsWith_28 : decode cX2_wordsWith 28 = .ok (.iaload, 1) := by decide +kernel
theorem dX2_wordsWith_29 : decode cX2_wordsWith 29 = .ok (.ireturn, 1) := by decide +kernel
theorem dX3_init_0 : decode cX3_init 0 = .ok (.aload_n 0, 1) := by decide +kernel
theorem dX3_init_1 : decode cX3_init 1 = .ok (.invokespecial 1, 3) := by decide +kernel
theorem dX3_init_4 : decode cX3_init 4 = .ok (.aload_n 0, 1) := by decide +kernel
theorem dX3_init_5 : decode cX3_init 5 = .ok (.new 7, 3) := by decide +kernel
theorem dX3_init_8 : decode cX3_init 8 = .ok (.dup, 1) := by decide +kernel
theorem dX3_init_9 : decode cX3_init 9 = .ok (.invokespecial 9, 3) := by decide +kernel
theorem dX3_init_12 : decode cX3_init 12 = .ok (.putfield 10, 3) := by decide +kernel
theorem dX3_init_15 : decode cX3_init 15 = .ok (.aload_n 0, 1) := by decide +kernel
theorem dX3_init_16 : decode cX3_init 16 = .ok (.iconst 3, 1) := by decide +kernel
theorem dX3_init_17 : decode cX3_init 17 = .ok (.anewarray 16, 3) := by decide +kernel
theorem dX3_init_20 : decode cX3_init 20 = .ok (.putfield 18, 3) := by decide +kernel
theorem dX3_init_23 : decode cX3_init 23 = .ok (.iconst 0, 1) := by decide +kernel
theorem dX3_init_24 : decode cX3_init 24 = .ok (.istore_n 1, 1) := by decide +kernel
theorem dX3_init_25 : decode cX3_init 25 = .ok (.iload_n 1, 1) := by decide +kernel
theorem dX3_init_26 : decode cX3_init 26 = .ok (.aload_n 0, 1) := by decide +kernel
theorem dX3_init_27 : decode cX3_init 27 = .ok (.getfield 18, 3) := by decide +kernel
theorem dX3_init_30 : decode cX3_init 30 = .ok (.arraylength, 1) := by decide +kernel
theorem dX3_init_31 : decode cX3_init 31 = .ok (.if_icmp .ge 22, 3) := by decide +kernel
theorem dX3_init_34 : decode cX3_init 34 = .ok (.aload_n 0, 1) := by decide +kernel
theorem dX3_init_35 : decode cX3_init 35 = .ok (.getfield 18, 3) := by decide +kernel
theorem dX3_init_38 : decode cX3_init 38 = .ok (.iload_n 1, 1) := by decide +kernel
theorem dX3_init_39 : decode cX3_init 39 = .ok (.new 16, 3) := by decide +kernel
theorem dX3_init_42 : decode cX3_init 42 = .ok (.dup, 1) := by decide +kernel
theorem dX3_init_43 : decode cX3_init 43 = .ok (.invokespecial 22, 3) := by decide +kernel
theorem dX3_init_46 : decode cX3_init 46 = .ok (.aastore, 1) := by decide +kernel
theorem dX3_init_47 : decode cX3_init 47 = .ok (.iinc 1 1, 3) := by decide +kernel
theorem dX3_init_50 : decode cX3_init 50 = .ok (.goto (-25), 3) := by decide +kernel
theorem dX3_init_53 : decode cX3_init 53 = .ok (.aload_n 0, 1) := by decide +kernel
theorem dX3_init_54 : decode cX3_init 54 = .ok (.new 23, 3) := by decide +kernel
theorem dX3_init_57 : decode cX3_init 57 = .ok (.dup, 1) := by decide +kernel
theorem dX3_init_58 : decode cX3_init 58 = .ok (.invokespecial 25, 3) := by decide +kernel
theorem dX3_init_61 : decode cX3_init 61 = .ok (.putfield 26, 3) := by decide +kernel
theorem dX3_init_64 : decode cX3_init 64 = .ok (.aload_n 0, 1) := by decide +kernel
theorem dX3_init_65 : decode cX3_init 65 = .ok (.new 30, 3) := by decide +kernel
theorem dX3_init_68 : decode cX3_init 68 = .ok (.dup, 1) := by decide +kernel
theorem dX3_init_69 : decode cX3_init 69 = .ok (.iconst 0, 1) := by decide +kernel
theorem dX3_init_70 : decode cX3_init 70 = .ok (.invokespecial 32, 3) := by decide +kernel
theorem dX3_init_73 : decode cX3_init 73 = .ok (.putfield 35, 3) := by decide +kernel
theorem dX3_init_76 : decode cX3_init 76 = .ok (.aload_n 0, 1) := by decide +kernel
theorem dX3_init_77 : decode cX3_init 77 = .ok (.iconst 0, 1) := by decide +kernel
theorem dX3_init_78 : decode cX3_init 78 = .ok (.putfield 39, 3) := by decide +kernel
theorem dX3_init_81 : decode cX3_init 81 = .ok (.aload_n 0, 1) := by decide +kernel
theorem dX3_init_82 : decode cX3_init 82 = .ok (.iconst 0, 1) := by decide +kernel
theorem dX3_init_83 : decode cX3_init 83 = .ok (.putfield 43, 3) := by decide +kernel
theorem dX3_init_86 : decode cX3_init 86 = .ok (.return_, 1) := by decide +kernel
theorem dX3_lock_0 : decode cX3_lock 0 = .ok (.iload_n 1, 1) := by decide +kernel
theorem dX3_lock_1 : decode cX3_lock 1 = .ok (.invokestatic 46, 3) := by decide +kernel
theorem dX3_lock_4 : decode cX3_lock 4 = .ok (.aload_n 0, 1) := by decide +kernel
theorem dX3_lock_5 : decode cX3_lock 5 = .ok (.getfield 10, 3) := by decide +kernel
theorem dX3_lock_8 : decode cX3_lock 8 = .ok (.invokevirtual 49, 3) := by decide +kernel
theorem dX3_lock_11 : decode cX3_lock 11 = .ok (.bipush 8, 2) := by decide +kernel
theorem dX3_lock_13 : decode cX3_lock 13 = .ok (.if_icmp .lt 13, 3) := by decide +kernel
theorem dX3_lock_16 : decode cX3_lock 16 = .ok (.new 53, 3) := by decide +kernel
theorem dX3_lock_19 : decode cX3_lock 19 = .ok (.dup, 1) := by decide +kernel
theorem dX3_lock_20 : decode cX3_lock 20 = .ok (.ldc 55, 2) := by decide +kernel
theorem dX3_lock_22 : decode cX3_lock 22 = .ok (.invokespecial 57, 3) := by decide +kernel
theorem dX3_lock_25 : decode cX3_lock 25 = .ok (.athrow, 1) := by decide +kernel
theorem dX3_lock_26 : decode cX3_lock 26 = .ok (.aload_n 0, 1) := by decide +kernel
theorem dX3_lock_27 : decode cX3_lock 27 = .ok (.getfield 10, 3) := by decide +kernel
theorem dX3_lock_30 : decode cX3_lock 30 = .ok (.new 30, 3) := by decide +kernel
theorem dX3_lock_33 : decode cX3_lock 33 = .ok (.dup, 1) := by decide +kernel
theorem dX3_lock_34 : decode cX3_lock 34 = .ok (.iload_n 1, 1) := by decide +kernel
theorem dX3_lock_35 : decode cX3_lock 35 = .ok (.invokespecial 32, 3) := by decide +kernel
theorem dX3_lock_38 : decode cX3_lock 38 = .ok (.invokevirtual 60, 3) := by decide +kernel
theorem dX3_lock_41 : decode cX3_lock 41 = .ok (.pop, 1) := by decide +kernel
theorem dX3_lock_42 : decode cX3_lock 42 = .ok (.aload_n 0, 1) := by decide +kernel
theorem dX3_lock_43 : decode cX3_lock 43 = .ok (.getfield 10, 3) := by decide +kernel
theorem dX3_lock_46 : decode cX3_lock 46 = .ok (.invokevirtual 49, 3) := by decide +kernel
theorem dX3_lock_49 : decode cX3_lock 49 = .ok (.iconst 1, 1) := by decide +kernel
theorem dX3_lock_50 : decode cX3_lock 50 = .ok (.isub, 1) := by decide +kernel
theorem dX3_lock_51 : decode cX3_lock 51 = .ok (.ireturn, 1) := by decide +kernel
theorem dX3_turn_0 : decode cX3_turn 0 = .ok (.aload_n 0, 1) := by decide +kernel
theorem dX3_turn_1 : decode cX3_turn 1 = .ok (.iload_n 1, 1) := by decide +kernel
theorem dX3_turn_2 : decode cX3_turn 2 = .ok (.invokevirtual 64, 3) := by decide +kernel
theorem dX3_turn_5 : decode cX3_turn 5 = .ok (.astore 4, 2) := by decide +kernel
theorem dX3_turn_7 : decode cX3_turn 7 = .ok (.iload_n 2, 1) := by decide +kernel
theorem dX3_turn_8 : decode cX3_turn 8 = .ok (.invokestatic 68, 3) := by decide +kernel
theorem dX3_turn_11 : decode cX3_turn 11 = .ok (.iload_n 3, 1) := by decide +kernel
theorem dX3_turn_12 : decode cX3_turn 12 = .ok (.invokestatic 71, 3) := by decide +kernel
theorem dX3_turn_15 : decode cX3_turn 15 = .ok (.ifCond .ne 13, 3) := by decide +kernel
theorem dX3_turn_18 : decode cX3_turn 18 = .ok (.new 75, 3) := by decide +kernel
theorem dX3_turn_21 : decode cX3_turn 21 = .ok (.dup, 1) := by decide +kernel
theorem dX3_turn_22 : decode cX3_turn 22 = .ok (.ldc 77, 2) := by decide +kernel
theorem dX3_turn_24 : decode cX3_turn 24 = .ok (.invokespecial 79, 3) := by decide +kernel
theorem dX3_turn_27 : decode cX3_turn 27 = .ok (.athrow, 1) := by decide +kernel
theorem dX3_turn_28 : decode cX3_turn 28 = .ok (.aload 4, 2) := by decide +kernel
theorem dX3_turn_30 : decode cX3_turn 30 = .ok (.iload_n 2, 1) := by decide +kernel
theorem dX3_turn_31 : decode cX3_turn 31 = .ok (.invokevirtual 80, 3) := by decide +kernel
theorem dX3_turn_34 : decode cX3_turn 34 = .ok (.iload_n 3, 1) := by decide +kernel
theorem dX3_turn_35 : decode cX3_turn 35 = .ok (.invokestatic 84, 3) := by decide +kernel
theorem dX3_turn_38 : decode cX3_turn 38 = .ok (.istore 5, 2) := by decide +kernel
theorem dX3_turn_40 : decode cX3_turn 40 = .ok (.aload 4, 2) := by decide +kernel
theorem dX3_turn_42 : decode cX3_turn 42 = .ok (.iload_n 2, 1) := by decide +kernel
theorem dX3_turn_43 : decode cX3_turn 43 = .ok (.iload_n 3, 1) := by decide +kernel
theorem dX3_turn_44 : decode cX3_turn 44 = .ok (.invokevirtual 88, 3) := by decide +kernel
theorem dX3_turn_47 : decode cX3_turn 47 = .ok (.aload_n 0, 1) := by decide +kernel
theorem dX3_turn_48 : decode cX3_turn 48 = .ok (.dup, 1) := by decide +kernel
theorem dX3_turn_49 : decode cX3_turn 49 = .ok (.getfield 43, 3) := by decide +kernel
theorem dX3_turn_52 : decode cX3_turn 52 = .ok (.iload 5, 2) := by decide +kernel
theorem dX3_turn_54 : decode cX3_turn 54 = .ok (.iadd, 1) := by decide +kernel
theorem dX3_turn_55 : decode cX3_turn 55 = .ok (.putfield 43, 3) := by decide +kernel
theorem dX3_turn_58 : decode cX3_turn 58 = .ok (.iload 5, 2) := by decide +kernel
theorem dX3_turn_60 : decode cX3_turn 60 = .ok (.ireturn, 1) := by decide +kernel
theorem dX3_open_0 : decode cX3_open 0 = .ok (.aload_n 0, 1) := by decide +kernel
theorem dX3_open_1 : decode cX3_open 1 = .ok (.iload_n 1, 1) := by decide +kernel
theorem dX3_open_2 : decode cX3_open 2 = .ok (.invokevirtual 64, 3) := by decide +kernel
theorem dX3_open_5 : decode cX3_open 5 = .ok (.astore_n 2, 1) := by decide +kernel
theorem dX3_open_6 : decode cX3_open 6 = .ok (.aload_n 2, 1) := by decide +kernel
theorem dX3_open_7 : decode cX3_open 7 = .ok (.invokevirtual 92, 3) := by decide +kernel
theorem dX3_open_10 : decode cX3_open 10 = .ok (.aload_n 2, 1) := by decide +kernel
theorem dX3_open_11 : decode cX3_open 11 = .ok (.getfield 95, 3) := by decide +kernel
theorem dX3_open_14 : decode cX3_open 14 = .ok (.if_icmp .ne 8, 3) := by decide +kernel
theorem dX3_open_17 : decode cX3_open 17 = .ok (.aload_n 2, 1) := by decide +kernel
theorem dX3_open_18 : decode cX3_open 18 = .ok (.iconst 1, 1) := by decide +kernel
theorem dX3_open_19 : decode cX3_open 19 = .ok (.putfield 98, 3) := by decide +kernel
theorem dX3_open_22 : decode cX3_open 22 = .ok (.aload_n 2, 1) := by decide +kernel
theorem dX3_open_23 : decode cX3_open 23 = .ok (.getfield 98, 3) := by decide +kernel
theorem dX3_open_26 : decode cX3_open 26 = .ok (.ireturn, 1) := by decide +kernel
theorem dX3_shut_0 : decode cX3_shut 0 = .ok (.aload_n 0, 1) := by decide +kernel
theorem dX3_shut_1 : decode cX3_shut 1 = .ok (.iload_n 1, 1) := by decide +kernel
theorem dX3_shut_2 : decode cX3_shut 2 = .ok (.invokevirtual 64, 3) := by decide +kernel
theorem dX3_shut_5 : decode cX3_shut 5 = .ok (.astore_n 2, 1) := by decide +kernel
theorem dX3_shut_6 : decode cX3_shut 6 = .ok (.aload_n 2, 1) := by decide +kernel
theorem dX3_shut_7 : decode cX3_shut 7 = .ok (.invokestatic 102, 3) := by decide +kernel
theorem dX3_shut_10 : decode cX3_shut 10 = .ok (.aload_n 2, 1) := by decide +kernel
theorem dX3_shut_11 : decode cX3_shut 11 = .ok (.invokevirtual 106, 3) := by decide +kernel
theorem dX3_shut_14 : decode cX3_shut 14 = .ok (.aload_n 2, 1) := by decide +kernel
theorem dX3_shut_15 : decode cX3_shut 15 = .ok (.invokevirtual 92, 3) := by decide +kernel
theorem dX3_shut_18 : decode cX3_shut 18 = .ok (.ireturn, 1) := by decide +kernel
theorem dX3_rename_0 : decode cX3_rename 0 = .ok (.aload_n 0, 1) := by decide +kernel
theorem dX3_rename_1 : decode cX3_rename 1 = .ok (.iload_n 1, 1) := by decide +kernel
theorem dX3_rename_2 : decode cX3_rename 2 = .ok (.invokevirtual 64, 3) := by decide +kernel
theorem dX3_rename_5 : decode cX3_rename 5 = .ok (.astore_n 3, 1) := by decide +kernel
theorem dX3_rename_6 : decode cX3_rename 6 = .ok (.iload_n 2, 1) := by decide +kernel
theorem dX3_rename_7 : decode cX3_rename 7 = .ok (.invokestatic 46, 3) := by decide +kernel
theorem dX3_rename_10 : decode cX3_rename 10 = .ok (.aload_n 3, 1) := by decide +kernel
theorem dX3_rename_11 : decode cX3_rename 11 = .ok (.invokestatic 102, 3) := by decide +kernel
theorem dX3_rename_14 : decode cX3_rename 14 = .ok (.aload_n 3, 1) := by decide +kernel
theorem dX3_rename_15 : decode cX3_rename 15 = .ok (.getfield 95, 3) := by decide +kernel
theorem dX3_rename_18 : decode cX3_rename 18 = .ok (.istore 4, 2) := by decide +kernel
theorem dX3_rename_20 : decode cX3_rename 20 = .ok (.aload_n 3, 1) := by decide +kernel
theorem dX3_rename_21 : decode cX3_rename 21 = .ok (.iload_n 2, 1) := by decide +kernel
theorem dX3_rename_22 : decode cX3_rename 22 = .ok (.putfield 95, 3) := by decide +kernel
theorem dX3_rename_25 : decode cX3_rename 25 = .ok (.aload_n 3, 1) := by decide +kernel
theorem dX3_rename_26 : decode cX3_rename 26 = .ok (.iconst 0, 1) := by decide +kernel
theorem dX3_rename_27 : decode cX3_rename 27 = .ok (.putfield 109, 3) := by decide +kernel
theorem dX3_rename_30 : decode cX3_rename 30 = .ok (.iload 4, 2) := by decide +kernel
theorem dX3_rename_32 : decode cX3_rename 32 = .ok (.ireturn, 1) := by decide +kernel
theorem dX3_lose_0 : decode cX3_lose 0 = .ok (.aload_n 0, 1) := by decide +kernel
theorem dX3_lose_1 : decode cX3_lose 1 = .ok (.iload_n 1, 1) := by decide +kernel
theorem dX3_lose_2 : decode cX3_lose 2 = .ok (.invokevirtual 64, 3) := by decide +kernel
theorem dX3_lose_5 : decode cX3_lose 5 = .ok (.astore_n 3, 1) := by decide +kernel
theorem dX3_lose_6 : decode cX3_lose 6 = .ok (.aload_n 3, 1) := by decide +kernel
theorem dX3_lose_7 : decode cX3_lose 7 = .ok (.getfield 109, 3) := by decide +kernel
theorem dX3_lose_10 : decode cX3_lose 10 = .ok (.istore 4, 2) := by decide +kernel
theorem dX3_lose_12 : decode cX3_lose 12 = .ok (.aload_n 3, 1) := by decide +kernel
theorem dX3_lose_13 : decode cX3_lose 13 = .ok (.iload_n 2, 1) := by decide +kernel
theorem dX3_lose_14 : decode cX3_lose 14 = .ok (.putfield 109, 3) := by decide +kernel
theorem dX3_lose_17 : decode cX3_lose 17 = .ok (.iload 4, 2) := by decide +kernel
theorem dX3_lose_19 : decode cX3_lose 19 = .ok (.ireturn, 1) := by decide +kernel
theorem dX3_setPlaces_0 : decode cX3_setPlaces 0 = .ok (.aload_n 0, 1) := by decide +kernel
theorem dX3_setPlaces_1 : decode cX3_setPlaces 1 = .ok (.iload_n 1, 1) := by decide +kernel
theorem dX3_setPlaces_2 : decode cX3_setPlaces 2 = .ok (.invokevirtual 112, 3) := by decide +kernel
theorem dX3_setPlaces_5 : decode cX3_setPlaces 5 = .ok (.astore_n 3, 1) := by decide +kernel
theorem dX3_setPlaces_6 : decode cX3_setPlaces 6 = .ok (.iload_n 2, 1) := by decide +kernel
theorem dX3_setPlaces_7 : decode cX3_setPlaces 7 = .ok (.iconst 1, 1) := by decide +kernel
theorem dX3_setPlaces_8 : decode cX3_setPlaces 8 = .ok (.if_icmp .lt 9, 3) := by decide +kernel
theorem dX3_setPlaces_11 : decode cX3_setPlaces 11 = .ok (.iload_n 2, 1) := by decide +kernel
theorem dX3_setPlaces_12 : decode cX3_setPlaces 12 = .ok (.bipush 6, 2) := by decide +kernel
theorem dX3_setPlaces_14 : decode cX3_setPlaces 14 = .ok (.if_icmp .le 13, 3) := by decide +kernel
theorem dX3_setPlaces_17 : decode cX3_setPlaces 17 = .ok (.new 75, 3) := by decide +kernel
theorem dX3_setPlaces_20 : decode cX3_setPlaces 20 = .ok (.dup, 1) := by decide +kernel
theorem dX3_setPlaces_21 : decode cX3_setPlaces 21 = .ok (.ldc 116, 2) := by decide +kernel
theorem dX3_setPlaces_23 : decode cX3_setPlaces 23 = .ok (.invokespecial 79, 3) := by decide +kernel
theorem dX3_setPlaces_26 : decode cX3_setPlaces 26 = .ok (.athrow, 1) := by decide +kernel
theorem dX3_setPlaces_27 : decode cX3_setPlaces 27 = .ok (.aload_n 0, 1) := by decide +kernel
theorem dX3_setPlaces_28 : decode cX3_setPlaces 28 = .ok (.iload_n 1, 1) := by decide +kernel
theorem dX3_setPlaces_29 : decode cX3_setPlaces 29 = .ok (.invokevirtual 118, 3) := by decide +kernel
theorem dX3_setPlaces_32 : decode cX3_setPlaces 32 = .ok (.iload_n 2, 1) := by decide +kernel
theorem dX3_setPlaces_33 : decode cX3_setPlaces 33 = .ok (.if_icmp .le 13, 3) := by decide +kernel
theorem dX3_setPlaces_36 : decode cX3_setPlaces 36 = .ok (.new 53, 3) := by decide +kernel
theorem dX3_setPlaces_39 : decode cX3_setPlaces 39 = .ok (.dup, 1) := by decide +kernel
theorem dX3_setPlaces_40 : decode cX3_setPlaces 40 = .ok (.ldc 121, 2) := by decide +kernel
theorem dX3_setPlaces_42 : decode cX3_setPlaces 42 = .ok (.invokespecial 57, 3) := by decide +kernel
theorem dX3_setPlaces_45 : decode cX3_setPlaces 45 = .ok (.athrow, 1) := by decide +kernel
theorem dX3_setPlaces_46 : decode cX3_setPlaces 46 = .ok (.aload_n 3, 1) := by decide +kernel
theorem dX3_setPlaces_47 : decode cX3_setPlaces 47 = .ok (.getfield 123, 3) := by decide +kernel
theorem dX3_setPlaces_50 : decode cX3_setPlaces 50 = .ok (.istore 4, 2) := by decide +kernel
theorem dX3_setPlaces_52 : decode cX3_setPlaces 52 = .ok (.aload_n 3, 1) := by decide +kernel
theorem dX3_setPlaces_53 : decode cX3_setPlaces 53 = .ok (.iload_n 2, 1) := by decide +kernel
theorem dX3_setPlaces_54 : decode cX3_setPlaces 54 = .ok (.putfield 123, 3) := by decide +kernel
theorem dX3_setPlaces_57 : decode cX3_setPlaces 57 = .ok (.iload 4, 2) := by decide +kernel
theorem dX3_setPlaces_59 : decode cX3_setPlaces 59 = .ok (.ireturn, 1) := by decide +kernel
theorem dX3_setHours_0 : decode cX3_setHours 0 = .ok (.aload_n 0, 1) := by decide +kernel
theorem dX3_setHours_1 : decode cX3_setHours 1 = .ok (.iload_n 1, 1) := by decide +kernel
theorem dX3_setHours_2 : decode cX3_setHours 2 = .ok (.invokevirtual 112, 3) := by decide +kernel
theorem dX3_setHours_5 : decode cX3_setHours 5 = .ok (.astore 4, 2) := by decide +kernel
theorem dX3_setHours_7 : decode cX3_setHours 7 = .ok (.iload_n 2, 1) := by decide +kernel
theorem dX3_setHours_8 : decode cX3_setHours 8 = .ok (.ifCond .lt 19, 3) := by decide +kernel
theorem dX3_setHours_11 : decode cX3_setHours 11 = .ok (.iload_n 2, 1) := by decide +kernel
theorem dX3_setHours_12 : decode cX3_setHours 12 = .ok (.bipush 24, 2) := by decide +kernel
theorem dX3_setHours_14 : decode cX3_setHours 14 = .ok (.if_icmp .ge 13, 3) := by decide +kernel
theorem dX3_setHours_17 : decode cX3_setHours 17 = .ok (.iload_n 3, 1) := by decide +kernel
theorem dX3_setHours_18 : decode cX3_setHours 18 = .ok (.ifCond .lt 9, 3) := by decide +kernel
theorem dX3_setHours_21 : decode cX3_setHours 21 = .ok (.iload_n 3, 1) := by decide +kernel
theorem dX3_setHours_22 : decode cX3_setHours 22 = .ok (.bipush 24, 2) := by decide +kernel
theorem dX3_setHours_24 : decode cX3_setHours 24 = .ok (.if_icmp .le 13, 3) := by decide +kernel
theorem dX3_setHours_27 : decode cX3_setHours 27 = .ok (.new 75, 3) := by decide +kernel
theorem dX3_setHours_30 : decode cX3_setHours 30 = .ok (.dup, 1) := by decide +kernel
theorem dX3_setHours_31 : decode cX3_setHours 31 = .ok (.ldc 126, 2) := by decide +kernel
theorem dX3_setHours_33 : decode cX3_setHours 33 = .ok (.invokespecial 79, 3) := by decide +kernel
theorem dX3_setHours_36 : decode cX3_setHours 36 = .ok (.athrow, 1) := by decide +kernel
theorem dX3_setHours_37 : decode cX3_setHours 37 = .ok (.bipush 25, 2) := by decide +kernel
theorem dX3_setHours_39 : decode cX3_setHours 39 = .ok (.aload 4, 2) := by decide +kernel
theorem dX3_setHours_41 : decode cX3_setHours 41 = .ok (.getfield 128, 3) := by decide +kernel
theorem dX3_setHours_44 : decode cX3_setHours 44 = .ok (.imul, 1) := by decide +kernel
theorem dX3_setHours_45 : decode cX3_setHours 45 = .ok (.aload 4, 2) := by decide +kernel
theorem dX3_setHours_47 : decode cX3_setHours 47 = .ok (.getfield 131, 3) := by decide +kernel
theorem dX3_setHours_50 : decode cX3_setHours 50 = .ok (.iadd, 1) := by decide +kernel
theorem dX3_setHours_51 : decode cX3_setHours 51 = .ok (.istore 5, 2) := by decide +kernel
theorem dX3_setHours_53 : decode cX3_setHours 53 = .ok (.aload 4, 2) := by decide +kernel
theorem dX3_setHours_55 : decode cX3_setHours 55 = .ok (.iload_n 2, 1) := by decide +kernel
theorem dX3_setHours_56 : decode cX3_setHours 56 = .ok (.putfield 128, 3) := by decide +kernel
theorem dX3_setHours_59 : decode cX3_setHours 59 = .ok (.aload 4, 2) := by decide +kernel
theorem dX3_setHours_61 : decode cX3_setHours 61 = .ok (.iload_n 3, 1) := by decide +kernel
theorem dX3_setHours_62 : decode cX3_setHours 62 = .ok (.putfield 131, 3) := by decide +kernel
theorem dX3_setHours_65 : decode cX3_setHours 65 = .ok (.iload 5, 2) := by decide +kernel
theorem dX3_setHours_67 : decode cX3_setHours 67 = .ok (.ireturn, 1) := by decide +kernel
theorem dX3_put_0 : decode cX3_put 0 = .ok (.aload_n 0, 1) := by decide +kernel
theorem dX3_put_1 : decode cX3_put 1 = .ok (.iload_n 1, 1) := by decide +kernel
theorem dX3_put_2 : decode cX3_put 2 = .ok (.invokevirtual 64, 3) := by decide +kernel
theorem dX3_put_5 : decode cX3_put 5 = .ok (.astore_n 3, 1) := by decide +kernel
theorem dX3_put_6 : decode cX3_put 6 = .ok (.iload_n 2, 1) := by decide +kernel
theorem dX3_put_7 : decode cX3_put 7 = .ok (.iconst (-1), 1) := by decide +kernel
theorem dX3_put_8 : decode cX3_put 8 = .ok (.if_icmp .eq 21, 3) := by decide +kernel
theorem dX3_put_11 : decode cX3_put 11 = .ok (.aload_n 0, 1) := by decide +kernel
theorem dX3_put_12 : decode cX3_put 12 = .ok (.iload_n 2, 1) := by decide +kernel
theorem dX3_put_13 : decode cX3_put 13 = .ok (.invokevirtual 134, 3) := by decide +kernel
theorem dX3_put_16 : decode cX3_put 16 = .ok (.ifCond .ne 13, 3) := by decide +kernel
theorem dX3_put_19 : decode cX3_put 19 = .ok (.new 137, 3) := by decide +kernel
theorem dX3_put_22 : decode cX3_put 22 = .ok (.dup, 1) := by decide +kernel
theorem dX3_put_23 : decode cX3_put 23 = .ok (.ldc 139, 2) := by decide +kernel
theorem dX3_put_25 : decode cX3_put 25 = .ok (.invokespecial 141, 3) := by decide +kernel
theorem dX3_put_28 : decode cX3_put 28 = .ok (.athrow, 1) := by decide +kernel
theorem dX3_put_29 : decode cX3_put 29 = .ok (.aload_n 3, 1) := by decide +kernel
theorem dX3_put_30 : decode cX3_put 30 = .ok (.getfield 142, 3) := by decide +kernel
theorem dX3_put_33 : decode cX3_put 33 = .ok (.istore 4, 2) := by decide +kernel
theorem dX3_put_35 : decode cX3_put 35 = .ok (.iload_n 2, 1) := by decide +kernel
theorem dX3_put_36 : decode cX3_put 36 = .ok (.iload 4, 2) := by decide +kernel
theorem dX3_put_38 : decode cX3_put 38 = .ok (.if_icmp .ne 6, 3) := by decide +kernel
theorem dX3_put_41 : decode cX3_put 41 = .ok (.iload 4, 2) := by decide +kernel
theorem dX3_put_43 : decode cX3_put 43 = .ok (.ireturn, 1) := by decide +kernel
theorem dX3_put_44 : decode cX3_put 44 = .ok (.aload_n 3, 1) := by decide +kernel
theorem dX3_put_45 : decode cX3_put 45 = .ok (.invokestatic 102, 3) := by decide +kernel
theorem dX3_put_48 : decode cX3_put 48 = .ok (.iload_n 2, 1) := by decide +kernel
theorem dX3_put_49 : decode cX3_put 49 = .ok (.iconst (-1), 1) := by decide +kernel
theorem dX3_put_50 : decode cX3_put 50 = .ok (.if_icmp .eq 21, 3) := by decide +kernel
theorem dX3_put_53 : decode cX3_put 53 = .ok (.aload_n 0, 1) := by decide +kernel
theorem dX3_put_54 : decode cX3_put 54 = .ok (.iload_n 2, 1) := by decide +kernel
theorem dX3_put_55 : decode cX3_put 55 = .ok (.invokevirtual 145, 3) := by decide +kernel
theorem dX3_put_58 : decode cX3_put 58 = .ok (.ifCond .ne 13, 3) := by decide +kernel
theorem dX3_put_61 : decode cX3_put 61 = .ok (.new 53, 3) := by decide +kernel
theorem dX3_put_64 : decode cX3_put 64 = .ok (.dup, 1) := by decide +kernel
theorem dX3_put_65 : decode cX3_put 65 = .ok (.ldc 148, 2) := by decide +kernel
theorem dX3_put_67 : decode cX3_put 67 = .ok (.invokespecial 57, 3) := by decide +kernel
theorem dX3_put_70 : decode cX3_put 70 = .ok (.athrow, 1) := by decide +kernel
theorem dX3_put_71 : decode cX3_put 71 = .ok (.aload_n 3, 1) := by decide +kernel
theorem dX3_put_72 : decode cX3_put 72 = .ok (.iload_n 2, 1) := by decide +kernel
theorem dX3_put_73 : decode cX3_put 73 = .ok (.putfield 142, 3) := by decide +kernel
theorem dX3_put_76 : decode cX3_put 76 = .ok (.iload 4, 2) := by decide +kernel
theorem dX3_put_78 : decode cX3_put 78 = .ok (.ireturn, 1) := by decide +kernel
theorem dX3_told_0 : decode cX3_told 0 = .ok (.aload_n 0, 1) := by decide +kernel
theorem dX3_told_1 : decode cX3_told 1 = .ok (.iload_n 1, 1) := by decide +kernel
theorem dX3_told_2 : decode cX3_told 2 = .ok (.invokevirtual 64, 3) := by decide +kernel
theorem dX3_told_5 : decode cX3_told 5 = .ok (.astore_n 3, 1) := by decide +kernel
theorem dX3_told_6 : decode cX3_told 6 = .ok (.iload_n 2, 1) := by decide +kernel
theorem dX3_told_7 : decode cX3_told 7 = .ok (.tableswitch 94 0 5 #[37, 42, 55, 60, 73, 78], 37) := by decide +kernel
theorem dX3_told_44 : decode cX3_told 44 = .ok (.aload_n 3, 1) := by decide +kernel
theorem dX3_told_45 : decode cX3_told 45 = .ok (.invokevirtual 92, 3) := by decide +kernel
theorem dX3_told_48 : decode cX3_told 48 = .ok (.ireturn, 1) := by decide +kernel
theorem dX3_told_49 : decode cX3_told 49 = .ok (.aload_n 3, 1) := by decide +kernel
theorem dX3_told_50 : decode cX3_told 50 = .ok (.getfield 98, 3) := by decide +kernel
theorem dX3_told_53 : decode cX3_told 53 = .ok (.ifCond .eq 7, 3) := by decide +kernel
theorem dX3_told_56 : decode cX3_told 56 = .ok (.iconst 1, 1) := by decide +kernel
theorem dX3_told_57 : decode cX3_told 57 = .ok (.goto 4, 3) := by decide +kernel
theorem dX3_told_60 : decode cX3_told 60 = .ok (.iconst 0, 1) := by decide +kernel
theorem dX3_told_61 : decode cX3_told 61 = .ok (.ireturn, 1) := by decide +kernel
theorem dX3_told_62 : decode cX3_told 62 = .ok (.aload_n 3, 1) := by decide +kernel
theorem dX3_told_63 : decode cX3_told 63 = .ok (.getfield 142, 3) := by decide +kernel
theorem dX3_told_66 : decode cX3_told 66 = .ok (.ireturn, 1) := by decide +kernel
theorem dX3_told_67 : decode cX3_told 67 = .ok (.aload_n 3, 1) := by decide +kernel
theorem dX3_told_68 : decode cX3_told 68 = .ok (.getfield 109, 3) := by decide +kernel
theorem dX3_told_71 : decode cX3_told 71 = .ok (.ifCond .eq 7, 3) := by decide +kernel
theorem dX3_told_74 : decode cX3_told 74 = .ok (.iconst 1, 1) := by decide +kernel
theorem dX3_told_75 : decode cX3_told 75 = .ok (.goto 4, 3) := by decide +kernel
theorem dX3_told_78 : decode cX3_told 78 = .ok (.iconst 0, 1) := by decide +kernel
theorem dX3_told_79 : decode cX3_told 79 = .ok (.ireturn, 1) := by decide +kernel
theorem dX3_told_80 : decode cX3_told 80 = .ok (.aload_n 3, 1) := by decide +kernel
theorem dX3_told_81 : decode cX3_told 81 = .ok (.invokevirtual 150, 3) := by decide +kernel
theorem dX3_told_84 : decode cX3_told 84 = .ok (.ireturn, 1) := by decide +kernel
theorem dX3_told_85 : decode cX3_told 85 = .ok (.aload_n 3, 1) := by decide +kernel
theorem dX3_told_86 : decode cX3_told 86 = .ok (.getfield 109, 3) := by decide +kernel
theorem dX3_told_89 : decode cX3_told 89 = .ok (.ifCond .eq 7, 3) := by decide +kernel
theorem dX3_told_92 : decode cX3_told 92 = .ok (.iconst (-1), 1) := by decide +kernel
theorem dX3_told_93 : decode cX3_told 93 = .ok (.goto 7, 3) := by decide +kernel
theorem dX3_told_96 : decode cX3_told 96 = .ok (.aload_n 3, 1) := by decide +kernel
theorem dX3_told_97 : decode cX3_told 97 = .ok (.getfield 95, 3) := by decide +kernel
theorem dX3_told_100 : decode cX3_told 100 = .ok (.ireturn, 1) := by decide +kernel
theorem dX3_told_101 : decode cX3_told 101 = .ok (.new 137, 3) := by decide +kernel
theorem dX3_told_104 : decode cX3_told 104 = .ok (.dup, 1) := by decide +kernel
theorem dX3_told_105 : decode cX3_told 105 = .ok (.ldc 153, 2) := by decide +kernel
theorem dX3_told_107 : decode cX3_told 107 = .ok (.invokespecial 141, 3) := by decide +kernel
theorem dX3_told_110 : decode cX3_told 110 = .ok (.athrow, 1) := by decide +kernel
theorem dX3_wear_0 : decode cX3_wear 0 = .ok (.aload_n 0, 1) := by decide +kernel
theorem dX3_wear_1 : decode cX3_wear 1 = .ok (.iload_n 1, 1) := by decide +kernel
theorem dX3_wear_2 : decode cX3_wear 2 = .ok (.invokevirtual 64, 3) := by decide +kernel
theorem dX3_wear_5 : decode cX3_wear 5 = .ok (.astore 4, 2) := by decide +kernel
theorem dX3_wear_7 : decode cX3_wear 7 = .ok (.iload_n 2, 1) := by decide +kernel
theorem dX3_wear_8 : decode cX3_wear 8 = .ok (.invokestatic 68, 3) := by decide +kernel
theorem dX3_wear_11 : decode cX3_wear 11 = .ok (.iload_n 3, 1) := by decide +kernel
theorem dX3_wear_12 : decode cX3_wear 12 = .ok (.invokestatic 71, 3) := by decide +kernel
theorem dX3_wear_15 : decode cX3_wear 15 = .ok (.ifCond .ne 13, 3) := by decide +kernel
theorem dX3_wear_18 : decode cX3_wear 18 = .ok (.new 137, 3) := by decide +kernel
theorem dX3_wear_21 : decode cX3_wear 21 = .ok (.dup, 1) := by decide +kernel
theorem dX3_wear_22 : decode cX3_wear 22 = .ok (.ldc 77, 2) := by decide +kernel
theorem dX3_wear_24 : decode cX3_wear 24 = .ok (.invokespecial 141, 3) := by decide +kernel
theorem dX3_wear_27 : decode cX3_wear 27 = .ok (.athrow, 1) := by decide +kernel
theorem dX3_wear_28 : decode cX3_wear 28 = .ok (.aload 4, 2) := by decide +kernel
theorem dX3_wear_30 : decode cX3_wear 30 = .ok (.iload_n 2, 1) := by decide +kernel
theorem dX3_wear_31 : decode cX3_wear 31 = .ok (.iload_n 3, 1) := by decide +kernel
theorem dX3_wear_32 : decode cX3_wear 32 = .ok (.invokevirtual 155, 3) := by decide +kernel
theorem dX3_wear_35 : decode cX3_wear 35 = .ok (.ireturn, 1) := by decide +kernel
theorem dX3_rack_0 : decode cX3_rack 0 = .ok (.aload_n 0, 1) := by decide +kernel
theorem dX3_rack_1 : decode cX3_rack 1 = .ok (.iload_n 1, 1) := by decide +kernel
theorem dX3_rack_2 : decode cX3_rack 2 = .ok (.invokevirtual 112, 3) := by decide +kernel
theorem dX3_rack_5 : decode cX3_rack 5 = .ok (.astore_n 3, 1) := by decide +kernel
theorem dX3_rack_6 : decode cX3_rack 6 = .ok (.iload_n 2, 1) := by decide +kernel
theorem dX3_rack_7 : decode cX3_rack 7 = .ok (.tableswitch 81 0 5 #[37, 42, 48, 65, 71, 76], 37) := by decide +kernel
theorem dX3_rack_44 : decode cX3_rack 44 = .ok (.aload_n 3, 1) := by decide +kernel
theorem dX3_rack_45 : decode cX3_rack 45 = .ok (.getfield 123, 3) := by decide +kernel
theorem dX3_rack_48 : decode cX3_rack 48 = .ok (.ireturn, 1) := by decide +kernel
theorem dX3_rack_49 : decode cX3_rack 49 = .ok (.aload_n 0, 1) := by decide +kernel
theorem dX3_rack_50 : decode cX3_rack 50 = .ok (.iload_n 1, 1) := by decide +kernel
theorem dX3_rack_51 : decode cX3_rack 51 = .ok (.invokevirtual 118, 3) := by decide +kernel
theorem dX3_rack_54 : decode cX3_rack 54 = .ok (.ireturn, 1) := by decide +kernel
theorem dX3_rack_55 : decode cX3_rack 55 = .ok (.aload_n 3, 1) := by decide +kernel
theorem dX3_rack_56 : decode cX3_rack 56 = .ok (.aload_n 0, 1) := by decide +kernel
theorem dX3_rack_57 : decode cX3_rack 57 = .ok (.getfield 39, 3) := by decide +kernel
theorem dX3_rack_60 : decode cX3_rack 60 = .ok (.invokevirtual 158, 3) := by decide +kernel
theorem dX3_rack_63 : decode cX3_rack 63 = .ok (.ifCond .eq 7, 3) := by decide +kernel
theorem dX3_rack_66 : decode cX3_rack 66 = .ok (.iconst 1, 1) := by decide +kernel
theorem dX3_rack_67 : decode cX3_rack 67 = .ok (.goto 4, 3) := by decide +kernel
theorem dX3_rack_70 : decode cX3_rack 70 = .ok (.iconst 0, 1) := by decide +kernel
theorem dX3_rack_71 : decode cX3_rack 71 = .ok (.ireturn, 1) := by decide +kernel
theorem dX3_rack_72 : decode cX3_rack 72 = .ok (.aload_n 0, 1) := by decide +kernel
theorem dX3_rack_73 : decode cX3_rack 73 = .ok (.iload_n 1, 1) := by decide +kernel
theorem dX3_rack_74 : decode cX3_rack 74 = .ok (.invokevirtual 161, 3) := by decide +kernel
theorem dX3_rack_77 : decode cX3_rack 77 = .ok (.ireturn, 1) := by decide +kernel
theorem dX3_rack_78 : decode cX3_rack 78 = .ok (.aload_n 3, 1) := by decide +kernel
theorem dX3_rack_79 : decode cX3_rack 79 = .ok (.getfield 128, 3) := by decide +kernel
theorem dX3_rack_82 : decode cX3_rack 82 = .ok (.ireturn, 1) := by decide +kernel
theorem dX3_rack_83 : decode cX3_rack 83 = .ok (.aload_n 3, 1) := by decide +kernel
theorem dX3_rack_84 : decode cX3_rack 84 = .ok (.getfield 131, 3) := by decide +kernel
theorem dX3_rack_87 : decode cX3_rack 87 = .ok (.ireturn, 1) := by decide +kernel
theorem dX3_rack_88 : decode cX3_rack 88 = .ok (.new 137, 3) := by decide +kernel
theorem dX3_rack_91 : decode cX3_rack 91 = .ok (.dup, 1) := by decide +kernel
theorem dX3_rack_92 : decode cX3_rack 92 = .ok (.ldc 153, 2) := by decide +kernel
theorem dX3_rack_94 : decode cX3_rack 94 = .ok (.invokespecial 141, 3) := by decide +kernel
theorem dX3_rack_97 : decode cX3_rack 97 = .ok (.athrow, 1) := by decide +kernel
theorem dX3_count_0 : decode cX3_count 0 = .ok (.iload_n 1, 1) := by decide +kernel
theorem dX3_count_1 : decode cX3_count 1 = .ok (.tableswitch 81 0 6 #[43, 48, 56, 61, 66, 71, 76], 43) := by decide +kernel
theorem dX3_count_44 : decode cX3_count 44 = .ok (.aload_n 0, 1) := by decide +kernel
theorem dX3_count_45 : decode cX3_count 45 = .ok (.getfield 39, 3) := by decide +kernel
theorem dX3_count_48 : decode cX3_count 48 = .ok (.ireturn, 1) := by decide +kernel
theorem dX3_count_49 : decode cX3_count 49 = .ok (.aload_n 0, 1) := by decide +kernel
theorem dX3_count_50 : decode cX3_count 50 = .ok (.getfield 10, 3) := by decide +kernel
theorem dX3_count_53 : decode cX3_count 53 = .ok (.invokevirtual 49, 3) := by decide +kernel
theorem dX3_count_56 : decode cX3_count 56 = .ok (.ireturn, 1) := by decide +kernel
theorem dX3_count_57 : decode cX3_count 57 = .ok (.aload_n 0, 1) := by decide +kernel
theorem dX3_count_58 : decode cX3_count 58 = .ok (.invokevirtual 164, 3) := by decide +kernel
theorem dX3_count_61 : decode cX3_count 61 = .ok (.ireturn, 1) := by decide +kernel
theorem dX3_count_62 : decode cX3_count 62 = .ok (.aload_n 0, 1) := by decide +kernel
theorem dX3_count_63 : decode cX3_count 63 = .ok (.invokevirtual 167, 3) := by decide +kernel
theorem dX3_count_66 : decode cX3_count 66 = .ok (.ireturn, 1) := by decide +kernel
theorem dX3_count_67 : decode cX3_count 67 = .ok (.aload_n 0, 1) := by decide +kernel
theorem dX3_count_68 : decode cX3_count 68 = .ok (.invokevirtual 170, 3) := by decide +kernel
theorem dX3_count_71 : decode cX3_count 71 = .ok (.ireturn, 1) := by decide +kernel
theorem dX3_count_72 : decode cX3_count 72 = .ok (.aload_n 0, 1) := by decide +kernel
theorem dX3_count_73 : decode cX3_count 73 = .ok (.getfield 43, 3) := by decide +kernel
theorem dX3_count_76 : decode cX3_count 76 = .ok (.ireturn, 1) := by decide +kernel
theorem dX3_count_77 : decode cX3_count 77 = .ok (.aload_n 0, 1) := by decide +kernel
theorem dX3_count_78 : decode cX3_count 78 = .ok (.invokevirtual 173, 3) := by decide +kernel
theorem dX3_count_81 : decode cX3_count 81 = .ok (.ireturn, 1) := by decide +kernel
theorem dX3_count_82 : decode cX3_count 82 = .ok (.new 137, 3) := by decide +kernel
theorem dX3_count_85 : decode cX3_count 85 = .ok (.dup, 1) := by decide +kernel
theorem dX3_count_86 : decode cX3_count 86 = .ok (.ldc 176, 2) := by decide +kernel
theorem dX3_count_88 : decode cX3_count 88 = .ok (.invokespecial 141, 3) := by decide +kernel
theorem dX3_count_91 : decode cX3_count 91 = .ok (.athrow, 1) := by decide +kernel
theorem dX3_trial_0 : decode cX3_trial 0 = .ok (.aload_n 0, 1) := by decide +kernel
theorem dX3_trial_1 : decode cX3_trial 1 = .ok (.iload_n 1, 1) := by decide +kernel
theorem dX3_trial_2 : decode cX3_trial 2 = .ok (.invokevirtual 64, 3) := by decide +kernel
theorem dX3_trial_5 : decode cX3_trial 5 = .ok (.astore_n 3, 1) := by decide +kernel
theorem dX3_trial_6 : decode cX3_trial 6 = .ok (.iload_n 2, 1) := by decide +kernel
theorem dX3_trial_7 : decode cX3_trial 7 = .ok (.invokestatic 46, 3) := by decide +kernel
theorem dX3_trial_10 : decode cX3_trial 10 = .ok (.aload_n 0, 1) := by decide +kernel
theorem dX3_trial_11 : decode cX3_trial 11 = .ok (.getfield 26, 3) := by decide +kernel
theorem dX3_trial_14 : decode cX3_trial 14 = .ok (.aload_n 3, 1) := by decide +kernel
theorem dX3_trial_15 : decode cX3_trial 15 = .ok (.iload_n 2, 1) := by decide +kernel
theorem dX3_trial_16 : decode cX3_trial 16 = .ok (.invokevirtual 181, 3) := by decide +kernel
theorem dX3_trial_19 : decode cX3_trial 19 = .ok (.ireturn, 1) := by decide +kernel
theorem dX3_safe_0 : decode cX3_safe 0 = .ok (.aload_n 0, 1) := by decide +kernel
theorem dX3_safe_1 : decode cX3_safe 1 = .ok (.iload_n 1, 1) := by decide +kernel
theorem dX3_safe_2 : decode cX3_safe 2 = .ok (.invokevirtual 64, 3) := by decide +kernel
theorem dX3_safe_5 : decode cX3_safe 5 = .ok (.astore_n 2, 1) := by decide +kernel
theorem dX3_safe_6 : decode cX3_safe 6 = .ok (.aload_n 0, 1) := by decide +kernel
theorem dX3_safe_7 : decode cX3_safe 7 = .ok (.getfield 26, 3) := by decide +kernel
theorem dX3_safe_10 : decode cX3_safe 10 = .ok (.aload_n 2, 1) := by decide +kernel
theorem dX3_safe_11 : decode cX3_safe 11 = .ok (.aload_n 2, 1) := by decide +kernel
theorem dX3_safe_12 : decode cX3_safe 12 = .ok (.getfield 95, 3) := by decide +kernel
theorem dX3_safe_15 : decode cX3_safe 15 = .ok (.invokevirtual 181, 3) := by decide +kernel
theorem dX3_safe_18 : decode cX3_safe 18 = .ok (.ireturn, 1) := by decide +kernel
theorem dX3_pass_0 : decode cX3_pass 0 = .ok (.iload_n 1, 1) := by decide +kernel
theorem dX3_pass_1 : decode cX3_pass 1 = .ok (.invokestatic 185, 3) := by decide +kernel
theorem dX3_pass_4 : decode cX3_pass 4 = .ok (.iconst 0, 1) := by decide +kernel
theorem dX3_pass_5 : decode cX3_pass 5 = .ok (.istore_n 2, 1) := by decide +kernel
theorem dX3_pass_6 : decode cX3_pass 6 = .ok (.iconst 0, 1) := by decide +kernel
theorem dX3_pass_7 : decode cX3_pass 7 = .ok (.istore_n 3, 1) := by decide +kernel
theorem dX3_pass_8 : decode cX3_pass 8 = .ok (.iload_n 3, 1) := by decide +kernel
theorem dX3_pass_9 : decode cX3_pass 9 = .ok (.iload_n 1, 1) := by decide +kernel
theorem dX3_pass_10 : decode cX3_pass 10 = .ok (.if_icmp .ge 66, 3) := by decide +kernel
theorem dX3_pass_13 : decode cX3_pass 13 = .ok (.iconst 0, 1) := by decide +kernel
theorem dX3_pass_14 : decode cX3_pass 14 = .ok (.istore 4, 2) := by decide +kernel
theorem dX3_pass_16 : decode cX3_pass 16 = .ok (.iload 4, 2) := by decide +kernel
theorem dX3_pass_18 : decode cX3_pass 18 = .ok (.aload_n 0, 1) := by decide +kernel
theorem dX3_pass_19 : decode cX3_pass 19 = .ok (.getfield 10, 3) := by decide +kernel
theorem dX3_pass_22 : decode cX3_pass 22 = .ok (.invokevirtual 49, 3) := by decide +kernel
theorem dX3_pass_25 : decode cX3_pass 25 = .ok (.if_icmp .ge 35, 3) := by decide +kernel
theorem dX3_pass_28 : decode cX3_pass 28 = .ok (.aload_n 0, 1) := by decide +kernel
theorem dX3_pass_29 : decode cX3_pass 29 = .ok (.aload_n 0, 1) := by decide +kernel
theorem dX3_pass_30 : decode cX3_pass 30 = .ok (.getfield 10, 3) := by decide +kernel
theorem dX3_pass_33 : decode cX3_pass 33 = .ok (.iload 4, 2) := by decide +kernel
theorem dX3_pass_35 : decode cX3_pass 35 = .ok (.invokevirtual 188, 3) := by decide +kernel
theorem dX3_pass_38 : decode cX3_pass 38 = .ok (.checkcast 30, 3) := by decide +kernel
theorem dX3_pass_41 : decode cX3_pass 41 = .ok (.aload_n 0, 1) := by decide +kernel
theorem dX3_pass_42 : decode cX3_pass 42 = .ok (.getfield 39, 3) := by decide +kernel
theorem dX3_pass_45 : decode cX3_pass 45 = .ok (.invokevirtual 192, 3) := by decide +kernel
theorem dX3_pass_48 : decode cX3_pass 48 = .ok (.ifCond .eq 6, 3) := by decide +kernel
theorem dX3_pass_51 : decode cX3_pass 51 = .ok (.iinc 2 1, 3) := by decide +kernel
theorem dX3_pass_54 : decode cX3_pass 54 = .ok (.iinc 4 1, 3) := by decide +kernel
theorem dX3_pass_57 : decode cX3_pass 57 = .ok (.goto (-41), 3) := by decide +kernel
theorem dX3_pass_60 : decode cX3_pass 60 = .ok (.aload_n 0, 1) := by decide +kernel
theorem dX3_pass_61 : decode cX3_pass 61 = .ok (.dup, 1) := by decide +kernel
theorem dX3_pass_62 : decode cX3_pass 62 = .ok (.getfield 39, 3) := by decide +kernel
theorem dX3_pass_65 : decode cX3_pass 65 = .ok (.iconst 1, 1) := by decide +kernel
theorem dX3_pass_66 : decode cX3_pass 66 = .ok (.iadd, 1) := by decide +kernel
theorem dX3_pass_67 : decode cX3_pass 67 = .ok (.putfield 39, 3) := by decide +kernel
theorem dX3_pass_70 : decode cX3_pass 70 = .ok (.iinc 3 1, 3) := by decide +kernel
theorem dX3_pass_73 : decode cX3_pass 73 = .ok (.goto (-65), 3) := by decide +kernel
theorem dX3_pass_76 : decode cX3_pass 76 = .ok (.iload_n 2, 1) := by decide +kernel
theorem dX3_pass_77 : decode cX3_pass 77 = .ok (.ireturn, 1) := by decide +kernel
theorem dX3_mean_0 : decode cX3_mean 0 = .ok (.aload_n 0, 1) := by decide +kernel
theorem dX3_mean_1 : decode cX3_mean 1 = .ok (.getfield 10, 3) := by decide +kernel
theorem dX3_mean_4 : decode cX3_mean 4 = .ok (.invokevirtual 49, 3) := by decide +kernel
theorem dX3_mean_7 : decode cX3_mean 7 = .ok (.iconst 4, 1) := by decide +kernel
theorem dX3_mean_8 : decode cX3_mean 8 = .ok (.imul, 1) := by decide +kernel
theorem dX3_mean_9 : decode cX3_mean 9 = .ok (.bipush 6, 2) := by decide +kernel
theorem dX3_mean_11 : decode cX3_mean 11 = .ok (.imul, 1) := by decide +kernel
theorem dX3_mean_12 : decode cX3_mean 12 = .ok (.istore_n 1, 1) := by decide +kernel
theorem dX3_mean_13 : decode cX3_mean 13 = .ok (.iload_n 1, 1) := by decide +kernel
theorem dX3_mean_14 : decode cX3_mean 14 = .ok (.ifCond .ne 5, 3) := by decide +kernel
theorem dX3_mean_17 : decode cX3_mean 17 = .ok (.dconst 0, 1) := by decide +kernel
theorem dX3_mean_18 : decode cX3_mean 18 = .ok (.dreturn, 1) := by decide +kernel
theorem dX3_mean_19 : decode cX3_mean 19 = .ok (.aload_n 0, 1) := by decide +kernel
theorem dX3_mean_20 : decode cX3_mean 20 = .ok (.invokevirtual 170, 3) := by decide +kernel
theorem dX3_mean_23 : decode cX3_mean 23 = .ok (.i2d, 1) := by decide +kernel
theorem dX3_mean_24 : decode cX3_mean 24 = .ok (.iload_n 1, 1) := by decide +kernel
theorem dX3_mean_25 : decode cX3_mean 25 = .ok (.i2d, 1) := by decide +kernel
theorem dX3_mean_26 : decode cX3_mean 26 = .ok (.ddiv, 1) := by decide +kernel
theorem dX3_mean_27 : decode cX3_mean 27 = .ok (.dreturn, 1) := by decide +kernel
theorem dX3_lockAt_0 : decode cX3_lockAt 0 = .ok (.iload_n 1, 1) := by decide +kernel
theorem dX3_lockAt_1 : decode cX3_lockAt 1 = .ok (.ifCond .lt 14, 3) := by decide +kernel
theorem dX3_lockAt_4 : decode cX3_lockAt 4 = .ok (.iload_n 1, 1) := by decide +kernel
theorem dX3_lockAt_5 : decode cX3_lockAt 5 = .ok (.aload_n 0, 1) := by decide +kernel
theorem dX3_lockAt_6 : decode cX3_lockAt 6 = .ok (.getfield 10, 3) := by decide +kernel
theorem dX3_lockAt_9 : decode cX3_lockAt 9 = .ok (.invokevirtual 49, 3) := by decide +kernel
theorem dX3_lockAt_12 : decode cX3_lockAt 12 = .ok (.if_icmp .lt 13, 3) := by decide +kernel
theorem dX3_lockAt_15 : decode cX3_lockAt 15 = .ok (.new 137, 3) := by decide +kernel
theorem dX3_lockAt_18 : decode cX3_lockAt 18 = .ok (.dup, 1) := by decide +kernel
theorem dX3_lockAt_19 : decode cX3_lockAt 19 = .ok (.ldc 226, 2) := by decide +kernel
theorem dX3_lockAt_21 : decode cX3_lockAt 21 = .ok (.invokespecial 141, 3) := by decide +kernel
theorem dX3_lockAt_24 : decode cX3_lockAt 24 = .ok (.athrow, 1) := by decide +kernel
theorem dX3_lockAt_25 : decode cX3_lockAt 25 = .ok (.aload_n 0, 1) := by decide +kernel
theorem dX3_lockAt_26 : decode cX3_lockAt 26 = .ok (.getfield 10, 3) := by decide +kernel
theorem dX3_lockAt_29 : decode cX3_lockAt 29 = .ok (.iload_n 1, 1) := by decide +kernel
theorem dX3_lockAt_30 : decode cX3_lockAt 30 = .ok (.invokevirtual 188, 3) := by decide +kernel
theorem dX3_lockAt_33 : decode cX3_lockAt 33 = .ok (.checkcast 30, 3) := by decide +kernel
theorem dX3_lockAt_36 : decode cX3_lockAt 36 = .ok (.areturn, 1) := by decide +kernel
theorem dX3_rackAt_0 : decode cX3_rackAt 0 = .ok (.aload_n 0, 1) := by decide +kernel
theorem dX3_rackAt_1 : decode cX3_rackAt 1 = .ok (.iload_n 1, 1) := by decide +kernel
theorem dX3_rackAt_2 : decode cX3_rackAt 2 = .ok (.invokevirtual 134, 3) := by decide +kernel
theorem dX3_rackAt_5 : decode cX3_rackAt 5 = .ok (.ifCond .ne 13, 3) := by decide +kernel
theorem dX3_rackAt_8 : decode cX3_rackAt 8 = .ok (.new 137, 3) := by decide +kernel
theorem dX3_rackAt_11 : decode cX3_rackAt 11 = .ok (.dup, 1) := by decide +kernel
theorem dX3_rackAt_12 : decode cX3_rackAt 12 = .ok (.ldc 139, 2) := by decide +kernel
theorem dX3_rackAt_14 : decode cX3_rackAt 14 = .ok (.invokespecial 141, 3) := by decide +kernel
theorem dX3_rackAt_17 : decode cX3_rackAt 17 = .ok (.athrow, 1) := by decide +kernel
theorem dX3_rackAt_18 : decode cX3_rackAt 18 = .ok (.aload_n 0, 1) := by decide +kernel
theorem dX3_rackAt_19 : decode cX3_rackAt 19 = .ok (.getfield 18, 3) := by decide +kernel
theorem dX3_rackAt_22 : decode cX3_rackAt 22 = .ok (.iload_n 1, 1) := by decide +kernel
theorem dX3_rackAt_23 : decode cX3_rackAt 23 = .ok (.aaload, 1) := by decide +kernel
theorem dX3_rackAt_24 : decode cX3_rackAt 24 = .ok (.areturn, 1) := by decide +kernel
theorem dX3_requireRing_0 : decode cX3_requireRing 0 = .ok (.iload_n 0, 1) := by decide +kernel
theorem dX3_requireRing_1 : decode cX3_requireRing 1 = .ok (.invokestatic 228, 3) := by decide +kernel
theorem dX3_requireRing_4 : decode cX3_requireRing 4 = .ok (.ifCond .ne 13, 3) := by decide +kernel
theorem dX3_requireRing_7 : decode cX3_requireRing 7 = .ok (.new 137, 3) := by decide +kernel
theorem dX3_requireRing_10 : decode cX3_requireRing 10 = .ok (.dup, 1) := by decide +kernel
theorem dX3_requireRing_11 : decode cX3_requireRing 11 = .ok (.ldc 231, 2) := by decide +kernel
theorem dX3_requireRing_13 : decode cX3_requireRing 13 = .ok (.invokespecial 141, 3) := by decide +kernel
theorem dX3_requireRing_16 : decode cX3_requireRing 16 = .ok (.athrow, 1) := by decide +kernel
theorem dX3_requireRing_17 : decode cX3_requireRing 17 = .ok (.return_, 1) := by decide +kernel
theorem dX3_requireWord_0 : decode cX3_requireWord 0 = .ok (.iload_n 0, 1) := by decide +kernel
theorem dX3_requireWord_1 : decode cX3_requireWord 1 = .ok (.ifCond .lt 10, 3) := by decide +kernel
theorem dX3_requireWord_4 : decode cX3_requireWord 4 = .ok (.iload_n 0, 1) := by decide +kernel
theorem dX3_requireWord_5 : decode cX3_requireWord 5 = .ok (.sipush 1296, 3) := by decide +kernel
theorem dX3_requireWord_8 : decode cX3_requireWord 8 = .ok (.if_icmp .lt 13, 3) := by decide +kernel
theorem dX3_requireWord_11 : decode cX3_requireWord 11 = .ok (.new 75, 3) := by decide +kernel
theorem dX3_requireWord_14 : decode cX3_requireWord 14 = .ok (.dup, 1) := by decide +kernel
theorem dX3_requireWord_15 : decode cX3_requireWord 15 = .ok (.ldc 233, 2) := by decide +kernel
theorem dX3_requireWord_17 : decode cX3_requireWord 17 = .ok (.invokespecial 79, 3) := by decide +kernel
theorem dX3_requireWord_20 : decode cX3_requireWord 20 = .ok (.athrow, 1) := by decide +kernel
theorem dX3_requireWord_21 : decode cX3_requireWord 21 = .ok (.return_, 1) := by decide +kernel
theorem dX3_requireHours_0 : decode cX3_requireHours 0 = .ok (.iload_n 0, 1) := by decide +kernel
theorem dX3_requireHours_1 : decode cX3_requireHours 1 = .ok (.iconst 1, 1) := by decide +kernel
theorem dX3_requireHours_2 : decode cX3_requireHours 2 = .ok (.if_icmp .lt 9, 3) := by decide +kernel
theorem dX3_requireHours_5 : decode cX3_requireHours 5 = .ok (.iload_n 0, 1) := by decide +kernel
theorem dX3_requireHours_6 : decode cX3_requireHours 6 = .ok (.bipush 99, 2) := by decide +kernel
theorem dX3_requireHours_8 : decode cX3_requireHours 8 = .ok (.if_icmp .le 13, 3) := by decide +kernel
theorem dX3_requireHours_11 : decode cX3_requireHours 11 = .ok (.new 75, 3) := by decide +kernel
theorem dX3_requireHours_14 : decode cX3_requireHours 14 = .ok (.dup, 1) := by decide +kernel
theorem dX3_requireHours_15 : decode cX3_requireHours 15 = .ok (.ldc 235, 2) := by decide +kernel
theorem dX3_requireHours_17 : decode cX3_requireHours 17 = .ok (.invokespecial 79, 3) := by decide +kernel
theorem dX3_requireHours_20 : decode cX3_requireHours 20 = .ok (.athrow, 1) := by decide +kernel
theorem dX3_requireHours_21 : decode cX3_requireHours 21 = .ok (.return_, 1) := by decide +kernel
theorem dX3_requireOpen_0 : decode cX3_requireOpen 0 = .ok (.aload_n 0, 1) := by decide +kernel
theorem dX3_requireOpen_1 : decode cX3_requireOpen 1 = .ok (.getfield 98, 3) := by decide +kernel
theorem dX3_requireOpen_4 : decode cX3_requireOpen 4 = .ok (.ifCond .ne 13, 3) := by decide +kernel
theorem dX3_requireOpen_7 : decode cX3_requireOpen 7 = .ok (.new 53, 3) := by decide +kernel
theorem dX3_requireOpen_10 : decode cX3_requireOpen 10 = .ok (.dup, 1) := by decide +kernel
theorem dX3_requireOpen_11 : decode cX3_requireOpen 11 = .ok (.ldc 237, 2) := by decide +kernel
theorem dX3_requireOpen_13 : decode cX3_requireOpen 13 = .ok (.invokespecial 57, 3) := by decide +kernel
theorem dX3_requireOpen_16 : decode cX3_requireOpen 16 = .ok (.athrow, 1) := by decide +kernel
theorem dX3_requireOpen_17 : decode cX3_requireOpen 17 = .ok (.return_, 1) := by decide +kernel
theorem dX3_isRack_0 : decode cX3_isRack 0 = .ok (.iload_n 1, 1) := by decide +kernel
theorem dX3_isRack_1 : decode cX3_isRack 1 = .ok (.ifCond .lt 16, 3) := by decide +kernel
theorem dX3_isRack_4 : decode cX3_isRack 4 = .ok (.iload_n 1, 1) := by decide +kernel
theorem dX3_isRack_5 : decode cX3_isRack 5 = .ok (.aload_n 0, 1) := by decide +kernel
theorem dX3_isRack_6 : decode cX3_isRack 6 = .ok (.getfield 18, 3) := by decide +kernel
theorem dX3_isRack_9 : decode cX3_isRack 9 = .ok (.arraylength, 1) := by decide +kernel
theorem dX3_isRack_10 : decode cX3_isRack 10 = .ok (.if_icmp .ge 7, 3) := by decide +kernel
theorem dX3_isRack_13 : decode cX3_isRack 13 = .ok (.iconst 1, 1) := by decide +kernel
theorem dX3_isRack_14 : decode cX3_isRack 14 = .ok (.goto 4, 3) := by decide +kernel
theorem dX3_isRack_17 : decode cX3_isRack 17 = .ok (.iconst 0, 1) := by decide +kernel
theorem dX3_isRack_18 : decode cX3_isRack 18 = .ok (.ireturn, 1) := by decide +kernel
theorem dX3_isRing_0 : decode cX3_isRing 0 = .ok (.iload_n 0, 1) := by decide +kernel
theorem dX3_isRing_1 : decode cX3_isRing 1 = .ok (.ifCond .lt 12, 3) := by decide +kernel
theorem dX3_isRing_4 : decode cX3_isRing 4 = .ok (.iload_n 0, 1) := by decide +kernel
theorem dX3_isRing_5 : decode cX3_isRing 5 = .ok (.iconst 4, 1) := by decide +kernel
theorem dX3_isRing_6 : decode cX3_isRing 6 = .ok (.if_icmp .ge 7, 3) := by decide +kernel
theorem dX3_isRing_9 : decode cX3_isRing 9 = .ok (.iconst 1, 1) := by decide +kernel
theorem dX3_isRing_10 : decode cX3_isRing 10 = .ok (.goto 4, 3) := by decide +kernel
theorem dX3_isRing_13 : decode cX3_isRing 13 = .ok (.iconst 0, 1) := by decide +kernel
theorem dX3_isRing_14 : decode cX3_isRing 14 = .ok (.ireturn, 1) := by decide +kernel
theorem dX3_isLetter_0 : decode cX3_isLetter 0 = .ok (.iload_n 0, 1) := by decide +kernel
theorem dX3_isLetter_1 : decode cX3_isLetter 1 = .ok (.ifCond .lt 13, 3) := by decide +kernel
theorem dX3_isLetter_4 : decode cX3_isLetter 4 = .ok (.iload_n 0, 1) := by decide +kernel
theorem dX3_isLetter_5 : decode cX3_isLetter 5 = .ok (.bipush 6, 2) := by decide +kernel
theorem dX3_isLetter_7 : decode cX3_isLetter 7 = .ok (.if_icmp .ge 7, 3) := by decide +kernel
theorem dX3_isLetter_10 : decode cX3_isLetter 10 = .ok (.iconst 1, 1) := by decide +kernel
theorem dX3_isLetter_11 : decode cX3_isLetter 11 = .ok (.goto 4, 3) := by decide +kernel
theorem dX3_isLetter_14 : decode cX3_isLetter 14 = .ok (.iconst 0, 1) := by decide +kernel
theorem dX3_isLetter_15 : decode cX3_isLetter 15 = .ok (.ireturn, 1) := by decide +kernel
theorem dX3_letterOf_0 : decode cX3_letterOf 0 = .ok (.iload_n 0, 1) := by decide +kernel
theorem dX3_letterOf_1 : decode cX3_letterOf 1 = .ok (.istore_n 2, 1) := by decide +kernel
theorem dX3_letterOf_2 : decode cX3_letterOf 2 = .ok (.iconst 3, 1) := by decide +kernel
theorem dX3_letterOf_3 : decode cX3_letterOf 3 = .ok (.istore_n 3, 1) := by decide +kernel
theorem dX3_letterOf_4 : decode cX3_letterOf 4 = .ok (.iload_n 3, 1) := by decide +kernel
theorem dX3_letterOf_5 : decode cX3_letterOf 5 = .ok (.iload_n 1, 1) := by decide +kernel
theorem dX3_letterOf_6 : decode cX3_letterOf 6 = .ok (.if_icmp .le 14, 3) := by decide +kernel
theorem dX3_letterOf_9 : decode cX3_letterOf 9 = .ok (.iload_n 2, 1) := by decide +kernel
theorem dX3_letterOf_10 : decode cX3_letterOf 10 = .ok (.bipush 6, 2) := by decide +kernel
theorem dX3_letterOf_12 : decode cX3_letterOf 12 = .ok (.idiv, 1) := by decide +kernel
theorem dX3_letterOf_13 : decode cX3_letterOf 13 = .ok (.istore_n 2, 1) := by decide +kernel
theorem dX3_letterOf_14 : decode cX3_letterOf 14 = .ok (.iinc 3 (-1), 3) := by decide +kernel
theorem dX3_letterOf_17 : decode cX3_letterOf 17 = .ok (.goto (-13), 3) := by decide +kernel
theorem dX3_letterOf_20 : decode cX3_letterOf 20 = .ok (.iload_n 2, 1) := by decide +kernel
theorem dX3_letterOf_21 : decode cX3_letterOf 21 = .ok (.bipush 6, 2) := by decide +kernel
theorem dX3_letterOf_23 : decode cX3_letterOf 23 = .ok (.irem, 1) := by decide +kernel
theorem dX3_letterOf_24 : decode cX3_letterOf 24 = .ok (.ireturn, 1) := by decide +kernel
theorem dX3_turnsBetween_0 : decode cX3_turnsBetween 0 = .ok (.iload_n 0, 1) := by decide +kernel
theorem dX3_turnsBetween_1 : decode cX3_turnsBetween 1 = .ok (.iload_n 1, 1) := by decide +kernel
theorem dX3_turnsBetween_2 : decode cX3_turnsBetween 2 = .ok (.isub, 1) := by decide +kernel
theorem dX3_turnsBetween_3 : decode cX3_turnsBetween 3 = .ok (.invokestatic 239, 3) := by decide +kernel
theorem dX3_turnsBetween_6 : decode cX3_turnsBetween 6 = .ok (.istore_n 2, 1) := by decide +kernel
theorem dX3_turnsBetween_7 : decode cX3_turnsBetween 7 = .ok (.iload_n 2, 1) := by decide +kernel
theorem dX3_turnsBetween_8 : decode cX3_turnsBetween 8 = .ok (.bipush 6, 2) := by decide +kernel
theorem dX3_turnsBetween_10 : decode cX3_turnsBetween 10 = .ok (.iload_n 2, 1) := by decide +kernel
theorem dX3_turnsBetween_11 : decode cX3_turnsBetween 11 = .ok (.isub, 1) := by decide +kernel
theorem dX3_turnsBetween_12 : decode cX3_turnsBetween 12 = .ok (.invokestatic 244, 3) := by decide +kernel
theorem dX3_turnsBetween_15 : decode cX3_turnsBetween 15 = .ok (.ireturn, 1) := by decide +kernel
theorem dX3_locksIn_0 : decode cX3_locksIn 0 = .ok (.iconst 0, 1) := by decide +kernel
theorem dX3_locksIn_1 : decode cX3_locksIn 1 = .ok (.istore_n 2, 1) := by decide +kernel
theorem dX3_locksIn_2 : decode cX3_locksIn 2 = .ok (.iconst 0, 1) := by decide +kernel
theorem dX3_locksIn_3 : decode cX3_locksIn 3 = .ok (.istore_n 3, 1) := by decide +kernel
theorem dX3_locksIn_4 : decode cX3_locksIn 4 = .ok (.iload_n 3, 1) := by decide +kernel
theorem dX3_locksIn_5 : decode cX3_locksIn 5 = .ok (.aload_n 0, 1) := by decide +kernel
theorem dX3_locksIn_6 : decode cX3_locksIn 6 = .ok (.getfield 10, 3) := by decide +kernel
theorem dX3_locksIn_9 : decode cX3_locksIn 9 = .ok (.invokevirtual 49, 3) := by decide +kernel
theorem dX3_locksIn_12 : decode cX3_locksIn 12 = .ok (.if_icmp .ge 30, 3) := by decide +kernel
theorem dX3_locksIn_15 : decode cX3_locksIn 15 = .ok (.aload_n 0, 1) := by decide +kernel
theorem dX3_locksIn_16 : decode cX3_locksIn 16 = .ok (.getfield 10, 3) := by decide +kernel
theorem dX3_locksIn_19 : decode cX3_locksIn 19 = .ok (.iload_n 3, 1) := by decide +kernel
theorem dX3_locksIn_20 : decode cX3_locksIn 20 = .ok (.invokevirtual 188, 3) := by decide +kernel
theorem dX3_locksIn_23 : decode cX3_locksIn 23 = .ok (.checkcast 30, 3) := by decide +kernel
theorem dX3_locksIn_26 : decode cX3_locksIn 26 = .ok (.getfield 142, 3) := by decide +kernel
theorem dX3_locksIn_29 : decode cX3_locksIn 29 = .ok (.iload_n 1, 1) := by decide +kernel
theorem dX3_locksIn_30 : decode cX3_locksIn 30 = .ok (.if_icmp .ne 6, 3) := by decide +kernel
theorem dX3_locksIn_33 : decode cX3_locksIn 33 = .ok (.iinc 2 1, 3) := by decide +kernel
theorem dX3_locksIn_36 : decode cX3_locksIn 36 = .ok (.iinc 3 1, 3) := by decide +kernel
theorem dX3_locksIn_39 : decode cX3_locksIn 39 = .ok (.goto (-35), 3) := by decide +kernel
theorem dX3_locksIn_42 : decode cX3_locksIn 42 = .ok (.iload_n 2, 1) := by decide +kernel
theorem dX3_locksIn_43 : decode cX3_locksIn 43 = .ok (.ireturn, 1) := by decide +kernel
theorem dX3_openLocksIn_0 : decode cX3_openLocksIn 0 = .ok (.iconst 0, 1) := by decide +kernel
theorem dX3_openLocksIn_1 : decode cX3_openLocksIn 1 = .ok (.istore_n 2, 1) := by decide +kernel
theorem dX3_openLocksIn_2 : decode cX3_openLocksIn 2 = .ok (.iconst 0, 1) := by decide +kernel
theorem dX3_openLocksIn_3 : decode cX3_openLocksIn 3 = .ok (.istore_n 3, 1) := by decide +kernel
theorem dX3_openLocksIn_4 : decode cX3_openLocksIn 4 = .ok (.iload_n 3, 1) := by decide +kernel
theorem dX3_openLocksIn_5 : decode cX3_openLocksIn 5 = .ok (.aload_n 0, 1) := by decide +kernel
theorem dX3_openLocksIn_6 : decode cX3_openLocksIn 6 = .ok (.getfield 10, 3) := by decide +kernel
theorem dX3_openLocksIn_9 : decode cX3_openLocksIn 9 = .ok (.invokevirtual 49, 3) := by decide +kernel
theorem dX3_openLocksIn_12 : decode cX3_openLocksIn 12 = .ok (.if_icmp .ge 42, 3) := by decide +kernel
theorem dX3_openLocksIn_15 : decode cX3_openLocksIn 15 = .ok (.aload_n 0, 1) := by decide +kernel
theorem dX3_openLocksIn_16 : decode cX3_openLocksIn 16 = .ok (.getfield 10, 3) := by decide +kernel
theorem dX3_openLocksIn_19 : decode cX3_openLocksIn 19 = .ok (.iload_n 3, 1) := by decide +kernel
theorem dX3_openLocksIn_20 : decode cX3_openLocksIn 20 = .ok (.invokevirtual 188, 3) := by decide +kernel
theorem dX3_openLocksIn_23 : decode cX3_openLocksIn 23 = .ok (.checkcast 30, 3) := by decide +kernel
theorem dX3_openLocksIn_26 : decode cX3_openLocksIn 26 = .ok (.astore 4, 2) := by decide +kernel
theorem dX3_openLocksIn_28 : decode cX3_openLocksIn 28 = .ok (.aload 4, 2) := by decide +kernel
theorem dX3_openLocksIn_30 : decode cX3_openLocksIn 30 = .ok (.getfield 98, 3) := by decide +kernel
theorem dX3_openLocksIn_33 : decode cX3_openLocksIn 33 = .ok (.ifCond .eq 15, 3) := by decide +kernel
theorem dX3_openLocksIn_36 : decode cX3_openLocksIn 36 = .ok (.aload 4, 2) := by decide +kernel
theorem dX3_openLocksIn_38 : decode cX3_openLocksIn 38 = .ok (.getfield 142, 3) := by decide +kernel
theorem dX3_openLocksIn_41 : decode cX3_openLocksIn 41 = .ok (.iload_n 1, 1) := by decide +kernel
theorem dX3_openLocksIn_42 : decode cX3_openLocksIn 42 = .ok (.if_icmp .ne 6, 3) := by decide +kernel
theorem dX3_openLocksIn_45 : decode cX3_openLocksIn 45 = .ok (.iinc 2 1, 3) := by decide +kernel
theorem dX3_openLocksIn_48 : decode cX3_openLocksIn 48 = .ok (.iinc 3 1, 3) := by decide +kernel
theorem dX3_openLocksIn_51 : decode cX3_openLocksIn 51 = .ok (.goto (-47), 3) := by decide +kernel
theorem dX3_openLocksIn_54 : decode cX3_openLocksIn 54 = .ok (.iload_n 2, 1) := by decide +kernel
theorem dX3_openLocksIn_55 : decode cX3_openLocksIn 55 = .ok (.ireturn, 1) := by decide +kernel
theorem dX3_takesAnother_0 : decode cX3_takesAnother 0 = .ok (.aload_n 0, 1) := by decide +kernel
theorem dX3_takesAnother_1 : decode cX3_takesAnother 1 = .ok (.iload_n 1, 1) := by decide +kernel
theorem dX3_takesAnother_2 : decode cX3_takesAnother 2 = .ok (.invokevirtual 134, 3) := by decide +kernel
theorem dX3_takesAnother_5 : decode cX3_takesAnother 5 = .ok (.ifCond .eq 40, 3) := by decide +kernel
theorem dX3_takesAnother_8 : decode cX3_takesAnother 8 = .ok (.aload_n 0, 1) := by decide +kernel
theorem dX3_takesAnother_9 : decode cX3_takesAnother 9 = .ok (.getfield 18, 3) := by decide +kernel
theorem dX3_takesAnother_12 : decode cX3_takesAnother 12 = .ok (.iload_n 1, 1) := by decide +kernel
theorem dX3_takesAnother_13 : decode cX3_takesAnother 13 = .ok (.aaload, 1) := by decide +kernel
theorem dX3_takesAnother_14 : decode cX3_takesAnother 14 = .ok (.aload_n 0, 1) := by decide +kernel
theorem dX3_takesAnother_15 : decode cX3_takesAnother 15 = .ok (.getfield 39, 3) := by decide +kernel
theorem dX3_takesAnother_18 : decode cX3_takesAnother 18 = .ok (.invokevirtual 158, 3) := by decide +kernel
theorem dX3_takesAnother_21 : decode cX3_takesAnother 21 = .ok (.ifCond .eq 24, 3) := by decide +kernel
theorem dX3_takesAnother_24 : decode cX3_takesAnother 24 = .ok (.aload_n 0, 1) := by decide +kernel
theorem dX3_takesAnother_25 : decode cX3_takesAnother 25 = .ok (.iload_n 1, 1) := by decide +kernel
theorem dX3_takesAnother_26 : decode cX3_takesAnother 26 = .ok (.invokevirtual 118, 3) := by decide +kernel
theorem dX3_takesAnother_29 : decode cX3_takesAnother 29 = .ok (.aload_n 0, 1) := by decide +kernel
theorem dX3_takesAnother_30 : decode cX3_takesAnother 30 = .ok (.getfield 18, 3) := by decide +kernel
theorem dX3_takesAnother_33 : decode cX3_takesAnother 33 = .ok (.iload_n 1, 1) := by decide +kernel
theorem dX3_takesAnother_34 : decode cX3_takesAnother 34 = .ok (.aaload, 1) := by decide +kernel
theorem dX3_takesAnother_35 : decode cX3_takesAnother 35 = .ok (.getfield 123, 3) := by decide +kernel
theorem dX3_takesAnother_38 : decode cX3_takesAnother 38 = .ok (.if_icmp .ge 7, 3) := by decide +kernel
theorem dX3_takesAnother_41 : decode cX3_takesAnother 41 = .ok (.iconst 1, 1) := by decide +kernel
theorem dX3_takesAnother_42 : decode cX3_takesAnother 42 = .ok (.goto 4, 3) := by decide +kernel
theorem dX3_takesAnother_45 : decode cX3_takesAnother 45 = .ok (.iconst 0, 1) := by decide +kernel
theorem dX3_takesAnother_46 : decode cX3_takesAnother 46 = .ok (.ireturn, 1) := by decide +kernel
theorem dX3_isInClosedRack_0 : decode cX3_isInClosedRack 0 = .ok (.aload_n 0, 1) := by decide +kernel
theorem dX3_isInClosedRack_1 : decode cX3_isInClosedRack 1 = .ok (.aload_n 1, 1) := by decide +kernel
theorem dX3_isInClosedRack_2 : decode cX3_isInClosedRack 2 = .ok (.getfield 142, 3) := by decide +kernel
theorem dX3_isInClosedRack_5 : decode cX3_isInClosedRack 5 = .ok (.invokevirtual 134, 3) := by decide +kernel
theorem dX3_isInClosedRack_8 : decode cX3_isInClosedRack 8 = .ok (.ifCond .eq 23, 3) := by decide +kernel
theorem dX3_isInClosedRack_11 : decode cX3_isInClosedRack 11 = .ok (.aload_n 0, 1) := by decide +kernel
theorem dX3_isInClosedRack_12 : decode cX3_isInClosedRack 12 = .ok (.getfield 18, 3) := by decide +kernel
theorem dX3_isInClosedRack_15 : decode cX3_isInClosedRack 15 = .ok (.aload_n 1, 1) := by decide +kernel
theorem dX3_isInClosedRack_16 : decode cX3_isInClosedRack 16 = .ok (.getfield 142, 3) := by decide +kernel
theorem dX3_isInClosedRack_19 : decode cX3_isInClosedRack 19 = .ok (.aaload, 1) := by decide +kernel
theorem dX3_isInClosedRack_20 : decode cX3_isInClosedRack 20 = .ok (.iload_n 2, 1) := by decide +kernel
theorem dX3_isInClosedRack_21 : decode cX3_isInClosedRack 21 = .ok (.invokevirtual 158, 3) := by decide +kernel
theorem dX3_isInClosedRack_24 : decode cX3_isInClosedRack 24 = .ok (.ifCond .ne 7, 3) := by decide +kernel
theorem dX3_isInClosedRack_27 : decode cX3_isInClosedRack 27 = .ok (.iconst 1, 1) := by decide +kernel
theorem dX3_isInClosedRack_28 : decode cX3_isInClosedRack 28 = .ok (.goto 4, 3) := by decide +kernel
theorem dX3_isInClosedRack_31 : decode cX3_isInClosedRack 31 = .ok (.iconst 0, 1) := by decide +kernel
theorem dX3_isInClosedRack_32 : decode cX3_isInClosedRack 32 = .ok (.ireturn, 1) := by decide +kernel
theorem dX3_letHourGoBy_0 : decode cX3_letHourGoBy 0 = .ok (.aload_n 1, 1) := by decide +kernel
theorem dX3_letHourGoBy_1 : decode cX3_letHourGoBy 1 = .ok (.invokevirtual 247, 3) := by decide +kernel
theorem dX3_letHourGoBy_4 : decode cX3_letHourGoBy 4 = .ok (.aload_n 1, 1) := by decide +kernel
theorem dX3_letHourGoBy_5 : decode cX3_letHourGoBy 5 = .ok (.getfield 98, 3) := by decide +kernel
theorem dX3_letHourGoBy_8 : decode cX3_letHourGoBy 8 = .ok (.ifCond .eq 12, 3) := by decide +kernel
theorem dX3_letHourGoBy_11 : decode cX3_letHourGoBy 11 = .ok (.aload_n 0, 1) := by decide +kernel
theorem dX3_letHourGoBy_12 : decode cX3_letHourGoBy 12 = .ok (.aload_n 1, 1) := by decide +kernel
theorem dX3_letHourGoBy_13 : decode cX3_letHourGoBy 13 = .ok (.iload_n 2, 1) := by decide +kernel
theorem dX3_letHourGoBy_14 : decode cX3_letHourGoBy 14 = .ok (.invokevirtual 199, 3) := by decide +kernel
theorem dX3_letHourGoBy_17 : decode cX3_letHourGoBy 17 = .ok (.ifCond .ne 5, 3) := by decide +kernel
theorem dX3_letHourGoBy_20 : decode cX3_letHourGoBy 20 = .ok (.iconst 0, 1) := by decide +kernel
theorem dX3_letHourGoBy_21 : decode cX3_letHourGoBy 21 = .ok (.ireturn, 1) := by decide +kernel
theorem dX3_letHourGoBy_22 : decode cX3_letHourGoBy 22 = .ok (.aload_n 1, 1) := by decide +kernel
theorem dX3_letHourGoBy_23 : decode cX3_letHourGoBy 23 = .ok (.invokevirtual 106, 3) := by decide +kernel
theorem dX3_letHourGoBy_26 : decode cX3_letHourGoBy 26 = .ok (.iconst 1, 1) := by decide +kernel
theorem dX3_letHourGoBy_27 : decode cX3_letHourGoBy 27 = .ok (.ireturn, 1) := by decide +kernel
theorem dX3_openLocks_0 : decode cX3_openLocks 0 = .ok (.iconst 0, 1) := by decide +kernel
theorem dX3_openLocks_1 : decode cX3_openLocks 1 = .ok (.istore_n 1, 1) := by decide +kernel
theorem dX3_openLocks_2 : decode cX3_openLocks 2 = .ok (.iconst 0, 1) := by decide +kernel
theorem dX3_openLocks_3 : decode cX3_openLocks 3 = .ok (.istore_n 2, 1) := by decide +kernel
theorem dX3_openLocks_4 : decode cX3_openLocks 4 = .ok (.iload_n 2, 1) := by decide +kernel
theorem dX3_openLocks_5 : decode cX3_openLocks 5 = .ok (.aload_n 0, 1) := by decide +kernel
theorem dX3_openLocks_6 : decode cX3_openLocks 6 = .ok (.getfield 10, 3) := by decide +kernel
theorem dX3_openLocks_9 : decode cX3_openLocks 9 = .ok (.invokevirtual 49, 3) := by decide +kernel
theorem dX3_openLocks_12 : decode cX3_openLocks 12 = .ok (.if_icmp .ge 29, 3) := by decide +kernel
theorem dX3_openLocks_15 : decode cX3_openLocks 15 = .ok (.aload_n 0, 1) := by decide +kernel
theorem dX3_openLocks_16 : decode cX3_openLocks 16 = .ok (.getfield 10, 3) := by decide +kernel
theorem dX3_openLocks_19 : decode cX3_openLocks 19 = .ok (.iload_n 2, 1) := by decide +kernel
theorem dX3_openLocks_20 : decode cX3_openLocks 20 = .ok (.invokevirtual 188, 3) := by decide +kernel
theorem dX3_openLocks_23 : decode cX3_openLocks 23 = .ok (.checkcast 30, 3) := by decide +kernel
theorem dX3_openLocks_26 : decode cX3_openLocks 26 = .ok (.getfield 98, 3) := by decide +kernel
theorem dX3_openLocks_29 : decode cX3_openLocks 29 = .ok (.ifCond .eq 6, 3) := by decide +kernel
theorem dX3_openLocks_32 : decode cX3_openLocks 32 = .ok (.iinc 1 1, 3) := by decide +kernel
theorem dX3_openLocks_35 : decode cX3_openLocks 35 = .ok (.iinc 2 1, 3) := by decide +kernel
theorem dX3_openLocks_38 : decode cX3_openLocks 38 = .ok (.goto (-34), 3) := by decide +kernel
theorem dX3_openLocks_41 : decode cX3_openLocks 41 = .ok (.iload_n 1, 1) := by decide +kernel
theorem dX3_openLocks_42 : decode cX3_openLocks 42 = .ok (.ireturn, 1) := by decide +kernel
theorem dX3_lostWords_0 : decode cX3_lostWords 0 = .ok (.iconst 0, 1) := by decide +kernel
theorem dX3_lostWords_1 : decode cX3_lostWords 1 = .ok (.istore_n 1, 1) := by decide +kernel
theorem dX3_lostWords_2 : decode cX3_lostWords 2 = .ok (.iconst 0, 1) := by decide +kernel
theorem dX3_lostWords_3 : decode cX3_lostWords 3 = .ok (.istore_n 2, 1) := by decide +kernel
theorem dX3_lostWords_4 : decode cX3_lostWords 4 = .ok (.iload_n 2, 1) := by decide +kernel
theorem dX3_lostWords_5 : decode cX3_lostWords 5 = .ok (.aload_n 0, 1) := by decide +kernel
theorem dX3_lostWords_6 : decode cX3_lostWords 6 = .ok (.getfield 10, 3) := by decide +kernel
theorem dX3_lostWords_9 : decode cX3_lostWords 9 = .ok (.invokevirtual 49, 3) := by decide +kernel
theorem dX3_lostWords_12 : decode cX3_lostWords 12 = .ok (.if_icmp .ge 29, 3) := by decide +kernel
theorem dX3_lostWords_15 : decode cX3_lostWords 15 = .ok (.aload_n 0, 1) := by decide +kernel
theorem dX3_lostWords_16 : decode cX3_lostWords 16 = .ok (.getfield 10, 3) := by decide +kernel
theorem dX3_lostWords_19 : decode cX3_lostWords 19 = .ok (.iload_n 2, 1) := by decide +kernel
theorem dX3_lostWords_20 : decode cX3_lostWords 20 = .ok (.invokevirtual 188, 3) := by decide +kernel
theorem dX3_lostWords_23 : decode cX3_lostWords 23 = .ok (.checkcast 30, 3) := by decide +kernel
theorem dX3_lostWords_26 : decode cX3_lostWords 26 = .ok (.getfield 109, 3) := by decide +kernel
theorem dX3_lostWords_29 : decode cX3_lostWords 29 = .ok (.ifCond .eq 6, 3) := by decide +kernel
theorem dX3_lostWords_32 : decode cX3_lostWords 32 = .ok (.iinc 1 1, 3) := by decide +kernel
theorem dX3_lostWords_35 : decode cX3_lostWords 35 = .ok (.iinc 2 1, 3) := by decide +kernel
theorem dX3_lostWords_38 : decode cX3_lostWords 38 = .ok (.goto (-34), 3) := by decide +kernel
theorem dX3_lostWords_41 : decode cX3_lostWords 41 = .ok (.iload_n 1, 1) := by decide +kernel
theorem dX3_lostWords_42 : decode cX3_lostWords 42 = .ok (.ireturn, 1) := by decide +kernel
theorem dX3_allWear_0 : decode cX3_allWear 0 = .ok (.iconst 0, 1) := by decide +kernel
theorem dX3_allWear_1 : decode cX3_allWear 1 = .ok (.istore_n 1, 1) := by decide +kernel
theorem dX3_allWear_2 : decode cX3_allWear 2 = .ok (.iconst 0, 1) := by decide +kernel
theorem dX3_allWear_3 : decode cX3_allWear 3 = .ok (.istore_n 2, 1) := by decide +kernel
theorem dX3_allWear_4 : decode cX3_allWear 4 = .ok (.iload_n 2, 1) := by decide +kernel
theorem dX3_allWear_5 : decode cX3_allWear 5 = .ok (.aload_n 0, 1) := by decide +kernel
theorem dX3_allWear_6 : decode cX3_allWear 6 = .ok (.getfield 10, 3) := by decide +kernel
theorem dX3_allWear_9 : decode cX3_allWear 9 = .ok (.invokevirtual 49, 3) := by decide +kernel
theorem dX3_allWear_12 : decode cX3_allWear 12 = .ok (.if_icmp .ge 26, 3) := by decide +kernel
theorem dX3_allWear_15 : decode cX3_allWear 15 = .ok (.iload_n 1, 1) := by decide +kernel
theorem dX3_allWear_16 : decode cX3_allWear 16 = .ok (.aload_n 0, 1) := by decide +kernel
theorem dX3_allWear_17 : decode cX3_allWear 17 = .ok (.getfield 10, 3) := by decide +kernel
theorem dX3_allWear_20 : decode cX3_allWear 20 = .ok (.iload_n 2, 1) := by decide +kernel
theorem dX3_allWear_21 : decode cX3_allWear 21 = .ok (.invokevirtual 188, 3) := by decide +kernel
theorem dX3_allWear_24 : decode cX3_allWear 24 = .ok (.checkcast 30, 3) := by decide +kernel
theorem dX3_allWear_27 : decode cX3_allWear 27 = .ok (.invokevirtual 250, 3) := by decide +kernel
theorem dX3_allWear_30 : decode cX3_allWear 30 = .ok (.iadd, 1) := by decide +kernel
theorem dX3_allWear_31 : decode cX3_allWear 31 = .ok (.istore_n 1, 1) := by decide +kernel
theorem dX3_allWear_32 : decode cX3_allWear 32 = .ok (.iinc 2 1, 3) := by decide +kernel
theorem dX3_allWear_35 : decode cX3_allWear 35 = .ok (.goto (-31), 3) := by decide +kernel
theorem dX3_allWear_38 : decode cX3_allWear 38 = .ok (.iload_n 1, 1) := by decide +kernel
theorem dX3_allWear_39 : decode cX3_allWear 39 = .ok (.ireturn, 1) := by decide +kernel
theorem dX3_locksInRacks_0 : decode cX3_locksInRacks 0 = .ok (.aload_n 0, 1) := by decide +kernel
theorem dX3_locksInRacks_1 : decode cX3_locksInRacks 1 = .ok (.getfield 10, 3) := by decide +kernel
theorem dX3_locksInRacks_4 : decode cX3_locksInRacks 4 = .ok (.invokevirtual 49, 3) := by decide +kernel
theorem dX3_locksInRacks_7 : decode cX3_locksInRacks 7 = .ok (.aload_n 0, 1) := by decide +kernel
theorem dX3_locksInRacks_8 : decode cX3_locksInRacks 8 = .ok (.iconst (-1), 1) := by decide +kernel
theorem dX3_locksInRacks_9 : decode cX3_locksInRacks 9 = .ok (.invokevirtual 118, 3) := by decide +kernel
theorem dX3_locksInRacks_12 : decode cX3_locksInRacks 12 = .ok (.isub, 1) := by decide +kernel
theorem dX3_locksInRacks_13 : decode cX3_locksInRacks 13 = .ok (.ireturn, 1) := by decide +kernel
theorem dX4_init_0 : decode cX4_init 0 = .ok (.aload_n 0, 1) := by decide +kernel
theorem dX4_init_1 : decode cX4_init 1 = .ok (.invokespecial 1, 3) := by decide +kernel
theorem dX4_init_4 : decode cX4_init 4 = .ok (.aload_n 0, 1) := by decide +kernel
theorem dX4_init_5 : decode cX4_init 5 = .ok (.iconst 4, 1) := by decide +kernel
theorem dX4_init_6 : decode cX4_init 6 = .ok (.newarray .int, 2) := by decide +kernel
theorem dX4_init_8 : decode cX4_init 8 = .ok (.putfield 7, 3) := by decide +kernel
theorem dX4_init_11 : decode cX4_init 11 = .ok (.aload_n 0, 1) := by decide +kernel
theorem dX4_init_12 : decode cX4_init 12 = .ok (.iconst 4, 1) := by decide +kernel
theorem dX4_init_13 : decode cX4_init 13 = .ok (.bipush 6, 2) := by decide +kernel
theorem dX4_init_15 : decode cX4_init 15 = .ok (.multianewarray 13 2, 4) := by decide +kernel
theorem dX4_init_19 : decode cX4_init 19 = .ok (.putfield 15, 3) := by decide +kernel
theorem dX4_init_22 : decode cX4_init 22 = .ok (.aload_n 0, 1) := by decide +kernel
theorem dX4_init_23 : decode cX4_init 23 = .ok (.iconst 1, 1) := by decide +kernel
theorem dX4_init_24 : decode cX4_init 24 = .ok (.putfield 18, 3) := by decide +kernel
theorem dX4_init_27 : decode cX4_init 27 = .ok (.aload_n 0, 1) := by decide +kernel
theorem dX4_init_28 : decode cX4_init 28 = .ok (.iconst (-1), 1) := by decide +kernel
theorem dX4_init_29 : decode cX4_init 29 = .ok (.putfield 22, 3) := by decide +kernel
theorem dX4_init_32 : decode cX4_init 32 = .ok (.return_, 1) := by decide +kernel
theorem dX4_shut_0 : decode cX4_shut 0 = .ok (.aload_n 0, 1) := by decide +kernel
theorem dX4_shut_1 : decode cX4_shut 1 = .ok (.iconst 0, 1) := by decide +kernel
theorem dX4_shut_2 : decode cX4_shut 2 = .ok (.putfield 18, 3) := by decide +kernel
theorem dX4_shut_5 : decode cX4_shut 5 = .ok (.iconst 0, 1) := by decide +kernel
theorem dX4_shut_6 : decode cX4_shut 6 = .ok (.istore_n 1, 1) := by decide +kernel
theorem dX4_shut_7 : decode cX4_shut 7 = .ok (.iload_n 1, 1) := by decide +kernel
theorem dX4_shut_8 : decode cX4_shut 8 = .ok (.iconst 4, 1) := by decide +kernel
theorem dX4_shut_9 : decode cX4_shut 9 = .ok (.if_icmp .ge 42, 3) := by decide +kernel
theorem dX4_shut_12 : decode cX4_shut 12 = .ok (.aload_n 0, 1) := by decide +kernel
theorem dX4_shut_13 : decode cX4_shut 13 = .ok (.getfield 7, 3) := by decide +kernel
theorem dX4_shut_16 : decode cX4_shut 16 = .ok (.iload_n 1, 1) := by decide +kernel
theorem dX4_shut_17 : decode cX4_shut 17 = .ok (.dup2, 1) := by decide +kernel
theorem dX4_shut_18 : decode cX4_shut 18 = .ok (.iaload, 1) := by decide +kernel
theorem dX4_shut_19 : decode cX4_shut 19 = .ok (.iload_n 1, 1) := by decide +kernel
theorem dX4_shut_20 : decode cX4_shut 20 = .ok (.iconst 1, 1) := by decide +kernel
theorem dX4_shut_21 : decode cX4_shut 21 = .ok (.iadd, 1) := by decide +kernel
theorem dX4_shut_22 : decode cX4_shut 22 = .ok (.iadd, 1) := by decide +kernel
theorem dX4_shut_23 : decode cX4_shut 23 = .ok (.iastore, 1) := by decide +kernel
theorem dX4_shut_24 : decode cX4_shut 24 = .ok (.aload_n 0, 1) := by decide +kernel
theorem dX4_shut_25 : decode cX4_shut 25 = .ok (.getfield 7, 3) := by decide +kernel
theorem dX4_shut_28 : decode cX4_shut 28 = .ok (.iload_n 1, 1) := by decide +kernel
theorem dX4_shut_29 : decode cX4_shut 29 = .ok (.iaload, 1) := by decide +kernel
theorem dX4_shut_30 : decode cX4_shut 30 = .ok (.iconst 5, 1) := by decide +kernel
theorem dX4_shut_31 : decode cX4_shut 31 = .ok (.if_icmp .le 14, 3) := by decide +kernel
theorem dX4_shut_34 : decode cX4_shut 34 = .ok (.aload_n 0, 1) := by decide +kernel
theorem dX4_shut_35 : decode cX4_shut 35 = .ok (.getfield 7, 3) := by decide +kernel
theorem dX4_shut_38 : decode cX4_shut 38 = .ok (.iload_n 1, 1) := by decide +kernel
theorem dX4_shut_39 : decode cX4_shut 39 = .ok (.dup2, 1) := by decide +kernel
theorem dX4_shut_40 : decode cX4_shut 40 = .ok (.iaload, 1) := by decide +kernel
theorem dX4_shut_41 : decode cX4_shut 41 = .ok (.bipush 6, 2) := by decide +kernel
theorem dX4_shut_43 : decode cX4_shut 43 = .ok (.isub, 1) := by decide +kernel
theorem dX4_shut_44 : decode cX4_shut 44 = .ok (.iastore, 1) := by decide +kernel
theorem dX4_shut_45 : decode cX4_shut 45 = .ok (.iinc 1 1, 3) := by decide +kernel
theorem dX4_shut_48 : decode cX4_shut 48 = .ok (.goto (-41), 3) := by decide +kernel
theorem dX4_shut_51 : decode cX4_shut 51 = .ok (.return_, 1) := by decide +kernel
theorem dX5_init_0 : decode cX5_init 0 = .ok (.aload_n 0, 1) := by decide +kernel
theorem dX5_init_1 : decode cX5_init 1 = .ok (.invokespecial 1, 3) := by decide +kernel
theorem dX5_init_4 : decode cX5_init 4 = .ok (.aload_n 0, 1) := by decide +kernel
theorem dX5_init_5 : decode cX5_init 5 = .ok (.iconst 0, 1) := by decide +kernel
theorem dX5_init_6 : decode cX5_init 6 = .ok (.anewarray 7, 3) := by decide +kernel
theorem dX5_init_9 : decode cX5_init 9 = .ok (.putfield 9, 3) := by decide +kernel
theorem dX5_init_12 : decode cX5_init 12 = .ok (.aload_n 0, 1) := by decide +kernel
theorem dX5_init_13 : decode cX5_init 13 = .ok (.iconst 3, 1) := by decide +kernel
theorem dX5_init_14 : decode cX5_init 14 = .ok (.anewarray 15, 3) := by decide +kernel
theorem dX5_init_17 : decode cX5_init 17 = .ok (.dup, 1) := by decide +kernel
theorem dX5_init_18 : decode cX5_init 18 = .ok (.iconst 0, 1) := by decide +kernel
theorem dX5_init_19 : decode cX5_init 19 = .ok (.iconst 3, 1) := by decide +kernel
theorem dX5_init_20 : decode cX5_init 20 = .ok (.newarray .int, 2) := by decide +kernel
theorem dX5_init_22 : decode cX5_init 22 = .ok (.dup, 1) := by decide +kernel
theorem dX5_init_23 : decode cX5_init 23 = .ok (.iconst 0, 1) := by decide +kernel
theorem dX5_init_24 : decode cX5_init 24 = .ok (.iconst 4, 1) := by decide +kernel
theorem dX5_init_25 : decode cX5_init 25 = .ok (.iastore, 1) := by decide +kernel
theorem dX5_init_26 : decode cX5_init 26 = .ok (.dup, 1) := by decide +kernel
theorem dX5_init_27 : decode cX5_init 27 = .ok (.iconst 1, 1) := by decide +kernel
theorem dX5_init_28 : decode cX5_init 28 = .ok (.iconst 0, 1) := by decide +kernel
theorem dX5_init_29 : decode cX5_init 29 = .ok (.iastore, 1) := by decide +kernel
theorem dX5_init_30 : decode cX5_init 30 = .ok (.dup, 1) := by decide +kernel
theorem dX5_init_31 : decode cX5_init 31 = .ok (.iconst 2, 1) := by decide +kernel
theorem dX5_init_32 : decode cX5_init 32 = .ok (.bipush 24, 2) := by decide +kernel
theorem dX5_init_34 : decode cX5_init 34 = .ok (.iastore, 1) := by decide +kernel
theorem dX5_init_35 : decode cX5_init 35 = .ok (.aastore, 1) := by decide +kernel
theorem dX5_init_36 : decode cX5_init 36 = .ok (.dup, 1) := by decide +kernel
theorem dX5_init_37 : decode cX5_init 37 = .ok (.iconst 1, 1) := by decide +kernel
theorem dX5_init_38 : decode cX5_init 38 = .ok (.iconst 3, 1) := by decide +kernel
theorem dX5_init_39 : decode cX5_init 39 = .ok (.newarray .int, 2) := by decide +kernel
theorem dX5_init_41 : decode cX5_init 41 = .ok (.dup, 1) := by decide +kernel
theorem dX5_init_42 : decode cX5_init 42 = .ok (.iconst 0, 1) := by decide +kernel
theorem dX5_init_43 : decode cX5_init 43 = .ok (.iconst 4, 1) := by decide +kernel
theorem dX5_init_44 : decode cX5_init 44 = .ok (.iastore, 1) := by decide +kernel
theorem dX5_init_45 : decode cX5_init 45 = .ok (.dup, 1) := by decide +kernel
theorem dX5_init_46 : decode cX5_init 46 = .ok (.iconst 1, 1) := by decide +kernel
theorem dX5_init_47 : decode cX5_init 47 = .ok (.iconst 0, 1) := by decide +kernel
theorem dX5_init_48 : decode cX5_init 48 = .ok (.iastore, 1) := by decide +kernel
theorem dX5_init_49 : decode cX5_init 49 = .ok (.dup, 1) := by decide +kernel
theorem dX5_init_50 : decode cX5_init 50 = .ok (.iconst 2, 1) := by decide +kernel
theorem dX5_init_51 : decode cX5_init 51 = .ok (.bipush 24, 2) := by decide +kernel
theorem dX5_init_53 : decode cX5_init 53 = .ok (.iastore, 1) := by decide +kernel
theorem dX5_init_54 : decode cX5_init 54 = .ok (.aastore, 1) := by decide +kernel
theorem dX5_init_55 : decode cX5_init 55 = .ok (.dup, 1) := by decide +kernel
theorem dX5_init_56 : decode cX5_init 56 = .ok (.iconst 2, 1) := by decide +kernel
theorem dX5_init_57 : decode cX5_init 57 = .ok (.iconst 3, 1) := by decide +kernel
theorem dX5_init_58 : decode cX5_init 58 = .ok (.newarray .int, 2) := by decide +kernel
theorem dX5_init_60 : decode cX5_init 60 = .ok (.dup, 1) := by decide +kernel
theorem dX5_init_61 : decode cX5_init 61 = .ok (.iconst 0, 1) := by decide +kernel
theorem dX5_init_62 : decode cX5_init 62 = .ok (.iconst 4, 1) := by decide +kernel
theorem dX5_init_63 : decode cX5_init 63 = .ok (.iastore, 1) := by decide +kernel
theorem dX5_init_64 : decode cX5_init 64 = .ok (.dup, 1) := by decide +kernel
theorem dX5_init_65 : decode cX5_init 65 = .ok (.iconst 1, 1) := by decide +kernel
theorem dX5_init_66 : decode cX5_init 66 = .ok (.iconst 0, 1) := by decide +kernel
theorem dX5_init_67 : decode cX5_init 67 = .ok (.iastore, 1) := by decide +kernel
theorem dX5_init_68 : decode cX5_init 68 = .ok (.dup, 1) := by decide +kernel
theorem dX5_init_69 : decode cX5_init 69 = .ok (.iconst 2, 1) := by decide +kernel
theorem dX5_init_70 : decode cX5_init 70 = .ok (.bipush 24, 2) := by decide +kernel
theorem dX5_init_72 : decode cX5_init 72 = .ok (.iastore, 1) := by decide +kernel
theorem dX5_init_73 : decode cX5_init 73 = .ok (.aastore, 1) := by decide +kernel
theorem dX5_init_74 : decode cX5_init 74 = .ok (.putfield 17, 3) := by decide +kernel
theorem dX5_init_77 : decode cX5_init 77 = .ok (.return_, 1) := by decide +kernel
theorem dX5_isOpen_0 : decode cX5_isOpen 0 = .ok (.aload_n 0, 1) := by decide +kernel
theorem dX5_isOpen_1 : decode cX5_isOpen 1 = .ok (.getfield 17, 3) := by decide +kernel
theorem dX5_isOpen_4 : decode cX5_isOpen 4 = .ok (.iload_n 1, 1) := by decide +kernel
theorem dX5_isOpen_5 : decode cX5_isOpen 5 = .ok (.aaload, 1) := by decide +kernel
theorem dX5_isOpen_6 : decode cX5_isOpen 6 = .ok (.iconst 1, 1) := by decide +kernel
theorem dX5_isOpen_7 : decode cX5_isOpen 7 = .ok (.iaload, 1) := by decide +kernel
theorem dX5_isOpen_8 : decode cX5_isOpen 8 = .ok (.istore_n 2, 1) := by decide +kernel
theorem dX5_isOpen_9 : decode cX5_isOpen 9 = .ok (.iload_n 2, 1) := by decide +kernel
theorem dX5_isOpen_10 : decode cX5_isOpen 10 = .ok (.aload_n 0, 1) := by decide +kernel
theorem dX5_isOpen_11 : decode cX5_isOpen 11 = .ok (.getfield 17, 3) := by decide +kernel
theorem dX5_isOpen_14 : decode cX5_isOpen 14 = .ok (.iload_n 1, 1) := by decide +kernel
theorem dX5_isOpen_15 : decode cX5_isOpen 15 = .ok (.aaload, 1) := by decide +kernel
theorem dX5_isOpen_16 : decode cX5_isOpen 16 = .ok (.iconst 2, 1) := by decide +kernel
theorem dX5_isOpen_17 : decode cX5_isOpen 17 = .ok (.iaload, 1) := by decide +kernel
theorem dX5_isOpen_18 : decode cX5_isOpen 18 = .ok (.if_icmp .ne 5, 3) := by decide +kernel
theorem dX5_isOpen_21 : decode cX5_isOpen 21 = .ok (.iconst 0, 1) := by decide +kernel
theorem dX5_isOpen_22 : decode cX5_isOpen 22 = .ok (.ireturn, 1) := by decide +kernel
theorem dX5_isOpen_23 : decode cX5_isOpen 23 = .ok (.iload_n 2, 1) := by decide +kernel
theorem dX5_isOpen_24 : decode cX5_isOpen 24 = .ok (.aload_n 0, 1) := by decide +kernel
theorem dX5_isOpen_25 : decode cX5_isOpen 25 = .ok (.getfield 17, 3) := by decide +kernel
theorem dX5_isOpen_28 : decode cX5_isOpen 28 = .ok (.iload_n 1, 1) := by decide +kernel
theorem dX5_isOpen_29 : decode cX5_isOpen 29 = .ok (.aaload, 1) := by decide +kernel
theorem dX5_isOpen_30 : decode cX5_isOpen 30 = .ok (.iconst 2, 1) := by decide +kernel
theorem dX5_isOpen_31 : decode cX5_isOpen 31 = .ok (.iaload, 1) := by decide +kernel
theorem dX5_isOpen_32 : decode cX5_isOpen 32 = .ok (.if_icmp .eq 40, 3) := by decide +kernel
theorem dX5_isOpen_35 : decode cX5_isOpen 35 = .ok (.iload_n 2, 1) := by decide +kernel
theorem dX5_isOpen_36 : decode cX5_isOpen 36 = .ok (.bipush 24, 2) := by decide +kernel
theorem dX5_isOpen_38 : decode cX5_isOpen 38 = .ok (.aload_n 0, 1) := by decide +kernel
theorem dX5_isOpen_39 : decode cX5_isOpen 39 = .ok (.getfield 17, 3) := by decide +kernel
theorem dX5_isOpen_42 : decode cX5_isOpen 42 = .ok (.iload_n 1, 1) := by decide +kernel
theorem dX5_isOpen_43 : decode cX5_isOpen 43 = .ok (.aaload, 1) := by decide +kernel
theorem dX5_isOpen_44 : decode cX5_isOpen 44 = .ok (.iconst 2, 1) := by decide +kernel
theorem dX5_isOpen_45 : decode cX5_isOpen 45 = .ok (.iaload, 1) := by decide +kernel
theorem dX5_isOpen_46 : decode cX5_isOpen 46 = .ok (.iadd, 1) := by decide +kernel
theorem dX5_isOpen_47 : decode cX5_isOpen 47 = .ok (.if_icmp .eq 25, 3) := by decide +kernel
theorem dX5_isOpen_50 : decode cX5_isOpen 50 = .ok (.iload_n 2, 1) := by decide +kernel
theorem dX5_isOpen_51 : decode cX5_isOpen 51 = .ok (.bipush 24, 2) := by decide +kernel
theorem dX5_isOpen_53 : decode cX5_isOpen 53 = .ok (.irem, 1) := by decide +kernel
theorem dX5_isOpen_54 : decode cX5_isOpen 54 = .ok (.aload_n 0, 1) := by decide +kernel
theorem dX5_isOpen_55 : decode cX5_isOpen 55 = .ok (.getfield 22, 3) := by decide +kernel
theorem dX5_isOpen_58 : decode cX5_isOpen 58 = .ok (.bipush 24, 2) := by decide +kernel
theorem dX5_isOpen_60 : decode cX5_isOpen 60 = .ok (.irem, 1) := by decide +kernel
theorem dX5_isOpen_61 : decode cX5_isOpen 61 = .ok (.if_icmp .ne 5, 3) := by decide +kernel
theorem dX5_isOpen_64 : decode cX5_isOpen 64 = .ok (.iconst 1, 1) := by decide +kernel
theorem dX5_isOpen_65 : decode cX5_isOpen 65 = .ok (.ireturn, 1) := by decide +kernel
theorem dX5_isOpen_66 : decode cX5_isOpen 66 = .ok (.iinc 2 1, 3) := by decide +kernel
theorem dX5_isOpen_69 : decode cX5_isOpen 69 = .ok (.goto (-46), 3) := by decide +kernel
theorem dX5_isOpen_72 : decode cX5_isOpen 72 = .ok (.iconst 0, 1) := by decide +kernel
theorem dX5_isOpen_73 : decode cX5_isOpen 73 = .ok (.ireturn, 1) := by decide +kernel
theorem dX5_in_0 : decode cX5_in 0 = .ok (.iconst 0, 1) := by decide +kernel
theorem dX5_in_1 : decode cX5_in 1 = .ok (.istore_n 2, 1) := by decide +kernel
theorem dX5_in_2 : decode cX5_in 2 = .ok (.aload_n 0, 1) := by decide +kernel
theorem dX5_in_3 : decode cX5_in 3 = .ok (.getfield 9, 3) := by decide +kernel
theorem dX5_in_6 : decode cX5_in 6 = .ok (.astore_n 3, 1) := by decide +kernel
theorem dX5_in_7 : decode cX5_in 7 = .ok (.aload_n 3, 1) := by decide +kernel
theorem dX5_in_8 : decode cX5_in 8 = .ok (.arraylength, 1) := by decide +kernel
theorem dX5_in_9 : decode cX5_in 9 = .ok (.istore 4, 2) := by decide +kernel
theorem dX5_in_11 : decode cX5_in 11 = .ok (.iconst 0, 1) := by decide +kernel
theorem dX5_in_12 : decode cX5_in 12 = .ok (.istore 5, 2) := by decide +kernel
theorem dX5_in_14 : decode cX5_in 14 = .ok (.iload 5, 2) := by decide +kernel
theorem dX5_in_16 : decode cX5_in 16 = .ok (.iload 4, 2) := by decide +kernel
theorem dX5_in_18 : decode cX5_in 18 = .ok (.if_icmp .ge 32, 3) := by decide +kernel
theorem dX5_in_21 : decode cX5_in 21 = .ok (.aload_n 3, 1) := by decide +kernel
theorem dX5_in_22 : decode cX5_in 22 = .ok (.iload 5, 2) := by decide +kernel
theorem dX5_in_24 : decode cX5_in 24 = .ok (.aaload, 1) := by decide +kernel
theorem dX5_in_25 : decode cX5_in 25 = .ok (.astore 6, 2) := by decide +kernel
theorem dX5_in_27 : decode cX5_in 27 = .ok (.iload_n 2, 1) := by decide +kernel
theorem dX5_in_28 : decode cX5_in 28 = .ok (.aload 6, 2) := by decide +kernel
theorem dX5_in_30 : decode cX5_in 30 = .ok (.getfield 33, 3) := by decide +kernel
theorem dX5_in_33 : decode cX5_in 33 = .ok (.iload_n 1, 1) := by decide +kernel
theorem dX5_in_34 : decode cX5_in 34 = .ok (.if_icmp .ne 7, 3) := by decide +kernel
theorem dX5_in_37 : decode cX5_in 37 = .ok (.iconst 1, 1) := by decide +kernel
theorem dX5_in_38 : decode cX5_in 38 = .ok (.goto 4, 3) := by decide +kernel
theorem dX5_in_41 : decode cX5_in 41 = .ok (.iconst 0, 1) := by decide +kernel
theorem dX5_in_42 : decode cX5_in 42 = .ok (.iadd, 1) := by decide +kernel
theorem dX5_in_43 : decode cX5_in 43 = .ok (.istore_n 2, 1) := by decide +kernel
theorem dX5_in_44 : decode cX5_in 44 = .ok (.iinc 5 1, 3) := by decide +kernel
theorem dX5_in_47 : decode cX5_in 47 = .ok (.goto (-33), 3) := by decide +kernel
theorem dX5_in_50 : decode cX5_in 50 = .ok (.iload_n 2, 1) := by decide +kernel
theorem dX5_in_51 : decode cX5_in 51 = .ok (.ireturn, 1) := by decide +kernel
theorem dX5_pass_0 : decode cX5_pass 0 = .ok (.aload_n 0, 1) := by decide +kernel
theorem dX5_pass_1 : decode cX5_pass 1 = .ok (.getfield 9, 3) := by decide +kernel
theorem dX5_pass_4 : decode cX5_pass 4 = .ok (.astore_n 1, 1) := by decide +kernel
theorem dX5_pass_5 : decode cX5_pass 5 = .ok (.aload_n 1, 1) := by decide +kernel
theorem dX5_pass_6 : decode cX5_pass 6 = .ok (.arraylength, 1) := by decide +kernel
theorem dX5_pass_7 : decode cX5_pass 7 = .ok (.istore_n 2, 1) := by decide +kernel
theorem dX5_pass_8 : decode cX5_pass 8 = .ok (.iconst 0, 1) := by decide +kernel
theorem dX5_pass_9 : decode cX5_pass 9 = .ok (.istore_n 3, 1) := by decide +kernel
theorem dX5_pass_10 : decode cX5_pass 10 = .ok (.iload_n 3, 1) := by decide +kernel
theorem dX5_pass_11 : decode cX5_pass 11 = .ok (.iload_n 2, 1) := by decide +kernel
theorem dX5_pass_12 : decode cX5_pass 12 = .ok (.if_icmp .ge 115, 3) := by decide +kernel
theorem dX5_pass_15 : decode cX5_pass 15 = .ok (.aload_n 1, 1) := by decide +kernel
theorem dX5_pass_16 : decode cX5_pass 16 = .ok (.iload_n 3, 1) := by decide +kernel
theorem dX5_pass_17 : decode cX5_pass 17 = .ok (.aaload, 1) := by decide +kernel
theorem dX5_pass_18 : decode cX5_pass 18 = .ok (.astore 4, 2) := by decide +kernel
theorem dX5_pass_20 : decode cX5_pass 20 = .ok (.iconst 0, 1) := by decide +kernel
theorem dX5_pass_21 : decode cX5_pass 21 = .ok (.istore 5, 2) := by decide +kernel
theorem dX5_pass_23 : decode cX5_pass 23 = .ok (.iload 5, 2) := by decide +kernel
theorem dX5_pass_25 : decode cX5_pass 25 = .ok (.iconst 4, 1) := by decide +kernel
theorem dX5_pass_26 : decode cX5_pass 26 = .ok (.if_icmp .ge 95, 3) := by decide +kernel
theorem dX5_pass_29 : decode cX5_pass 29 = .ok (.aload 4, 2) := by decide +kernel
theorem dX5_pass_31 : decode cX5_pass 31 = .ok (.getfield 36, 3) := by decide +kernel
theorem dX5_pass_34 : decode cX5_pass 34 = .ok (.ifCond .eq 14, 3) := by decide +kernel
theorem dX5_pass_37 : decode cX5_pass 37 = .ok (.aload 4, 2) := by decide +kernel
theorem dX5_pass_39 : decode cX5_pass 39 = .ok (.getfield 40, 3) := by decide +kernel
theorem dX5_pass_42 : decode cX5_pass 42 = .ok (.iload 5, 2) := by decide +kernel
theorem dX5_pass_44 : decode cX5_pass 44 = .ok (.iaload, 1) := by decide +kernel
theorem dX5_pass_45 : decode cX5_pass 45 = .ok (.goto 11, 3) := by decide +kernel
theorem dX5_pass_48 : decode cX5_pass 48 = .ok (.aload 4, 2) := by decide +kernel
theorem dX5_pass_50 : decode cX5_pass 50 = .ok (.getfield 43, 3) := by decide +kernel
theorem dX5_pass_53 : decode cX5_pass 53 = .ok (.iload 5, 2) := by decide +kernel
theorem dX5_pass_55 : decode cX5_pass 55 = .ok (.iaload, 1) := by decide +kernel
theorem dX5_pass_56 : decode cX5_pass 56 = .ok (.istore 6, 2) := by decide +kernel
theorem dX5_pass_58 : decode cX5_pass 58 = .ok (.aload 4, 2) := by decide +kernel
theorem dX5_pass_60 : decode cX5_pass 60 = .ok (.getfield 36, 3) := by decide +kernel
theorem dX5_pass_63 : decode cX5_pass 63 = .ok (.ifCond .ne 7, 3) := by decide +kernel
theorem dX5_pass_66 : decode cX5_pass 66 = .ok (.iconst 1, 1) := by decide +kernel
theorem dX5_pass_67 : decode cX5_pass 67 = .ok (.goto 16, 3) := by decide +kernel
theorem dX5_pass_70 : decode cX5_pass 70 = .ok (.aload 4, 2) := by decide +kernel
theorem dX5_pass_72 : decode cX5_pass 72 = .ok (.getfield 33, 3) := by decide +kernel
theorem dX5_pass_75 : decode cX5_pass 75 = .ok (.ifCond .lt 7, 3) := by decide +kernel
theorem dX5_pass_78 : decode cX5_pass 78 = .ok (.iconst 2, 1) := by decide +kernel
theorem dX5_pass_79 : decode cX5_pass 79 = .ok (.goto 4, 3) := by decide +kernel
theorem dX5_pass_82 : decode cX5_pass 82 = .ok (.iconst 0, 1) := by decide +kernel
theorem dX5_pass_83 : decode cX5_pass 83 = .ok (.istore 7, 2) := by decide +kernel
theorem dX5_pass_85 : decode cX5_pass 85 = .ok (.aload 4, 2) := by decide +kernel
theorem dX5_pass_87 : decode cX5_pass 87 = .ok (.getfield 46, 3) := by decide +kernel
theorem dX5_pass_90 : decode cX5_pass 90 = .ok (.iload 5, 2) := by decide +kernel
theorem dX5_pass_92 : decode cX5_pass 92 = .ok (.aaload, 1) := by decide +kernel
theorem dX5_pass_93 : decode cX5_pass 93 = .ok (.iload 6, 2) := by decide +kernel
theorem dX5_pass_95 : decode cX5_pass 95 = .ok (.bipush 99, 2) := by decide +kernel
theorem dX5_pass_97 : decode cX5_pass 97 = .ok (.aload 4, 2) := by decide +kernel
theorem dX5_pass_99 : decode cX5_pass 99 = .ok (.getfield 46, 3) := by decide +kernel
theorem dX5_pass_102 : decode cX5_pass 102 = .ok (.iload 5, 2) := by decide +kernel
theorem dX5_pass_104 : decode cX5_pass 104 = .ok (.aaload, 1) := by decide +kernel
theorem dX5_pass_105 : decode cX5_pass 105 = .ok (.iload 6, 2) := by decide +kernel
theorem dX5_pass_107 : decode cX5_pass 107 = .ok (.iaload, 1) := by decide +kernel
theorem dX5_pass_108 : decode cX5_pass 108 = .ok (.iload 7, 2) := by decide +kernel
theorem dX5_pass_110 : decode cX5_pass 110 = .ok (.iadd, 1) := by decide +kernel
theorem dX5_pass_111 : decode cX5_pass 111 = .ok (.invokestatic 49, 3) := by decide +kernel
theorem dX5_pass_114 : decode cX5_pass 114 = .ok (.iastore, 1) := by decide +kernel
theorem dX5_pass_115 : decode cX5_pass 115 = .ok (.iinc 5 1, 3) := by decide +kernel
theorem dX5_pass_118 : decode cX5_pass 118 = .ok (.goto (-95), 3) := by decide +kernel
theorem dX5_pass_121 : decode cX5_pass 121 = .ok (.iinc 3 1, 3) := by decide +kernel
theorem dX5_pass_124 : decode cX5_pass 124 = .ok (.goto (-114), 3) := by decide +kernel
theorem dX5_pass_127 : decode cX5_pass 127 = .ok (.iconst 0, 1) := by decide +kernel
theorem dX5_pass_128 : decode cX5_pass 128 = .ok (.istore_n 1, 1) := by decide +kernel
theorem dX5_pass_129 : decode cX5_pass 129 = .ok (.aload_n 0, 1) := by decide +kernel
theorem dX5_pass_130 : decode cX5_pass 130 = .ok (.getfield 9, 3) := by decide +kernel
theorem dX5_pass_133 : decode cX5_pass 133 = .ok (.astore_n 2, 1) := by decide +kernel
theorem dX5_pass_134 : decode cX5_pass 134 = .ok (.aload_n 2, 1) := by decide +kernel
theorem dX5_pass_135 : decode cX5_pass 135 = .ok (.arraylength, 1) := by decide +kernel
theorem dX5_pass_136 : decode cX5_pass 136 = .ok (.istore_n 3, 1) := by decide +kernel
theorem dX5_pass_137 : decode cX5_pass 137 = .ok (.iconst 0, 1) := by decide +kernel
theorem dX5_pass_138 : decode cX5_pass 138 = .ok (.istore 4, 2) := by decide +kernel
theorem dX5_pass_140 : decode cX5_pass 140 = .ok (.iload 4, 2) := by decide +kernel
theorem dX5_pass_142 : decode cX5_pass 142 = .ok (.iload_n 3, 1) := by decide +kernel
theorem dX5_pass_143 : decode cX5_pass 143 = .ok (.if_icmp .ge 54, 3) := by decide +kernel
theorem dX5_pass_146 : decode cX5_pass 146 = .ok (.aload_n 2, 1) := by decide +kernel
theorem dX5_pass_147 : decode cX5_pass 147 = .ok (.iload 4, 2) := by decide +kernel
theorem dX5_pass_149 : decode cX5_pass 149 = .ok (.aaload, 1) := by decide +kernel
theorem dX5_pass_150 : decode cX5_pass 150 = .ok (.astore 5, 2) := by decide +kernel
theorem dX5_pass_152 : decode cX5_pass 152 = .ok (.aload 5, 2) := by decide +kernel
theorem dX5_pass_154 : decode cX5_pass 154 = .ok (.getfield 33, 3) := by decide +kernel
theorem dX5_pass_157 : decode cX5_pass 157 = .ok (.ifCond .lt 34, 3) := by decide +kernel
theorem dX5_pass_160 : decode cX5_pass 160 = .ok (.aload 5, 2) := by decide +kernel
theorem dX5_pass_162 : decode cX5_pass 162 = .ok (.getfield 36, 3) := by decide +kernel
theorem dX5_pass_165 : decode cX5_pass 165 = .ok (.ifCond .eq 26, 3) := by decide +kernel
theorem dX5_pass_168 : decode cX5_pass 168 = .ok (.aload_n 0, 1) := by decide +kernel
theorem dX5_pass_169 : decode cX5_pass 169 = .ok (.aload 5, 2) := by decide +kernel
theorem dX5_pass_171 : decode cX5_pass 171 = .ok (.getfield 33, 3) := by decide +kernel
theorem dX5_pass_174 : decode cX5_pass 174 = .ok (.invokevirtual 55, 3) := by decide +kernel
theorem dX5_pass_177 : decode cX5_pass 177 = .ok (.ifCond .eq 6, 3) := by decide +kernel
theorem dX5_pass_180 : decode cX5_pass 180 = .ok (.goto 11, 3) := by decide +kernel
theorem dX5_pass_183 : decode cX5_pass 183 = .ok (.aload 5, 2) := by decide +kernel
theorem dX5_pass_185 : decode cX5_pass 185 = .ok (.invokevirtual 58, 3) := by decide +kernel
theorem dX5_pass_188 : decode cX5_pass 188 = .ok (.iinc 1 1, 3) := by decide +kernel
theorem dX5_pass_191 : decode cX5_pass 191 = .ok (.iinc 4 1, 3) := by decide +kernel
theorem dX5_pass_194 : decode cX5_pass 194 = .ok (.goto (-54), 3) := by decide +kernel
theorem dX5_pass_197 : decode cX5_pass 197 = .ok (.aload_n 0, 1) := by decide +kernel
theorem dX5_pass_198 : decode cX5_pass 198 = .ok (.dup, 1) := by decide +kernel
theorem dX5_pass_199 : decode cX5_pass 199 = .ok (.getfield 22, 3) := by decide +kernel
theorem dX5_pass_202 : decode cX5_pass 202 = .ok (.iconst 1, 1) := by decide +kernel
theorem dX5_pass_203 : decode cX5_pass 203 = .ok (.iadd, 1) := by decide +kernel
theorem dX5_pass_204 : decode cX5_pass 204 = .ok (.putfield 22, 3) := by decide +kernel
theorem dX5_pass_207 : decode cX5_pass 207 = .ok (.iload_n 1, 1) := by decide +kernel
theorem dX5_pass_208 : decode cX5_pass 208 = .ok (.ireturn, 1) := by decide +kernel
theorem dX5_best_0 : decode cX5_best 0 = .ok (.iconst 5, 1) := by decide +kernel
theorem dX5_best_1 : decode cX5_best 1 = .ok (.istore_n 1, 1) := by decide +kernel
theorem dX5_best_2 : decode cX5_best 2 = .ok (.iconst 4, 1) := by decide +kernel
theorem dX5_best_3 : decode cX5_best 3 = .ok (.istore_n 2, 1) := by decide +kernel
theorem dX5_best_4 : decode cX5_best 4 = .ok (.iload_n 2, 1) := by decide +kernel
theorem dX5_best_5 : decode cX5_best 5 = .ok (.ifCond .lt 20, 3) := by decide +kernel
theorem dX5_best_8 : decode cX5_best 8 = .ok (.aload_n 0, 1) := by decide +kernel
theorem dX5_best_9 : decode cX5_best 9 = .ok (.iload_n 2, 1) := by decide +kernel
theorem dX5_best_10 : decode cX5_best 10 = .ok (.iaload, 1) := by decide +kernel
theorem dX5_best_11 : decode cX5_best 11 = .ok (.aload_n 0, 1) := by decide +kernel
theorem dX5_best_12 : decode cX5_best 12 = .ok (.iload_n 1, 1) := by decide +kernel
theorem dX5_best_13 : decode cX5_best 13 = .ok (.iaload, 1) := by decide +kernel
theorem dX5_best_14 : decode cX5_best 14 = .ok (.if_icmp .lt 5, 3) := by decide +kernel
theorem dX5_best_17 : decode cX5_best 17 = .ok (.iload_n 2, 1) := by decide +kernel
theorem dX5_best_18 : decode cX5_best 18 = .ok (.istore_n 1, 1) := by decide +kernel
theorem dX5_best_19 : decode cX5_best 19 = .ok (.iinc 2 (-1), 3) := by decide +kernel
theorem dX5_best_22 : decode cX5_best 22 = .ok (.goto (-18), 3) := by decide +kernel
theorem dX5_best_25 : decode cX5_best 25 = .ok (.iload_n 1, 1) := by decide +kernel
theorem dX5_best_26 : decode cX5_best 26 = .ok (.ireturn, 1) := by decide +kernel
theorem dX5_isSame_0 : decode cX5_isSame 0 = .ok (.iconst 0, 1) := by decide +kernel
theorem dX5_isSame_1 : decode cX5_isSame 1 = .ok (.istore_n 2, 1) := by decide +kernel
theorem dX5_isSame_2 : decode cX5_isSame 2 = .ok (.iconst 0, 1) := by decide +kernel
theorem dX5_isSame_3 : decode cX5_isSame 3 = .ok (.istore_n 3, 1) := by decide +kernel
theorem dX5_isSame_4 : decode cX5_isSame 4 = .ok (.iconst 0, 1) := by decide +kernel
theorem dX5_isSame_5 : decode cX5_isSame 5 = .ok (.istore 4, 2) := by decide +kernel
theorem dX5_isSame_7 : decode cX5_isSame 7 = .ok (.iconst 0, 1) := by decide +kernel
theorem dX5_isSame_8 : decode cX5_isSame 8 = .ok (.istore 5, 2) := by decide +kernel
theorem dX5_isSame_10 : decode cX5_isSame 10 = .ok (.iload 5, 2) := by decide +kernel
theorem dX5_isSame_12 : decode cX5_isSame 12 = .ok (.aload_n 0, 1) := by decide +kernel
theorem dX5_isSame_13 : decode cX5_isSame 13 = .ok (.getfield 9, 3) := by decide +kernel
theorem dX5_isSame_16 : decode cX5_isSame 16 = .ok (.arraylength, 1) := by decide +kernel
theorem dX5_isSame_17 : decode cX5_isSame 17 = .ok (.if_icmp .ge 248, 3) := by decide +kernel
theorem dX5_isSame_20 : decode cX5_isSame 20 = .ok (.aload_n 0, 1) := by decide +kernel
theorem dX5_isSame_21 : decode cX5_isSame 21 = .ok (.getfield 9, 3) := by decide +kernel
theorem dX5_isSame_24 : decode cX5_isSame 24 = .ok (.iload 5, 2) := by decide +kernel
theorem dX5_isSame_26 : decode cX5_isSame 26 = .ok (.aaload, 1) := by decide +kernel
theorem dX5_isSame_27 : decode cX5_isSame 27 = .ok (.astore 6, 2) := by decide +kernel
theorem dX5_isSame_29 : decode cX5_isSame 29 = .ok (.iconst 4, 1) := by decide +kernel
theorem dX5_isSame_30 : decode cX5_isSame 30 = .ok (.newarray .int, 2) := by decide +kernel
theorem dX5_isSame_32 : decode cX5_isSame 32 = .ok (.astore 7, 2) := by decide +kernel
theorem dX5_isSame_34 : decode cX5_isSame 34 = .ok (.iconst 0, 1) := by decide +kernel
theorem dX5_isSame_35 : decode cX5_isSame 35 = .ok (.istore 8, 2) := by decide +kernel
theorem dX5_isSame_37 : decode cX5_isSame 37 = .ok (.iload 8, 2) := by decide +kernel
theorem dX5_isSame_39 : decode cX5_isSame 39 = .ok (.iconst 4, 1) := by decide +kernel
theorem dX5_isSame_40 : decode cX5_isSame 40 = .ok (.if_icmp .ge 83, 3) := by decide +kernel
theorem dX5_isSame_43 : decode cX5_isSame 43 = .ok (.aload 7, 2) := by decide +kernel
theorem dX5_isSame_45 : decode cX5_isSame 45 = .ok (.iload 8, 2) := by decide +kernel
theorem dX5_isSame_47 : decode cX5_isSame 47 = .ok (.aload 6, 2) := by decide +kernel
theorem dX5_isSame_49 : decode cX5_isSame 49 = .ok (.getfield 46, 3) := by decide +kernel
theorem dX5_isSame_52 : decode cX5_isSame 52 = .ok (.iload 8, 2) := by decide +kernel
theorem dX5_isSame_54 : decode cX5_isSame 54 = .ok (.aaload, 1) := by decide +kernel
theorem dX5_isSame_55 : decode cX5_isSame 55 = .ok (.invokestatic 65, 3) := by decide +kernel
theorem dX5_isSame_58 : decode cX5_isSame 58 = .ok (.iastore, 1) := by decide +kernel
theorem dX5_isSame_59 : decode cX5_isSame 59 = .ok (.iconst 0, 1) := by decide +kernel
theorem dX5_isSame_60 : decode cX5_isSame 60 = .ok (.istore 9, 2) := by decide +kernel
theorem dX5_isSame_62 : decode cX5_isSame 62 = .ok (.iload 9, 2) := by decide +kernel
theorem dX5_isSame_64 : decode cX5_isSame 64 = .ok (.bipush 6, 2) := by decide +kernel
theorem dX5_isSame_66 : decode cX5_isSame 66 = .ok (.if_icmp .ge 51, 3) := by decide +kernel
theorem dX5_isSame_69 : decode cX5_isSame 69 = .ok (.aload_n 1, 1) := by decide +kernel
theorem dX5_isSame_70 : decode cX5_isSame 70 = .ok (.iload 5, 2) := by decide +kernel
theorem dX5_isSame_72 : decode cX5_isSame 72 = .ok (.iload 8, 2) := by decide +kernel
theorem dX5_isSame_74 : decode cX5_isSame 74 = .ok (.iload 9, 2) := by decide +kernel
theorem dX5_isSame_76 : decode cX5_isSame 76 = .ok (.invokevirtual 84, 3) := by decide +kernel
theorem dX5_isSame_79 : decode cX5_isSame 79 = .ok (.aload 6, 2) := by decide +kernel
theorem dX5_isSame_81 : decode cX5_isSame 81 = .ok (.getfield 46, 3) := by decide +kernel
theorem dX5_isSame_84 : decode cX5_isSame 84 = .ok (.iload 8, 2) := by decide +kernel
theorem dX5_isSame_86 : decode cX5_isSame 86 = .ok (.aaload, 1) := by decide +kernel
theorem dX5_isSame_87 : decode cX5_isSame 87 = .ok (.iload 9, 2) := by decide +kernel
theorem dX5_isSame_89 : decode cX5_isSame 89 = .ok (.iaload, 1) := by decide +kernel
theorem dX5_isSame_90 : decode cX5_isSame 90 = .ok (.if_icmp .eq 5, 3) := by decide +kernel
theorem dX5_isSame_93 : decode cX5_isSame 93 = .ok (.iconst 0, 1) := by decide +kernel
theorem dX5_isSame_94 : decode cX5_isSame 94 = .ok (.ireturn, 1) := by decide +kernel
theorem dX5_isSame_95 : decode cX5_isSame 95 = .ok (.iload 4, 2) := by decide +kernel
theorem dX5_isSame_97 : decode cX5_isSame 97 = .ok (.aload 6, 2) := by decide +kernel
theorem dX5_isSame_99 : decode cX5_isSame 99 = .ok (.getfield 46, 3) := by decide +kernel
theorem dX5_isSame_102 : decode cX5_isSame 102 = .ok (.iload 8, 2) := by decide +kernel
theorem dX5_isSame_104 : decode cX5_isSame 104 = .ok (.aaload, 1) := by decide +kernel
theorem dX5_isSame_105 : decode cX5_isSame 105 = .ok (.iload 9, 2) := by decide +kernel
theorem dX5_isSame_107 : decode cX5_isSame 107 = .ok (.iaload, 1) := by decide +kernel
theorem dX5_isSame_108 : decode cX5_isSame 108 = .ok (.iadd, 1) := by decide +kernel
theorem dX5_isSame_109 : decode cX5_isSame 109 = .ok (.istore 4, 2) := by decide +kernel
theorem dX5_isSame_111 : decode cX5_isSame 111 = .ok (.iinc 9 1, 3) := by decide +kernel
theorem dX5_isSame_114 : decode cX5_isSame 114 = .ok (.goto (-52), 3) := by decide +kernel
theorem dX5_isSame_117 : decode cX5_isSame 117 = .ok (.iinc 8 1, 3) := by decide +kernel
theorem dX5_isSame_120 : decode cX5_isSame 120 = .ok (.goto (-83), 3) := by decide +kernel
theorem dX5_isSame_123 : decode cX5_isSame 123 = .ok (.bipush 6, 2) := by decide +kernel
theorem dX5_isSame_125 : decode cX5_isSame 125 = .ok (.newarray .int, 2) := by decide +kernel
theorem dX5_isSame_127 : decode cX5_isSame 127 = .ok (.dup, 1) := by decide +kernel
theorem dX5_isSame_128 : decode cX5_isSame 128 = .ok (.iconst 0, 1) := by decide +kernel
theorem dX5_isSame_129 : decode cX5_isSame 129 = .ok (.aload 6, 2) := by decide +kernel
theorem dX5_isSame_131 : decode cX5_isSame 131 = .ok (.getfield 43, 3) := by decide +kernel
theorem dX5_isSame_134 : decode cX5_isSame 134 = .ok (.invokestatic 89, 3) := by decide +kernel
theorem dX5_isSame_137 : decode cX5_isSame 137 = .ok (.iastore, 1) := by decide +kernel
theorem dX5_isSame_138 : decode cX5_isSame 138 = .ok (.dup, 1) := by decide +kernel
theorem dX5_isSame_139 : decode cX5_isSame 139 = .ok (.iconst 1, 1) := by decide +kernel
theorem dX5_isSame_140 : decode cX5_isSame 140 = .ok (.aload 6, 2) := by decide +kernel
theorem dX5_isSame_142 : decode cX5_isSame 142 = .ok (.getfield 36, 3) := by decide +kernel
theorem dX5_isSame_145 : decode cX5_isSame 145 = .ok (.ifCond .eq 7, 3) := by decide +kernel
theorem dX5_isSame_148 : decode cX5_isSame 148 = .ok (.iconst 1, 1) := by decide +kernel
theorem dX5_isSame_149 : decode cX5_isSame 149 = .ok (.goto 4, 3) := by decide +kernel
theorem dX5_isSame_152 : decode cX5_isSame 152 = .ok (.iconst 0, 1) := by decide +kernel
theorem dX5_isSame_153 : decode cX5_isSame 153 = .ok (.iastore, 1) := by decide +kernel
theorem dX5_isSame_154 : decode cX5_isSame 154 = .ok (.dup, 1) := by decide +kernel
theorem dX5_isSame_155 : decode cX5_isSame 155 = .ok (.iconst 2, 1) := by decide +kernel
theorem dX5_isSame_156 : decode cX5_isSame 156 = .ok (.aload 6, 2) := by decide +kernel
theorem dX5_isSame_158 : decode cX5_isSame 158 = .ok (.getfield 33, 3) := by decide +kernel
theorem dX5_isSame_161 : decode cX5_isSame 161 = .ok (.iastore, 1) := by decide +kernel
theorem dX5_isSame_162 : decode cX5_isSame 162 = .ok (.dup, 1) := by decide +kernel
theorem dX5_isSame_163 : decode cX5_isSame 163 = .ok (.iconst 3, 1) := by decide +kernel
theorem dX5_isSame_164 : decode cX5_isSame 164 = .ok (.aload 6, 2) := by decide +kernel
theorem dX5_isSame_166 : decode cX5_isSame 166 = .ok (.getfield 91, 3) := by decide +kernel
theorem dX5_isSame_169 : decode cX5_isSame 169 = .ok (.ifCond .eq 7, 3) := by decide +kernel
theorem dX5_isSame_172 : decode cX5_isSame 172 = .ok (.iconst 1, 1) := by decide +kernel
theorem dX5_isSame_173 : decode cX5_isSame 173 = .ok (.goto 4, 3) := by decide +kernel
theorem dX5_isSame_176 : decode cX5_isSame 176 = .ok (.iconst 0, 1) := by decide +kernel
theorem dX5_isSame_177 : decode cX5_isSame 177 = .ok (.iastore, 1) := by decide +kernel
theorem dX5_isSame_178 : decode cX5_isSame 178 = .ok (.dup, 1) := by decide +kernel
theorem dX5_isSame_179 : decode cX5_isSame 179 = .ok (.iconst 4, 1) := by decide +kernel
theorem dX5_isSame_180 : decode cX5_isSame 180 = .ok (.aload 7, 2) := by decide +kernel
theorem dX5_isSame_182 : decode cX5_isSame 182 = .ok (.invokestatic 89, 3) := by decide +kernel
theorem dX5_isSame_185 : decode cX5_isSame 185 = .ok (.iastore, 1) := by decide +kernel
theorem dX5_isSame_186 : decode cX5_isSame 186 = .ok (.dup, 1) := by decide +kernel
theorem dX5_isSame_187 : decode cX5_isSame 187 = .ok (.iconst 5, 1) := by decide +kernel
theorem dX5_isSame_188 : decode cX5_isSame 188 = .ok (.aload 6, 2) := by decide +kernel
theorem dX5_isSame_190 : decode cX5_isSame 190 = .ok (.getfield 91, 3) := by decide +kernel
theorem dX5_isSame_193 : decode cX5_isSame 193 = .ok (.ifCond .eq 7, 3) := by decide +kernel
theorem dX5_isSame_196 : decode cX5_isSame 196 = .ok (.iconst (-1), 1) := by decide +kernel
theorem dX5_isSame_197 : decode cX5_isSame 197 = .ok (.goto 11, 3) := by decide +kernel
theorem dX5_isSame_200 : decode cX5_isSame 200 = .ok (.aload 6, 2) := by decide +kernel
theorem dX5_isSame_202 : decode cX5_isSame 202 = .ok (.getfield 40, 3) := by decide +kernel
theorem dX5_isSame_205 : decode cX5_isSame 205 = .ok (.invokestatic 89, 3) := by decide +kernel
theorem dX5_isSame_208 : decode cX5_isSame 208 = .ok (.iastore, 1) := by decide +kernel
theorem dX5_isSame_209 : decode cX5_isSame 209 = .ok (.astore 8, 2) := by decide +kernel
theorem dX5_isSame_211 : decode cX5_isSame 211 = .ok (.iconst 0, 1) := by decide +kernel
theorem dX5_isSame_212 : decode cX5_isSame 212 = .ok (.istore 9, 2) := by decide +kernel
theorem dX5_isSame_214 : decode cX5_isSame 214 = .ok (.iload 9, 2) := by decide +kernel
theorem dX5_isSame_216 : decode cX5_isSame 216 = .ok (.bipush 6, 2) := by decide +kernel
theorem dX5_isSame_218 : decode cX5_isSame 218 = .ok (.if_icmp .ge 27, 3) := by decide +kernel
theorem dX5_isSame_221 : decode cX5_isSame 221 = .ok (.aload_n 1, 1) := by decide +kernel
theorem dX5_isSame_222 : decode cX5_isSame 222 = .ok (.iload 5, 2) := by decide +kernel
theorem dX5_isSame_224 : decode cX5_isSame 224 = .ok (.iload 9, 2) := by decide +kernel
theorem dX5_isSame_226 : decode cX5_isSame 226 = .ok (.invokevirtual 94, 3) := by decide +kernel
theorem dX5_isSame_229 : decode cX5_isSame 229 = .ok (.aload 8, 2) := by decide +kernel
theorem dX5_isSame_231 : decode cX5_isSame 231 = .ok (.iload 9, 2) := by decide +kernel
theorem dX5_isSame_233 : decode cX5_isSame 233 = .ok (.iaload, 1) := by decide +kernel
theorem dX5_isSame_234 : decode cX5_isSame 234 = .ok (.if_icmp .eq 5, 3) := by decide +kernel
theorem dX5_isSame_237 : decode cX5_isSame 237 = .ok (.iconst 0, 1) := by decide +kernel
theorem dX5_isSame_238 : decode cX5_isSame 238 = .ok (.ireturn, 1) := by decide +kernel
theorem dX5_isSame_239 : decode cX5_isSame 239 = .ok (.iinc 9 1, 3) := by decide +kernel
theorem dX5_isSame_242 : decode cX5_isSame 242 = .ok (.goto (-28), 3) := by decide +kernel
theorem dX5_isSame_245 : decode cX5_isSame 245 = .ok (.iload_n 2, 1) := by decide +kernel
theorem dX5_isSame_246 : decode cX5_isSame 246 = .ok (.aload 8, 2) := by decide +kernel
theorem dX5_isSame_248 : decode cX5_isSame 248 = .ok (.iconst 1, 1) := by decide +kernel
theorem dX5_isSame_249 : decode cX5_isSame 249 = .ok (.iaload, 1) := by decide +kernel
theorem dX5_isSame_250 : decode cX5_isSame 250 = .ok (.iadd, 1) := by decide +kernel
theorem dX5_isSame_251 : decode cX5_isSame 251 = .ok (.istore_n 2, 1) := by decide +kernel
theorem dX5_isSame_252 : decode cX5_isSame 252 = .ok (.iload_n 3, 1) := by decide +kernel
theorem dX5_isSame_253 : decode cX5_isSame 253 = .ok (.aload 8, 2) := by decide +kernel
theorem dX5_isSame_255 : decode cX5_isSame 255 = .ok (.iconst 3, 1) := by decide +kernel
theorem dX5_isSame_256 : decode cX5_isSame 256 = .ok (.iaload, 1) := by decide +kernel
theorem dX5_isSame_257 : decode cX5_isSame 257 = .ok (.iadd, 1) := by decide +kernel
theorem dX5_isSame_258 : decode cX5_isSame 258 = .ok (.istore_n 3, 1) := by decide +kernel
theorem dX5_isSame_259 : decode cX5_isSame 259 = .ok (.iinc 5 1, 3) := by decide +kernel
theorem dX5_isSame_262 : decode cX5_isSame 262 = .ok (.goto (-252), 3) := by decide +kernel
theorem dX5_isSame_265 : decode cX5_isSame 265 = .ok (.iconst 0, 1) := by decide +kernel
theorem dX5_isSame_266 : decode cX5_isSame 266 = .ok (.istore 5, 2) := by decide +kernel
theorem dX5_isSame_268 : decode cX5_isSame 268 = .ok (.iload 5, 2) := by decide +kernel
theorem dX5_isSame_270 : decode cX5_isSame 270 = .ok (.iconst 3, 1) := by decide +kernel
theorem dX5_isSame_271 : decode cX5_isSame 271 = .ok (.if_icmp .ge 181, 3) := by decide +kernel
theorem dX5_isSame_274 : decode cX5_isSame 274 = .ok (.iconst 0, 1) := by decide +kernel
theorem dX5_isSame_275 : decode cX5_isSame 275 = .ok (.istore 6, 2) := by decide +kernel
theorem dX5_isSame_277 : decode cX5_isSame 277 = .ok (.aload_n 0, 1) := by decide +kernel
theorem dX5_isSame_278 : decode cX5_isSame 278 = .ok (.getfield 9, 3) := by decide +kernel
theorem dX5_isSame_281 : decode cX5_isSame 281 = .ok (.astore 7, 2) := by decide +kernel
theorem dX5_isSame_283 : decode cX5_isSame 283 = .ok (.aload 7, 2) := by decide +kernel
theorem dX5_isSame_285 : decode cX5_isSame 285 = .ok (.arraylength, 1) := by decide +kernel
theorem dX5_isSame_286 : decode cX5_isSame 286 = .ok (.istore 8, 2) := by decide +kernel
theorem dX5_isSame_288 : decode cX5_isSame 288 = .ok (.iconst 0, 1) := by decide +kernel
theorem dX5_isSame_289 : decode cX5_isSame 289 = .ok (.istore 9, 2) := by decide +kernel
theorem dX5_isSame_291 : decode cX5_isSame 291 = .ok (.iload 9, 2) := by decide +kernel
theorem dX5_isSame_293 : decode cX5_isSame 293 = .ok (.iload 8, 2) := by decide +kernel
theorem dX5_isSame_295 : decode cX5_isSame 295 = .ok (.if_icmp .ge 44, 3) := by decide +kernel
theorem dX5_isSame_298 : decode cX5_isSame 298 = .ok (.aload 7, 2) := by decide +kernel
theorem dX5_isSame_300 : decode cX5_isSame 300 = .ok (.iload 9, 2) := by decide +kernel
theorem dX5_isSame_302 : decode cX5_isSame 302 = .ok (.aaload, 1) := by decide +kernel
theorem dX5_isSame_303 : decode cX5_isSame 303 = .ok (.astore 10, 2) := by decide +kernel
theorem dX5_isSame_305 : decode cX5_isSame 305 = .ok (.iload 6, 2) := by decide +kernel
theorem dX5_isSame_307 : decode cX5_isSame 307 = .ok (.aload 10, 2) := by decide +kernel
theorem dX5_isSame_309 : decode cX5_isSame 309 = .ok (.getfield 33, 3) := by decide +kernel
theorem dX5_isSame_312 : decode cX5_isSame 312 = .ok (.iload 5, 2) := by decide +kernel
theorem dX5_isSame_314 : decode cX5_isSame 314 = .ok (.if_icmp .ne 15, 3) := by decide +kernel
theorem dX5_isSame_317 : decode cX5_isSame 317 = .ok (.aload 10, 2) := by decide +kernel
theorem dX5_isSame_319 : decode cX5_isSame 319 = .ok (.getfield 36, 3) := by decide +kernel
theorem dX5_isSame_322 : decode cX5_isSame 322 = .ok (.ifCond .eq 7, 3) := by decide +kernel
theorem dX5_isSame_325 : decode cX5_isSame 325 = .ok (.iconst 1, 1) := by decide +kernel
theorem dX5_isSame_326 : decode cX5_isSame 326 = .ok (.goto 4, 3) := by decide +kernel
theorem dX5_isSame_329 : decode cX5_isSame 329 = .ok (.iconst 0, 1) := by decide +kernel
theorem dX5_isSame_330 : decode cX5_isSame 330 = .ok (.iadd, 1) := by decide +kernel
theorem dX5_isSame_331 : decode cX5_isSame 331 = .ok (.istore 6, 2) := by decide +kernel
theorem dX5_isSame_333 : decode cX5_isSame 333 = .ok (.iinc 9 1, 3) := by decide +kernel
theorem dX5_isSame_336 : decode cX5_isSame 336 = .ok (.goto (-45), 3) := by decide +kernel
theorem dX5_isSame_339 : decode cX5_isSame 339 = .ok (.bipush 6, 2) := by decide +kernel
theorem dX5_isSame_341 : decode cX5_isSame 341 = .ok (.newarray .int, 2) := by decide +kernel
theorem dX5_isSame_343 : decode cX5_isSame 343 = .ok (.dup, 1) := by decide +kernel
theorem dX5_isSame_344 : decode cX5_isSame 344 = .ok (.iconst 0, 1) := by decide +kernel
theorem dX5_isSame_345 : decode cX5_isSame 345 = .ok (.aload_n 0, 1) := by decide +kernel
theorem dX5_isSame_346 : decode cX5_isSame 346 = .ok (.getfield 17, 3) := by decide +kernel
theorem dX5_isSame_349 : decode cX5_isSame 349 = .ok (.iload 5, 2) := by decide +kernel
theorem dX5_isSame_351 : decode cX5_isSame 351 = .ok (.aaload, 1) := by decide +kernel
theorem dX5_isSame_352 : decode cX5_isSame 352 = .ok (.iconst 0, 1) := by decide +kernel
theorem dX5_isSame_353 : decode cX5_isSame 353 = .ok (.iaload, 1) := by decide +kernel
theorem dX5_isSame_354 : decode cX5_isSame 354 = .ok (.iastore, 1) := by decide +kernel
theorem dX5_isSame_355 : decode cX5_isSame 355 = .ok (.dup, 1) := by decide +kernel
theorem dX5_isSame_356 : decode cX5_isSame 356 = .ok (.iconst 1, 1) := by decide +kernel
theorem dX5_isSame_357 : decode cX5_isSame 357 = .ok (.aload_n 0, 1) := by decide +kernel
theorem dX5_isSame_358 : decode cX5_isSame 358 = .ok (.iload 5, 2) := by decide +kernel
theorem dX5_isSame_360 : decode cX5_isSame 360 = .ok (.invokevirtual 97, 3) := by decide +kernel
theorem dX5_isSame_363 : decode cX5_isSame 363 = .ok (.iastore, 1) := by decide +kernel
theorem dX5_isSame_364 : decode cX5_isSame 364 = .ok (.dup, 1) := by decide +kernel
theorem dX5_isSame_365 : decode cX5_isSame 365 = .ok (.iconst 2, 1) := by decide +kernel
theorem dX5_isSame_366 : decode cX5_isSame 366 = .ok (.aload_n 0, 1) := by decide +kernel
theorem dX5_isSame_367 : decode cX5_isSame 367 = .ok (.iload 5, 2) := by decide +kernel
theorem dX5_isSame_369 : decode cX5_isSame 369 = .ok (.invokevirtual 55, 3) := by decide +kernel
theorem dX5_isSame_372 : decode cX5_isSame 372 = .ok (.ifCond .eq 7, 3) := by decide +kernel
theorem dX5_isSame_375 : decode cX5_isSame 375 = .ok (.iconst 1, 1) := by decide +kernel
theorem dX5_isSame_376 : decode cX5_isSame 376 = .ok (.goto 4, 3) := by decide +kernel
theorem dX5_isSame_379 : decode cX5_isSame 379 = .ok (.iconst 0, 1) := by decide +kernel
theorem dX5_isSame_380 : decode cX5_isSame 380 = .ok (.iastore, 1) := by decide +kernel
theorem dX5_isSame_381 : decode cX5_isSame 381 = .ok (.dup, 1) := by decide +kernel
theorem dX5_isSame_382 : decode cX5_isSame 382 = .ok (.iconst 3, 1) := by decide +kernel
theorem dX5_isSame_383 : decode cX5_isSame 383 = .ok (.iload 6, 2) := by decide +kernel
theorem dX5_isSame_385 : decode cX5_isSame 385 = .ok (.iastore, 1) := by decide +kernel
theorem dX5_isSame_386 : decode cX5_isSame 386 = .ok (.dup, 1) := by decide +kernel
theorem dX5_isSame_387 : decode cX5_isSame 387 = .ok (.iconst 4, 1) := by decide +kernel
theorem dX5_isSame_388 : decode cX5_isSame 388 = .ok (.aload_n 0, 1) := by decide +kernel
theorem dX5_isSame_389 : decode cX5_isSame 389 = .ok (.getfield 17, 3) := by decide +kernel
theorem dX5_isSame_392 : decode cX5_isSame 392 = .ok (.iload 5, 2) := by decide +kernel
theorem dX5_isSame_394 : decode cX5_isSame 394 = .ok (.aaload, 1) := by decide +kernel
theorem dX5_isSame_395 : decode cX5_isSame 395 = .ok (.iconst 1, 1) := by decide +kernel
theorem dX5_isSame_396 : decode cX5_isSame 396 = .ok (.iaload, 1) := by decide +kernel
theorem dX5_isSame_397 : decode cX5_isSame 397 = .ok (.iastore, 1) := by decide +kernel
theorem dX5_isSame_398 : decode cX5_isSame 398 = .ok (.dup, 1) := by decide +kernel
theorem dX5_isSame_399 : decode cX5_isSame 399 = .ok (.iconst 5, 1) := by decide +kernel
theorem dX5_isSame_400 : decode cX5_isSame 400 = .ok (.aload_n 0, 1) := by decide +kernel
theorem dX5_isSame_401 : decode cX5_isSame 401 = .ok (.getfield 17, 3) := by decide +kernel
theorem dX5_isSame_404 : decode cX5_isSame 404 = .ok (.iload 5, 2) := by decide +kernel
theorem dX5_isSame_406 : decode cX5_isSame 406 = .ok (.aaload, 1) := by decide +kernel
theorem dX5_isSame_407 : decode cX5_isSame 407 = .ok (.iconst 2, 1) := by decide +kernel
theorem dX5_isSame_408 : decode cX5_isSame 408 = .ok (.iaload, 1) := by decide +kernel
theorem dX5_isSame_409 : decode cX5_isSame 409 = .ok (.iastore, 1) := by decide +kernel
theorem dX5_isSame_410 : decode cX5_isSame 410 = .ok (.astore 7, 2) := by decide +kernel
theorem dX5_isSame_412 : decode cX5_isSame 412 = .ok (.iconst 0, 1) := by decide +kernel
theorem dX5_isSame_413 : decode cX5_isSame 413 = .ok (.istore 8, 2) := by decide +kernel
theorem dX5_isSame_415 : decode cX5_isSame 415 = .ok (.iload 8, 2) := by decide +kernel
theorem dX5_isSame_417 : decode cX5_isSame 417 = .ok (.bipush 6, 2) := by decide +kernel
theorem dX5_isSame_419 : decode cX5_isSame 419 = .ok (.if_icmp .ge 27, 3) := by decide +kernel
theorem dX5_isSame_422 : decode cX5_isSame 422 = .ok (.aload_n 1, 1) := by decide +kernel
theorem dX5_isSame_423 : decode cX5_isSame 423 = .ok (.iload 5, 2) := by decide +kernel
theorem dX5_isSame_425 : decode cX5_isSame 425 = .ok (.iload 8, 2) := by decide +kernel
theorem dX5_isSame_427 : decode cX5_isSame 427 = .ok (.invokevirtual 101, 3) := by decide +kernel
theorem dX5_isSame_430 : decode cX5_isSame 430 = .ok (.aload 7, 2) := by decide +kernel
theorem dX5_isSame_432 : decode cX5_isSame 432 = .ok (.iload 8, 2) := by decide +kernel
theorem dX5_isSame_434 : decode cX5_isSame 434 = .ok (.iaload, 1) := by decide +kernel
theorem dX5_isSame_435 : decode cX5_isSame 435 = .ok (.if_icmp .eq 5, 3) := by decide +kernel
theorem dX5_isSame_438 : decode cX5_isSame 438 = .ok (.iconst 0, 1) := by decide +kernel
theorem dX5_isSame_439 : decode cX5_isSame 439 = .ok (.ireturn, 1) := by decide +kernel
theorem dX5_isSame_440 : decode cX5_isSame 440 = .ok (.iinc 8 1, 3) := by decide +kernel
theorem dX5_isSame_443 : decode cX5_isSame 443 = .ok (.goto (-28), 3) := by decide +kernel
theorem dX5_isSame_446 : decode cX5_isSame 446 = .ok (.iinc 5 1, 3) := by decide +kernel
theorem dX5_isSame_449 : decode cX5_isSame 449 = .ok (.goto (-181), 3) := by decide +kernel
theorem dX5_isSame_452 : decode cX5_isSame 452 = .ok (.bipush 7, 2) := by decide +kernel
theorem dX5_isSame_454 : decode cX5_isSame 454 = .ok (.newarray .int, 2) := by decide +kernel
theorem dX5_isSame_456 : decode cX5_isSame 456 = .ok (.dup, 1) := by decide +kernel
theorem dX5_isSame_457 : decode cX5_isSame 457 = .ok (.iconst 0, 1) := by decide +kernel
theorem dX5_isSame_458 : decode cX5_isSame 458 = .ok (.aload_n 0, 1) := by decide +kernel
theorem dX5_isSame_459 : decode cX5_isSame 459 = .ok (.getfield 22, 3) := by decide +kernel
theorem dX5_isSame_462 : decode cX5_isSame 462 = .ok (.iastore, 1) := by decide +kernel
theorem dX5_isSame_463 : decode cX5_isSame 463 = .ok (.dup, 1) := by decide +kernel
theorem dX5_isSame_464 : decode cX5_isSame 464 = .ok (.iconst 1, 1) := by decide +kernel
theorem dX5_isSame_465 : decode cX5_isSame 465 = .ok (.aload_n 0, 1) := by decide +kernel
theorem dX5_isSame_466 : decode cX5_isSame 466 = .ok (.getfield 9, 3) := by decide +kernel
theorem dX5_isSame_469 : decode cX5_isSame 469 = .ok (.arraylength, 1) := by decide +kernel
theorem dX5_isSame_470 : decode cX5_isSame 470 = .ok (.iastore, 1) := by decide +kernel
theorem dX5_isSame_471 : decode cX5_isSame 471 = .ok (.dup, 1) := by decide +kernel
theorem dX5_isSame_472 : decode cX5_isSame 472 = .ok (.iconst 2, 1) := by decide +kernel
theorem dX5_isSame_473 : decode cX5_isSame 473 = .ok (.iload_n 2, 1) := by decide +kernel
theorem dX5_isSame_474 : decode cX5_isSame 474 = .ok (.iastore, 1) := by decide +kernel
theorem dX5_isSame_475 : decode cX5_isSame 475 = .ok (.dup, 1) := by decide +kernel
theorem dX5_isSame_476 : decode cX5_isSame 476 = .ok (.iconst 3, 1) := by decide +kernel
theorem dX5_isSame_477 : decode cX5_isSame 477 = .ok (.iload_n 3, 1) := by decide +kernel
theorem dX5_isSame_478 : decode cX5_isSame 478 = .ok (.iastore, 1) := by decide +kernel
theorem dX5_isSame_479 : decode cX5_isSame 479 = .ok (.dup, 1) := by decide +kernel
theorem dX5_isSame_480 : decode cX5_isSame 480 = .ok (.iconst 4, 1) := by decide +kernel
theorem dX5_isSame_481 : decode cX5_isSame 481 = .ok (.iload 4, 2) := by decide +kernel
theorem dX5_isSame_483 : decode cX5_isSame 483 = .ok (.iastore, 1) := by decide +kernel
theorem dX5_isSame_484 : decode cX5_isSame 484 = .ok (.dup, 1) := by decide +kernel
theorem dX5_isSame_485 : decode cX5_isSame 485 = .ok (.iconst 5, 1) := by decide +kernel
theorem dX5_isSame_486 : decode cX5_isSame 486 = .ok (.aload_n 0, 1) := by decide +kernel
theorem dX5_isSame_487 : decode cX5_isSame 487 = .ok (.getfield 26, 3) := by decide +kernel
theorem dX5_isSame_490 : decode cX5_isSame 490 = .ok (.iastore, 1) := by decide +kernel
theorem dX5_isSame_491 : decode cX5_isSame 491 = .ok (.dup, 1) := by decide +kernel
theorem dX5_isSame_492 : decode cX5_isSame 492 = .ok (.bipush 6, 2) := by decide +kernel
theorem dX5_isSame_494 : decode cX5_isSame 494 = .ok (.aload_n 0, 1) := by decide +kernel
theorem dX5_isSame_495 : decode cX5_isSame 495 = .ok (.iconst 0, 1) := by decide +kernel
theorem dX5_isSame_496 : decode cX5_isSame 496 = .ok (.invokevirtual 97, 3) := by decide +kernel
theorem dX5_isSame_499 : decode cX5_isSame 499 = .ok (.aload_n 0, 1) := by decide +kernel
theorem dX5_isSame_500 : decode cX5_isSame 500 = .ok (.iconst 1, 1) := by decide +kernel
theorem dX5_isSame_501 : decode cX5_isSame 501 = .ok (.invokevirtual 97, 3) := by decide +kernel
theorem dX5_isSame_504 : decode cX5_isSame 504 = .ok (.iadd, 1) := by decide +kernel
theorem dX5_isSame_505 : decode cX5_isSame 505 = .ok (.aload_n 0, 1) := by decide +kernel
theorem dX5_isSame_506 : decode cX5_isSame 506 = .ok (.iconst 2, 1) := by decide +kernel
theorem dX5_isSame_507 : decode cX5_isSame 507 = .ok (.invokevirtual 97, 3) := by decide +kernel
theorem dX5_isSame_510 : decode cX5_isSame 510 = .ok (.iadd, 1) := by decide +kernel
theorem dX5_isSame_511 : decode cX5_isSame 511 = .ok (.iastore, 1) := by decide +kernel
theorem dX5_isSame_512 : decode cX5_isSame 512 = .ok (.astore 5, 2) := by decide +kernel
theorem dX5_isSame_514 : decode cX5_isSame 514 = .ok (.iconst 0, 1) := by decide +kernel
theorem dX5_isSame_515 : decode cX5_isSame 515 = .ok (.istore 6, 2) := by decide +kernel
theorem dX5_isSame_517 : decode cX5_isSame 517 = .ok (.iload 6, 2) := by decide +kernel
theorem dX5_isSame_519 : decode cX5_isSame 519 = .ok (.bipush 7, 2) := by decide +kernel
theorem dX5_isSame_521 : decode cX5_isSame 521 = .ok (.if_icmp .ge 25, 3) := by decide +kernel
theorem dX5_isSame_524 : decode cX5_isSame 524 = .ok (.aload_n 1, 1) := by decide +kernel
theorem dX5_isSame_525 : decode cX5_isSame 525 = .ok (.iload 6, 2) := by decide +kernel
theorem dX5_isSame_527 : decode cX5_isSame 527 = .ok (.invokevirtual 103, 3) := by decide +kernel
theorem dX5_isSame_530 : decode cX5_isSame 530 = .ok (.aload 5, 2) := by decide +kernel
theorem dX5_isSame_532 : decode cX5_isSame 532 = .ok (.iload 6, 2) := by decide +kernel
theorem dX5_isSame_534 : decode cX5_isSame 534 = .ok (.iaload, 1) := by decide +kernel
theorem dX5_isSame_535 : decode cX5_isSame 535 = .ok (.if_icmp .eq 5, 3) := by decide +kernel
theorem dX5_isSame_538 : decode cX5_isSame 538 = .ok (.iconst 0, 1) := by decide +kernel
theorem dX5_isSame_539 : decode cX5_isSame 539 = .ok (.ireturn, 1) := by decide +kernel
theorem dX5_isSame_540 : decode cX5_isSame 540 = .ok (.iinc 6 1, 3) := by decide +kernel
theorem dX5_isSame_543 : decode cX5_isSame 543 = .ok (.goto (-26), 3) := by decide +kernel
theorem dX5_isSame_546 : decode cX5_isSame 546 = .ok (.aload_n 1, 1) := by decide +kernel
theorem dX5_isSame_547 : decode cX5_isSame 547 = .ok (.invokevirtual 106, 3) := by decide +kernel
theorem dX5_isSame_550 : decode cX5_isSame 550 = .ok (.aload_n 0, 1) := by decide +kernel
theorem dX5_isSame_551 : decode cX5_isSame 551 = .ok (.getfield 9, 3) := by decide +kernel
theorem dX5_isSame_554 : decode cX5_isSame 554 = .ok (.arraylength, 1) := by decide +kernel
theorem dX5_isSame_555 : decode cX5_isSame 555 = .ok (.ifCond .ne 7, 3) := by decide +kernel
theorem dX5_isSame_558 : decode cX5_isSame 558 = .ok (.dconst 0, 1) := by decide +kernel
theorem dX5_isSame_559 : decode cX5_isSame 559 = .ok (.goto 16, 3) := by decide +kernel
theorem dX5_isSame_562 : decode cX5_isSame 562 = .ok (.iload 4, 2) := by decide +kernel
theorem dX5_isSame_564 : decode cX5_isSame 564 = .ok (.i2d, 1) := by decide +kernel
theorem dX5_isSame_565 : decode cX5_isSame 565 = .ok (.bipush 24, 2) := by decide +kernel
theorem dX5_isSame_567 : decode cX5_isSame 567 = .ok (.aload_n 0, 1) := by decide +kernel
theorem dX5_isSame_568 : decode cX5_isSame 568 = .ok (.getfield 9, 3) := by decide +kernel
theorem dX5_isSame_571 : decode cX5_isSame 571 = .ok (.arraylength, 1) := by decide +kernel
theorem dX5_isSame_572 : decode cX5_isSame 572 = .ok (.imul, 1) := by decide +kernel
theorem dX5_isSame_573 : decode cX5_isSame 573 = .ok (.i2d, 1) := by decide +kernel
theorem dX5_isSame_574 : decode cX5_isSame 574 = .ok (.ddiv, 1) := by decide +kernel
theorem dX5_isSame_575 : decode cX5_isSame 575 = .ok (.dcmp .l, 1) := by decide +kernel
theorem dX5_isSame_576 : decode cX5_isSame 576 = .ok (.ifCond .ne 7, 3) := by decide +kernel
theorem dX5_isSame_579 : decode cX5_isSame 579 = .ok (.iconst 1, 1) := by decide +kernel
theorem dX5_isSame_580 : decode cX5_isSame 580 = .ok (.goto 4, 3) := by decide +kernel
theorem dX5_isSame_583 : decode cX5_isSame 583 = .ok (.iconst 0, 1) := by decide +kernel
theorem dX5_isSame_584 : decode cX5_isSame 584 = .ok (.ireturn, 1) := by decide +kernel
theorem dJ9_abs_0f7a4_0 : decode cJ9_abs_0f7a4 0 = .ok (.iload_n 0, 1) := by decide +kernel
theorem dJ9_abs_0f7a4_1 : decode cJ9_abs_0f7a4 1 = .ok (.ifCond .ge 8, 3) := by decide +kernel
theorem dJ9_abs_0f7a4_4 : decode cJ9_abs_0f7a4 4 = .ok (.iload_n 0, 1) := by decide +kernel
theorem dJ9_abs_0f7a4_5 : decode cJ9_abs_0f7a4 5 = .ok (.ineg, 1) := by decide +kernel
theorem dJ9_abs_0f7a4_6 : decode cJ9_abs_0f7a4 6 = .ok (.goto 4, 3) := by decide +kernel
theorem dJ9_abs_0f7a4_9 : decode cJ9_abs_0f7a4 9 = .ok (.iload_n 0, 1) := by decide +kernel
theorem dJ9_abs_0f7a4_10 : decode cJ9_abs_0f7a4 10 = .ok (.ireturn, 1) := by decide +kernel
theorem dJ9_max_7cf53_0 : decode cJ9_max_7cf53 0 = .ok (.iload_n 0, 1) := by decide +kernel
theorem dJ9_max_7cf53_1 : decode cJ9_max_7cf53 1 = .ok (.iload_n 1, 1) := by decide +kernel
theorem dJ9_max_7cf53_2 : decode cJ9_max_7cf53 2 = .ok (.if_icmp .lt 7, 3) := by decide +kernel
theorem dJ9_max_7cf53_5 : decode cJ9_max_7cf53 5 = .ok (.iload_n 0, 1) := by decide +kernel
theorem dJ9_max_7cf53_6 : decode cJ9_max_7cf53 6 = .ok (.goto 4, 3) := by decide +kernel
theorem dJ9_max_7cf53_9 : decode cJ9_max_7cf53 9 = .ok (.iload_n 1, 1) := by decide +kernel
theorem dJ9_max_7cf53_10 : decode cJ9_max_7cf53 10 = .ok (.ireturn, 1) := by decide +kernel
theorem dJ9_min_7cf53_0 : decode cJ9_min_7cf53 0 = .ok (.iload_n 0, 1) := by decide +kernel
theorem dJ9_min_7cf53_1 : decode cJ9_min_7cf53 1 = .ok (.iload_n 1, 1) := by decide +kernel
theorem dJ9_min_7cf53_2 : decode cJ9_min_7cf53 2 = .ok (.if_icmp .gt 7, 3) := by decide +kernel
theorem dJ9_min_7cf53_5 : decode cJ9_min_7cf53 5 = .ok (.iload_n 0, 1) := by decide +kernel
theorem dJ9_min_7cf53_6 : decode cJ9_min_7cf53 6 = .ok (.goto 4, 3) := by decide +kernel
theorem dJ9_min_7cf53_9 : decode cJ9_min_7cf53 9 = .ok (.iload_n 1, 1) := by decide +kernel
theorem dJ9_min_7cf53_10 : decode cJ9_min_7cf53 10 = .ok (.ireturn, 1) := by decide +kernel
theorem dJxa1e45_init_da8c8_0 : decode cJxa1e45_init_da8c8 0 = .ok (.aload_n 0, 1) := by decide +kernel
theorem dJxa1e45_init_da8c8_1 : decode cJxa1e45_init_da8c8 1 = .ok (.invokespecial 1, 3) := by decide +kernel
theorem dJxa1e45_init_da8c8_4 : decode cJxa1e45_init_da8c8 4 = .ok (.return_, 1) := by decide +kernel
theorem dJxc12de_init_da8c8_0 : decode cJxc12de_init_da8c8 0 = .ok (.aload_n 0, 1) := by decide +kernel
theorem dJxc12de_init_da8c8_1 : decode cJxc12de_init_da8c8 1 = .ok (.invokespecial 1, 3) := by decide +kernel
theorem dJxc12de_init_da8c8_4 : decode cJxc12de_init_da8c8 4 = .ok (.aload_n 0, 1) := by decide +kernel
theorem dJxc12de_init_da8c8_5 : decode cJxc12de_init_da8c8 5 = .ok (.iconst 0, 1) := by decide +kernel
theorem dJxc12de_init_da8c8_6 : decode cJxc12de_init_da8c8 6 = .ok (.putfield 7, 3) := by decide +kernel
theorem dJxc12de_init_da8c8_9 : decode cJxc12de_init_da8c8 9 = .ok (.return_, 1) := by decide +kernel
theorem dJx4a65c_init_da8c8_0 : decode cJx4a65c_init_da8c8 0 = .ok (.aload_n 0, 1) := by decide +kernel
theorem dJx4a65c_init_da8c8_1 : decode cJx4a65c_init_da8c8 1 = .ok (.invokespecial 1, 3) := by decide +kernel
theorem dJx4a65c_init_da8c8_4 : decode cJx4a65c_init_da8c8 4 = .ok (.aload_n 0, 1) := by decide +kernel
theorem dJx4a65c_init_da8c8_5 : decode cJx4a65c_init_da8c8 5 = .ok (.getstatic 39, 3) := by decide +kernel
theorem dJx4a65c_init_da8c8_8 : decode cJx4a65c_init_da8c8 8 = .ok (.putfield 9, 3) := by decide +kernel
theorem dJx4a65c_init_da8c8_11 : decode cJx4a65c_init_da8c8 11 = .ok (.return_, 1) := by decide +kernel
theorem dJx4a65c_grow_92f84_0 : decode cJx4a65c_grow_92f84 0 = .ok (.aload_n 0, 1) := by decide +kernel
theorem dJx4a65c_grow_92f84_1 : decode cJx4a65c_grow_92f84 1 = .ok (.getfield 9, 3) := by decide +kernel
theorem dJx4a65c_grow_92f84_4 : decode cJx4a65c_grow_92f84 4 = .ok (.arraylength, 1) := by decide +kernel
theorem dJx4a65c_grow_92f84_5 : decode cJx4a65c_grow_92f84 5 = .ok (.istore_n 2, 1) := by decide +kernel
theorem dJx4a65c_grow_92f84_6 : decode cJx4a65c_grow_92f84 6 = .ok (.iload_n 2, 1) := by decide +kernel
theorem dJx4a65c_grow_92f84_7 : decode cJx4a65c_grow_92f84 7 = .ok (.ifCond .gt 13, 3) := by decide +kernel
theorem dJx4a65c_grow_92f84_10 : decode cJx4a65c_grow_92f84 10 = .ok (.aload_n 0, 1) := by decide +kernel
theorem dJx4a65c_grow_92f84_11 : decode cJx4a65c_grow_92f84 11 = .ok (.getfield 9, 3) := by decide +kernel
theorem dJx4a65c_grow_92f84_14 : decode cJx4a65c_grow_92f84 14 = .ok (.getstatic 39, 3) := by decide +kernel
theorem dJx4a65c_grow_92f84_17 : decode cJx4a65c_grow_92f84 17 = .ok (.if_acmp .eq 28, 3) := by decide +kernel
theorem dJx4a65c_grow_92f84_20 : decode cJx4a65c_grow_92f84 20 = .ok (.iload_n 2, 1) := by decide +kernel
theorem dJx4a65c_grow_92f84_21 : decode cJx4a65c_grow_92f84 21 = .ok (.iload_n 1, 1) := by decide +kernel
theorem dJx4a65c_grow_92f84_22 : decode cJx4a65c_grow_92f84 22 = .ok (.iload_n 2, 1) := by decide +kernel
theorem dJx4a65c_grow_92f84_23 : decode cJx4a65c_grow_92f84 23 = .ok (.isub, 1) := by decide +kernel
theorem dJx4a65c_grow_92f84_24 : decode cJx4a65c_grow_92f84 24 = .ok (.iload_n 2, 1) := by decide +kernel
theorem dJx4a65c_grow_92f84_25 : decode cJx4a65c_grow_92f84 25 = .ok (.iconst 1, 1) := by decide +kernel
theorem dJx4a65c_grow_92f84_26 : decode cJx4a65c_grow_92f84 26 = .ok (.ishr, 1) := by decide +kernel
theorem dJx4a65c_grow_92f84_27 : decode cJx4a65c_grow_92f84 27 = .ok (.invokestatic 73, 3) := by decide +kernel
theorem dJx4a65c_grow_92f84_30 : decode cJx4a65c_grow_92f84 30 = .ok (.istore_n 3, 1) := by decide +kernel
theorem dJx4a65c_grow_92f84_31 : decode cJx4a65c_grow_92f84 31 = .ok (.aload_n 0, 1) := by decide +kernel
theorem dJx4a65c_grow_92f84_32 : decode cJx4a65c_grow_92f84 32 = .ok (.aload_n 0, 1) := by decide +kernel
theorem dJx4a65c_grow_92f84_33 : decode cJx4a65c_grow_92f84 33 = .ok (.getfield 9, 3) := by decide +kernel
theorem dJx4a65c_grow_92f84_36 : decode cJx4a65c_grow_92f84 36 = .ok (.iload_n 3, 1) := by decide +kernel
theorem dJx4a65c_grow_92f84_37 : decode cJx4a65c_grow_92f84 37 = .ok (.invokestatic 66, 3) := by decide +kernel
theorem dJx4a65c_grow_92f84_40 : decode cJx4a65c_grow_92f84 40 = .ok (.dup_x1, 1) := by decide +kernel
theorem dJx4a65c_grow_92f84_41 : decode cJx4a65c_grow_92f84 41 = .ok (.putfield 9, 3) := by decide +kernel
theorem dJx4a65c_grow_92f84_44 : decode cJx4a65c_grow_92f84 44 = .ok (.areturn, 1) := by decide +kernel
theorem dJx4a65c_grow_92f84_45 : decode cJx4a65c_grow_92f84 45 = .ok (.aload_n 0, 1) := by decide +kernel
theorem dJx4a65c_grow_92f84_46 : decode cJx4a65c_grow_92f84 46 = .ok (.bipush 10, 2) := by decide +kernel
theorem dJx4a65c_grow_92f84_48 : decode cJx4a65c_grow_92f84 48 = .ok (.iload_n 1, 1) := by decide +kernel
theorem dJx4a65c_grow_92f84_49 : decode cJx4a65c_grow_92f84 49 = .ok (.invokestatic 79, 3) := by decide +kernel
theorem dJx4a65c_grow_92f84_52 : decode cJx4a65c_grow_92f84 52 = .ok (.anewarray 7, 3) := by decide +kernel
theorem dJx4a65c_grow_92f84_55 : decode cJx4a65c_grow_92f84 55 = .ok (.dup_x1, 1) := by decide +kernel
theorem dJx4a65c_grow_92f84_56 : decode cJx4a65c_grow_92f84 56 = .ok (.putfield 9, 3) := by decide +kernel
theorem dJx4a65c_grow_92f84_59 : decode cJx4a65c_grow_92f84 59 = .ok (.areturn, 1) := by decide +kernel
theorem dJx4a65c_grow_d5877_0 : decode cJx4a65c_grow_d5877 0 = .ok (.aload_n 0, 1) := by decide +kernel
theorem dJx4a65c_grow_d5877_1 : decode cJx4a65c_grow_d5877 1 = .ok (.aload_n 0, 1) := by decide +kernel
theorem dJx4a65c_grow_d5877_2 : decode cJx4a65c_grow_d5877 2 = .ok (.getfield 48, 3) := by decide +kernel
theorem dJx4a65c_grow_d5877_5 : decode cJx4a65c_grow_d5877 5 = .ok (.iconst 1, 1) := by decide +kernel
theorem dJx4a65c_grow_d5877_6 : decode cJx4a65c_grow_d5877 6 = .ok (.iadd, 1) := by decide +kernel
theorem dJx4a65c_grow_d5877_7 : decode cJx4a65c_grow_d5877 7 = .ok (.invokevirtual 69, 3) := by decide +kernel
theorem dJx4a65c_grow_d5877_10 : decode cJx4a65c_grow_d5877 10 = .ok (.areturn, 1) := by decide +kernel
theorem dJx4a65c_size_8abf5_0 : decode cJx4a65c_size_8abf5 0 = .ok (.aload_n 0, 1) := by decide +kernel
theorem dJx4a65c_size_8abf5_1 : decode cJx4a65c_size_8abf5 1 = .ok (.getfield 48, 3) := by decide +kernel
theorem dJx4a65c_size_8abf5_4 : decode cJx4a65c_size_8abf5 4 = .ok (.ireturn, 1) := by decide +kernel
theorem dJx4a65c_elementData_915e3_0 : decode cJx4a65c_elementData_915e3 0 = .ok (.aload_n 0, 1) := by decide +kernel
theorem dJx4a65c_elementData_915e3_1 : decode cJx4a65c_elementData_915e3 1 = .ok (.getfield 9, 3) := by decide +kernel
theorem dJx4a65c_elementData_915e3_4 : decode cJx4a65c_elementData_915e3 4 = .ok (.iload_n 1, 1) := by decide +kernel
theorem dJx4a65c_elementData_915e3_5 : decode cJx4a65c_elementData_915e3 5 = .ok (.aaload, 1) := by decide +kernel
theorem dJx4a65c_elementData_915e3_6 : decode cJx4a65c_elementData_915e3 6 = .ok (.areturn, 1) := by decide +kernel
theorem dJx4a65c_get_915e3_0 : decode cJx4a65c_get_915e3 0 = .ok (.iload_n 1, 1) := by decide +kernel
theorem dJx4a65c_get_915e3_1 : decode cJx4a65c_get_915e3 1 = .ok (.aload_n 0, 1) := by decide +kernel
theorem dJx4a65c_get_915e3_2 : decode cJx4a65c_get_915e3 2 = .ok (.getfield 48, 3) := by decide +kernel
theorem dJx4a65c_get_915e3_5 : decode cJx4a65c_get_915e3 5 = .ok (.invokestatic 118, 3) := by decide +kernel
theorem dJx4a65c_get_915e3_8 : decode cJx4a65c_get_915e3 8 = .ok (.pop, 1) := by decide +kernel
theorem dJx4a65c_get_915e3_9 : decode cJx4a65c_get_915e3 9 = .ok (.aload_n 0, 1) := by decide +kernel
theorem dJx4a65c_get_915e3_10 : decode cJx4a65c_get_915e3 10 = .ok (.iload_n 1, 1) := by decide +kernel
theorem dJx4a65c_get_915e3_11 : decode cJx4a65c_get_915e3 11 = .ok (.invokevirtual 123, 3) := by decide +kernel
theorem dJx4a65c_get_915e3_14 : decode cJx4a65c_get_915e3 14 = .ok (.areturn, 1) := by decide +kernel
theorem dJx4a65c_add_72be8_0 : decode cJx4a65c_add_72be8 0 = .ok (.iload_n 3, 1) := by decide +kernel
theorem dJx4a65c_add_72be8_1 : decode cJx4a65c_add_72be8 1 = .ok (.aload_n 2, 1) := by decide +kernel
theorem dJx4a65c_add_72be8_2 : decode cJx4a65c_add_72be8 2 = .ok (.arraylength, 1) := by decide +kernel
theorem dJx4a65c_add_72be8_3 : decode cJx4a65c_add_72be8 3 = .ok (.if_icmp .ne 8, 3) := by decide +kernel
theorem dJx4a65c_add_72be8_6 : decode cJx4a65c_add_72be8 6 = .ok (.aload_n 0, 1) := by decide +kernel
theorem dJx4a65c_add_72be8_7 : decode cJx4a65c_add_72be8 7 = .ok (.invokevirtual 129, 3) := by decide +kernel
theorem dJx4a65c_add_72be8_10 : decode cJx4a65c_add_72be8 10 = .ok (.astore_n 2, 1) := by decide +kernel
theorem dJx4a65c_add_72be8_11 : decode cJx4a65c_add_72be8 11 = .ok (.aload_n 2, 1) := by decide +kernel
theorem dJx4a65c_add_72be8_12 : decode cJx4a65c_add_72be8 12 = .ok (.iload_n 3, 1) := by decide +kernel
theorem dJx4a65c_add_72be8_13 : decode cJx4a65c_add_72be8 13 = .ok (.aload_n 1, 1) := by decide +kernel
theorem dJx4a65c_add_72be8_14 : decode cJx4a65c_add_72be8 14 = .ok (.aastore, 1) := by decide +kernel
theorem dJx4a65c_add_72be8_15 : decode cJx4a65c_add_72be8 15 = .ok (.aload_n 0, 1) := by decide +kernel
theorem dJx4a65c_add_72be8_16 : decode cJx4a65c_add_72be8 16 = .ok (.iload_n 3, 1) := by decide +kernel
theorem dJx4a65c_add_72be8_17 : decode cJx4a65c_add_72be8 17 = .ok (.iconst 1, 1) := by decide +kernel
theorem dJx4a65c_add_72be8_18 : decode cJx4a65c_add_72be8 18 = .ok (.iadd, 1) := by decide +kernel
theorem dJx4a65c_add_72be8_19 : decode cJx4a65c_add_72be8 19 = .ok (.putfield 48, 3) := by decide +kernel
theorem dJx4a65c_add_72be8_22 : decode cJx4a65c_add_72be8 22 = .ok (.return_, 1) := by decide +kernel
theorem dJx4a65c_add_9ea2d_0 : decode cJx4a65c_add_9ea2d 0 = .ok (.aload_n 0, 1) := by decide +kernel
theorem dJx4a65c_add_9ea2d_1 : decode cJx4a65c_add_9ea2d 1 = .ok (.dup, 1) := by decide +kernel
theorem dJx4a65c_add_9ea2d_2 : decode cJx4a65c_add_9ea2d 2 = .ok (.getfield 63, 3) := by decide +kernel
theorem dJx4a65c_add_9ea2d_5 : decode cJx4a65c_add_9ea2d 5 = .ok (.iconst 1, 1) := by decide +kernel
theorem dJx4a65c_add_9ea2d_6 : decode cJx4a65c_add_9ea2d 6 = .ok (.iadd, 1) := by decide +kernel
theorem dJx4a65c_add_9ea2d_7 : decode cJx4a65c_add_9ea2d 7 = .ok (.putfield 63, 3) := by decide +kernel
theorem dJx4a65c_add_9ea2d_10 : decode cJx4a65c_add_9ea2d 10 = .ok (.aload_n 0, 1) := by decide +kernel
theorem dJx4a65c_add_9ea2d_11 : decode cJx4a65c_add_9ea2d 11 = .ok (.aload_n 1, 1) := by decide +kernel
theorem dJx4a65c_add_9ea2d_12 : decode cJx4a65c_add_9ea2d 12 = .ok (.aload_n 0, 1) := by decide +kernel
theorem dJx4a65c_add_9ea2d_13 : decode cJx4a65c_add_9ea2d 13 = .ok (.getfield 9, 3) := by decide +kernel
theorem dJx4a65c_add_9ea2d_16 : decode cJx4a65c_add_9ea2d 16 = .ok (.aload_n 0, 1) := by decide +kernel
theorem dJx4a65c_add_9ea2d_17 : decode cJx4a65c_add_9ea2d 17 = .ok (.getfield 48, 3) := by decide +kernel
theorem dJx4a65c_add_9ea2d_20 : decode cJx4a65c_add_9ea2d 20 = .ok (.invokevirtual 131, 3) := by decide +kernel
theorem dJx4a65c_add_9ea2d_23 : decode cJx4a65c_add_9ea2d 23 = .ok (.iconst 1, 1) := by decide +kernel
theorem dJx4a65c_add_9ea2d_24 : decode cJx4a65c_add_9ea2d 24 = .ok (.ireturn, 1) := by decide +kernel
theorem dJ7_copyOf_1904c_0 : decode cJ7_copyOf_1904c 0 = .ok (.aload_n 0, 1) := by decide +kernel
theorem dJ7_copyOf_1904c_1 : decode cJ7_copyOf_1904c 1 = .ok (.iload_n 1, 1) := by decide +kernel
theorem dJ7_copyOf_1904c_2 : decode cJ7_copyOf_1904c 2 = .ok (.aload_n 0, 1) := by decide +kernel
theorem dJ7_copyOf_1904c_3 : decode cJ7_copyOf_1904c 3 = .ok (.invokevirtual 86, 3) := by decide +kernel
theorem dJ7_copyOf_1904c_6 : decode cJ7_copyOf_1904c 6 = .ok (.invokestatic 300, 3) := by decide +kernel
theorem dJ7_copyOf_1904c_9 : decode cJ7_copyOf_1904c 9 = .ok (.areturn, 1) := by decide +kernel
theorem dJ7_copyOf_6403c_0 : decode cJ7_copyOf_6403c 0 = .ok (.aload_n 2, 1) := by decide +kernel
theorem dJ7_copyOf_6403c_1 : decode cJ7_copyOf_6403c 1 = .ok (.ldc 110, 2) := by decide +kernel
theorem dJ7_copyOf_6403c_3 : decode cJ7_copyOf_6403c 3 = .ok (.if_acmp .ne 10, 3) := by decide +kernel
theorem dJ7_copyOf_6403c_6 : decode cJ7_copyOf_6403c 6 = .ok (.iload_n 1, 1) := by decide +kernel
theorem dJ7_copyOf_6403c_7 : decode cJ7_copyOf_6403c 7 = .ok (.anewarray 2, 3) := by decide +kernel
theorem dJ7_copyOf_6403c_10 : decode cJ7_copyOf_6403c 10 = .ok (.goto 14, 3) := by decide +kernel
theorem dJ7_copyOf_6403c_13 : decode cJ7_copyOf_6403c 13 = .ok (.aload_n 2, 1) := by decide +kernel
theorem dJ7_copyOf_6403c_14 : decode cJ7_copyOf_6403c 14 = .ok (.invokevirtual 90, 3) := by decide +kernel
theorem dJ7_copyOf_6403c_17 : decode cJ7_copyOf_6403c 17 = .ok (.iload_n 1, 1) := by decide +kernel
theorem dJ7_copyOf_6403c_18 : decode cJ7_copyOf_6403c 18 = .ok (.invokestatic 95, 3) := by decide +kernel
theorem dJ7_copyOf_6403c_21 : decode cJ7_copyOf_6403c 21 = .ok (.checkcast 110, 3) := by decide +kernel
theorem dJ7_copyOf_6403c_24 : decode cJ7_copyOf_6403c 24 = .ok (.astore_n 3, 1) := by decide +kernel
theorem dJ7_copyOf_6403c_25 : decode cJ7_copyOf_6403c 25 = .ok (.aload_n 0, 1) := by decide +kernel
theorem dJ7_copyOf_6403c_26 : decode cJ7_copyOf_6403c 26 = .ok (.iconst 0, 1) := by decide +kernel
theorem dJ7_copyOf_6403c_27 : decode cJ7_copyOf_6403c 27 = .ok (.aload_n 3, 1) := by decide +kernel
theorem dJ7_copyOf_6403c_28 : decode cJ7_copyOf_6403c 28 = .ok (.iconst 0, 1) := by decide +kernel
theorem dJ7_copyOf_6403c_29 : decode cJ7_copyOf_6403c 29 = .ok (.aload_n 0, 1) := by decide +kernel
theorem dJ7_copyOf_6403c_30 : decode cJ7_copyOf_6403c 30 = .ok (.arraylength, 1) := by decide +kernel
theorem dJ7_copyOf_6403c_31 : decode cJ7_copyOf_6403c 31 = .ok (.iload_n 1, 1) := by decide +kernel
theorem dJ7_copyOf_6403c_32 : decode cJ7_copyOf_6403c 32 = .ok (.invokestatic 304, 3) := by decide +kernel
theorem dJ7_copyOf_6403c_35 : decode cJ7_copyOf_6403c 35 = .ok (.invokestatic 150, 3) := by decide +kernel
theorem dJ7_copyOf_6403c_38 : decode cJ7_copyOf_6403c 38 = .ok (.aload_n 3, 1) := by decide +kernel
theorem dJ7_copyOf_6403c_39 : decode cJ7_copyOf_6403c 39 = .ok (.areturn, 1) := by decide +kernel
theorem dJ15_checkIndex_7cf53_0 : decode cJ15_checkIndex_7cf53 0 = .ok (.iload_n 0, 1) := by decide +kernel
theorem dJ15_checkIndex_7cf53_1 : decode cJ15_checkIndex_7cf53 1 = .ok (.iload_n 1, 1) := by decide +kernel
theorem dJ15_checkIndex_7cf53_2 : decode cJ15_checkIndex_7cf53 2 = .ok (.aconst_null, 1) := by decide +kernel
theorem dJ15_checkIndex_7cf53_3 : decode cJ15_checkIndex_7cf53 3 = .ok (.invokestatic 105, 3) := by decide +kernel
theorem dJ15_checkIndex_7cf53_6 : decode cJ15_checkIndex_7cf53 6 = .ok (.ireturn, 1) := by decide +kernel
theorem dJ8_newLength_cabcc_0 : decode cJ8_newLength_cabcc 0 = .ok (.iload_n 0, 1) := by decide +kernel
theorem dJ8_newLength_cabcc_1 : decode cJ8_newLength_cabcc 1 = .ok (.iload_n 1, 1) := by decide +kernel
theorem dJ8_newLength_cabcc_2 : decode cJ8_newLength_cabcc 2 = .ok (.iload_n 2, 1) := by decide +kernel
theorem dJ8_newLength_cabcc_3 : decode cJ8_newLength_cabcc 3 = .ok (.invokestatic 194, 3) := by decide +kernel
theorem dJ8_newLength_cabcc_6 : decode cJ8_newLength_cabcc 6 = .ok (.iadd, 1) := by decide +kernel
theorem dJ8_newLength_cabcc_7 : decode cJ8_newLength_cabcc 7 = .ok (.istore_n 3, 1) := by decide +kernel
theorem dJ8_newLength_cabcc_8 : decode cJ8_newLength_cabcc 8 = .ok (.iconst 0, 1) := by decide +kernel
theorem dJ8_newLength_cabcc_9 : decode cJ8_newLength_cabcc 9 = .ok (.iload_n 3, 1) := by decide +kernel
theorem dJ8_newLength_cabcc_10 : decode cJ8_newLength_cabcc 10 = .ok (.if_icmp .ge 11, 3) := by decide +kernel
theorem dJ8_newLength_cabcc_13 : decode cJ8_newLength_cabcc 13 = .ok (.iload_n 3, 1) := by decide +kernel
theorem dJ8_newLength_cabcc_14 : decode cJ8_newLength_cabcc 14 = .ok (.ldc 200, 2) := by decide +kernel
theorem dJ8_newLength_cabcc_16 : decode cJ8_newLength_cabcc 16 = .ok (.if_icmp .gt 5, 3) := by decide +kernel
theorem dJ8_newLength_cabcc_19 : decode cJ8_newLength_cabcc 19 = .ok (.iload_n 3, 1) := by decide +kernel
theorem dJ8_newLength_cabcc_20 : decode cJ8_newLength_cabcc 20 = .ok (.ireturn, 1) := by decide +kernel
theorem dJ8_newLength_cabcc_21 : decode cJ8_newLength_cabcc 21 = .ok (.iload_n 0, 1) := by decide +kernel
theorem dJ8_newLength_cabcc_22 : decode cJ8_newLength_cabcc 22 = .ok (.iload_n 1, 1) := by decide +kernel
theorem dJ8_newLength_cabcc_23 : decode cJ8_newLength_cabcc 23 = .ok (.invokestatic 201, 3) := by decide +kernel
theorem dJ8_newLength_cabcc_26 : decode cJ8_newLength_cabcc 26 = .ok (.ireturn, 1) := by decide +kernel
theorem dJ8_hugeLength_7cf53_0 : decode cJ8_hugeLength_7cf53 0 = .ok (.iload_n 0, 1) := by decide +kernel
theorem dJ8_hugeLength_7cf53_1 : decode cJ8_hugeLength_7cf53 1 = .ok (.iload_n 1, 1) := by decide +kernel
theorem dJ8_hugeLength_7cf53_2 : decode cJ8_hugeLength_7cf53 2 = .ok (.iadd, 1) := by decide +kernel
theorem dJ8_hugeLength_7cf53_3 : decode cJ8_hugeLength_7cf53 3 = .ok (.istore_n 2, 1) := by decide +kernel
theorem dJ8_hugeLength_7cf53_4 : decode cJ8_hugeLength_7cf53 4 = .ok (.iload_n 2, 1) := by decide +kernel
theorem dJ8_hugeLength_7cf53_5 : decode cJ8_hugeLength_7cf53 5 = .ok (.ifCond .ge 44, 3) := by decide +kernel
theorem dJ8_hugeLength_7cf53_8 : decode cJ8_hugeLength_7cf53 8 = .ok (.new 204, 3) := by decide +kernel
theorem dJ8_hugeLength_7cf53_11 : decode cJ8_hugeLength_7cf53 11 = .ok (.dup, 1) := by decide +kernel
theorem dJ8_hugeLength_7cf53_12 : decode cJ8_hugeLength_7cf53 12 = .ok (.new 89, 3) := by decide +kernel
theorem dJ8_hugeLength_7cf53_15 : decode cJ8_hugeLength_7cf53 15 = .ok (.dup, 1) := by decide +kernel
theorem dJ8_hugeLength_7cf53_16 : decode cJ8_hugeLength_7cf53 16 = .ok (.invokespecial 91, 3) := by decide +kernel
theorem dJ8_hugeLength_7cf53_19 : decode cJ8_hugeLength_7cf53 19 = .ok (.ldc 206, 2) := by decide +kernel
theorem dJ8_hugeLength_7cf53_21 : decode cJ8_hugeLength_7cf53 21 = .ok (.invokevirtual 94, 3) := by decide +kernel
theorem dJ8_hugeLength_7cf53_24 : decode cJ8_hugeLength_7cf53 24 = .ok (.iload_n 0, 1) := by decide +kernel
theorem dJ8_hugeLength_7cf53_25 : decode cJ8_hugeLength_7cf53 25 = .ok (.invokevirtual 98, 3) := by decide +kernel
theorem dJ8_hugeLength_7cf53_28 : decode cJ8_hugeLength_7cf53 28 = .ok (.ldc 208, 2) := by decide +kernel
theorem dJ8_hugeLength_7cf53_30 : decode cJ8_hugeLength_7cf53 30 = .ok (.invokevirtual 94, 3) := by decide +kernel
theorem dJ8_hugeLength_7cf53_33 : decode cJ8_hugeLength_7cf53 33 = .ok (.iload_n 1, 1) := by decide +kernel
theorem dJ8_hugeLength_7cf53_34 : decode cJ8_hugeLength_7cf53 34 = .ok (.invokevirtual 98, 3) := by decide +kernel
theorem dJ8_hugeLength_7cf53_37 : decode cJ8_hugeLength_7cf53 37 = .ok (.ldc 210, 2) := by decide +kernel
theorem dJ8_hugeLength_7cf53_39 : decode cJ8_hugeLength_7cf53 39 = .ok (.invokevirtual 94, 3) := by decide +kernel
theorem dJ8_hugeLength_7cf53_42 : decode cJ8_hugeLength_7cf53 42 = .ok (.invokevirtual 101, 3) := by decide +kernel
theorem dJ8_hugeLength_7cf53_45 : decode cJ8_hugeLength_7cf53 45 = .ok (.invokespecial 212, 3) := by decide +kernel
theorem dJ8_hugeLength_7cf53_48 : decode cJ8_hugeLength_7cf53 48 = .ok (.athrow, 1) := by decide +kernel
theorem dJ8_hugeLength_7cf53_49 : decode cJ8_hugeLength_7cf53 49 = .ok (.iload_n 2, 1) := by decide +kernel
theorem dJ8_hugeLength_7cf53_50 : decode cJ8_hugeLength_7cf53 50 = .ok (.ldc 200, 2) := by decide +kernel
theorem dJ8_hugeLength_7cf53_52 : decode cJ8_hugeLength_7cf53 52 = .ok (.if_icmp .gt 6, 3) := by decide +kernel
theorem dJ8_hugeLength_7cf53_55 : decode cJ8_hugeLength_7cf53 55 = .ok (.ldc 200, 2) := by decide +kernel
theorem dJ8_hugeLength_7cf53_57 : decode cJ8_hugeLength_7cf53 57 = .ok (.ireturn, 1) := by decide +kernel
theorem dJ8_hugeLength_7cf53_58 : decode cJ8_hugeLength_7cf53 58 = .ok (.iload_n 2, 1) := by decide +kernel
theorem dJ8_hugeLength_7cf53_59 : decode cJ8_hugeLength_7cf53 59 = .ok (.ireturn, 1) := by decide +kernel
theorem dJ3_checkIndex_8e157_0 : decode cJ3_checkIndex_8e157 0 = .ok (.iload_n 0, 1) := by decide +kernel
theorem dJ3_checkIndex_8e157_1 : decode cJ3_checkIndex_8e157 1 = .ok (.ifCond .lt 8, 3) := by decide +kernel
theorem dJ3_checkIndex_8e157_4 : decode cJ3_checkIndex_8e157 4 = .ok (.iload_n 0, 1) := by decide +kernel
theorem dJ3_checkIndex_8e157_5 : decode cJ3_checkIndex_8e157 5 = .ok (.iload_n 1, 1) := by decide +kernel
theorem dJ3_checkIndex_8e157_6 : decode cJ3_checkIndex_8e157 6 = .ok (.if_icmp .lt 10, 3) := by decide +kernel
theorem dJ3_checkIndex_8e157_9 : decode cJ3_checkIndex_8e157 9 = .ok (.aload_n 2, 1) := by decide +kernel
theorem dJ3_checkIndex_8e157_10 : decode cJ3_checkIndex_8e157 10 = .ok (.iload_n 0, 1) := by decide +kernel
theorem dJ3_checkIndex_8e157_11 : decode cJ3_checkIndex_8e157 11 = .ok (.iload_n 1, 1) := by decide +kernel
theorem dJ3_checkIndex_8e157_12 : decode cJ3_checkIndex_8e157 12 = .ok (.invokestatic 95, 3) := by decide +kernel
theorem dJ3_checkIndex_8e157_15 : decode cJ3_checkIndex_8e157 15 = .ok (.athrow, 1) := by decide +kernel
theorem dJ3_checkIndex_8e157_16 : decode cJ3_checkIndex_8e157 16 = .ok (.iload_n 0, 1) := by decide +kernel
theorem dJ3_checkIndex_8e157_17 : decode cJ3_checkIndex_8e157 17 = .ok (.ireturn, 1) := by decide +kernel
theorem dL_below_0 : decode cL_below 0 = .ok (.iload_n 0, 1) := by decide +kernel
theorem dL_below_1 : decode cL_below 1 = .ok (.ldc 7, 2) := by decide +kernel
theorem dL_below_3 : decode cL_below 3 = .ok (.iand, 1) := by decide +kernel
theorem dL_below_4 : decode cL_below 4 = .ok (.iload_n 1, 1) := by decide +kernel
theorem dL_below_5 : decode cL_below 5 = .ok (.irem, 1) := by decide +kernel
theorem dL_below_6 : decode cL_below 6 = .ok (.ireturn, 1) := by decide +kernel
theorem dL_cell_0 : decode cL_cell 0 = .ok (.iload_n 1, 1) := by decide +kernel
theorem dL_cell_1 : decode cL_cell 1 = .ok (.aload_n 0, 1) := by decide +kernel
theorem dL_cell_2 : decode cL_cell 2 = .ok (.arraylength, 1) := by decide +kernel
theorem dL_cell_3 : decode cL_cell 3 = .ok (.if_icmp .ge 9, 3) := by decide +kernel
theorem dL_cell_6 : decode cL_cell 6 = .ok (.aload_n 0, 1) := by decide +kernel
theorem dL_cell_7 : decode cL_cell 7 = .ok (.iload_n 1, 1) := by decide +kernel
theorem dL_cell_8 : decode cL_cell 8 = .ok (.iaload, 1) := by decide +kernel
theorem dL_cell_9 : decode cL_cell 9 = .ok (.goto 9, 3) := by decide +kernel
theorem dL_cell_12 : decode cL_cell 12 = .ok (.ldc 8, 2) := by decide +kernel
theorem dL_cell_14 : decode cL_cell 14 = .ok (.iload_n 1, 1) := by decide +kernel
theorem dL_cell_15 : decode cL_cell 15 = .ok (.iconst 3, 1) := by decide +kernel
theorem dL_cell_16 : decode cL_cell 16 = .ok (.iadd, 1) := by decide +kernel
theorem dL_cell_17 : decode cL_cell 17 = .ok (.imul, 1) := by decide +kernel
theorem dL_cell_18 : decode cL_cell 18 = .ok (.ireturn, 1) := by decide +kernel
theorem dL_letters_0 : decode cL_letters 0 = .ok (.iconst 4, 1) := by decide +kernel
theorem dL_letters_1 : decode cL_letters 1 = .ok (.newarray .int, 2) := by decide +kernel
theorem dL_letters_3 : decode cL_letters 3 = .ok (.dup, 1) := by decide +kernel
theorem dL_letters_4 : decode cL_letters 4 = .ok (.iconst 0, 1) := by decide +kernel
theorem dL_letters_5 : decode cL_letters 5 = .ok (.iload_n 0, 1) := by decide +kernel
theorem dL_letters_6 : decode cL_letters 6 = .ok (.sipush 216, 3) := by decide +kernel
theorem dL_letters_9 : decode cL_letters 9 = .ok (.idiv, 1) := by decide +kernel
theorem dL_letters_10 : decode cL_letters 10 = .ok (.iastore, 1) := by decide +kernel
theorem dL_letters_11 : decode cL_letters 11 = .ok (.dup, 1) := by decide +kernel
theorem dL_letters_12 : decode cL_letters 12 = .ok (.iconst 1, 1) := by decide +kernel
theorem dL_letters_13 : decode cL_letters 13 = .ok (.iload_n 0, 1) := by decide +kernel
theorem dL_letters_14 : decode cL_letters 14 = .ok (.bipush 36, 2) := by decide +kernel
theorem dL_letters_16 : decode cL_letters 16 = .ok (.idiv, 1) := by decide +kernel
theorem dL_letters_17 : decode cL_letters 17 = .ok (.bipush 6, 2) := by decide +kernel
theorem dL_letters_19 : decode cL_letters 19 = .ok (.irem, 1) := by decide +kernel
theorem dL_letters_20 : decode cL_letters 20 = .ok (.iastore, 1) := by decide +kernel
theorem dL_letters_21 : decode cL_letters 21 = .ok (.dup, 1) := by decide +kernel
theorem dL_letters_22 : decode cL_letters 22 = .ok (.iconst 2, 1) := by decide +kernel
theorem dL_letters_23 : decode cL_letters 23 = .ok (.iload_n 0, 1) := by decide +kernel
theorem dL_letters_24 : decode cL_letters 24 = .ok (.bipush 6, 2) := by decide +kernel
theorem dL_letters_26 : decode cL_letters 26 = .ok (.idiv, 1) := by decide +kernel
theorem dL_letters_27 : decode cL_letters 27 = .ok (.bipush 6, 2) := by decide +kernel
theorem dL_letters_29 : decode cL_letters 29 = .ok (.irem, 1) := by decide +kernel
theorem dL_letters_30 : decode cL_letters 30 = .ok (.iastore, 1) := by decide +kernel
theorem dL_letters_31 : decode cL_letters 31 = .ok (.dup, 1) := by decide +kernel
theorem dL_letters_32 : decode cL_letters 32 = .ok (.iconst 3, 1) := by decide +kernel
theorem dL_letters_33 : decode cL_letters 33 = .ok (.iload_n 0, 1) := by decide +kernel
theorem dL_letters_34 : decode cL_letters 34 = .ok (.bipush 6, 2) := by decide +kernel
theorem dL_letters_36 : decode cL_letters 36 = .ok (.irem, 1) := by decide +kernel
theorem dL_letters_37 : decode cL_letters 37 = .ok (.iastore, 1) := by decide +kernel
theorem dL_letters_38 : decode cL_letters 38 = .ok (.areturn, 1) := by decide +kernel
theorem dL_word_0 : decode cL_word 0 = .ok (.sipush 216, 3) := by decide +kernel
theorem dL_word_3 : decode cL_word 3 = .ok (.aload_n 0, 1) := by decide +kernel
theorem dL_word_4 : decode cL_word 4 = .ok (.iconst 0, 1) := by decide +kernel
theorem dL_word_5 : decode cL_word 5 = .ok (.iaload, 1) := by decide +kernel
theorem dL_word_6 : decode cL_word 6 = .ok (.imul, 1) := by decide +kernel
theorem dL_word_7 : decode cL_word 7 = .ok (.bipush 36, 2) := by decide +kernel
theorem dL_word_9 : decode cL_word 9 = .ok (.aload_n 0, 1) := by decide +kernel
theorem dL_word_10 : decode cL_word 10 = .ok (.iconst 1, 1) := by decide +kernel
theorem dL_word_11 : decode cL_word 11 = .ok (.iaload, 1) := by decide +kernel
theorem dL_word_12 : decode cL_word 12 = .ok (.imul, 1) := by decide +kernel
theorem dL_word_13 : decode cL_word 13 = .ok (.iadd, 1) := by decide +kernel
theorem dL_word_14 : decode cL_word 14 = .ok (.bipush 6, 2) := by decide +kernel
theorem dL_word_16 : decode cL_word 16 = .ok (.aload_n 0, 1) := by decide +kernel
theorem dL_word_17 : decode cL_word 17 = .ok (.iconst 2, 1) := by decide +kernel
theorem dL_word_18 : decode cL_word 18 = .ok (.iaload, 1) := by decide +kernel
theorem dL_word_19 : decode cL_word 19 = .ok (.imul, 1) := by decide +kernel
theorem dL_word_20 : decode cL_word 20 = .ok (.iadd, 1) := by decide +kernel
theorem dL_word_21 : decode cL_word 21 = .ok (.aload_n 0, 1) := by decide +kernel
theorem dL_word_22 : decode cL_word 22 = .ok (.iconst 3, 1) := by decide +kernel
theorem dL_word_23 : decode cL_word 23 = .ok (.iaload, 1) := by decide +kernel
theorem dL_word_24 : decode cL_word 24 = .ok (.iadd, 1) := by decide +kernel
theorem dL_word_25 : decode cL_word 25 = .ok (.ireturn, 1) := by decide +kernel
theorem dL_far_0 : decode cL_far 0 = .ok (.iconst 0, 1) := by decide +kernel
theorem dL_far_1 : decode cL_far 1 = .ok (.istore_n 2, 1) := by decide +kernel
theorem dL_far_2 : decode cL_far 2 = .ok (.iload_n 0, 1) := by decide +kernel
theorem dL_far_3 : decode cL_far 3 = .ok (.iload_n 2, 1) := by decide +kernel
theorem dL_far_4 : decode cL_far 4 = .ok (.iadd, 1) := by decide +kernel
theorem dL_far_5 : decode cL_far 5 = .ok (.bipush 6, 2) := by decide +kernel
theorem dL_far_7 : decode cL_far 7 = .ok (.irem, 1) := by decide +kernel
theorem dL_far_8 : decode cL_far 8 = .ok (.iload_n 1, 1) := by decide +kernel
theorem dL_far_9 : decode cL_far 9 = .ok (.if_icmp .eq 19, 3) := by decide +kernel
theorem dL_far_12 : decode cL_far 12 = .ok (.iload_n 1, 1) := by decide +kernel
theorem dL_far_13 : decode cL_far 13 = .ok (.iload_n 2, 1) := by decide +kernel
theorem dL_far_14 : decode cL_far 14 = .ok (.iadd, 1) := by decide +kernel
theorem dL_far_15 : decode cL_far 15 = .ok (.bipush 6, 2) := by decide +kernel
theorem dL_far_17 : decode cL_far 17 = .ok (.irem, 1) := by decide +kernel
theorem dL_far_18 : decode cL_far 18 = .ok (.iload_n 0, 1) := by decide +kernel
theorem dL_far_19 : decode cL_far 19 = .ok (.if_icmp .eq 9, 3) := by decide +kernel
theorem dL_far_22 : decode cL_far 22 = .ok (.iinc 2 1, 3) := by decide +kernel
theorem dL_far_25 : decode cL_far 25 = .ok (.goto (-23), 3) := by decide +kernel
theorem dL_far_28 : decode cL_far 28 = .ok (.iload_n 2, 1) := by decide +kernel
theorem dL_far_29 : decode cL_far 29 = .ok (.ireturn, 1) := by decide +kernel
theorem dL_act_0 : decode cL_act 0 = .ok (.aload_n 1, 1) := by decide +kernel
theorem dL_act_1 : decode cL_act 1 = .ok (.getfield 9, 3) := by decide +kernel
theorem dL_act_4 : decode cL_act 4 = .ok (.arraylength, 1) := by decide +kernel
theorem dL_act_5 : decode cL_act 5 = .ok (.istore_n 3, 1) := by decide +kernel
theorem dL_act_6 : decode cL_act 6 = .ok (.iload_n 3, 1) := by decide +kernel
theorem dL_act_7 : decode cL_act 7 = .ok (.ifCond .ne 7, 3) := by decide +kernel
theorem dL_act_10 : decode cL_act 10 = .ok (.iconst 0, 1) := by decide +kernel
theorem dL_act_11 : decode cL_act 11 = .ok (.goto 8, 3) := by decide +kernel
theorem dL_act_14 : decode cL_act 14 = .ok (.iload_n 2, 1) := by decide +kernel
theorem dL_act_15 : decode cL_act 15 = .ok (.iload_n 3, 1) := by decide +kernel
theorem dL_act_16 : decode cL_act 16 = .ok (.invokestatic 15, 3) := by decide +kernel
theorem dL_act_19 : decode cL_act 19 = .ok (.istore 4, 2) := by decide +kernel
theorem dL_act_21 : decode cL_act 21 = .ok (.iload_n 3, 1) := by decide +kernel
theorem dL_act_22 : decode cL_act 22 = .ok (.ifCond .ne 7, 3) := by decide +kernel
theorem dL_act_25 : decode cL_act 25 = .ok (.aconst_null, 1) := by decide +kernel
theorem dL_act_26 : decode cL_act 26 = .ok (.goto 10, 3) := by decide +kernel
theorem dL_act_29 : decode cL_act 29 = .ok (.aload_n 1, 1) := by decide +kernel
theorem dL_act_30 : decode cL_act 30 = .ok (.getfield 9, 3) := by decide +kernel
theorem dL_act_33 : decode cL_act 33 = .ok (.iload 4, 2) := by decide +kernel
theorem dL_act_35 : decode cL_act 35 = .ok (.aaload, 1) := by decide +kernel
theorem dL_act_36 : decode cL_act 36 = .ok (.astore 5, 2) := by decide +kernel
theorem dL_act_38 : decode cL_act 38 = .ok (.iload_n 2, 1) := by decide +kernel
theorem dL_act_39 : decode cL_act 39 = .ok (.iconst 2, 1) := by decide +kernel
theorem dL_act_40 : decode cL_act 40 = .ok (.ishr, 1) := by decide +kernel
theorem dL_act_41 : decode cL_act 41 = .ok (.iconst 3, 1) := by decide +kernel
theorem dL_act_42 : decode cL_act 42 = .ok (.invokestatic 15, 3) := by decide +kernel
theorem dL_act_45 : decode cL_act 45 = .ok (.istore 6, 2) := by decide +kernel
theorem dL_act_47 : decode cL_act 47 = .ok (.iload_n 2, 1) := by decide +kernel
theorem dL_act_48 : decode cL_act 48 = .ok (.bipush 9, 2) := by decide +kernel
theorem dL_act_50 : decode cL_act 50 = .ok (.ishr, 1) := by decide +kernel
theorem dL_act_51 : decode cL_act 51 = .ok (.bipush 20, 2) := by decide +kernel
theorem dL_act_53 : decode cL_act 53 = .ok (.invokestatic 15, 3) := by decide +kernel
theorem dL_act_56 : decode cL_act 56 = .ok (.tableswitch 803 0 13 #[72, 72, 175, 175, 175, 278, 278, 437, 437, 479, 551, 606, 700, 700], 72) := by decide +kernel
theorem dL_act_128 : decode cL_act 128 = .ok (.iload_n 3, 1) := by decide +kernel
theorem dL_act_129 : decode cL_act 129 = .ok (.bipush 8, 2) := by decide +kernel
theorem dL_act_131 : decode cL_act 131 = .ok (.if_icmp .ne 5, 3) := by decide +kernel
theorem dL_act_134 : decode cL_act 134 = .ok (.iconst 1, 1) := by decide +kernel
theorem dL_act_135 : decode cL_act 135 = .ok (.ireturn, 1) := by decide +kernel
theorem dL_act_136 : decode cL_act 136 = .ok (.iload_n 3, 1) := by decide +kernel
theorem dL_act_137 : decode cL_act 137 = .ok (.iconst 1, 1) := by decide +kernel
theorem dL_act_138 : decode cL_act 138 = .ok (.iadd, 1) := by decide +kernel
theorem dL_act_139 : decode cL_act 139 = .ok (.anewarray 21, 3) := by decide +kernel
theorem dL_act_142 : decode cL_act 142 = .ok (.astore 7, 2) := by decide +kernel
theorem dL_act_144 : decode cL_act 144 = .ok (.iconst 0, 1) := by decide +kernel
theorem dL_act_145 : decode cL_act 145 = .ok (.istore 8, 2) := by decide +kernel
theorem dL_act_147 : decode cL_act 147 = .ok (.iload 8, 2) := by decide +kernel
theorem dL_act_149 : decode cL_act 149 = .ok (.iload_n 3, 1) := by decide +kernel
theorem dL_act_150 : decode cL_act 150 = .ok (.if_icmp .ge 21, 3) := by decide +kernel
theorem dL_act_153 : decode cL_act 153 = .ok (.aload 7, 2) := by decide +kernel
theorem dL_act_155 : decode cL_act 155 = .ok (.iload 8, 2) := by decide +kernel
theorem dL_act_157 : decode cL_act 157 = .ok (.aload_n 1, 1) := by decide +kernel
theorem dL_act_158 : decode cL_act 158 = .ok (.getfield 9, 3) := by decide +kernel
theorem dL_act_161 : decode cL_act 161 = .ok (.iload 8, 2) := by decide +kernel
theorem dL_act_163 : decode cL_act 163 = .ok (.aaload, 1) := by decide +kernel
theorem dL_act_164 : decode cL_act 164 = .ok (.aastore, 1) := by decide +kernel
theorem dL_act_165 : decode cL_act 165 = .ok (.iinc 8 1, 3) := by decide +kernel
theorem dL_act_168 : decode cL_act 168 = .ok (.goto (-21), 3) := by decide +kernel
theorem dL_act_171 : decode cL_act 171 = .ok (.aload 7, 2) := by decide +kernel
theorem dL_act_173 : decode cL_act 173 = .ok (.iload_n 3, 1) := by decide +kernel
theorem dL_act_174 : decode cL_act 174 = .ok (.new 21, 3) := by decide +kernel
theorem dL_act_177 : decode cL_act 177 = .ok (.dup, 1) := by decide +kernel
theorem dL_act_178 : decode cL_act 178 = .ok (.invokespecial 23, 3) := by decide +kernel
theorem dL_act_181 : decode cL_act 181 = .ok (.aastore, 1) := by decide +kernel
theorem dL_act_182 : decode cL_act 182 = .ok (.aload 7, 2) := by decide +kernel
theorem dL_act_184 : decode cL_act 184 = .ok (.iload_n 3, 1) := by decide +kernel
theorem dL_act_185 : decode cL_act 185 = .ok (.aaload, 1) := by decide +kernel
theorem dL_act_186 : decode cL_act 186 = .ok (.iload_n 2, 1) := by decide +kernel
theorem dL_act_187 : decode cL_act 187 = .ok (.iconst 1, 1) := by decide +kernel
theorem dL_act_188 : decode cL_act 188 = .ok (.ishr, 1) := by decide +kernel
end
section
theorem dL_act_189 : decode cL_act 189 = .ok (.sipush 1296, 3) := by decide +kernel
theorem dL_act_192 : decode cL_act 192 = .ok (.invokestatic 15, 3) := by decide +kernel
theorem dL_act_195 : decode cL_act 195 = .ok (.invokestatic 24, 3) := by decide +kernel
theorem dL_act_198 : decode cL_act 198 = .ok (.putfield 28, 3) := by decide +kernel
theorem dL_act_201 : decode cL_act 201 = .ok (.aload_n 1, 1) := by decide +kernel
theorem dL_act_202 : decode cL_act 202 = .ok (.aload 7, 2) := by decide +kernel
theorem dL_act_204 : decode cL_act 204 = .ok (.putfield 9, 3) := by decide +kernel
theorem dL_act_207 : decode cL_act 207 = .ok (.aload_n 0, 1) := by decide +kernel
theorem dL_act_208 : decode cL_act 208 = .ok (.aload 7, 2) := by decide +kernel
theorem dL_act_210 : decode cL_act 210 = .ok (.iload_n 3, 1) := by decide +kernel
theorem dL_act_211 : decode cL_act 211 = .ok (.aaload, 1) := by decide +kernel
theorem dL_act_212 : decode cL_act 212 = .ok (.getfield 28, 3) := by decide +kernel
theorem dL_act_215 : decode cL_act 215 = .ok (.invokestatic 32, 3) := by decide +kernel
theorem dL_act_218 : decode cL_act 218 = .ok (.invokevirtual 35, 3) := by decide +kernel
theorem dL_act_221 : decode cL_act 221 = .ok (.iload_n 3, 1) := by decide +kernel
theorem dL_act_222 : decode cL_act 222 = .ok (.if_icmp .ne 7, 3) := by decide +kernel
theorem dL_act_225 : decode cL_act 225 = .ok (.iconst 1, 1) := by decide +kernel
theorem dL_act_226 : decode cL_act 226 = .ok (.goto 4, 3) := by decide +kernel
theorem dL_act_229 : decode cL_act 229 = .ok (.iconst 0, 1) := by decide +kernel
theorem dL_act_230 : decode cL_act 230 = .ok (.ireturn, 1) := by decide +kernel
theorem dL_act_231 : decode cL_act 231 = .ok (.iload_n 3, 1) := by decide +kernel
theorem dL_act_232 : decode cL_act 232 = .ok (.ifCond .ne 5, 3) := by decide +kernel
theorem dL_act_235 : decode cL_act 235 = .ok (.iconst 1, 1) := by decide +kernel
theorem dL_act_236 : decode cL_act 236 = .ok (.ireturn, 1) := by decide +kernel
theorem dL_act_237 : decode cL_act 237 = .ok (.iload_n 2, 1) := by decide +kernel
theorem dL_act_238 : decode cL_act 238 = .ok (.iconst 3, 1) := by decide +kernel
theorem dL_act_239 : decode cL_act 239 = .ok (.ishr, 1) := by decide +kernel
theorem dL_act_240 : decode cL_act 240 = .ok (.iconst 4, 1) := by decide +kernel
theorem dL_act_241 : decode cL_act 241 = .ok (.invokestatic 15, 3) := by decide +kernel
theorem dL_act_244 : decode cL_act 244 = .ok (.istore 8, 2) := by decide +kernel
theorem dL_act_246 : decode cL_act 246 = .ok (.iload_n 2, 1) := by decide +kernel
theorem dL_act_247 : decode cL_act 247 = .ok (.iconst 4, 1) := by decide +kernel
theorem dL_act_248 : decode cL_act 248 = .ok (.ishr, 1) := by decide +kernel
theorem dL_act_249 : decode cL_act 249 = .ok (.iconst 3, 1) := by decide +kernel
theorem dL_act_250 : decode cL_act 250 = .ok (.invokestatic 15, 3) := by decide +kernel
theorem dL_act_253 : decode cL_act 253 = .ok (.ifCond .ne 14, 3) := by decide +kernel
theorem dL_act_256 : decode cL_act 256 = .ok (.iload_n 2, 1) := by decide +kernel
theorem dL_act_257 : decode cL_act 257 = .ok (.iconst 1, 1) := by decide +kernel
theorem dL_act_258 : decode cL_act 258 = .ok (.ishr, 1) := by decide +kernel
theorem dL_act_259 : decode cL_act 259 = .ok (.bipush 6, 2) := by decide +kernel
theorem dL_act_261 : decode cL_act 261 = .ok (.invokestatic 15, 3) := by decide +kernel
theorem dL_act_264 : decode cL_act 264 = .ok (.goto 11, 3) := by decide +kernel
theorem dL_act_267 : decode cL_act 267 = .ok (.aload 5, 2) := by decide +kernel
theorem dL_act_269 : decode cL_act 269 = .ok (.getfield 28, 3) := by decide +kernel
theorem dL_act_272 : decode cL_act 272 = .ok (.iload 8, 2) := by decide +kernel
theorem dL_act_274 : decode cL_act 274 = .ok (.iaload, 1) := by decide +kernel
theorem dL_act_275 : decode cL_act 275 = .ok (.istore 9, 2) := by decide +kernel
theorem dL_act_277 : decode cL_act 277 = .ok (.aload 5, 2) := by decide +kernel
theorem dL_act_279 : decode cL_act 279 = .ok (.getfield 41, 3) := by decide +kernel
theorem dL_act_282 : decode cL_act 282 = .ok (.iload 8, 2) := by decide +kernel
theorem dL_act_284 : decode cL_act 284 = .ok (.iaload, 1) := by decide +kernel
theorem dL_act_285 : decode cL_act 285 = .ok (.iload 9, 2) := by decide +kernel
theorem dL_act_287 : decode cL_act 287 = .ok (.invokestatic 44, 3) := by decide +kernel
theorem dL_act_290 : decode cL_act 290 = .ok (.istore 10, 2) := by decide +kernel
theorem dL_act_292 : decode cL_act 292 = .ok (.aload 5, 2) := by decide +kernel
theorem dL_act_294 : decode cL_act 294 = .ok (.getfield 41, 3) := by decide +kernel
theorem dL_act_297 : decode cL_act 297 = .ok (.iload 8, 2) := by decide +kernel
theorem dL_act_299 : decode cL_act 299 = .ok (.iload 9, 2) := by decide +kernel
theorem dL_act_301 : decode cL_act 301 = .ok (.iastore, 1) := by decide +kernel
theorem dL_act_302 : decode cL_act 302 = .ok (.aload_n 1, 1) := by decide +kernel
theorem dL_act_303 : decode cL_act 303 = .ok (.dup, 1) := by decide +kernel
theorem dL_act_304 : decode cL_act 304 = .ok (.getfield 47, 3) := by decide +kernel
theorem dL_act_307 : decode cL_act 307 = .ok (.iload 10, 2) := by decide +kernel
theorem dL_act_309 : decode cL_act 309 = .ok (.iadd, 1) := by decide +kernel
theorem dL_act_310 : decode cL_act 310 = .ok (.putfield 47, 3) := by decide +kernel
theorem dL_act_313 : decode cL_act 313 = .ok (.aload_n 0, 1) := by decide +kernel
theorem dL_act_314 : decode cL_act 314 = .ok (.iload 4, 2) := by decide +kernel
theorem dL_act_316 : decode cL_act 316 = .ok (.iload 8, 2) := by decide +kernel
theorem dL_act_318 : decode cL_act 318 = .ok (.iload 9, 2) := by decide +kernel
theorem dL_act_320 : decode cL_act 320 = .ok (.invokevirtual 51, 3) := by decide +kernel
theorem dL_act_323 : decode cL_act 323 = .ok (.iload 10, 2) := by decide +kernel
theorem dL_act_325 : decode cL_act 325 = .ok (.if_icmp .ne 7, 3) := by decide +kernel
theorem dL_act_328 : decode cL_act 328 = .ok (.iconst 1, 1) := by decide +kernel
theorem dL_act_329 : decode cL_act 329 = .ok (.goto 4, 3) := by decide +kernel
theorem dL_act_332 : decode cL_act 332 = .ok (.iconst 0, 1) := by decide +kernel
theorem dL_act_333 : decode cL_act 333 = .ok (.ireturn, 1) := by decide +kernel
theorem dL_act_334 : decode cL_act 334 = .ok (.iload_n 3, 1) := by decide +kernel
theorem dL_act_335 : decode cL_act 335 = .ok (.ifCond .ne 5, 3) := by decide +kernel
theorem dL_act_338 : decode cL_act 338 = .ok (.iconst 1, 1) := by decide +kernel
theorem dL_act_339 : decode cL_act 339 = .ok (.ireturn, 1) := by decide +kernel
theorem dL_act_340 : decode cL_act 340 = .ok (.iconst 0, 1) := by decide +kernel
theorem dL_act_341 : decode cL_act 341 = .ok (.istore 11, 2) := by decide +kernel
theorem dL_act_343 : decode cL_act 343 = .ok (.iload 11, 2) := by decide +kernel
theorem dL_act_345 : decode cL_act 345 = .ok (.iconst 4, 1) := by decide +kernel
theorem dL_act_346 : decode cL_act 346 = .ok (.if_icmp .ge 90, 3) := by decide +kernel
theorem dL_act_349 : decode cL_act 349 = .ok (.iload_n 2, 1) := by decide +kernel
theorem dL_act_350 : decode cL_act 350 = .ok (.iconst 5, 1) := by decide +kernel
theorem dL_act_351 : decode cL_act 351 = .ok (.ishr, 1) := by decide +kernel
theorem dL_act_352 : decode cL_act 352 = .ok (.iconst 2, 1) := by decide +kernel
theorem dL_act_353 : decode cL_act 353 = .ok (.invokestatic 15, 3) := by decide +kernel
theorem dL_act_356 : decode cL_act 356 = .ok (.ifCond .ne 80, 3) := by decide +kernel
theorem dL_act_359 : decode cL_act 359 = .ok (.aload 5, 2) := by decide +kernel
theorem dL_act_361 : decode cL_act 361 = .ok (.getfield 41, 3) := by decide +kernel
theorem dL_act_364 : decode cL_act 364 = .ok (.iload 11, 2) := by decide +kernel
theorem dL_act_366 : decode cL_act 366 = .ok (.iaload, 1) := by decide +kernel
theorem dL_act_367 : decode cL_act 367 = .ok (.aload 5, 2) := by decide +kernel
theorem dL_act_369 : decode cL_act 369 = .ok (.getfield 28, 3) := by decide +kernel
theorem dL_act_372 : decode cL_act 372 = .ok (.iload 11, 2) := by decide +kernel
theorem dL_act_374 : decode cL_act 374 = .ok (.iaload, 1) := by decide +kernel
theorem dL_act_375 : decode cL_act 375 = .ok (.invokestatic 44, 3) := by decide +kernel
theorem dL_act_378 : decode cL_act 378 = .ok (.istore 12, 2) := by decide +kernel
theorem dL_act_380 : decode cL_act 380 = .ok (.aload_n 1, 1) := by decide +kernel
theorem dL_act_381 : decode cL_act 381 = .ok (.dup, 1) := by decide +kernel
theorem dL_act_382 : decode cL_act 382 = .ok (.getfield 47, 3) := by decide +kernel
theorem dL_act_385 : decode cL_act 385 = .ok (.iload 12, 2) := by decide +kernel
theorem dL_act_387 : decode cL_act 387 = .ok (.iadd, 1) := by decide +kernel
theorem dL_act_388 : decode cL_act 388 = .ok (.putfield 47, 3) := by decide +kernel
theorem dL_act_391 : decode cL_act 391 = .ok (.aload 5, 2) := by decide +kernel
theorem dL_act_393 : decode cL_act 393 = .ok (.getfield 41, 3) := by decide +kernel
theorem dL_act_396 : decode cL_act 396 = .ok (.iload 11, 2) := by decide +kernel
theorem dL_act_398 : decode cL_act 398 = .ok (.aload 5, 2) := by decide +kernel
theorem dL_act_400 : decode cL_act 400 = .ok (.getfield 28, 3) := by decide +kernel
theorem dL_act_403 : decode cL_act 403 = .ok (.iload 11, 2) := by decide +kernel
theorem dL_act_405 : decode cL_act 405 = .ok (.iaload, 1) := by decide +kernel
theorem dL_act_406 : decode cL_act 406 = .ok (.iastore, 1) := by decide +kernel
theorem dL_act_407 : decode cL_act 407 = .ok (.aload_n 0, 1) := by decide +kernel
theorem dL_act_408 : decode cL_act 408 = .ok (.iload 4, 2) := by decide +kernel
theorem dL_act_410 : decode cL_act 410 = .ok (.iload 11, 2) := by decide +kernel
theorem dL_act_412 : decode cL_act 412 = .ok (.aload 5, 2) := by decide +kernel
theorem dL_act_414 : decode cL_act 414 = .ok (.getfield 28, 3) := by decide +kernel
theorem dL_act_417 : decode cL_act 417 = .ok (.iload 11, 2) := by decide +kernel
theorem dL_act_419 : decode cL_act 419 = .ok (.iaload, 1) := by decide +kernel
theorem dL_act_420 : decode cL_act 420 = .ok (.invokevirtual 51, 3) := by decide +kernel
theorem dL_act_423 : decode cL_act 423 = .ok (.iload 12, 2) := by decide +kernel
theorem dL_act_425 : decode cL_act 425 = .ok (.if_icmp .eq 5, 3) := by decide +kernel
theorem dL_act_428 : decode cL_act 428 = .ok (.iconst 0, 1) := by decide +kernel
theorem dL_act_429 : decode cL_act 429 = .ok (.ireturn, 1) := by decide +kernel
theorem dL_act_430 : decode cL_act 430 = .ok (.iinc 11 1, 3) := by decide +kernel
theorem dL_act_433 : decode cL_act 433 = .ok (.goto (-90), 3) := by decide +kernel
theorem dL_act_436 : decode cL_act 436 = .ok (.aload 5, 2) := by decide +kernel
theorem dL_act_438 : decode cL_act 438 = .ok (.aload 5, 2) := by decide +kernel
theorem dL_act_440 : decode cL_act 440 = .ok (.getfield 55, 3) := by decide +kernel
theorem dL_act_443 : decode cL_act 443 = .ok (.ifCond .ne 22, 3) := by decide +kernel
theorem dL_act_446 : decode cL_act 446 = .ok (.aload 5, 2) := by decide +kernel
theorem dL_act_448 : decode cL_act 448 = .ok (.getfield 41, 3) := by decide +kernel
theorem dL_act_451 : decode cL_act 451 = .ok (.invokestatic 32, 3) := by decide +kernel
theorem dL_act_454 : decode cL_act 454 = .ok (.aload 5, 2) := by decide +kernel
theorem dL_act_456 : decode cL_act 456 = .ok (.getfield 28, 3) := by decide +kernel
theorem dL_act_459 : decode cL_act 459 = .ok (.invokestatic 32, 3) := by decide +kernel
theorem dL_act_462 : decode cL_act 462 = .ok (.if_icmp .ne 7, 3) := by decide +kernel
theorem dL_act_465 : decode cL_act 465 = .ok (.iconst 1, 1) := by decide +kernel
theorem dL_act_466 : decode cL_act 466 = .ok (.goto 4, 3) := by decide +kernel
theorem dL_act_469 : decode cL_act 469 = .ok (.iconst 0, 1) := by decide +kernel
theorem dL_act_470 : decode cL_act 470 = .ok (.putfield 55, 3) := by decide +kernel
theorem dL_act_473 : decode cL_act 473 = .ok (.aload_n 0, 1) := by decide +kernel
theorem dL_act_474 : decode cL_act 474 = .ok (.iload 4, 2) := by decide +kernel
theorem dL_act_476 : decode cL_act 476 = .ok (.invokevirtual 59, 3) := by decide +kernel
theorem dL_act_479 : decode cL_act 479 = .ok (.aload 5, 2) := by decide +kernel
theorem dL_act_481 : decode cL_act 481 = .ok (.getfield 55, 3) := by decide +kernel
theorem dL_act_484 : decode cL_act 484 = .ok (.if_icmp .ne 7, 3) := by decide +kernel
theorem dL_act_487 : decode cL_act 487 = .ok (.iconst 1, 1) := by decide +kernel
theorem dL_act_488 : decode cL_act 488 = .ok (.goto 4, 3) := by decide +kernel
theorem dL_act_491 : decode cL_act 491 = .ok (.iconst 0, 1) := by decide +kernel
theorem dL_act_492 : decode cL_act 492 = .ok (.ireturn, 1) := by decide +kernel
theorem dL_act_493 : decode cL_act 493 = .ok (.iload_n 3, 1) := by decide +kernel
theorem dL_act_494 : decode cL_act 494 = .ok (.ifCond .eq 11, 3) := by decide +kernel
theorem dL_act_497 : decode cL_act 497 = .ok (.aload 5, 2) := by decide +kernel
theorem dL_act_499 : decode cL_act 499 = .ok (.getfield 55, 3) := by decide +kernel
theorem dL_act_502 : decode cL_act 502 = .ok (.ifCond .ne 5, 3) := by decide +kernel
theorem dL_act_505 : decode cL_act 505 = .ok (.iconst 1, 1) := by decide +kernel
theorem dL_act_506 : decode cL_act 506 = .ok (.ireturn, 1) := by decide +kernel
theorem dL_act_507 : decode cL_act 507 = .ok (.aload 5, 2) := by decide +kernel
theorem dL_act_509 : decode cL_act 509 = .ok (.invokevirtual 63, 3) := by decide +kernel
theorem dL_act_512 : decode cL_act 512 = .ok (.aload_n 0, 1) := by decide +kernel
theorem dL_act_513 : decode cL_act 513 = .ok (.iload 4, 2) := by decide +kernel
theorem dL_act_515 : decode cL_act 515 = .ok (.invokevirtual 66, 3) := by decide +kernel
theorem dL_act_518 : decode cL_act 518 = .ok (.aload 5, 2) := by decide +kernel
theorem dL_act_520 : decode cL_act 520 = .ok (.getfield 41, 3) := by decide +kernel
theorem dL_act_523 : decode cL_act 523 = .ok (.invokestatic 32, 3) := by decide +kernel
theorem dL_act_526 : decode cL_act 526 = .ok (.if_icmp .ne 7, 3) := by decide +kernel
theorem dL_act_529 : decode cL_act 529 = .ok (.iconst 1, 1) := by decide +kernel
theorem dL_act_530 : decode cL_act 530 = .ok (.goto 4, 3) := by decide +kernel
theorem dL_act_533 : decode cL_act 533 = .ok (.iconst 0, 1) := by decide +kernel
theorem dL_act_534 : decode cL_act 534 = .ok (.ireturn, 1) := by decide +kernel
theorem dL_act_535 : decode cL_act 535 = .ok (.iload_n 3, 1) := by decide +kernel
theorem dL_act_536 : decode cL_act 536 = .ok (.ifCond .eq 11, 3) := by decide +kernel
theorem dL_act_539 : decode cL_act 539 = .ok (.aload 5, 2) := by decide +kernel
theorem dL_act_541 : decode cL_act 541 = .ok (.getfield 55, 3) := by decide +kernel
theorem dL_act_544 : decode cL_act 544 = .ok (.ifCond .ne 5, 3) := by decide +kernel
theorem dL_act_547 : decode cL_act 547 = .ok (.iconst 1, 1) := by decide +kernel
theorem dL_act_548 : decode cL_act 548 = .ok (.ireturn, 1) := by decide +kernel
theorem dL_act_549 : decode cL_act 549 = .ok (.aload 5, 2) := by decide +kernel
theorem dL_act_551 : decode cL_act 551 = .ok (.getfield 28, 3) := by decide +kernel
theorem dL_act_554 : decode cL_act 554 = .ok (.invokestatic 32, 3) := by decide +kernel
theorem dL_act_557 : decode cL_act 557 = .ok (.istore 11, 2) := by decide +kernel
theorem dL_act_559 : decode cL_act 559 = .ok (.aload 5, 2) := by decide +kernel
theorem dL_act_561 : decode cL_act 561 = .ok (.iload_n 2, 1) := by decide +kernel
theorem dL_act_562 : decode cL_act 562 = .ok (.iconst 3, 1) := by decide +kernel
theorem dL_act_563 : decode cL_act 563 = .ok (.ishr, 1) := by decide +kernel
theorem dL_act_564 : decode cL_act 564 = .ok (.sipush 1296, 3) := by decide +kernel
theorem dL_act_567 : decode cL_act 567 = .ok (.invokestatic 15, 3) := by decide +kernel
theorem dL_act_570 : decode cL_act 570 = .ok (.invokestatic 24, 3) := by decide +kernel
theorem dL_act_573 : decode cL_act 573 = .ok (.putfield 28, 3) := by decide +kernel
theorem dL_act_576 : decode cL_act 576 = .ok (.aload 5, 2) := by decide +kernel
theorem dL_act_578 : decode cL_act 578 = .ok (.iconst 0, 1) := by decide +kernel
theorem dL_act_579 : decode cL_act 579 = .ok (.putfield 68, 3) := by decide +kernel
theorem dL_act_582 : decode cL_act 582 = .ok (.aload_n 0, 1) := by decide +kernel
theorem dL_act_583 : decode cL_act 583 = .ok (.iload 4, 2) := by decide +kernel
theorem dL_act_585 : decode cL_act 585 = .ok (.aload 5, 2) := by decide +kernel
theorem dL_act_587 : decode cL_act 587 = .ok (.getfield 28, 3) := by decide +kernel
theorem dL_act_590 : decode cL_act 590 = .ok (.invokestatic 32, 3) := by decide +kernel
theorem dL_act_593 : decode cL_act 593 = .ok (.invokevirtual 71, 3) := by decide +kernel
theorem dL_act_596 : decode cL_act 596 = .ok (.iload 11, 2) := by decide +kernel
theorem dL_act_598 : decode cL_act 598 = .ok (.if_icmp .ne 7, 3) := by decide +kernel
theorem dL_act_601 : decode cL_act 601 = .ok (.iconst 1, 1) := by decide +kernel
theorem dL_act_602 : decode cL_act 602 = .ok (.goto 4, 3) := by decide +kernel
theorem dL_act_605 : decode cL_act 605 = .ok (.iconst 0, 1) := by decide +kernel
theorem dL_act_606 : decode cL_act 606 = .ok (.ireturn, 1) := by decide +kernel
theorem dL_act_607 : decode cL_act 607 = .ok (.iload_n 3, 1) := by decide +kernel
theorem dL_act_608 : decode cL_act 608 = .ok (.ifCond .ne 5, 3) := by decide +kernel
theorem dL_act_611 : decode cL_act 611 = .ok (.iconst 1, 1) := by decide +kernel
theorem dL_act_612 : decode cL_act 612 = .ok (.ireturn, 1) := by decide +kernel
theorem dL_act_613 : decode cL_act 613 = .ok (.aload 5, 2) := by decide +kernel
theorem dL_act_615 : decode cL_act 615 = .ok (.getfield 68, 3) := by decide +kernel
theorem dL_act_618 : decode cL_act 618 = .ok (.istore 12, 2) := by decide +kernel
theorem dL_act_620 : decode cL_act 620 = .ok (.aload 5, 2) := by decide +kernel
theorem dL_act_622 : decode cL_act 622 = .ok (.iload_n 2, 1) := by decide +kernel
theorem dL_act_623 : decode cL_act 623 = .ok (.iconst 3, 1) := by decide +kernel
theorem dL_act_624 : decode cL_act 624 = .ok (.ishr, 1) := by decide +kernel
theorem dL_act_625 : decode cL_act 625 = .ok (.iconst 2, 1) := by decide +kernel
theorem dL_act_626 : decode cL_act 626 = .ok (.invokestatic 15, 3) := by decide +kernel
theorem dL_act_629 : decode cL_act 629 = .ok (.ifCond .ne 7, 3) := by decide +kernel
theorem dL_act_632 : decode cL_act 632 = .ok (.iconst 1, 1) := by decide +kernel
theorem dL_act_633 : decode cL_act 633 = .ok (.goto 4, 3) := by decide +kernel
theorem dL_act_636 : decode cL_act 636 = .ok (.iconst 0, 1) := by decide +kernel
theorem dL_act_637 : decode cL_act 637 = .ok (.putfield 68, 3) := by decide +kernel
theorem dL_act_640 : decode cL_act 640 = .ok (.aload_n 0, 1) := by decide +kernel
theorem dL_act_641 : decode cL_act 641 = .ok (.iload 4, 2) := by decide +kernel
theorem dL_act_643 : decode cL_act 643 = .ok (.aload 5, 2) := by decide +kernel
theorem dL_act_645 : decode cL_act 645 = .ok (.getfield 68, 3) := by decide +kernel
theorem dL_act_648 : decode cL_act 648 = .ok (.invokevirtual 74, 3) := by decide +kernel
theorem dL_act_651 : decode cL_act 651 = .ok (.iload 12, 2) := by decide +kernel
theorem dL_act_653 : decode cL_act 653 = .ok (.if_icmp .ne 7, 3) := by decide +kernel
theorem dL_act_656 : decode cL_act 656 = .ok (.iconst 1, 1) := by decide +kernel
theorem dL_act_657 : decode cL_act 657 = .ok (.goto 4, 3) := by decide +kernel
theorem dL_act_660 : decode cL_act 660 = .ok (.iconst 0, 1) := by decide +kernel
theorem dL_act_661 : decode cL_act 661 = .ok (.ireturn, 1) := by decide +kernel
theorem dL_act_662 : decode cL_act 662 = .ok (.iconst 1, 1) := by decide +kernel
theorem dL_act_663 : decode cL_act 663 = .ok (.iload_n 2, 1) := by decide +kernel
theorem dL_act_664 : decode cL_act 664 = .ok (.iconst 3, 1) := by decide +kernel
theorem dL_act_665 : decode cL_act 665 = .ok (.ishr, 1) := by decide +kernel
theorem dL_act_666 : decode cL_act 666 = .ok (.bipush 6, 2) := by decide +kernel
theorem dL_act_668 : decode cL_act 668 = .ok (.invokestatic 15, 3) := by decide +kernel
theorem dL_act_671 : decode cL_act 671 = .ok (.iadd, 1) := by decide +kernel
theorem dL_act_672 : decode cL_act 672 = .ok (.istore 13, 2) := by decide +kernel
theorem dL_act_674 : decode cL_act 674 = .ok (.aload_n 1, 1) := by decide +kernel
theorem dL_act_675 : decode cL_act 675 = .ok (.iload 6, 2) := by decide +kernel
theorem dL_act_677 : decode cL_act 677 = .ok (.invokevirtual 78, 3) := by decide +kernel
theorem dL_act_680 : decode cL_act 680 = .ok (.iload 13, 2) := by decide +kernel
theorem dL_act_682 : decode cL_act 682 = .ok (.if_icmp .le 5, 3) := by decide +kernel
theorem dL_act_685 : decode cL_act 685 = .ok (.iconst 1, 1) := by decide +kernel
theorem dL_act_686 : decode cL_act 686 = .ok (.ireturn, 1) := by decide +kernel
theorem dL_act_687 : decode cL_act 687 = .ok (.aload_n 1, 1) := by decide +kernel
theorem dL_act_688 : decode cL_act 688 = .ok (.getfield 81, 3) := by decide +kernel
theorem dL_act_691 : decode cL_act 691 = .ok (.iload 6, 2) := by decide +kernel
theorem dL_act_693 : decode cL_act 693 = .ok (.aaload, 1) := by decide +kernel
theorem dL_act_694 : decode cL_act 694 = .ok (.iconst 0, 1) := by decide +kernel
theorem dL_act_695 : decode cL_act 695 = .ok (.iaload, 1) := by decide +kernel
theorem dL_act_696 : decode cL_act 696 = .ok (.istore 14, 2) := by decide +kernel
theorem dL_act_698 : decode cL_act 698 = .ok (.aload_n 1, 1) := by decide +kernel
theorem dL_act_699 : decode cL_act 699 = .ok (.getfield 81, 3) := by decide +kernel
theorem dL_act_702 : decode cL_act 702 = .ok (.iload 6, 2) := by decide +kernel
theorem dL_act_704 : decode cL_act 704 = .ok (.iconst 3, 1) := by decide +kernel
theorem dL_act_705 : decode cL_act 705 = .ok (.newarray .int, 2) := by decide +kernel
theorem dL_act_707 : decode cL_act 707 = .ok (.dup, 1) := by decide +kernel
theorem dL_act_708 : decode cL_act 708 = .ok (.iconst 0, 1) := by decide +kernel
theorem dL_act_709 : decode cL_act 709 = .ok (.iload 13, 2) := by decide +kernel
theorem dL_act_711 : decode cL_act 711 = .ok (.iastore, 1) := by decide +kernel
theorem dL_act_712 : decode cL_act 712 = .ok (.dup, 1) := by decide +kernel
theorem dL_act_713 : decode cL_act 713 = .ok (.iconst 1, 1) := by decide +kernel
theorem dL_act_714 : decode cL_act 714 = .ok (.aload_n 1, 1) := by decide +kernel
theorem dL_act_715 : decode cL_act 715 = .ok (.getfield 81, 3) := by decide +kernel
theorem dL_act_718 : decode cL_act 718 = .ok (.iload 6, 2) := by decide +kernel
theorem dL_act_720 : decode cL_act 720 = .ok (.aaload, 1) := by decide +kernel
theorem dL_act_721 : decode cL_act 721 = .ok (.iconst 1, 1) := by decide +kernel
theorem dL_act_722 : decode cL_act 722 = .ok (.iaload, 1) := by decide +kernel
theorem dL_act_723 : decode cL_act 723 = .ok (.iastore, 1) := by decide +kernel
theorem dL_act_724 : decode cL_act 724 = .ok (.dup, 1) := by decide +kernel
theorem dL_act_725 : decode cL_act 725 = .ok (.iconst 2, 1) := by decide +kernel
theorem dL_act_726 : decode cL_act 726 = .ok (.aload_n 1, 1) := by decide +kernel
theorem dL_act_727 : decode cL_act 727 = .ok (.getfield 81, 3) := by decide +kernel
theorem dL_act_730 : decode cL_act 730 = .ok (.iload 6, 2) := by decide +kernel
theorem dL_act_732 : decode cL_act 732 = .ok (.aaload, 1) := by decide +kernel
theorem dL_act_733 : decode cL_act 733 = .ok (.iconst 2, 1) := by decide +kernel
theorem dL_act_734 : decode cL_act 734 = .ok (.iaload, 1) := by decide +kernel
theorem dL_act_735 : decode cL_act 735 = .ok (.iastore, 1) := by decide +kernel
theorem dL_act_736 : decode cL_act 736 = .ok (.aastore, 1) := by decide +kernel
theorem dL_act_737 : decode cL_act 737 = .ok (.aload_n 0, 1) := by decide +kernel
theorem dL_act_738 : decode cL_act 738 = .ok (.iload 6, 2) := by decide +kernel
theorem dL_act_740 : decode cL_act 740 = .ok (.iload 13, 2) := by decide +kernel
theorem dL_act_742 : decode cL_act 742 = .ok (.invokevirtual 85, 3) := by decide +kernel
theorem dL_act_745 : decode cL_act 745 = .ok (.iload 14, 2) := by decide +kernel
theorem dL_act_747 : decode cL_act 747 = .ok (.if_icmp .ne 7, 3) := by decide +kernel
theorem dL_act_750 : decode cL_act 750 = .ok (.iconst 1, 1) := by decide +kernel
theorem dL_act_751 : decode cL_act 751 = .ok (.goto 4, 3) := by decide +kernel
theorem dL_act_754 : decode cL_act 754 = .ok (.iconst 0, 1) := by decide +kernel
theorem dL_act_755 : decode cL_act 755 = .ok (.ireturn, 1) := by decide +kernel
theorem dL_act_756 : decode cL_act 756 = .ok (.bipush 25, 2) := by decide +kernel
theorem dL_act_758 : decode cL_act 758 = .ok (.aload_n 1, 1) := by decide +kernel
theorem dL_act_759 : decode cL_act 759 = .ok (.getfield 81, 3) := by decide +kernel
theorem dL_act_762 : decode cL_act 762 = .ok (.iload 6, 2) := by decide +kernel
theorem dL_act_764 : decode cL_act 764 = .ok (.aaload, 1) := by decide +kernel
theorem dL_act_765 : decode cL_act 765 = .ok (.iconst 1, 1) := by decide +kernel
theorem dL_act_766 : decode cL_act 766 = .ok (.iaload, 1) := by decide +kernel
theorem dL_act_767 : decode cL_act 767 = .ok (.imul, 1) := by decide +kernel
theorem dL_act_768 : decode cL_act 768 = .ok (.aload_n 1, 1) := by decide +kernel
theorem dL_act_769 : decode cL_act 769 = .ok (.getfield 81, 3) := by decide +kernel
theorem dL_act_772 : decode cL_act 772 = .ok (.iload 6, 2) := by decide +kernel
theorem dL_act_774 : decode cL_act 774 = .ok (.aaload, 1) := by decide +kernel
theorem dL_act_775 : decode cL_act 775 = .ok (.iconst 2, 1) := by decide +kernel
theorem dL_act_776 : decode cL_act 776 = .ok (.iaload, 1) := by decide +kernel
theorem dL_act_777 : decode cL_act 777 = .ok (.iadd, 1) := by decide +kernel
theorem dL_act_778 : decode cL_act 778 = .ok (.istore 15, 2) := by decide +kernel
theorem dL_act_780 : decode cL_act 780 = .ok (.aload_n 1, 1) := by decide +kernel
theorem dL_act_781 : decode cL_act 781 = .ok (.getfield 81, 3) := by decide +kernel
theorem dL_act_784 : decode cL_act 784 = .ok (.iload 6, 2) := by decide +kernel
theorem dL_act_786 : decode cL_act 786 = .ok (.iconst 3, 1) := by decide +kernel
theorem dL_act_787 : decode cL_act 787 = .ok (.newarray .int, 2) := by decide +kernel
theorem dL_act_789 : decode cL_act 789 = .ok (.dup, 1) := by decide +kernel
theorem dL_act_790 : decode cL_act 790 = .ok (.iconst 0, 1) := by decide +kernel
theorem dL_act_791 : decode cL_act 791 = .ok (.aload_n 1, 1) := by decide +kernel
theorem dL_act_792 : decode cL_act 792 = .ok (.getfield 81, 3) := by decide +kernel
theorem dL_act_795 : decode cL_act 795 = .ok (.iload 6, 2) := by decide +kernel
theorem dL_act_797 : decode cL_act 797 = .ok (.aaload, 1) := by decide +kernel
theorem dL_act_798 : decode cL_act 798 = .ok (.iconst 0, 1) := by decide +kernel
theorem dL_act_799 : decode cL_act 799 = .ok (.iaload, 1) := by decide +kernel
theorem dL_act_800 : decode cL_act 800 = .ok (.iastore, 1) := by decide +kernel
theorem dL_act_801 : decode cL_act 801 = .ok (.dup, 1) := by decide +kernel
theorem dL_act_802 : decode cL_act 802 = .ok (.iconst 1, 1) := by decide +kernel
theorem dL_act_803 : decode cL_act 803 = .ok (.iload_n 2, 1) := by decide +kernel
theorem dL_act_804 : decode cL_act 804 = .ok (.iconst 3, 1) := by decide +kernel
theorem dL_act_805 : decode cL_act 805 = .ok (.ishr, 1) := by decide +kernel
theorem dL_act_806 : decode cL_act 806 = .ok (.bipush 24, 2) := by decide +kernel
theorem dL_act_808 : decode cL_act 808 = .ok (.invokestatic 15, 3) := by decide +kernel
theorem dL_act_811 : decode cL_act 811 = .ok (.iastore, 1) := by decide +kernel
theorem dL_act_812 : decode cL_act 812 = .ok (.dup, 1) := by decide +kernel
theorem dL_act_813 : decode cL_act 813 = .ok (.iconst 2, 1) := by decide +kernel
theorem dL_act_814 : decode cL_act 814 = .ok (.iload_n 2, 1) := by decide +kernel
theorem dL_act_815 : decode cL_act 815 = .ok (.iconst 4, 1) := by decide +kernel
theorem dL_act_816 : decode cL_act 816 = .ok (.ishr, 1) := by decide +kernel
theorem dL_act_817 : decode cL_act 817 = .ok (.bipush 25, 2) := by decide +kernel
theorem dL_act_819 : decode cL_act 819 = .ok (.invokestatic 15, 3) := by decide +kernel
theorem dL_act_822 : decode cL_act 822 = .ok (.iastore, 1) := by decide +kernel
theorem dL_act_823 : decode cL_act 823 = .ok (.aastore, 1) := by decide +kernel
theorem dL_act_824 : decode cL_act 824 = .ok (.aload_n 0, 1) := by decide +kernel
theorem dL_act_825 : decode cL_act 825 = .ok (.iload 6, 2) := by decide +kernel
theorem dL_act_827 : decode cL_act 827 = .ok (.aload_n 1, 1) := by decide +kernel
theorem dL_act_828 : decode cL_act 828 = .ok (.getfield 81, 3) := by decide +kernel
theorem dL_act_831 : decode cL_act 831 = .ok (.iload 6, 2) := by decide +kernel
theorem dL_act_833 : decode cL_act 833 = .ok (.aaload, 1) := by decide +kernel
theorem dL_act_834 : decode cL_act 834 = .ok (.iconst 1, 1) := by decide +kernel
theorem dL_act_835 : decode cL_act 835 = .ok (.iaload, 1) := by decide +kernel
theorem dL_act_836 : decode cL_act 836 = .ok (.aload_n 1, 1) := by decide +kernel
theorem dL_act_837 : decode cL_act 837 = .ok (.getfield 81, 3) := by decide +kernel
theorem dL_act_840 : decode cL_act 840 = .ok (.iload 6, 2) := by decide +kernel
theorem dL_act_842 : decode cL_act 842 = .ok (.aaload, 1) := by decide +kernel
theorem dL_act_843 : decode cL_act 843 = .ok (.iconst 2, 1) := by decide +kernel
theorem dL_act_844 : decode cL_act 844 = .ok (.iaload, 1) := by decide +kernel
theorem dL_act_845 : decode cL_act 845 = .ok (.invokevirtual 88, 3) := by decide +kernel
theorem dL_act_848 : decode cL_act 848 = .ok (.iload 15, 2) := by decide +kernel
theorem dL_act_850 : decode cL_act 850 = .ok (.if_icmp .ne 7, 3) := by decide +kernel
theorem dL_act_853 : decode cL_act 853 = .ok (.iconst 1, 1) := by decide +kernel
theorem dL_act_854 : decode cL_act 854 = .ok (.goto 4, 3) := by decide +kernel
theorem dL_act_857 : decode cL_act 857 = .ok (.iconst 0, 1) := by decide +kernel
theorem dL_act_858 : decode cL_act 858 = .ok (.ireturn, 1) := by decide +kernel
theorem dL_act_859 : decode cL_act 859 = .ok (.iload_n 3, 1) := by decide +kernel
theorem dL_act_860 : decode cL_act 860 = .ok (.ifCond .ne 5, 3) := by decide +kernel
theorem dL_act_863 : decode cL_act 863 = .ok (.iconst 1, 1) := by decide +kernel
theorem dL_act_864 : decode cL_act 864 = .ok (.ireturn, 1) := by decide +kernel
theorem dL_act_865 : decode cL_act 865 = .ok (.iload_n 2, 1) := by decide +kernel
theorem dL_act_866 : decode cL_act 866 = .ok (.iconst 3, 1) := by decide +kernel
theorem dL_act_867 : decode cL_act 867 = .ok (.ishr, 1) := by decide +kernel
theorem dL_act_868 : decode cL_act 868 = .ok (.iconst 5, 1) := by decide +kernel
theorem dL_act_869 : decode cL_act 869 = .ok (.invokestatic 15, 3) := by decide +kernel
theorem dL_act_872 : decode cL_act 872 = .ok (.ifCond .ne 7, 3) := by decide +kernel
theorem dL_act_875 : decode cL_act 875 = .ok (.iconst (-1), 1) := by decide +kernel
theorem dL_act_876 : decode cL_act 876 = .ok (.goto 5, 3) := by decide +kernel
theorem dL_act_879 : decode cL_act 879 = .ok (.iload 6, 2) := by decide +kernel
theorem dL_act_881 : decode cL_act 881 = .ok (.istore 16, 2) := by decide +kernel
theorem dL_act_883 : decode cL_act 883 = .ok (.iload 16, 2) := by decide +kernel
theorem dL_act_885 : decode cL_act 885 = .ok (.aload 5, 2) := by decide +kernel
theorem dL_act_887 : decode cL_act 887 = .ok (.getfield 91, 3) := by decide +kernel
theorem dL_act_890 : decode cL_act 890 = .ok (.if_icmp .eq 45, 3) := by decide +kernel
theorem dL_act_893 : decode cL_act 893 = .ok (.aload 5, 2) := by decide +kernel
theorem dL_act_895 : decode cL_act 895 = .ok (.getfield 55, 3) := by decide +kernel
theorem dL_act_898 : decode cL_act 898 = .ok (.ifCond .eq 35, 3) := by decide +kernel
theorem dL_act_901 : decode cL_act 901 = .ok (.iload 16, 2) := by decide +kernel
theorem dL_act_903 : decode cL_act 903 = .ok (.ifCond .lt 32, 3) := by decide +kernel
theorem dL_act_906 : decode cL_act 906 = .ok (.aload_n 1, 1) := by decide +kernel
theorem dL_act_907 : decode cL_act 907 = .ok (.iload 16, 2) := by decide +kernel
theorem dL_act_909 : decode cL_act 909 = .ok (.invokevirtual 94, 3) := by decide +kernel
theorem dL_act_912 : decode cL_act 912 = .ok (.ifCond .eq 21, 3) := by decide +kernel
theorem dL_act_915 : decode cL_act 915 = .ok (.aload_n 1, 1) := by decide +kernel
theorem dL_act_916 : decode cL_act 916 = .ok (.iload 16, 2) := by decide +kernel
theorem dL_act_918 : decode cL_act 918 = .ok (.invokevirtual 78, 3) := by decide +kernel
theorem dL_act_921 : decode cL_act 921 = .ok (.aload_n 1, 1) := by decide +kernel
theorem dL_act_922 : decode cL_act 922 = .ok (.getfield 81, 3) := by decide +kernel
theorem dL_act_925 : decode cL_act 925 = .ok (.iload 16, 2) := by decide +kernel
theorem dL_act_927 : decode cL_act 927 = .ok (.aaload, 1) := by decide +kernel
theorem dL_act_928 : decode cL_act 928 = .ok (.iconst 0, 1) := by decide +kernel
theorem dL_act_929 : decode cL_act 929 = .ok (.iaload, 1) := by decide +kernel
theorem dL_act_930 : decode cL_act 930 = .ok (.if_icmp .lt 5, 3) := by decide +kernel
theorem dL_act_933 : decode cL_act 933 = .ok (.iconst 1, 1) := by decide +kernel
theorem dL_act_934 : decode cL_act 934 = .ok (.ireturn, 1) := by decide +kernel
theorem dL_act_935 : decode cL_act 935 = .ok (.aload 5, 2) := by decide +kernel
theorem dL_act_937 : decode cL_act 937 = .ok (.getfield 91, 3) := by decide +kernel
theorem dL_act_940 : decode cL_act 940 = .ok (.istore 17, 2) := by decide +kernel
theorem dL_act_942 : decode cL_act 942 = .ok (.aload 5, 2) := by decide +kernel
theorem dL_act_944 : decode cL_act 944 = .ok (.iload 16, 2) := by decide +kernel
theorem dL_act_946 : decode cL_act 946 = .ok (.putfield 91, 3) := by decide +kernel
theorem dL_act_949 : decode cL_act 949 = .ok (.aload_n 0, 1) := by decide +kernel
theorem dL_act_950 : decode cL_act 950 = .ok (.iload 4, 2) := by decide +kernel
theorem dL_act_952 : decode cL_act 952 = .ok (.iload 16, 2) := by decide +kernel
theorem dL_act_954 : decode cL_act 954 = .ok (.invokevirtual 96, 3) := by decide +kernel
theorem dL_act_957 : decode cL_act 957 = .ok (.iload 17, 2) := by decide +kernel
theorem dL_act_959 : decode cL_act 959 = .ok (.if_icmp .ne 7, 3) := by decide +kernel
theorem dL_act_962 : decode cL_act 962 = .ok (.iconst 1, 1) := by decide +kernel
theorem dL_act_963 : decode cL_act 963 = .ok (.goto 4, 3) := by decide +kernel
theorem dL_act_966 : decode cL_act 966 = .ok (.iconst 0, 1) := by decide +kernel
theorem dL_act_967 : decode cL_act 967 = .ok (.ireturn, 1) := by decide +kernel
theorem dL_build_0 : decode cL_build 0 = .ok (.new 10, 3) := by decide +kernel
theorem dL_build_3 : decode cL_build 3 = .ok (.dup, 1) := by decide +kernel
theorem dL_build_4 : decode cL_build 4 = .ok (.invokespecial 99, 3) := by decide +kernel
theorem dL_build_7 : decode cL_build 7 = .ok (.astore_n 2, 1) := by decide +kernel
theorem dL_build_8 : decode cL_build 8 = .ok (.iconst 0, 1) := by decide +kernel
theorem dL_build_9 : decode cL_build 9 = .ok (.istore_n 3, 1) := by decide +kernel
theorem dL_build_10 : decode cL_build 10 = .ok (.iload_n 3, 1) := by decide +kernel
theorem dL_build_11 : decode cL_build 11 = .ok (.bipush 40, 2) := by decide +kernel
theorem dL_build_13 : decode cL_build 13 = .ok (.if_icmp .ge 84, 3) := by decide +kernel
theorem dL_build_16 : decode cL_build 16 = .ok (.aload_n 0, 1) := by decide +kernel
theorem dL_build_17 : decode cL_build 17 = .ok (.aload_n 2, 1) := by decide +kernel
theorem dL_build_18 : decode cL_build 18 = .ok (.aload_n 1, 1) := by decide +kernel
theorem dL_build_19 : decode cL_build 19 = .ok (.iload_n 3, 1) := by decide +kernel
theorem dL_build_20 : decode cL_build 20 = .ok (.bipush 16, 2) := by decide +kernel
theorem dL_build_22 : decode cL_build 22 = .ok (.irem, 1) := by decide +kernel
theorem dL_build_23 : decode cL_build 23 = .ok (.invokestatic 100, 3) := by decide +kernel
theorem dL_build_26 : decode cL_build 26 = .ok (.iload_n 3, 1) := by decide +kernel
theorem dL_build_27 : decode cL_build 27 = .ok (.bipush 16, 2) := by decide +kernel
theorem dL_build_29 : decode cL_build 29 = .ok (.idiv, 1) := by decide +kernel
theorem dL_build_30 : decode cL_build 30 = .ok (.iconst 4, 1) := by decide +kernel
theorem dL_build_31 : decode cL_build 31 = .ok (.imul, 1) := by decide +kernel
theorem dL_build_32 : decode cL_build 32 = .ok (.ishr, 1) := by decide +kernel
theorem dL_build_33 : decode cL_build 33 = .ok (.sipush 313, 3) := by decide +kernel
theorem dL_build_36 : decode cL_build 36 = .ok (.iload_n 3, 1) := by decide +kernel
theorem dL_build_37 : decode cL_build 37 = .ok (.imul, 1) := by decide +kernel
theorem dL_build_38 : decode cL_build 38 = .ok (.iadd, 1) := by decide +kernel
theorem dL_build_39 : decode cL_build 39 = .ok (.iload_n 3, 1) := by decide +kernel
theorem dL_build_40 : decode cL_build 40 = .ok (.bipush 6, 2) := by decide +kernel
theorem dL_build_42 : decode cL_build 42 = .ok (.if_icmp .ge 13, 3) := by decide +kernel
theorem dL_build_45 : decode cL_build 45 = .ok (.sipush 512, 3) := by decide +kernel
theorem dL_build_48 : decode cL_build 48 = .ok (.iload_n 3, 1) := by decide +kernel
theorem dL_build_49 : decode cL_build 49 = .ok (.iconst 2, 1) := by decide +kernel
theorem dL_build_50 : decode cL_build 50 = .ok (.irem, 1) := by decide +kernel
theorem dL_build_51 : decode cL_build 51 = .ok (.imul, 1) := by decide +kernel
theorem dL_build_52 : decode cL_build 52 = .ok (.goto 4, 3) := by decide +kernel
theorem dL_build_55 : decode cL_build 55 = .ok (.iconst 0, 1) := by decide +kernel
theorem dL_build_56 : decode cL_build 56 = .ok (.iadd, 1) := by decide +kernel
theorem dL_build_57 : decode cL_build 57 = .ok (.invokestatic 104, 3) := by decide +kernel
theorem dL_build_60 : decode cL_build 60 = .ok (.ifCond .ne 5, 3) := by decide +kernel
theorem dL_build_63 : decode cL_build 63 = .ok (.aconst_null, 1) := by decide +kernel
theorem dL_build_64 : decode cL_build 64 = .ok (.areturn, 1) := by decide +kernel
theorem dL_build_65 : decode cL_build 65 = .ok (.iload_n 3, 1) := by decide +kernel
theorem dL_build_66 : decode cL_build 66 = .ok (.bipush 9, 2) := by decide +kernel
theorem dL_build_68 : decode cL_build 68 = .ok (.if_icmp .le 23, 3) := by decide +kernel
theorem dL_build_71 : decode cL_build 71 = .ok (.iload_n 3, 1) := by decide +kernel
theorem dL_build_72 : decode cL_build 72 = .ok (.iconst 3, 1) := by decide +kernel
theorem dL_build_73 : decode cL_build 73 = .ok (.irem, 1) := by decide +kernel
theorem dL_build_74 : decode cL_build 74 = .ok (.ifCond .ne 17, 3) := by decide +kernel
theorem dL_build_77 : decode cL_build 77 = .ok (.aload_n 0, 1) := by decide +kernel
theorem dL_build_78 : decode cL_build 78 = .ok (.iconst 1, 1) := by decide +kernel
theorem dL_build_79 : decode cL_build 79 = .ok (.invokevirtual 108, 3) := by decide +kernel
theorem dL_build_82 : decode cL_build 82 = .ok (.aload_n 2, 1) := by decide +kernel
theorem dL_build_83 : decode cL_build 83 = .ok (.invokevirtual 111, 3) := by decide +kernel
theorem dL_build_86 : decode cL_build 86 = .ok (.if_icmp .eq 5, 3) := by decide +kernel
theorem dL_build_89 : decode cL_build 89 = .ok (.aconst_null, 1) := by decide +kernel
theorem dL_build_90 : decode cL_build 90 = .ok (.areturn, 1) := by decide +kernel
theorem dL_build_91 : decode cL_build 91 = .ok (.iinc 3 1, 3) := by decide +kernel
theorem dL_build_94 : decode cL_build 94 = .ok (.goto (-84), 3) := by decide +kernel
theorem dL_build_97 : decode cL_build 97 = .ok (.aload_n 2, 1) := by decide +kernel
theorem dL_build_98 : decode cL_build 98 = .ok (.areturn, 1) := by decide +kernel
theorem dL_law_0 : decode cL_law 0 = .ok (.new 36, 3) := by decide +kernel
theorem dL_law_3 : decode cL_law 3 = .ok (.dup, 1) := by decide +kernel
theorem dL_law_4 : decode cL_law 4 = .ok (.invokespecial 114, 3) := by decide +kernel
theorem dL_law_7 : decode cL_law 7 = .ok (.astore_n 1, 1) := by decide +kernel
theorem dL_law_8 : decode cL_law 8 = .ok (.aload_n 1, 1) := by decide +kernel
theorem dL_law_9 : decode cL_law 9 = .ok (.aload_n 0, 1) := by decide +kernel
theorem dL_law_10 : decode cL_law 10 = .ok (.invokestatic 115, 3) := by decide +kernel
theorem dL_law_13 : decode cL_law 13 = .ok (.astore_n 2, 1) := by decide +kernel
theorem dL_law_14 : decode cL_law 14 = .ok (.aload_n 2, 1) := by decide +kernel
theorem dL_law_15 : decode cL_law 15 = .ok (.ifnonnull 5, 3) := by decide +kernel
theorem dL_law_18 : decode cL_law 18 = .ok (.iconst 0, 1) := by decide +kernel
theorem dL_law_19 : decode cL_law 19 = .ok (.ireturn, 1) := by decide +kernel
theorem dL_law_20 : decode cL_law 20 = .ok (.iconst 0, 1) := by decide +kernel
theorem dL_law_21 : decode cL_law 21 = .ok (.istore_n 3, 1) := by decide +kernel
theorem dL_law_22 : decode cL_law 22 = .ok (.iload_n 3, 1) := by decide +kernel
theorem dL_law_23 : decode cL_law 23 = .ok (.bipush 40, 2) := by decide +kernel
theorem dL_law_25 : decode cL_law 25 = .ok (.if_icmp .ge 790, 3) := by decide +kernel
theorem dL_law_28 : decode cL_law 28 = .ok (.aload_n 0, 1) := by decide +kernel
theorem dL_law_29 : decode cL_law 29 = .ok (.iload_n 3, 1) := by decide +kernel
theorem dL_law_30 : decode cL_law 30 = .ok (.bipush 16, 2) := by decide +kernel
theorem dL_law_32 : decode cL_law 32 = .ok (.irem, 1) := by decide +kernel
theorem dL_law_33 : decode cL_law 33 = .ok (.invokestatic 100, 3) := by decide +kernel
theorem dL_law_36 : decode cL_law 36 = .ok (.iload_n 3, 1) := by decide +kernel
theorem dL_law_37 : decode cL_law 37 = .ok (.bipush 16, 2) := by decide +kernel
theorem dL_law_39 : decode cL_law 39 = .ok (.idiv, 1) := by decide +kernel
theorem dL_law_40 : decode cL_law 40 = .ok (.iconst 3, 1) := by decide +kernel
theorem dL_law_41 : decode cL_law 41 = .ok (.imul, 1) := by decide +kernel
theorem dL_law_42 : decode cL_law 42 = .ok (.ishr, 1) := by decide +kernel
theorem dL_law_43 : decode cL_law 43 = .ok (.sipush 313, 3) := by decide +kernel
theorem dL_law_46 : decode cL_law 46 = .ok (.iload_n 3, 1) := by decide +kernel
theorem dL_law_47 : decode cL_law 47 = .ok (.imul, 1) := by decide +kernel
theorem dL_law_48 : decode cL_law 48 = .ok (.iadd, 1) := by decide +kernel
theorem dL_law_49 : decode cL_law 49 = .ok (.istore 4, 2) := by decide +kernel
theorem dL_law_51 : decode cL_law 51 = .ok (.aload_n 1, 1) := by decide +kernel
theorem dL_law_52 : decode cL_law 52 = .ok (.aload_n 2, 1) := by decide +kernel
theorem dL_law_53 : decode cL_law 53 = .ok (.iload 4, 2) := by decide +kernel
theorem dL_law_55 : decode cL_law 55 = .ok (.invokestatic 104, 3) := by decide +kernel
theorem dL_law_58 : decode cL_law 58 = .ok (.ifCond .ne 5, 3) := by decide +kernel
theorem dL_law_61 : decode cL_law 61 = .ok (.iconst 0, 1) := by decide +kernel
theorem dL_law_62 : decode cL_law 62 = .ok (.ireturn, 1) := by decide +kernel
theorem dL_law_63 : decode cL_law 63 = .ok (.aload_n 1, 1) := by decide +kernel
theorem dL_law_64 : decode cL_law 64 = .ok (.iconst 1, 1) := by decide +kernel
theorem dL_law_65 : decode cL_law 65 = .ok (.invokevirtual 119, 3) := by decide +kernel
theorem dL_law_68 : decode cL_law 68 = .ok (.istore 5, 2) := by decide +kernel
theorem dL_law_70 : decode cL_law 70 = .ok (.iload 5, 2) := by decide +kernel
theorem dL_law_72 : decode cL_law 72 = .ok (.ifCond .ne 6, 3) := by decide +kernel
theorem dL_law_75 : decode cL_law 75 = .ok (.goto 734, 3) := by decide +kernel
theorem dL_law_78 : decode cL_law 78 = .ok (.iload 4, 2) := by decide +kernel
theorem dL_law_80 : decode cL_law 80 = .ok (.iconst 2, 1) := by decide +kernel
theorem dL_law_81 : decode cL_law 81 = .ok (.ishr, 1) := by decide +kernel
theorem dL_law_82 : decode cL_law 82 = .ok (.iload 5, 2) := by decide +kernel
theorem dL_law_84 : decode cL_law 84 = .ok (.invokestatic 15, 3) := by decide +kernel
theorem dL_law_87 : decode cL_law 87 = .ok (.istore 6, 2) := by decide +kernel
theorem dL_law_89 : decode cL_law 89 = .ok (.iload 4, 2) := by decide +kernel
theorem dL_law_91 : decode cL_law 91 = .ok (.iconst 3, 1) := by decide +kernel
theorem dL_law_92 : decode cL_law 92 = .ok (.ishr, 1) := by decide +kernel
theorem dL_law_93 : decode cL_law 93 = .ok (.iconst 4, 1) := by decide +kernel
theorem dL_law_94 : decode cL_law 94 = .ok (.invokestatic 15, 3) := by decide +kernel
theorem dL_law_97 : decode cL_law 97 = .ok (.istore 7, 2) := by decide +kernel
theorem dL_law_99 : decode cL_law 99 = .ok (.iload 4, 2) := by decide +kernel
theorem dL_law_101 : decode cL_law 101 = .ok (.iconst 4, 1) := by decide +kernel
theorem dL_law_102 : decode cL_law 102 = .ok (.ishr, 1) := by decide +kernel
theorem dL_law_103 : decode cL_law 103 = .ok (.bipush 6, 2) := by decide +kernel
theorem dL_law_105 : decode cL_law 105 = .ok (.invokestatic 15, 3) := by decide +kernel
theorem dL_law_108 : decode cL_law 108 = .ok (.istore 8, 2) := by decide +kernel
theorem dL_law_110 : decode cL_law 110 = .ok (.aload_n 1, 1) := by decide +kernel
theorem dL_law_111 : decode cL_law 111 = .ok (.iload 6, 2) := by decide +kernel
theorem dL_law_113 : decode cL_law 113 = .ok (.iconst 0, 1) := by decide +kernel
theorem dL_law_114 : decode cL_law 114 = .ok (.invokevirtual 122, 3) := by decide +kernel
theorem dL_law_117 : decode cL_law 117 = .ok (.istore 9, 2) := by decide +kernel
theorem dL_law_119 : decode cL_law 119 = .ok (.aload_n 2, 1) := by decide +kernel
theorem dL_law_120 : decode cL_law 120 = .ok (.getfield 9, 3) := by decide +kernel
theorem dL_law_123 : decode cL_law 123 = .ok (.iload 6, 2) := by decide +kernel
theorem dL_law_125 : decode cL_law 125 = .ok (.aaload, 1) := by decide +kernel
theorem dL_law_126 : decode cL_law 126 = .ok (.getfield 41, 3) := by decide +kernel
theorem dL_law_129 : decode cL_law 129 = .ok (.iload 7, 2) := by decide +kernel
theorem dL_law_131 : decode cL_law 131 = .ok (.iaload, 1) := by decide +kernel
theorem dL_law_132 : decode cL_law 132 = .ok (.istore 10, 2) := by decide +kernel
theorem dL_law_134 : decode cL_law 134 = .ok (.aload_n 1, 1) := by decide +kernel
theorem dL_law_135 : decode cL_law 135 = .ok (.iconst 5, 1) := by decide +kernel
theorem dL_law_136 : decode cL_law 136 = .ok (.invokevirtual 119, 3) := by decide +kernel
theorem dL_law_139 : decode cL_law 139 = .ok (.istore 11, 2) := by decide +kernel
theorem dL_law_141 : decode cL_law 141 = .ok (.aload_n 1, 1) := by decide +kernel
theorem dL_law_142 : decode cL_law 142 = .ok (.iload 6, 2) := by decide +kernel
theorem dL_law_144 : decode cL_law 144 = .ok (.iload 7, 2) := by decide +kernel
theorem dL_law_146 : decode cL_law 146 = .ok (.iload 8, 2) := by decide +kernel
theorem dL_law_148 : decode cL_law 148 = .ok (.invokevirtual 51, 3) := by decide +kernel
theorem dL_law_151 : decode cL_law 151 = .ok (.istore 12, 2) := by decide +kernel
theorem dL_law_153 : decode cL_law 153 = .ok (.aload_n 1, 1) := by decide +kernel
theorem dL_law_154 : decode cL_law 154 = .ok (.iload 6, 2) := by decide +kernel
theorem dL_law_156 : decode cL_law 156 = .ok (.iload 7, 2) := by decide +kernel
theorem dL_law_158 : decode cL_law 158 = .ok (.iload 10, 2) := by decide +kernel
theorem dL_law_160 : decode cL_law 160 = .ok (.invokevirtual 51, 3) := by decide +kernel
theorem dL_law_163 : decode cL_law 163 = .ok (.istore 13, 2) := by decide +kernel
theorem dL_law_165 : decode cL_law 165 = .ok (.aload_n 2, 1) := by decide +kernel
theorem dL_law_166 : decode cL_law 166 = .ok (.dup, 1) := by decide +kernel
theorem dL_law_167 : decode cL_law 167 = .ok (.getfield 47, 3) := by decide +kernel
theorem dL_law_170 : decode cL_law 170 = .ok (.iconst 2, 1) := by decide +kernel
theorem dL_law_171 : decode cL_law 171 = .ok (.iload 12, 2) := by decide +kernel
theorem dL_law_173 : decode cL_law 173 = .ok (.imul, 1) := by decide +kernel
theorem dL_law_174 : decode cL_law 174 = .ok (.iadd, 1) := by decide +kernel
theorem dL_law_175 : decode cL_law 175 = .ok (.putfield 47, 3) := by decide +kernel
theorem dL_law_178 : decode cL_law 178 = .ok (.iload 12, 2) := by decide +kernel
theorem dL_law_180 : decode cL_law 180 = .ok (.ifCond .lt 68, 3) := by decide +kernel
theorem dL_law_183 : decode cL_law 183 = .ok (.iload 12, 2) := by decide +kernel
theorem dL_law_185 : decode cL_law 185 = .ok (.iconst 3, 1) := by decide +kernel
theorem dL_law_186 : decode cL_law 186 = .ok (.if_icmp .gt 62, 3) := by decide +kernel
theorem dL_law_189 : decode cL_law 189 = .ok (.iload 12, 2) := by decide +kernel
theorem dL_law_191 : decode cL_law 191 = .ok (.iload 13, 2) := by decide +kernel
theorem dL_law_193 : decode cL_law 193 = .ok (.if_icmp .ne 55, 3) := by decide +kernel
theorem dL_law_196 : decode cL_law 196 = .ok (.iload 12, 2) := by decide +kernel
theorem dL_law_198 : decode cL_law 198 = .ok (.ifCond .ne 7, 3) := by decide +kernel
theorem dL_law_201 : decode cL_law 201 = .ok (.iconst 1, 1) := by decide +kernel
theorem dL_law_202 : decode cL_law 202 = .ok (.goto 4, 3) := by decide +kernel
theorem dL_law_205 : decode cL_law 205 = .ok (.iconst 0, 1) := by decide +kernel
theorem dL_law_206 : decode cL_law 206 = .ok (.iload 10, 2) := by decide +kernel
theorem dL_law_208 : decode cL_law 208 = .ok (.iload 8, 2) := by decide +kernel
theorem dL_law_210 : decode cL_law 210 = .ok (.if_icmp .ne 7, 3) := by decide +kernel
theorem dL_law_213 : decode cL_law 213 = .ok (.iconst 1, 1) := by decide +kernel
theorem dL_law_214 : decode cL_law 214 = .ok (.goto 4, 3) := by decide +kernel
theorem dL_law_217 : decode cL_law 217 = .ok (.iconst 0, 1) := by decide +kernel
theorem dL_law_218 : decode cL_law 218 = .ok (.if_icmp .ne 30, 3) := by decide +kernel
theorem dL_law_221 : decode cL_law 221 = .ok (.aload_n 1, 1) := by decide +kernel
theorem dL_law_222 : decode cL_law 222 = .ok (.iload 6, 2) := by decide +kernel
theorem dL_law_224 : decode cL_law 224 = .ok (.iconst 0, 1) := by decide +kernel
theorem dL_law_225 : decode cL_law 225 = .ok (.invokevirtual 122, 3) := by decide +kernel
theorem dL_law_228 : decode cL_law 228 = .ok (.iload 9, 2) := by decide +kernel
theorem dL_law_230 : decode cL_law 230 = .ok (.if_icmp .ne 18, 3) := by decide +kernel
theorem dL_law_233 : decode cL_law 233 = .ok (.aload_n 1, 1) := by decide +kernel
theorem dL_law_234 : decode cL_law 234 = .ok (.iconst 5, 1) := by decide +kernel
theorem dL_law_235 : decode cL_law 235 = .ok (.invokevirtual 119, 3) := by decide +kernel
theorem dL_law_238 : decode cL_law 238 = .ok (.iload 11, 2) := by decide +kernel
theorem dL_law_240 : decode cL_law 240 = .ok (.iconst 2, 1) := by decide +kernel
theorem dL_law_241 : decode cL_law 241 = .ok (.iload 12, 2) := by decide +kernel
theorem dL_law_243 : decode cL_law 243 = .ok (.imul, 1) := by decide +kernel
theorem dL_law_244 : decode cL_law 244 = .ok (.iadd, 1) := by decide +kernel
theorem dL_law_245 : decode cL_law 245 = .ok (.if_icmp .eq 5, 3) := by decide +kernel
theorem dL_law_248 : decode cL_law 248 = .ok (.iconst 0, 1) := by decide +kernel
theorem dL_law_249 : decode cL_law 249 = .ok (.ireturn, 1) := by decide +kernel
theorem dL_law_250 : decode cL_law 250 = .ok (.aload_n 1, 1) := by decide +kernel
theorem dL_law_251 : decode cL_law 251 = .ok (.iload 6, 2) := by decide +kernel
theorem dL_law_253 : decode cL_law 253 = .ok (.iconst 1, 1) := by decide +kernel
theorem dL_law_254 : decode cL_law 254 = .ok (.invokevirtual 122, 3) := by decide +kernel
theorem dL_law_257 : decode cL_law 257 = .ok (.iconst 1, 1) := by decide +kernel
theorem dL_law_258 : decode cL_law 258 = .ok (.if_icmp .ne 7, 3) := by decide +kernel
theorem dL_law_261 : decode cL_law 261 = .ok (.iconst 1, 1) := by decide +kernel
theorem dL_law_262 : decode cL_law 262 = .ok (.goto 4, 3) := by decide +kernel
theorem dL_law_265 : decode cL_law 265 = .ok (.iconst 0, 1) := by decide +kernel
theorem dL_law_266 : decode cL_law 266 = .ok (.istore 14, 2) := by decide +kernel
theorem dL_law_268 : decode cL_law 268 = .ok (.iload 9, 2) := by decide +kernel
theorem dL_law_270 : decode cL_law 270 = .ok (.aload_n 2, 1) := by decide +kernel
theorem dL_law_271 : decode cL_law 271 = .ok (.getfield 9, 3) := by decide +kernel
theorem dL_law_274 : decode cL_law 274 = .ok (.iload 6, 2) := by decide +kernel
theorem dL_law_276 : decode cL_law 276 = .ok (.aaload, 1) := by decide +kernel
theorem dL_law_277 : decode cL_law 277 = .ok (.getfield 28, 3) := by decide +kernel
theorem dL_law_280 : decode cL_law 280 = .ok (.invokestatic 32, 3) := by decide +kernel
theorem dL_law_283 : decode cL_law 283 = .ok (.if_icmp .ne 7, 3) := by decide +kernel
theorem dL_law_286 : decode cL_law 286 = .ok (.iconst 1, 1) := by decide +kernel
theorem dL_law_287 : decode cL_law 287 = .ok (.goto 4, 3) := by decide +kernel
theorem dL_law_290 : decode cL_law 290 = .ok (.iconst 0, 1) := by decide +kernel
theorem dL_law_291 : decode cL_law 291 = .ok (.istore 15, 2) := by decide +kernel
theorem dL_law_293 : decode cL_law 293 = .ok (.aload_n 1, 1) := by decide +kernel
theorem dL_law_294 : decode cL_law 294 = .ok (.iload 6, 2) := by decide +kernel
theorem dL_law_296 : decode cL_law 296 = .ok (.invokevirtual 59, 3) := by decide +kernel
theorem dL_law_299 : decode cL_law 299 = .ok (.iload 14, 2) := by decide +kernel
theorem dL_law_301 : decode cL_law 301 = .ok (.ifCond .ne 8, 3) := by decide +kernel
theorem dL_law_304 : decode cL_law 304 = .ok (.iload 15, 2) := by decide +kernel
theorem dL_law_306 : decode cL_law 306 = .ok (.ifCond .eq 7, 3) := by decide +kernel
theorem dL_law_309 : decode cL_law 309 = .ok (.iconst 1, 1) := by decide +kernel
theorem dL_law_310 : decode cL_law 310 = .ok (.goto 4, 3) := by decide +kernel
theorem dL_law_313 : decode cL_law 313 = .ok (.iconst 0, 1) := by decide +kernel
theorem dL_law_314 : decode cL_law 314 = .ok (.if_icmp .eq 5, 3) := by decide +kernel
theorem dL_law_317 : decode cL_law 317 = .ok (.iconst 0, 1) := by decide +kernel
theorem dL_law_318 : decode cL_law 318 = .ok (.ireturn, 1) := by decide +kernel
theorem dL_law_319 : decode cL_law 319 = .ok (.aload_n 2, 1) := by decide +kernel
theorem dL_law_320 : decode cL_law 320 = .ok (.getfield 9, 3) := by decide +kernel
theorem dL_law_323 : decode cL_law 323 = .ok (.iload 6, 2) := by decide +kernel
theorem dL_law_325 : decode cL_law 325 = .ok (.aaload, 1) := by decide +kernel
theorem dL_law_326 : decode cL_law 326 = .ok (.iload 14, 2) := by decide +kernel
theorem dL_law_328 : decode cL_law 328 = .ok (.ifCond .ne 8, 3) := by decide +kernel
theorem dL_law_331 : decode cL_law 331 = .ok (.iload 15, 2) := by decide +kernel
theorem dL_law_333 : decode cL_law 333 = .ok (.ifCond .eq 7, 3) := by decide +kernel
theorem dL_law_336 : decode cL_law 336 = .ok (.iconst 1, 1) := by decide +kernel
theorem dL_law_337 : decode cL_law 337 = .ok (.goto 4, 3) := by decide +kernel
theorem dL_law_340 : decode cL_law 340 = .ok (.iconst 0, 1) := by decide +kernel
theorem dL_law_341 : decode cL_law 341 = .ok (.putfield 55, 3) := by decide +kernel
theorem dL_law_344 : decode cL_law 344 = .ok (.aload_n 1, 1) := by decide +kernel
theorem dL_law_345 : decode cL_law 345 = .ok (.iload 6, 2) := by decide +kernel
theorem dL_law_347 : decode cL_law 347 = .ok (.aload_n 1, 1) := by decide +kernel
theorem dL_law_348 : decode cL_law 348 = .ok (.iload 6, 2) := by decide +kernel
theorem dL_law_350 : decode cL_law 350 = .ok (.iconst 4, 1) := by decide +kernel
theorem dL_law_351 : decode cL_law 351 = .ok (.invokevirtual 122, 3) := by decide +kernel
theorem dL_law_354 : decode cL_law 354 = .ok (.invokevirtual 125, 3) := by decide +kernel
theorem dL_law_357 : decode cL_law 357 = .ok (.iconst 1, 1) := by decide +kernel
theorem dL_law_358 : decode cL_law 358 = .ok (.if_icmp .ne 25, 3) := by decide +kernel
theorem dL_law_361 : decode cL_law 361 = .ok (.aload_n 1, 1) := by decide +kernel
theorem dL_law_362 : decode cL_law 362 = .ok (.iload 6, 2) := by decide +kernel
theorem dL_law_364 : decode cL_law 364 = .ok (.invokevirtual 128, 3) := by decide +kernel
theorem dL_law_367 : decode cL_law 367 = .ok (.iconst 1, 1) := by decide +kernel
theorem dL_law_368 : decode cL_law 368 = .ok (.if_icmp .lt 15, 3) := by decide +kernel
theorem dL_law_371 : decode cL_law 371 = .ok (.aload_n 1, 1) := by decide +kernel
theorem dL_law_372 : decode cL_law 372 = .ok (.iload 6, 2) := by decide +kernel
theorem dL_law_374 : decode cL_law 374 = .ok (.invokevirtual 128, 3) := by decide +kernel
theorem dL_law_377 : decode cL_law 377 = .ok (.sipush 1296, 3) := by decide +kernel
theorem dL_law_380 : decode cL_law 380 = .ok (.if_icmp .le 5, 3) := by decide +kernel
theorem dL_law_383 : decode cL_law 383 = .ok (.iconst 0, 1) := by decide +kernel
theorem dL_law_384 : decode cL_law 384 = .ok (.ireturn, 1) := by decide +kernel
theorem dL_law_385 : decode cL_law 385 = .ok (.iload 5, 2) := by decide +kernel
theorem dL_law_387 : decode cL_law 387 = .ok (.newarray .int, 2) := by decide +kernel
theorem dL_law_389 : decode cL_law 389 = .ok (.astore 16, 2) := by decide +kernel
theorem dL_law_391 : decode cL_law 391 = .ok (.iload 5, 2) := by decide +kernel
theorem dL_law_393 : decode cL_law 393 = .ok (.newarray .int, 2) := by decide +kernel
theorem dL_law_395 : decode cL_law 395 = .ok (.astore 17, 2) := by decide +kernel
theorem dL_law_397 : decode cL_law 397 = .ok (.aload_n 1, 1) := by decide +kernel
theorem dL_law_398 : decode cL_law 398 = .ok (.iconst 4, 1) := by decide +kernel
theorem dL_law_399 : decode cL_law 399 = .ok (.invokevirtual 119, 3) := by decide +kernel
theorem dL_law_402 : decode cL_law 402 = .ok (.istore 18, 2) := by decide +kernel
theorem dL_law_404 : decode cL_law 404 = .ok (.iconst 0, 1) := by decide +kernel
theorem dL_law_405 : decode cL_law 405 = .ok (.istore 19, 2) := by decide +kernel
theorem dL_law_407 : decode cL_law 407 = .ok (.iconst 0, 1) := by decide +kernel
theorem dL_law_408 : decode cL_law 408 = .ok (.istore 20, 2) := by decide +kernel
theorem dL_law_410 : decode cL_law 410 = .ok (.iconst 0, 1) := by decide +kernel
theorem dL_law_411 : decode cL_law 411 = .ok (.istore 21, 2) := by decide +kernel
theorem dL_law_413 : decode cL_law 413 = .ok (.iload 21, 2) := by decide +kernel
theorem dL_law_415 : decode cL_law 415 = .ok (.iload 5, 2) := by decide +kernel
theorem dL_law_417 : decode cL_law 417 = .ok (.if_icmp .ge 124, 3) := by decide +kernel
theorem dL_law_420 : decode cL_law 420 = .ok (.aload 16, 2) := by decide +kernel
theorem dL_law_422 : decode cL_law 422 = .ok (.iload 21, 2) := by decide +kernel
theorem dL_law_424 : decode cL_law 424 = .ok (.aload_n 1, 1) := by decide +kernel
theorem dL_law_425 : decode cL_law 425 = .ok (.iload 21, 2) := by decide +kernel
theorem dL_law_427 : decode cL_law 427 = .ok (.iconst 1, 1) := by decide +kernel
theorem dL_law_428 : decode cL_law 428 = .ok (.invokevirtual 122, 3) := by decide +kernel
theorem dL_law_431 : decode cL_law 431 = .ok (.iastore, 1) := by decide +kernel
theorem dL_law_432 : decode cL_law 432 = .ok (.aload 17, 2) := by decide +kernel
theorem dL_law_434 : decode cL_law 434 = .ok (.iload 21, 2) := by decide +kernel
theorem dL_law_436 : decode cL_law 436 = .ok (.aload_n 1, 1) := by decide +kernel
theorem dL_law_437 : decode cL_law 437 = .ok (.iload 21, 2) := by decide +kernel
theorem dL_law_439 : decode cL_law 439 = .ok (.iconst 0, 1) := by decide +kernel
theorem dL_law_440 : decode cL_law 440 = .ok (.invokevirtual 122, 3) := by decide +kernel
theorem dL_law_443 : decode cL_law 443 = .ok (.iastore, 1) := by decide +kernel
theorem dL_law_444 : decode cL_law 444 = .ok (.iload 19, 2) := by decide +kernel
theorem dL_law_446 : decode cL_law 446 = .ok (.aload 16, 2) := by decide +kernel
theorem dL_law_448 : decode cL_law 448 = .ok (.iload 21, 2) := by decide +kernel
theorem dL_law_450 : decode cL_law 450 = .ok (.iaload, 1) := by decide +kernel
theorem dL_law_451 : decode cL_law 451 = .ok (.ifCond .ne 7, 3) := by decide +kernel
theorem dL_law_454 : decode cL_law 454 = .ok (.iconst 4, 1) := by decide +kernel
theorem dL_law_455 : decode cL_law 455 = .ok (.goto 19, 3) := by decide +kernel
theorem dL_law_458 : decode cL_law 458 = .ok (.aload_n 1, 1) := by decide +kernel
theorem dL_law_459 : decode cL_law 459 = .ok (.iload 21, 2) := by decide +kernel
theorem dL_law_461 : decode cL_law 461 = .ok (.iconst 2, 1) := by decide +kernel
theorem dL_law_462 : decode cL_law 462 = .ok (.invokevirtual 122, 3) := by decide +kernel
theorem dL_law_465 : decode cL_law 465 = .ok (.ifCond .ge 7, 3) := by decide +kernel
theorem dL_law_468 : decode cL_law 468 = .ok (.iconst 0, 1) := by decide +kernel
theorem dL_law_469 : decode cL_law 469 = .ok (.goto 5, 3) := by decide +kernel
theorem dL_law_472 : decode cL_law 472 = .ok (.bipush 8, 2) := by decide +kernel
theorem dL_law_474 : decode cL_law 474 = .ok (.iadd, 1) := by decide +kernel
theorem dL_law_475 : decode cL_law 475 = .ok (.istore 19, 2) := by decide +kernel
theorem dL_law_477 : decode cL_law 477 = .ok (.iconst 0, 1) := by decide +kernel
theorem dL_law_478 : decode cL_law 478 = .ok (.istore 22, 2) := by decide +kernel
theorem dL_law_480 : decode cL_law 480 = .ok (.iload 22, 2) := by decide +kernel
theorem dL_law_482 : decode cL_law 482 = .ok (.iconst 4, 1) := by decide +kernel
theorem dL_law_483 : decode cL_law 483 = .ok (.if_icmp .ge 52, 3) := by decide +kernel
theorem dL_law_486 : decode cL_law 486 = .ok (.iconst 0, 1) := by decide +kernel
theorem dL_law_487 : decode cL_law 487 = .ok (.istore 23, 2) := by decide +kernel
theorem dL_law_489 : decode cL_law 489 = .ok (.iload 23, 2) := by decide +kernel
theorem dL_law_491 : decode cL_law 491 = .ok (.bipush 6, 2) := by decide +kernel
theorem dL_law_493 : decode cL_law 493 = .ok (.if_icmp .ge 36, 3) := by decide +kernel
theorem dL_law_496 : decode cL_law 496 = .ok (.iload 20, 2) := by decide +kernel
theorem dL_law_498 : decode cL_law 498 = .ok (.ifCond .ne 18, 3) := by decide +kernel
theorem dL_law_501 : decode cL_law 501 = .ok (.aload_n 1, 1) := by decide +kernel
theorem dL_law_502 : decode cL_law 502 = .ok (.iload 21, 2) := by decide +kernel
theorem dL_law_504 : decode cL_law 504 = .ok (.iload 22, 2) := by decide +kernel
theorem dL_law_506 : decode cL_law 506 = .ok (.iload 23, 2) := by decide +kernel
theorem dL_law_508 : decode cL_law 508 = .ok (.invokevirtual 131, 3) := by decide +kernel
theorem dL_law_511 : decode cL_law 511 = .ok (.bipush 97, 2) := by decide +kernel
theorem dL_law_513 : decode cL_law 513 = .ok (.if_icmp .le 7, 3) := by decide +kernel
theorem dL_law_516 : decode cL_law 516 = .ok (.iconst 1, 1) := by decide +kernel
theorem dL_law_517 : decode cL_law 517 = .ok (.goto 4, 3) := by decide +kernel
theorem dL_law_520 : decode cL_law 520 = .ok (.iconst 0, 1) := by decide +kernel
theorem dL_law_521 : decode cL_law 521 = .ok (.istore 20, 2) := by decide +kernel
theorem dL_law_523 : decode cL_law 523 = .ok (.iinc 23 1, 3) := by decide +kernel
theorem dL_law_526 : decode cL_law 526 = .ok (.goto (-37), 3) := by decide +kernel
theorem dL_law_529 : decode cL_law 529 = .ok (.iinc 22 1, 3) := by decide +kernel
theorem dL_law_532 : decode cL_law 532 = .ok (.goto (-52), 3) := by decide +kernel
theorem dL_law_535 : decode cL_law 535 = .ok (.iinc 21 1, 3) := by decide +kernel
theorem dL_law_538 : decode cL_law 538 = .ok (.goto (-125), 3) := by decide +kernel
theorem dL_law_541 : decode cL_law 541 = .ok (.iconst 3, 1) := by decide +kernel
theorem dL_law_542 : decode cL_law 542 = .ok (.newarray .int, 2) := by decide +kernel
theorem dL_law_544 : decode cL_law 544 = .ok (.dup, 1) := by decide +kernel
theorem dL_law_545 : decode cL_law 545 = .ok (.iconst 0, 1) := by decide +kernel
theorem dL_law_546 : decode cL_law 546 = .ok (.aload_n 1, 1) := by decide +kernel
theorem dL_law_547 : decode cL_law 547 = .ok (.iconst 0, 1) := by decide +kernel
theorem dL_law_548 : decode cL_law 548 = .ok (.iconst 2, 1) := by decide +kernel
theorem dL_law_549 : decode cL_law 549 = .ok (.invokevirtual 134, 3) := by decide +kernel
theorem dL_law_552 : decode cL_law 552 = .ok (.iastore, 1) := by decide +kernel
theorem dL_law_553 : decode cL_law 553 = .ok (.dup, 1) := by decide +kernel
theorem dL_law_554 : decode cL_law 554 = .ok (.iconst 1, 1) := by decide +kernel
theorem dL_law_555 : decode cL_law 555 = .ok (.aload_n 1, 1) := by decide +kernel
theorem dL_law_556 : decode cL_law 556 = .ok (.iconst 1, 1) := by decide +kernel
theorem dL_law_557 : decode cL_law 557 = .ok (.iconst 2, 1) := by decide +kernel
theorem dL_law_558 : decode cL_law 558 = .ok (.invokevirtual 134, 3) := by decide +kernel
theorem dL_law_561 : decode cL_law 561 = .ok (.iastore, 1) := by decide +kernel
theorem dL_law_562 : decode cL_law 562 = .ok (.dup, 1) := by decide +kernel
theorem dL_law_563 : decode cL_law 563 = .ok (.iconst 2, 1) := by decide +kernel
theorem dL_law_564 : decode cL_law 564 = .ok (.aload_n 1, 1) := by decide +kernel
theorem dL_law_565 : decode cL_law 565 = .ok (.iconst 2, 1) := by decide +kernel
theorem dL_law_566 : decode cL_law 566 = .ok (.iconst 2, 1) := by decide +kernel
theorem dL_law_567 : decode cL_law 567 = .ok (.invokevirtual 134, 3) := by decide +kernel
theorem dL_law_570 : decode cL_law 570 = .ok (.iastore, 1) := by decide +kernel
theorem dL_law_571 : decode cL_law 571 = .ok (.astore 21, 2) := by decide +kernel
theorem dL_law_573 : decode cL_law 573 = .ok (.aload_n 1, 1) := by decide +kernel
theorem dL_law_574 : decode cL_law 574 = .ok (.iconst 1, 1) := by decide +kernel
theorem dL_law_575 : decode cL_law 575 = .ok (.invokevirtual 108, 3) := by decide +kernel
theorem dL_law_578 : decode cL_law 578 = .ok (.istore 22, 2) := by decide +kernel
theorem dL_law_580 : decode cL_law 580 = .ok (.aload_n 2, 1) := by decide +kernel
theorem dL_law_581 : decode cL_law 581 = .ok (.invokevirtual 111, 3) := by decide +kernel
theorem dL_law_584 : decode cL_law 584 = .ok (.pop, 1) := by decide +kernel
theorem dL_law_585 : decode cL_law 585 = .ok (.iconst 0, 1) := by decide +kernel
theorem dL_law_586 : decode cL_law 586 = .ok (.istore 23, 2) := by decide +kernel
theorem dL_law_588 : decode cL_law 588 = .ok (.iconst 0, 1) := by decide +kernel
theorem dL_law_589 : decode cL_law 589 = .ok (.istore 24, 2) := by decide +kernel
theorem dL_law_591 : decode cL_law 591 = .ok (.iload 24, 2) := by decide +kernel
theorem dL_law_593 : decode cL_law 593 = .ok (.iload 5, 2) := by decide +kernel
theorem dL_law_595 : decode cL_law 595 = .ok (.if_icmp .ge 113, 3) := by decide +kernel
theorem dL_law_598 : decode cL_law 598 = .ok (.aload_n 1, 1) := by decide +kernel
theorem dL_law_599 : decode cL_law 599 = .ok (.iload 24, 2) := by decide +kernel
theorem dL_law_601 : decode cL_law 601 = .ok (.iconst 2, 1) := by decide +kernel
theorem dL_law_602 : decode cL_law 602 = .ok (.invokevirtual 122, 3) := by decide +kernel
theorem dL_law_605 : decode cL_law 605 = .ok (.istore 25, 2) := by decide +kernel
theorem dL_law_607 : decode cL_law 607 = .ok (.aload 16, 2) := by decide +kernel
theorem dL_law_609 : decode cL_law 609 = .ok (.iload 24, 2) := by decide +kernel
theorem dL_law_611 : decode cL_law 611 = .ok (.iaload, 1) := by decide +kernel
theorem dL_law_612 : decode cL_law 612 = .ok (.iconst 1, 1) := by decide +kernel
theorem dL_law_613 : decode cL_law 613 = .ok (.if_icmp .ne 20, 3) := by decide +kernel
theorem dL_law_616 : decode cL_law 616 = .ok (.iload 25, 2) := by decide +kernel
theorem dL_law_618 : decode cL_law 618 = .ok (.ifCond .lt 15, 3) := by decide +kernel
theorem dL_law_621 : decode cL_law 621 = .ok (.aload 21, 2) := by decide +kernel
theorem dL_law_623 : decode cL_law 623 = .ok (.iload 25, 2) := by decide +kernel
theorem dL_law_625 : decode cL_law 625 = .ok (.iaload, 1) := by decide +kernel
theorem dL_law_626 : decode cL_law 626 = .ok (.ifCond .ne 7, 3) := by decide +kernel
theorem dL_law_629 : decode cL_law 629 = .ok (.iconst 1, 1) := by decide +kernel
theorem dL_law_630 : decode cL_law 630 = .ok (.goto 4, 3) := by decide +kernel
theorem dL_law_633 : decode cL_law 633 = .ok (.iconst 0, 1) := by decide +kernel
theorem dL_law_634 : decode cL_law 634 = .ok (.istore 26, 2) := by decide +kernel
theorem dL_law_636 : decode cL_law 636 = .ok (.iload 23, 2) := by decide +kernel
theorem dL_law_638 : decode cL_law 638 = .ok (.iload 26, 2) := by decide +kernel
theorem dL_law_640 : decode cL_law 640 = .ok (.ifCond .eq 7, 3) := by decide +kernel
theorem dL_law_643 : decode cL_law 643 = .ok (.iconst 1, 1) := by decide +kernel
theorem dL_law_644 : decode cL_law 644 = .ok (.goto 4, 3) := by decide +kernel
theorem dL_law_647 : decode cL_law 647 = .ok (.iconst 0, 1) := by decide +kernel
theorem dL_law_648 : decode cL_law 648 = .ok (.iadd, 1) := by decide +kernel
theorem dL_law_649 : decode cL_law 649 = .ok (.istore 23, 2) := by decide +kernel
theorem dL_law_651 : decode cL_law 651 = .ok (.aload_n 1, 1) := by decide +kernel
theorem dL_law_652 : decode cL_law 652 = .ok (.iload 24, 2) := by decide +kernel
theorem dL_law_654 : decode cL_law 654 = .ok (.iconst 1, 1) := by decide +kernel
theorem dL_law_655 : decode cL_law 655 = .ok (.invokevirtual 122, 3) := by decide +kernel
theorem dL_law_658 : decode cL_law 658 = .ok (.iload 26, 2) := by decide +kernel
theorem dL_law_660 : decode cL_law 660 = .ok (.ifCond .eq 7, 3) := by decide +kernel
theorem dL_law_663 : decode cL_law 663 = .ok (.iconst 0, 1) := by decide +kernel
theorem dL_law_664 : decode cL_law 664 = .ok (.goto 8, 3) := by decide +kernel
theorem dL_law_667 : decode cL_law 667 = .ok (.aload 16, 2) := by decide +kernel
theorem dL_law_669 : decode cL_law 669 = .ok (.iload 24, 2) := by decide +kernel
theorem dL_law_671 : decode cL_law 671 = .ok (.iaload, 1) := by decide +kernel
theorem dL_law_672 : decode cL_law 672 = .ok (.if_icmp .ne 28, 3) := by decide +kernel
theorem dL_law_675 : decode cL_law 675 = .ok (.iload 26, 2) := by decide +kernel
theorem dL_law_677 : decode cL_law 677 = .ok (.aload_n 1, 1) := by decide +kernel
theorem dL_law_678 : decode cL_law 678 = .ok (.iload 24, 2) := by decide +kernel
theorem dL_law_680 : decode cL_law 680 = .ok (.iconst 0, 1) := by decide +kernel
theorem dL_law_681 : decode cL_law 681 = .ok (.invokevirtual 122, 3) := by decide +kernel
theorem dL_law_684 : decode cL_law 684 = .ok (.aload 17, 2) := by decide +kernel
theorem dL_law_686 : decode cL_law 686 = .ok (.iload 24, 2) := by decide +kernel
theorem dL_law_688 : decode cL_law 688 = .ok (.iaload, 1) := by decide +kernel
theorem dL_law_689 : decode cL_law 689 = .ok (.if_icmp .ne 7, 3) := by decide +kernel
theorem dL_law_692 : decode cL_law 692 = .ok (.iconst 1, 1) := by decide +kernel
theorem dL_law_693 : decode cL_law 693 = .ok (.goto 4, 3) := by decide +kernel
theorem dL_law_696 : decode cL_law 696 = .ok (.iconst 0, 1) := by decide +kernel
theorem dL_law_697 : decode cL_law 697 = .ok (.if_icmp .ne 5, 3) := by decide +kernel
theorem dL_law_700 : decode cL_law 700 = .ok (.iconst 0, 1) := by decide +kernel
theorem dL_law_701 : decode cL_law 701 = .ok (.ireturn, 1) := by decide +kernel
theorem dL_law_702 : decode cL_law 702 = .ok (.iinc 24 1, 3) := by decide +kernel
theorem dL_law_705 : decode cL_law 705 = .ok (.goto (-114), 3) := by decide +kernel
theorem dL_law_708 : decode cL_law 708 = .ok (.iload 23, 2) := by decide +kernel
theorem dL_law_710 : decode cL_law 710 = .ok (.iload 22, 2) := by decide +kernel
theorem dL_law_712 : decode cL_law 712 = .ok (.if_icmp .ne 44, 3) := by decide +kernel
theorem dL_law_715 : decode cL_law 715 = .ok (.aload_n 1, 1) := by decide +kernel
theorem dL_law_716 : decode cL_law 716 = .ok (.iconst 4, 1) := by decide +kernel
theorem dL_law_717 : decode cL_law 717 = .ok (.invokevirtual 119, 3) := by decide +kernel
theorem dL_law_720 : decode cL_law 720 = .ok (.iload 18, 2) := by decide +kernel
theorem dL_law_722 : decode cL_law 722 = .ok (.iload 19, 2) := by decide +kernel
theorem dL_law_724 : decode cL_law 724 = .ok (.iadd, 1) := by decide +kernel
theorem dL_law_725 : decode cL_law 725 = .ok (.if_icmp .gt 31, 3) := by decide +kernel
theorem dL_law_728 : decode cL_law 728 = .ok (.iload 20, 2) := by decide +kernel
theorem dL_law_730 : decode cL_law 730 = .ok (.ifCond .ne 16, 3) := by decide +kernel
theorem dL_law_733 : decode cL_law 733 = .ok (.aload_n 1, 1) := by decide +kernel
theorem dL_law_734 : decode cL_law 734 = .ok (.iconst 4, 1) := by decide +kernel
theorem dL_law_735 : decode cL_law 735 = .ok (.invokevirtual 119, 3) := by decide +kernel
theorem dL_law_738 : decode cL_law 738 = .ok (.iload 18, 2) := by decide +kernel
theorem dL_law_740 : decode cL_law 740 = .ok (.iload 19, 2) := by decide +kernel
theorem dL_law_742 : decode cL_law 742 = .ok (.iadd, 1) := by decide +kernel
theorem dL_law_743 : decode cL_law 743 = .ok (.if_icmp .ne 13, 3) := by decide +kernel
theorem dL_law_746 : decode cL_law 746 = .ok (.aload_n 1, 1) := by decide +kernel
theorem dL_law_747 : decode cL_law 747 = .ok (.iconst 4, 1) := by decide +kernel
theorem dL_law_748 : decode cL_law 748 = .ok (.invokevirtual 119, 3) := by decide +kernel
theorem dL_law_751 : decode cL_law 751 = .ok (.iload 18, 2) := by decide +kernel
theorem dL_law_753 : decode cL_law 753 = .ok (.if_icmp .ge 5, 3) := by decide +kernel
theorem dL_law_756 : decode cL_law 756 = .ok (.iconst 0, 1) := by decide +kernel
theorem dL_law_757 : decode cL_law 757 = .ok (.ireturn, 1) := by decide +kernel
theorem dL_law_758 : decode cL_law 758 = .ok (.iconst 0, 1) := by decide +kernel
theorem dL_law_759 : decode cL_law 759 = .ok (.istore 24, 2) := by decide +kernel
theorem dL_law_761 : decode cL_law 761 = .ok (.iload 24, 2) := by decide +kernel
theorem dL_law_763 : decode cL_law 763 = .ok (.iconst 3, 1) := by decide +kernel
theorem dL_law_764 : decode cL_law 764 = .ok (.if_icmp .ge 45, 3) := by decide +kernel
theorem dL_law_767 : decode cL_law 767 = .ok (.aload_n 1, 1) := by decide +kernel
theorem dL_law_768 : decode cL_law 768 = .ok (.iload 24, 2) := by decide +kernel
theorem dL_law_770 : decode cL_law 770 = .ok (.iconst 1, 1) := by decide +kernel
theorem dL_law_771 : decode cL_law 771 = .ok (.invokevirtual 134, 3) := by decide +kernel
theorem dL_law_774 : decode cL_law 774 = .ok (.aload_n 1, 1) := by decide +kernel
theorem dL_law_775 : decode cL_law 775 = .ok (.iload 24, 2) := by decide +kernel
theorem dL_law_777 : decode cL_law 777 = .ok (.iconst 0, 1) := by decide +kernel
theorem dL_law_778 : decode cL_law 778 = .ok (.invokevirtual 134, 3) := by decide +kernel
theorem dL_law_781 : decode cL_law 781 = .ok (.if_icmp .gt 20, 3) := by decide +kernel
theorem dL_law_784 : decode cL_law 784 = .ok (.aload_n 1, 1) := by decide +kernel
theorem dL_law_785 : decode cL_law 785 = .ok (.iload 24, 2) := by decide +kernel
theorem dL_law_787 : decode cL_law 787 = .ok (.iconst 3, 1) := by decide +kernel
theorem dL_law_788 : decode cL_law 788 = .ok (.invokevirtual 134, 3) := by decide +kernel
theorem dL_law_791 : decode cL_law 791 = .ok (.aload_n 1, 1) := by decide +kernel
theorem dL_law_792 : decode cL_law 792 = .ok (.iload 24, 2) := by decide +kernel
theorem dL_law_794 : decode cL_law 794 = .ok (.iconst 1, 1) := by decide +kernel
theorem dL_law_795 : decode cL_law 795 = .ok (.invokevirtual 134, 3) := by decide +kernel
theorem dL_law_798 : decode cL_law 798 = .ok (.if_icmp .le 5, 3) := by decide +kernel
theorem dL_law_801 : decode cL_law 801 = .ok (.iconst 0, 1) := by decide +kernel
theorem dL_law_802 : decode cL_law 802 = .ok (.ireturn, 1) := by decide +kernel
theorem dL_law_803 : decode cL_law 803 = .ok (.iinc 24 1, 3) := by decide +kernel
theorem dL_law_806 : decode cL_law 806 = .ok (.goto (-45), 3) := by decide +kernel
theorem dL_law_809 : decode cL_law 809 = .ok (.iinc 3 1, 3) := by decide +kernel
theorem dL_law_812 : decode cL_law 812 = .ok (.goto (-790), 3) := by decide +kernel
theorem dL_law_815 : decode cL_law 815 = .ok (.aload_n 2, 1) := by decide +kernel
theorem dL_law_816 : decode cL_law 816 = .ok (.aload_n 1, 1) := by decide +kernel
theorem dL_law_817 : decode cL_law 817 = .ok (.invokevirtual 136, 3) := by decide +kernel
theorem dL_law_820 : decode cL_law 820 = .ok (.ireturn, 1) := by decide +kernel
end
section
/-- the tables' good words: every method's own word list is its code and these -/
def GW : List Cond := lw_tbl.filter goodWord
theorem gwm {w : Cond} (i : Nat) (h : lw_tbl[i]? = some w) (hg : goodWord w = true) : w ∈ GW := List.mem_filter.mpr ⟨List.mem_of_getElem? h, hg⟩
theorem gw_good : ∀ w ∈ GW, goodWord w = true := fun _ h => (List.mem_filter.mp h).2
/-- the tables' words that a call doesn't hand on by itself: members of nest mates, declared, castable -/
def nwk : Cond → Bool
  | .fieldLinkNest .. => true
  | .methodLinkNest .. => true
  | .declares _ => true
  | .castable .. => true
  | _ => false
def NW : List Cond := lw_tbl.filter nwk
theorem nwm {w : Cond} (i : Nat) (h : lw_tbl[i]? = some w) (hg : nwk w = true) : w ∈ NW := List.mem_filter.mpr ⟨List.mem_of_getElem? h, hg⟩
theorem nw_warm {s U : State} {w : Cond} (hk : nwk w = true) (hW : s.WarmedH U.vm) (h : va_Nw w s) : va_Nw w U := by
  cases w <;> first | exact va_Nw.warmF hW h | exact va_Nw.warmM hW h | exact va_Nw.warmD hW h | exact va_Nw.warmC hW h | cases hk
theorem nw_tab {w : Cond} (hk : nwk w = true) : w.onTables = true := by cases w <;> first | rfl | cases hk
theorem good_in {ws : List Cond} (h : ∀ w ∈ ws, w ∈ GW) : GoodIn GW ws := fun w hw => ⟨h w hw, good_of_word (gw_good w (h w hw))⟩

theorem gw0 : Cond.selects RX3 yX3_lockAt yX3_lockAt ∈ GW := gwm 0 (by decide +kernel) (by decide +kernel)
theorem gw1 : Cond.selects "java/lang/Throwable" ⟨"java/lang/Throwable", "fillInStackTrace", "(I)Ljava/lang/Throwable;"⟩ ⟨"java/lang/Throwable", "fillInStackTrace", "(I)Ljava/lang/Throwable;"⟩ ∈ GW := gwm 1 (by decide +kernel) (by decide +kernel)
theorem gw2 : Cond.selects RX0 yX0_mostWorn yX0_mostWorn ∈ GW := gwm 2 (by decide +kernel) (by decide +kernel)
theorem gw3 : Cond.selects RX3 yX3_rackAt yX3_rackAt ∈ GW := gwm 3 (by decide +kernel) (by decide +kernel)
theorem gw4 : Cond.selects RX3 yX3_isRack yX3_isRack ∈ GW := gwm 4 (by decide +kernel) (by decide +kernel)
theorem gw5 : Cond.selects RX3 yX3_locksIn yX3_locksIn ∈ GW := gwm 5 (by decide +kernel) (by decide +kernel)
theorem gw6 : Cond.selects RX3 yX3_openLocksIn yX3_openLocksIn ∈ GW := gwm 6 (by decide +kernel) (by decide +kernel)
theorem gw7 : Cond.selects RX3 yX3_openLocks yX3_openLocks ∈ GW := gwm 7 (by decide +kernel) (by decide +kernel)
theorem gw8 : Cond.selects RX3 yX3_lostWords yX3_lostWords ∈ GW := gwm 8 (by decide +kernel) (by decide +kernel)
theorem gw9 : Cond.selects RX3 yX3_allWear yX3_allWear ∈ GW := gwm 9 (by decide +kernel) (by decide +kernel)
theorem gw10 : Cond.selects RX3 yX3_locksInRacks yX3_locksInRacks ∈ GW := gwm 10 (by decide +kernel) (by decide +kernel)
theorem gw11 : Cond.selects RX2 yX2_wordsWith yX2_wordsWith ∈ GW := gwm 11 (by decide +kernel) (by decide +kernel)
theorem gw12 : Cond.selects RX2 yX2_lesserWordsOfSum yX2_lesserWordsOfSum ∈ GW := gwm 12 (by decide +kernel) (by decide +kernel)
theorem gw13 : Cond.selects RX3 yX3_letHourGoBy yX3_letHourGoBy ∈ GW := gwm 13 (by decide +kernel) (by decide +kernel)
theorem gw14 : Cond.selects RX0 yX0_wearMore yX0_wearMore ∈ GW := gwm 14 (by decide +kernel) (by decide +kernel)
theorem gw15 : Cond.selects RX3 yX3_isInClosedRack yX3_isInClosedRack ∈ GW := gwm 15 (by decide +kernel) (by decide +kernel)
theorem gw16 : Cond.selects RJx4a65c yJx4a65c_add_72be8 yJx4a65c_add_72be8 ∈ GW := gwm 16 (by decide +kernel) (by decide +kernel)
theorem gw17 : Cond.selects RJx4a65c yJx4a65c_grow_d5877 yJx4a65c_grow_d5877 ∈ GW := gwm 17 (by decide +kernel) (by decide +kernel)
theorem gw18 : Cond.selects RJx4a65c yJx4a65c_grow_92f84 yJx4a65c_grow_92f84 ∈ GW := gwm 18 (by decide +kernel) (by decide +kernel)
theorem gw19 : Cond.selects RX3 yX3_takesAnother yX3_takesAnother ∈ GW := gwm 19 (by decide +kernel) (by decide +kernel)
theorem gw20 : Cond.initialized RL ∈ GW := gwm 20 (by decide +kernel) (by decide +kernel)
theorem gw21 : Cond.initialized RX3 ∈ GW := gwm 21 (by decide +kernel) (by decide +kernel)
theorem gw22 : Cond.initialized RJxa1e45 ∈ GW := gwm 22 (by decide +kernel) (by decide +kernel)
theorem gw23 : Cond.initialized RJxc12de ∈ GW := gwm 23 (by decide +kernel) (by decide +kernel)
theorem gw24 : Cond.initialized RJx4a65c ∈ GW := gwm 24 (by decide +kernel) (by decide +kernel)
theorem gw25 : Cond.initialized RX1 ∈ GW := gwm 25 (by decide +kernel) (by decide +kernel)
theorem gw26 : Cond.initialized RX2 ∈ GW := gwm 26 (by decide +kernel) (by decide +kernel)
theorem gw27 : Cond.initialized RX0 ∈ GW := gwm 27 (by decide +kernel) (by decide +kernel)
theorem gw28 : Cond.initialized RX5 ∈ GW := gwm 28 (by decide +kernel) (by decide +kernel)
theorem gw29 : Cond.initialized RX4 ∈ GW := gwm 29 (by decide +kernel) (by decide +kernel)
theorem gw30 : Cond.initialized "java/lang/Throwable" ∈ GW := gwm 30 (by decide +kernel) (by decide +kernel)
theorem gw31 : Cond.initialized "java/lang/Exception" ∈ GW := gwm 31 (by decide +kernel) (by decide +kernel)
theorem gw32 : Cond.initialized "java/lang/RuntimeException" ∈ GW := gwm 32 (by decide +kernel) (by decide +kernel)
theorem gw33 : Cond.initialized "java/lang/IllegalArgumentException" ∈ GW := gwm 33 (by decide +kernel) (by decide +kernel)
theorem gw34 : Cond.initialized "java/lang/IllegalStateException" ∈ GW := gwm 34 (by decide +kernel) (by decide +kernel)
theorem gw35 : Cond.initialized RJ8 ∈ GW := gwm 35 (by decide +kernel) (by decide +kernel)
theorem gw36 : Cond.initialized RJ9 ∈ GW := gwm 36 (by decide +kernel) (by decide +kernel)
theorem gw37 : Cond.initialized RJ7 ∈ GW := gwm 37 (by decide +kernel) (by decide +kernel)
theorem gw38 : Cond.initialized RJ10 ∈ GW := gwm 38 (by decide +kernel) (by decide +kernel)
theorem gw39 : Cond.initialized "java/lang/IndexOutOfBoundsException" ∈ GW := gwm 39 (by decide +kernel) (by decide +kernel)
theorem gw40 : Cond.initialized RJ15 ∈ GW := gwm 40 (by decide +kernel) (by decide +kernel)
theorem gw41 : Cond.initialized RJ3 ∈ GW := gwm 41 (by decide +kernel) (by decide +kernel)
theorem gw42 : Cond.classLink RL 36 RX3 ∈ GW := gwm 42 (by decide +kernel) (by decide +kernel)
theorem gw43 : Cond.instantiable RX3 6 ∈ GW := gwm 43 (by decide +kernel) (by decide +kernel)
theorem gw44 : Cond.methodLink RL 114 yX3_init ∈ GW := gwm 44 (by decide +kernel) (by decide +kernel)
theorem gw45 : Cond.instanceMethod yX3_init ∈ GW := gwm 45 (by decide +kernel) (by decide +kernel)
theorem gw46 : Cond.code yX3_init cX3_init 2 (Option.none : Option Jvm.ClassFile.FieldType) ∈ GW := gwm 46 (by decide +kernel) (by decide +kernel)
theorem gw47 : Cond.methodLink RX3 1 objectInit ∈ GW := gwm 47 (by decide +kernel) (by decide +kernel)
theorem gw48 : Cond.instanceMethod objectInit ∈ GW := gwm 48 (by decide +kernel) (by decide +kernel)
theorem gw49 : Cond.code objectInit ⟨#[0xb1]⟩ 1 none ∈ GW := gwm 49 (by decide +kernel) (by decide +kernel)
theorem gw50 : Cond.classLink RX3 7 RJx4a65c ∈ GW := gwm 50 (by decide +kernel) (by decide +kernel)
theorem gw51 : Cond.instantiable RJx4a65c 3 ∈ GW := gwm 51 (by decide +kernel) (by decide +kernel)
theorem gw52 : Cond.methodLink RX3 9 yJx4a65c_init_da8c8 ∈ GW := gwm 52 (by decide +kernel) (by decide +kernel)
theorem gw53 : Cond.instanceMethod yJx4a65c_init_da8c8 ∈ GW := gwm 53 (by decide +kernel) (by decide +kernel)
theorem gw54 : Cond.code yJx4a65c_init_da8c8 cJx4a65c_init_da8c8 1 (Option.none : Option Jvm.ClassFile.FieldType) ∈ GW := gwm 54 (by decide +kernel) (by decide +kernel)
theorem gw55 : Cond.methodLink RJx4a65c 1 yJxc12de_init_da8c8 ∈ GW := gwm 55 (by decide +kernel) (by decide +kernel)
theorem gw56 : Cond.instanceMethod yJxc12de_init_da8c8 ∈ GW := gwm 56 (by decide +kernel) (by decide +kernel)
theorem gw57 : Cond.code yJxc12de_init_da8c8 cJxc12de_init_da8c8 1 (Option.none : Option Jvm.ClassFile.FieldType) ∈ GW := gwm 57 (by decide +kernel) (by decide +kernel)
theorem gw58 : Cond.methodLink RJxc12de 1 yJxa1e45_init_da8c8 ∈ GW := gwm 58 (by decide +kernel) (by decide +kernel)
theorem gw59 : Cond.instanceMethod yJxa1e45_init_da8c8 ∈ GW := gwm 59 (by decide +kernel) (by decide +kernel)
theorem gw60 : Cond.code yJxa1e45_init_da8c8 cJxa1e45_init_da8c8 1 (Option.none : Option Jvm.ClassFile.FieldType) ∈ GW := gwm 60 (by decide +kernel) (by decide +kernel)
theorem gw61 : Cond.methodLink RJxa1e45 1 objectInit ∈ GW := gwm 61 (by decide +kernel) (by decide +kernel)
theorem gw62 : Cond.fieldLink RJx4a65c 39 "java/util/ArrayList" "DEFAULTCAPACITY_EMPTY_ELEMENTDATA" "[Ljava/lang/Object;" ∈ GW := gwm 62 (by decide +kernel) (by decide +kernel)
theorem gw64 : Cond.fieldLink RJx4a65c 9 "java/util/ArrayList" "elementData" "[Ljava/lang/Object;" ∈ GW := gwm 64 (by decide +kernel) (by decide +kernel)
theorem gw65 : Cond.fieldLink RJx4a65c 48 "java/util/ArrayList" "size" "I" ∈ GW := gwm 65 (by decide +kernel) (by decide +kernel)
theorem gw66 : Cond.fieldLink RJxc12de 7 "java/util/AbstractList" "modCount" "I" ∈ GW := gwm 66 (by decide +kernel) (by decide +kernel)
theorem gw67 : Cond.fieldLink RJx4a65c 63 "java/util/ArrayList" "modCount" "I" ∈ GW := gwm 67 (by decide +kernel) (by decide +kernel)
theorem gw76 : Cond.classLink RX3 16 RX1 ∈ GW := gwm 76 (by decide +kernel) (by decide +kernel)
theorem gw78 : Cond.instantiable RX1 3 ∈ GW := gwm 78 (by decide +kernel) (by decide +kernel)
theorem nw79 : Cond.methodLinkNest RX3 22 yX1_init "LetterLocks" ∈ NW := nwm 79 (by decide +kernel) (by decide +kernel)
theorem gw80 : Cond.instanceMethod yX1_init ∈ GW := gwm 80 (by decide +kernel) (by decide +kernel)
theorem gw81 : Cond.code yX1_init cX1_init 1 (Option.none : Option Jvm.ClassFile.FieldType) ∈ GW := gwm 81 (by decide +kernel) (by decide +kernel)
theorem gw82 : Cond.methodLink RX1 3 objectInit ∈ GW := gwm 82 (by decide +kernel) (by decide +kernel)
theorem gw83 : Cond.fieldLink RX1 9 "LetterLocks$Rack" "places" "I" ∈ GW := gwm 83 (by decide +kernel) (by decide +kernel)
theorem nw84 : Cond.fieldLinkNest RX3 123 "LetterLocks$Rack" "places" "I" "LetterLocks" ∈ NW := nwm 84 (by decide +kernel) (by decide +kernel)
theorem gw85 : Cond.fieldLink RX1 15 "LetterLocks$Rack" "from" "I" ∈ GW := gwm 85 (by decide +kernel) (by decide +kernel)
theorem nw86 : Cond.fieldLinkNest RX3 128 "LetterLocks$Rack" "from" "I" "LetterLocks" ∈ NW := nwm 86 (by decide +kernel) (by decide +kernel)
theorem gw87 : Cond.fieldLink RX1 18 "LetterLocks$Rack" "to" "I" ∈ GW := gwm 87 (by decide +kernel) (by decide +kernel)
theorem nw88 : Cond.fieldLinkNest RX3 131 "LetterLocks$Rack" "to" "I" "LetterLocks" ∈ NW := nwm 88 (by decide +kernel) (by decide +kernel)
theorem gw96 : Cond.classLink RX3 23 RX2 ∈ GW := gwm 96 (by decide +kernel) (by decide +kernel)
theorem gw97 : Cond.instantiable RX2 1 ∈ GW := gwm 97 (by decide +kernel) (by decide +kernel)
theorem gw98 : Cond.methodLink RX3 25 yX2_init ∈ GW := gwm 98 (by decide +kernel) (by decide +kernel)
theorem gw99 : Cond.instanceMethod yX2_init ∈ GW := gwm 99 (by decide +kernel) (by decide +kernel)
theorem gw100 : Cond.code yX2_init cX2_init 4 (Option.none : Option Jvm.ClassFile.FieldType) ∈ GW := gwm 100 (by decide +kernel) (by decide +kernel)
theorem gw101 : Cond.methodLink RX2 3 objectInit ∈ GW := gwm 101 (by decide +kernel) (by decide +kernel)
theorem gw102 : Cond.classLink RX2 11 "[[I" ∈ GW := gwm 102 (by decide +kernel) (by decide +kernel)
theorem gw104 : Cond.fieldLink RX2 13 "LetterLocks$Thief" "wordsOfRingsAndSum" "[[I" ∈ GW := gwm 104 (by decide +kernel) (by decide +kernel)
theorem gw109 : Cond.classLink RX3 30 RX0 ∈ GW := gwm 109 (by decide +kernel) (by decide +kernel)
theorem gw110 : Cond.instantiable RX0 6 ∈ GW := gwm 110 (by decide +kernel) (by decide +kernel)
theorem gw111 : Cond.methodLink RX3 32 yX0_init ∈ GW := gwm 111 (by decide +kernel) (by decide +kernel)
theorem gw112 : Cond.instanceMethod yX0_init ∈ GW := gwm 112 (by decide +kernel) (by decide +kernel)
theorem gw113 : Cond.code yX0_init cX0_init 2 (Option.none : Option Jvm.ClassFile.FieldType) ∈ GW := gwm 113 (by decide +kernel) (by decide +kernel)
theorem gw114 : Cond.methodLink RX0 3 objectInit ∈ GW := gwm 114 (by decide +kernel) (by decide +kernel)
theorem gw115 : Cond.fieldLink RX0 9 "LetterLocks$Lock" "letters" "[I" ∈ GW := gwm 115 (by decide +kernel) (by decide +kernel)
theorem gw116 : Cond.fieldLink RX0 15 "LetterLocks$Lock" "wears" "[I" ∈ GW := gwm 116 (by decide +kernel) (by decide +kernel)
theorem gw117 : Cond.fieldLink RX0 29 "LetterLocks$Lock" "word" "I" ∈ GW := gwm 117 (by decide +kernel) (by decide +kernel)
theorem nw118 : Cond.fieldLinkNest RX3 95 "LetterLocks$Lock" "word" "I" "LetterLocks" ∈ NW := nwm 118 (by decide +kernel) (by decide +kernel)
theorem gw119 : Cond.fieldLink RX0 18 "LetterLocks$Lock" "inRack" "I" ∈ GW := gwm 119 (by decide +kernel) (by decide +kernel)
theorem nw120 : Cond.fieldLinkNest RX3 142 "LetterLocks$Lock" "inRack" "I" "LetterLocks" ∈ NW := nwm 120 (by decide +kernel) (by decide +kernel)
theorem gw121 : Cond.fieldLink RX0 22 "LetterLocks$Lock" "isOpen" "Z" ∈ GW := gwm 121 (by decide +kernel) (by decide +kernel)
theorem nw122 : Cond.fieldLinkNest RX3 98 "LetterLocks$Lock" "isOpen" "Z" "LetterLocks" ∈ NW := nwm 122 (by decide +kernel) (by decide +kernel)
theorem gw123 : Cond.fieldLink RX0 26 "LetterLocks$Lock" "isLost" "Z" ∈ GW := gwm 123 (by decide +kernel) (by decide +kernel)
theorem nw124 : Cond.fieldLinkNest RX3 109 "LetterLocks$Lock" "isLost" "Z" "LetterLocks" ∈ NW := nwm 124 (by decide +kernel) (by decide +kernel)
theorem gw138 : Cond.fieldLink RX3 10 "LetterLocks" "locks" "Ljava/util/ArrayList;" ∈ GW := gwm 138 (by decide +kernel) (by decide +kernel)
theorem gw139 : Cond.fieldLink RX3 18 "LetterLocks" "racks" "[LLetterLocks$Rack;" ∈ GW := gwm 139 (by decide +kernel) (by decide +kernel)
theorem gw140 : Cond.fieldLink RX3 26 "LetterLocks" "thief" "LLetterLocks$Thief;" ∈ GW := gwm 140 (by decide +kernel) (by decide +kernel)
theorem gw141 : Cond.fieldLink RX3 35 "LetterLocks" "foreseen" "LLetterLocks$Lock;" ∈ GW := gwm 141 (by decide +kernel) (by decide +kernel)
theorem gw142 : Cond.fieldLink RX3 39 "LetterLocks" "hour" "I" ∈ GW := gwm 142 (by decide +kernel) (by decide +kernel)
theorem gw143 : Cond.fieldLink RX3 43 "LetterLocks" "turns" "I" ∈ GW := gwm 143 (by decide +kernel) (by decide +kernel)
theorem gw157 : Cond.methodLink RL 51 yX3_turn ∈ GW := gwm 157 (by decide +kernel) (by decide +kernel)
theorem gw158 : Cond.instanceMethod yX3_turn ∈ GW := gwm 158 (by decide +kernel) (by decide +kernel)
theorem gw159 : Cond.selects RX3 yX3_turn yX3_turn ∈ GW := gwm 159 (by decide +kernel) (by decide +kernel)
theorem gw160 : Cond.code yX3_turn cX3_turn 6 (Option.some Jvm.ClassFile.FieldType.int) ∈ GW := gwm 160 (by decide +kernel) (by decide +kernel)
theorem gw161 : Cond.methodLink RX3 64 yX3_lockAt ∈ GW := gwm 161 (by decide +kernel) (by decide +kernel)
theorem gw163 : Cond.instanceMethod yX3_lockAt ∈ GW := gwm 163 (by decide +kernel) (by decide +kernel)
theorem gw164 : Cond.code yX3_lockAt cX3_lockAt 2 (Option.some (Jvm.ClassFile.FieldType.object "LetterLocks$Lock")) ∈ GW := gwm 164 (by decide +kernel) (by decide +kernel)
theorem gw165 : Cond.methodLink RX3 49 yJx4a65c_size_8abf5 ∈ GW := gwm 165 (by decide +kernel) (by decide +kernel)
theorem gw166 : Cond.instanceMethod yJx4a65c_size_8abf5 ∈ GW := gwm 166 (by decide +kernel) (by decide +kernel)
theorem gw167 : Cond.selects RJx4a65c yJx4a65c_size_8abf5 yJx4a65c_size_8abf5 ∈ GW := gwm 167 (by decide +kernel) (by decide +kernel)
theorem gw168 : Cond.code yJx4a65c_size_8abf5 cJx4a65c_size_8abf5 1 (Option.some Jvm.ClassFile.FieldType.int) ∈ GW := gwm 168 (by decide +kernel) (by decide +kernel)
theorem gw169 : Cond.classLink RX3 137 "java/lang/IndexOutOfBoundsException" ∈ GW := gwm 169 (by decide +kernel) (by decide +kernel)
theorem gw170 : Cond.instantiable "java/lang/IndexOutOfBoundsException" 6 ∈ GW := gwm 170 (by decide +kernel) (by decide +kernel)
theorem nw171 : Cond.castable "java/lang/IndexOutOfBoundsException" "java/lang/IndexOutOfBoundsException" ∈ NW := nwm 171 (by decide +kernel) (by decide +kernel)
theorem nw172 : Cond.declares ⟨"java/lang/RuntimeException", "<init>", "()V"⟩ ∈ NW := nwm 172 (by decide +kernel) (by decide +kernel)
theorem nw173 : Cond.declares ⟨"java/lang/RuntimeException", "<init>", "(Ljava/lang/String;)V"⟩ ∈ NW := nwm 173 (by decide +kernel) (by decide +kernel)
theorem nw174 : Cond.declares ⟨"java/lang/Exception", "<init>", "()V"⟩ ∈ NW := nwm 174 (by decide +kernel) (by decide +kernel)
theorem nw175 : Cond.declares ⟨"java/lang/Exception", "<init>", "(Ljava/lang/String;)V"⟩ ∈ NW := nwm 175 (by decide +kernel) (by decide +kernel)
theorem nw176 : Cond.declares ⟨"java/lang/Throwable", "<init>", "()V"⟩ ∈ NW := nwm 176 (by decide +kernel) (by decide +kernel)
theorem nw177 : Cond.declares ⟨"java/lang/Throwable", "<init>", "(Ljava/lang/String;)V"⟩ ∈ NW := nwm 177 (by decide +kernel) (by decide +kernel)
theorem gw178 : Cond.selects "java/lang/IndexOutOfBoundsException" ⟨"java/lang/Throwable", "fillInStackTrace", "(I)Ljava/lang/Throwable;"⟩ ⟨"java/lang/Throwable", "fillInStackTrace", "(I)Ljava/lang/Throwable;"⟩ ∈ GW := gwm 178 (by decide +kernel) (by decide +kernel)
theorem gw179 : Cond.selects "java/lang/IndexOutOfBoundsException" ⟨"java/lang/Throwable", "fillInStackTrace", "()Ljava/lang/Throwable;"⟩ ⟨"java/lang/Throwable", "fillInStackTrace", "()Ljava/lang/Throwable;"⟩ ∈ GW := gwm 179 (by decide +kernel) (by decide +kernel)
theorem gw190 : Cond.fieldLink "java/lang/Throwable" 198 "java/lang/Throwable" "backtrace" "Ljava/lang/Object;" ∈ GW := gwm 190 (by decide +kernel) (by decide +kernel)
theorem gw192 : Cond.instanceMethod ⟨"java/lang/Throwable", "<init>", "()V"⟩ ∈ GW := gwm 192 (by decide +kernel) (by decide +kernel)
theorem gw194 : Cond.methodLink "java/lang/Throwable" 1 objectInit ∈ GW := gwm 194 (by decide +kernel) (by decide +kernel)
theorem gw195 : Cond.fieldLink "java/lang/Throwable" 13 "java/lang/Throwable" "UNASSIGNED_STACK" "[Ljava/lang/StackTraceElement;" ∈ GW := gwm 195 (by decide +kernel) (by decide +kernel)
theorem gw197 : Cond.fieldLink "java/lang/Throwable" 20 "java/lang/Throwable" "SUPPRESSED_SENTINEL" "Ljava/util/List;" ∈ GW := gwm 197 (by decide +kernel) (by decide +kernel)
theorem gw199 : Cond.methodLink "java/lang/Throwable" 27 ⟨"java/lang/Throwable", "fillInStackTrace", "()Ljava/lang/Throwable;"⟩ ∈ GW := gwm 199 (by decide +kernel) (by decide +kernel)
theorem gw200 : Cond.instanceMethod ⟨"java/lang/Throwable", "fillInStackTrace", "()Ljava/lang/Throwable;"⟩ ∈ GW := gwm 200 (by decide +kernel) (by decide +kernel)
theorem gw202 : Cond.selects "java/lang/IllegalArgumentException" ⟨"java/lang/Throwable", "fillInStackTrace", "()Ljava/lang/Throwable;"⟩ ⟨"java/lang/Throwable", "fillInStackTrace", "()Ljava/lang/Throwable;"⟩ ∈ GW := gwm 202 (by decide +kernel) (by decide +kernel)
theorem gw203 : Cond.selects "java/lang/IllegalStateException" ⟨"java/lang/Throwable", "fillInStackTrace", "()Ljava/lang/Throwable;"⟩ ⟨"java/lang/Throwable", "fillInStackTrace", "()Ljava/lang/Throwable;"⟩ ∈ GW := gwm 203 (by decide +kernel) (by decide +kernel)
theorem gw205 : Cond.methodLink "java/lang/Throwable" 202 ⟨"java/lang/Throwable", "fillInStackTrace", "(I)Ljava/lang/Throwable;"⟩ ∈ GW := gwm 205 (by decide +kernel) (by decide +kernel)
theorem gw207 : Cond.instanceMethod ⟨"java/lang/Throwable", "fillInStackTrace", "(I)Ljava/lang/Throwable;"⟩ ∈ GW := gwm 207 (by decide +kernel) (by decide +kernel)
theorem gw208 : Cond.instantiable "java/lang/Throwable" 6 ∈ GW := gwm 208 (by decide +kernel) (by decide +kernel)
theorem gw209 : Cond.native ⟨"java/lang/Throwable", "fillInStackTrace", "(I)Ljava/lang/Throwable;"⟩ ∈ GW := gwm 209 (by decide +kernel) (by decide +kernel)
theorem gw211 : Cond.methodLink RX3 141 ⟨"java/lang/IndexOutOfBoundsException", "<init>", "(Ljava/lang/String;)V"⟩ ∈ GW := gwm 211 (by decide +kernel) (by decide +kernel)
theorem gw212 : Cond.instanceMethod ⟨"java/lang/IndexOutOfBoundsException", "<init>", "(Ljava/lang/String;)V"⟩ ∈ GW := gwm 212 (by decide +kernel) (by decide +kernel)
theorem gw214 : Cond.methodLink "java/lang/IndexOutOfBoundsException" 7 ⟨"java/lang/RuntimeException", "<init>", "(Ljava/lang/String;)V"⟩ ∈ GW := gwm 214 (by decide +kernel) (by decide +kernel)
theorem gw215 : Cond.instanceMethod ⟨"java/lang/RuntimeException", "<init>", "(Ljava/lang/String;)V"⟩ ∈ GW := gwm 215 (by decide +kernel) (by decide +kernel)
theorem gw217 : Cond.methodLink "java/lang/RuntimeException" 7 ⟨"java/lang/Exception", "<init>", "(Ljava/lang/String;)V"⟩ ∈ GW := gwm 217 (by decide +kernel) (by decide +kernel)
theorem gw218 : Cond.instanceMethod ⟨"java/lang/Exception", "<init>", "(Ljava/lang/String;)V"⟩ ∈ GW := gwm 218 (by decide +kernel) (by decide +kernel)
theorem gw220 : Cond.methodLink "java/lang/Exception" 7 ⟨"java/lang/Throwable", "<init>", "(Ljava/lang/String;)V"⟩ ∈ GW := gwm 220 (by decide +kernel) (by decide +kernel)
theorem gw221 : Cond.instanceMethod ⟨"java/lang/Throwable", "<init>", "(Ljava/lang/String;)V"⟩ ∈ GW := gwm 221 (by decide +kernel) (by decide +kernel)
theorem gw224 : Cond.fieldLink "java/lang/Throwable" 31 "java/lang/Throwable" "detailMessage" "Ljava/lang/String;" ∈ GW := gwm 224 (by decide +kernel) (by decide +kernel)
theorem gw225 : Cond.fieldLink "java/lang/Throwable" 7 "java/lang/Throwable" "cause" "Ljava/lang/Throwable;" ∈ GW := gwm 225 (by decide +kernel) (by decide +kernel)
theorem gw226 : Cond.fieldLink "java/lang/Throwable" 17 "java/lang/Throwable" "stackTrace" "[Ljava/lang/StackTraceElement;" ∈ GW := gwm 226 (by decide +kernel) (by decide +kernel)
theorem gw227 : Cond.fieldLink "java/lang/Throwable" 24 "java/lang/Throwable" "suppressedExceptions" "Ljava/util/List;" ∈ GW := gwm 227 (by decide +kernel) (by decide +kernel)
theorem gw237 : Cond.methodLink RX3 188 yJx4a65c_get_915e3 ∈ GW := gwm 237 (by decide +kernel) (by decide +kernel)
theorem gw238 : Cond.instanceMethod yJx4a65c_get_915e3 ∈ GW := gwm 238 (by decide +kernel) (by decide +kernel)
theorem gw239 : Cond.selects RJx4a65c yJx4a65c_get_915e3 yJx4a65c_get_915e3 ∈ GW := gwm 239 (by decide +kernel) (by decide +kernel)
theorem gw240 : Cond.code yJx4a65c_get_915e3 cJx4a65c_get_915e3 2 (Option.some (Jvm.ClassFile.FieldType.object "java/lang/Object")) ∈ GW := gwm 240 (by decide +kernel) (by decide +kernel)
theorem gw241 : Cond.methodLink RJx4a65c 118 yJ15_checkIndex_7cf53 ∈ GW := gwm 241 (by decide +kernel) (by decide +kernel)
theorem gw242 : Cond.static yJ15_checkIndex_7cf53 ∈ GW := gwm 242 (by decide +kernel) (by decide +kernel)
theorem gw243 : Cond.code yJ15_checkIndex_7cf53 cJ15_checkIndex_7cf53 2 (Option.some Jvm.ClassFile.FieldType.int) ∈ GW := gwm 243 (by decide +kernel) (by decide +kernel)
theorem gw244 : Cond.methodLink RJ15 105 yJ3_checkIndex_8e157 ∈ GW := gwm 244 (by decide +kernel) (by decide +kernel)
theorem gw245 : Cond.static yJ3_checkIndex_8e157 ∈ GW := gwm 245 (by decide +kernel) (by decide +kernel)
theorem gw246 : Cond.code yJ3_checkIndex_8e157 cJ3_checkIndex_8e157 3 (Option.some Jvm.ClassFile.FieldType.int) ∈ GW := gwm 246 (by decide +kernel) (by decide +kernel)
theorem gw247 : Cond.methodLink RJx4a65c 123 yJx4a65c_elementData_915e3 ∈ GW := gwm 247 (by decide +kernel) (by decide +kernel)
theorem gw248 : Cond.instanceMethod yJx4a65c_elementData_915e3 ∈ GW := gwm 248 (by decide +kernel) (by decide +kernel)
theorem gw249 : Cond.selects RJx4a65c yJx4a65c_elementData_915e3 yJx4a65c_elementData_915e3 ∈ GW := gwm 249 (by decide +kernel) (by decide +kernel)
theorem gw250 : Cond.code yJx4a65c_elementData_915e3 cJx4a65c_elementData_915e3 2 (Option.some (Jvm.ClassFile.FieldType.object "java/lang/Object")) ∈ GW := gwm 250 (by decide +kernel) (by decide +kernel)
theorem gw251 : Cond.methodLink RX3 68 yX3_requireRing ∈ GW := gwm 251 (by decide +kernel) (by decide +kernel)
theorem gw252 : Cond.static yX3_requireRing ∈ GW := gwm 252 (by decide +kernel) (by decide +kernel)
theorem gw253 : Cond.code yX3_requireRing cX3_requireRing 1 (Option.none : Option Jvm.ClassFile.FieldType) ∈ GW := gwm 253 (by decide +kernel) (by decide +kernel)
theorem gw254 : Cond.methodLink RX3 228 yX3_isRing ∈ GW := gwm 254 (by decide +kernel) (by decide +kernel)
theorem gw255 : Cond.static yX3_isRing ∈ GW := gwm 255 (by decide +kernel) (by decide +kernel)
theorem gw256 : Cond.code yX3_isRing cX3_isRing 1 (Option.some Jvm.ClassFile.FieldType.boolean) ∈ GW := gwm 256 (by decide +kernel) (by decide +kernel)
theorem gw258 : Cond.methodLink RX3 71 yX3_isLetter ∈ GW := gwm 258 (by decide +kernel) (by decide +kernel)
theorem gw259 : Cond.static yX3_isLetter ∈ GW := gwm 259 (by decide +kernel) (by decide +kernel)
theorem gw260 : Cond.code yX3_isLetter cX3_isLetter 1 (Option.some Jvm.ClassFile.FieldType.boolean) ∈ GW := gwm 260 (by decide +kernel) (by decide +kernel)
theorem gw261 : Cond.classLink RX3 75 "java/lang/IllegalArgumentException" ∈ GW := gwm 261 (by decide +kernel) (by decide +kernel)
theorem gw262 : Cond.instantiable "java/lang/IllegalArgumentException" 6 ∈ GW := gwm 262 (by decide +kernel) (by decide +kernel)
theorem nw263 : Cond.castable "java/lang/IllegalArgumentException" "java/lang/IllegalArgumentException" ∈ NW := nwm 263 (by decide +kernel) (by decide +kernel)
theorem gw264 : Cond.selects "java/lang/IllegalArgumentException" ⟨"java/lang/Throwable", "fillInStackTrace", "(I)Ljava/lang/Throwable;"⟩ ⟨"java/lang/Throwable", "fillInStackTrace", "(I)Ljava/lang/Throwable;"⟩ ∈ GW := gwm 264 (by decide +kernel) (by decide +kernel)
theorem gw271 : Cond.methodLink RX3 79 ⟨"java/lang/IllegalArgumentException", "<init>", "(Ljava/lang/String;)V"⟩ ∈ GW := gwm 271 (by decide +kernel) (by decide +kernel)
theorem gw272 : Cond.instanceMethod ⟨"java/lang/IllegalArgumentException", "<init>", "(Ljava/lang/String;)V"⟩ ∈ GW := gwm 272 (by decide +kernel) (by decide +kernel)
theorem gw274 : Cond.methodLink "java/lang/IllegalArgumentException" 7 ⟨"java/lang/RuntimeException", "<init>", "(Ljava/lang/String;)V"⟩ ∈ GW := gwm 274 (by decide +kernel) (by decide +kernel)
theorem gw277 : Cond.methodLink RX3 80 yX0_letterAt ∈ GW := gwm 277 (by decide +kernel) (by decide +kernel)
theorem gw278 : Cond.instanceMethod yX0_letterAt ∈ GW := gwm 278 (by decide +kernel) (by decide +kernel)
theorem gw279 : Cond.selects RX0 yX0_letterAt yX0_letterAt ∈ GW := gwm 279 (by decide +kernel) (by decide +kernel)
theorem gw280 : Cond.code yX0_letterAt cX0_letterAt 2 (Option.some Jvm.ClassFile.FieldType.int) ∈ GW := gwm 280 (by decide +kernel) (by decide +kernel)
theorem nw281 : Cond.methodLinkNest RX0 38 yX3_isRing "LetterLocks" ∈ NW := nwm 281 (by decide +kernel) (by decide +kernel)
theorem gw282 : Cond.methodLink RX3 84 yX3_turnsBetween ∈ GW := gwm 282 (by decide +kernel) (by decide +kernel)
theorem gw283 : Cond.static yX3_turnsBetween ∈ GW := gwm 283 (by decide +kernel) (by decide +kernel)
theorem gw284 : Cond.code yX3_turnsBetween cX3_turnsBetween 3 (Option.some Jvm.ClassFile.FieldType.int) ∈ GW := gwm 284 (by decide +kernel) (by decide +kernel)
theorem gw285 : Cond.methodLink RX3 239 Lib.Math.abs.name ∈ GW := gwm 285 (by decide +kernel) (by decide +kernel)
theorem gw286 : Cond.static Lib.Math.abs.name ∈ GW := gwm 286 (by decide +kernel) (by decide +kernel)
theorem gw287 : Cond.code Lib.Math.abs.name Lib.Math.abs.code 1 (Option.some Jvm.ClassFile.FieldType.int) ∈ GW := gwm 287 (by decide +kernel) (by decide +kernel)
theorem gw288 : Cond.methodLink RX3 244 Lib.Math.min.name ∈ GW := gwm 288 (by decide +kernel) (by decide +kernel)
theorem gw289 : Cond.static Lib.Math.min.name ∈ GW := gwm 289 (by decide +kernel) (by decide +kernel)
theorem gw290 : Cond.code Lib.Math.min.name Lib.Math.min.code 2 (Option.some Jvm.ClassFile.FieldType.int) ∈ GW := gwm 290 (by decide +kernel) (by decide +kernel)
theorem gw291 : Cond.methodLink RX3 88 yX0_turnTo ∈ GW := gwm 291 (by decide +kernel) (by decide +kernel)
theorem gw292 : Cond.instanceMethod yX0_turnTo ∈ GW := gwm 292 (by decide +kernel) (by decide +kernel)
theorem gw293 : Cond.selects RX0 yX0_turnTo yX0_turnTo ∈ GW := gwm 293 (by decide +kernel) (by decide +kernel)
theorem gw294 : Cond.code yX0_turnTo cX0_turnTo 3 (Option.none : Option Jvm.ClassFile.FieldType) ∈ GW := gwm 294 (by decide +kernel) (by decide +kernel)
theorem gw295 : Cond.methodLink RL 59 yX3_open ∈ GW := gwm 295 (by decide +kernel) (by decide +kernel)
theorem gw296 : Cond.instanceMethod yX3_open ∈ GW := gwm 296 (by decide +kernel) (by decide +kernel)
theorem gw297 : Cond.selects RX3 yX3_open yX3_open ∈ GW := gwm 297 (by decide +kernel) (by decide +kernel)
theorem gw298 : Cond.code yX3_open cX3_open 3 (Option.some Jvm.ClassFile.FieldType.boolean) ∈ GW := gwm 298 (by decide +kernel) (by decide +kernel)
theorem gw299 : Cond.methodLink RX3 92 yX0_standing ∈ GW := gwm 299 (by decide +kernel) (by decide +kernel)
theorem gw300 : Cond.instanceMethod yX0_standing ∈ GW := gwm 300 (by decide +kernel) (by decide +kernel)
theorem gw301 : Cond.selects RX0 yX0_standing yX0_standing ∈ GW := gwm 301 (by decide +kernel) (by decide +kernel)
theorem gw302 : Cond.code yX0_standing cX0_standing 3 (Option.some Jvm.ClassFile.FieldType.int) ∈ GW := gwm 302 (by decide +kernel) (by decide +kernel)
theorem gw303 : Cond.methodLink RL 122 yX3_told ∈ GW := gwm 303 (by decide +kernel) (by decide +kernel)
theorem gw304 : Cond.instanceMethod yX3_told ∈ GW := gwm 304 (by decide +kernel) (by decide +kernel)
theorem gw305 : Cond.selects RX3 yX3_told yX3_told ∈ GW := gwm 305 (by decide +kernel) (by decide +kernel)
theorem gw306 : Cond.code yX3_told cX3_told 4 (Option.some Jvm.ClassFile.FieldType.int) ∈ GW := gwm 306 (by decide +kernel) (by decide +kernel)
theorem gw307 : Cond.methodLink RX3 150 yX0_showing ∈ GW := gwm 307 (by decide +kernel) (by decide +kernel)
theorem gw308 : Cond.instanceMethod yX0_showing ∈ GW := gwm 308 (by decide +kernel) (by decide +kernel)
theorem gw309 : Cond.selects RX0 yX0_showing yX0_showing ∈ GW := gwm 309 (by decide +kernel) (by decide +kernel)
theorem gw310 : Cond.code yX0_showing cX0_showing 3 (Option.some Jvm.ClassFile.FieldType.int) ∈ GW := gwm 310 (by decide +kernel) (by decide +kernel)
theorem gw311 : Cond.methodLink RX0 58 yX0_mostWorn ∈ GW := gwm 311 (by decide +kernel) (by decide +kernel)
theorem gw313 : Cond.instanceMethod yX0_mostWorn ∈ GW := gwm 313 (by decide +kernel) (by decide +kernel)
theorem gw314 : Cond.code yX0_mostWorn cX0_mostWorn 4 (Option.some Jvm.ClassFile.FieldType.int) ∈ GW := gwm 314 (by decide +kernel) (by decide +kernel)
theorem gw315 : Cond.methodLink RX0 62 yX0_wearAt ∈ GW := gwm 315 (by decide +kernel) (by decide +kernel)
theorem gw316 : Cond.instanceMethod yX0_wearAt ∈ GW := gwm 316 (by decide +kernel) (by decide +kernel)
theorem gw317 : Cond.selects RX0 yX0_wearAt yX0_wearAt ∈ GW := gwm 317 (by decide +kernel) (by decide +kernel)
theorem gw318 : Cond.code yX0_wearAt cX0_wearAt 3 (Option.some Jvm.ClassFile.FieldType.int) ∈ GW := gwm 318 (by decide +kernel) (by decide +kernel)
theorem nw319 : Cond.methodLinkNest RX0 42 yX3_isLetter "LetterLocks" ∈ NW := nwm 319 (by decide +kernel) (by decide +kernel)
theorem gw321 : Cond.methodLink RL 131 yX3_wear ∈ GW := gwm 321 (by decide +kernel) (by decide +kernel)
theorem gw322 : Cond.instanceMethod yX3_wear ∈ GW := gwm 322 (by decide +kernel) (by decide +kernel)
theorem gw323 : Cond.selects RX3 yX3_wear yX3_wear ∈ GW := gwm 323 (by decide +kernel) (by decide +kernel)
theorem gw324 : Cond.code yX3_wear cX3_wear 5 (Option.some Jvm.ClassFile.FieldType.int) ∈ GW := gwm 324 (by decide +kernel) (by decide +kernel)
theorem gw325 : Cond.methodLink RX3 155 yX0_wearAt ∈ GW := gwm 325 (by decide +kernel) (by decide +kernel)
theorem gw326 : Cond.methodLink RL 134 yX3_rack ∈ GW := gwm 326 (by decide +kernel) (by decide +kernel)
theorem gw327 : Cond.instanceMethod yX3_rack ∈ GW := gwm 327 (by decide +kernel) (by decide +kernel)
theorem gw328 : Cond.selects RX3 yX3_rack yX3_rack ∈ GW := gwm 328 (by decide +kernel) (by decide +kernel)
theorem gw329 : Cond.code yX3_rack cX3_rack 4 (Option.some Jvm.ClassFile.FieldType.int) ∈ GW := gwm 329 (by decide +kernel) (by decide +kernel)
theorem gw330 : Cond.methodLink RX3 112 yX3_rackAt ∈ GW := gwm 330 (by decide +kernel) (by decide +kernel)
theorem gw332 : Cond.instanceMethod yX3_rackAt ∈ GW := gwm 332 (by decide +kernel) (by decide +kernel)
theorem gw333 : Cond.code yX3_rackAt cX3_rackAt 2 (Option.some (Jvm.ClassFile.FieldType.object "LetterLocks$Rack")) ∈ GW := gwm 333 (by decide +kernel) (by decide +kernel)
theorem gw334 : Cond.methodLink RX3 134 yX3_isRack ∈ GW := gwm 334 (by decide +kernel) (by decide +kernel)
theorem gw336 : Cond.instanceMethod yX3_isRack ∈ GW := gwm 336 (by decide +kernel) (by decide +kernel)
theorem gw337 : Cond.code yX3_isRack cX3_isRack 2 (Option.some Jvm.ClassFile.FieldType.boolean) ∈ GW := gwm 337 (by decide +kernel) (by decide +kernel)
theorem gw339 : Cond.methodLink RX3 118 yX3_locksIn ∈ GW := gwm 339 (by decide +kernel) (by decide +kernel)
theorem gw341 : Cond.instanceMethod yX3_locksIn ∈ GW := gwm 341 (by decide +kernel) (by decide +kernel)
theorem gw342 : Cond.code yX3_locksIn cX3_locksIn 4 (Option.some Jvm.ClassFile.FieldType.int) ∈ GW := gwm 342 (by decide +kernel) (by decide +kernel)
theorem gw343 : Cond.methodLink RX3 158 yX1_isOpenIn ∈ GW := gwm 343 (by decide +kernel) (by decide +kernel)
theorem gw344 : Cond.instanceMethod yX1_isOpenIn ∈ GW := gwm 344 (by decide +kernel) (by decide +kernel)
theorem gw345 : Cond.selects RX1 yX1_isOpenIn yX1_isOpenIn ∈ GW := gwm 345 (by decide +kernel) (by decide +kernel)
theorem gw346 : Cond.code yX1_isOpenIn cX1_isOpenIn 3 (Option.some Jvm.ClassFile.FieldType.boolean) ∈ GW := gwm 346 (by decide +kernel) (by decide +kernel)
theorem gw347 : Cond.methodLink RX3 161 yX3_openLocksIn ∈ GW := gwm 347 (by decide +kernel) (by decide +kernel)
theorem gw349 : Cond.instanceMethod yX3_openLocksIn ∈ GW := gwm 349 (by decide +kernel) (by decide +kernel)
theorem gw350 : Cond.code yX3_openLocksIn cX3_openLocksIn 5 (Option.some Jvm.ClassFile.FieldType.int) ∈ GW := gwm 350 (by decide +kernel) (by decide +kernel)
theorem gw351 : Cond.methodLink RL 119 yX3_count ∈ GW := gwm 351 (by decide +kernel) (by decide +kernel)
theorem gw352 : Cond.instanceMethod yX3_count ∈ GW := gwm 352 (by decide +kernel) (by decide +kernel)
theorem gw353 : Cond.selects RX3 yX3_count yX3_count ∈ GW := gwm 353 (by decide +kernel) (by decide +kernel)
theorem gw354 : Cond.code yX3_count cX3_count 2 (Option.some Jvm.ClassFile.FieldType.int) ∈ GW := gwm 354 (by decide +kernel) (by decide +kernel)
theorem gw355 : Cond.methodLink RX3 164 yX3_openLocks ∈ GW := gwm 355 (by decide +kernel) (by decide +kernel)
theorem gw357 : Cond.instanceMethod yX3_openLocks ∈ GW := gwm 357 (by decide +kernel) (by decide +kernel)
theorem gw358 : Cond.code yX3_openLocks cX3_openLocks 3 (Option.some Jvm.ClassFile.FieldType.int) ∈ GW := gwm 358 (by decide +kernel) (by decide +kernel)
theorem gw359 : Cond.methodLink RX3 167 yX3_lostWords ∈ GW := gwm 359 (by decide +kernel) (by decide +kernel)
theorem gw361 : Cond.instanceMethod yX3_lostWords ∈ GW := gwm 361 (by decide +kernel) (by decide +kernel)
theorem gw362 : Cond.code yX3_lostWords cX3_lostWords 3 (Option.some Jvm.ClassFile.FieldType.int) ∈ GW := gwm 362 (by decide +kernel) (by decide +kernel)
theorem gw363 : Cond.methodLink RX3 170 yX3_allWear ∈ GW := gwm 363 (by decide +kernel) (by decide +kernel)
theorem gw365 : Cond.instanceMethod yX3_allWear ∈ GW := gwm 365 (by decide +kernel) (by decide +kernel)
theorem gw366 : Cond.code yX3_allWear cX3_allWear 3 (Option.some Jvm.ClassFile.FieldType.int) ∈ GW := gwm 366 (by decide +kernel) (by decide +kernel)
theorem gw367 : Cond.methodLink RX3 250 yX0_allWears ∈ GW := gwm 367 (by decide +kernel) (by decide +kernel)
theorem gw368 : Cond.instanceMethod yX0_allWears ∈ GW := gwm 368 (by decide +kernel) (by decide +kernel)
theorem gw369 : Cond.selects RX0 yX0_allWears yX0_allWears ∈ GW := gwm 369 (by decide +kernel) (by decide +kernel)
theorem gw370 : Cond.code yX0_allWears cX0_allWears 3 (Option.some Jvm.ClassFile.FieldType.int) ∈ GW := gwm 370 (by decide +kernel) (by decide +kernel)
theorem gw371 : Cond.methodLink RX3 173 yX3_locksInRacks ∈ GW := gwm 371 (by decide +kernel) (by decide +kernel)
theorem gw373 : Cond.instanceMethod yX3_locksInRacks ∈ GW := gwm 373 (by decide +kernel) (by decide +kernel)
theorem gw374 : Cond.code yX3_locksInRacks cX3_locksInRacks 1 (Option.some Jvm.ClassFile.FieldType.int) ∈ GW := gwm 374 (by decide +kernel) (by decide +kernel)
theorem gw376 : Cond.methodLink RL 125 yX3_trial ∈ GW := gwm 376 (by decide +kernel) (by decide +kernel)
theorem gw377 : Cond.instanceMethod yX3_trial ∈ GW := gwm 377 (by decide +kernel) (by decide +kernel)
theorem gw378 : Cond.selects RX3 yX3_trial yX3_trial ∈ GW := gwm 378 (by decide +kernel) (by decide +kernel)
theorem gw379 : Cond.code yX3_trial cX3_trial 4 (Option.some Jvm.ClassFile.FieldType.int) ∈ GW := gwm 379 (by decide +kernel) (by decide +kernel)
theorem gw380 : Cond.methodLink RX3 46 yX3_requireWord ∈ GW := gwm 380 (by decide +kernel) (by decide +kernel)
theorem gw381 : Cond.static yX3_requireWord ∈ GW := gwm 381 (by decide +kernel) (by decide +kernel)
theorem gw382 : Cond.code yX3_requireWord cX3_requireWord 1 (Option.none : Option Jvm.ClassFile.FieldType) ∈ GW := gwm 382 (by decide +kernel) (by decide +kernel)
theorem gw384 : Cond.methodLink RX3 181 yX2_trialOf ∈ GW := gwm 384 (by decide +kernel) (by decide +kernel)
theorem gw385 : Cond.instanceMethod yX2_trialOf ∈ GW := gwm 385 (by decide +kernel) (by decide +kernel)
theorem gw386 : Cond.selects RX2 yX2_trialOf yX2_trialOf ∈ GW := gwm 386 (by decide +kernel) (by decide +kernel)
theorem gw387 : Cond.code yX2_trialOf cX2_trialOf 6 (Option.some Jvm.ClassFile.FieldType.int) ∈ GW := gwm 387 (by decide +kernel) (by decide +kernel)
theorem gw388 : Cond.methodLink RX2 16 yX2_sumOfPlaces ∈ GW := gwm 388 (by decide +kernel) (by decide +kernel)
theorem gw389 : Cond.static yX2_sumOfPlaces ∈ GW := gwm 389 (by decide +kernel) (by decide +kernel)
theorem gw390 : Cond.code yX2_sumOfPlaces cX2_sumOfPlaces 4 (Option.some Jvm.ClassFile.FieldType.int) ∈ GW := gwm 390 (by decide +kernel) (by decide +kernel)
theorem nw391 : Cond.methodLinkNest RX2 28 yX3_letterOf "LetterLocks" ∈ NW := nwm 391 (by decide +kernel) (by decide +kernel)
theorem gw392 : Cond.static yX3_letterOf ∈ GW := gwm 392 (by decide +kernel) (by decide +kernel)
theorem gw393 : Cond.code yX3_letterOf cX3_letterOf 4 (Option.some Jvm.ClassFile.FieldType.int) ∈ GW := gwm 393 (by decide +kernel) (by decide +kernel)
theorem gw394 : Cond.methodLink RX2 31 yX0_placeInOrder ∈ GW := gwm 394 (by decide +kernel) (by decide +kernel)
theorem gw395 : Cond.instanceMethod yX0_placeInOrder ∈ GW := gwm 395 (by decide +kernel) (by decide +kernel)
theorem gw396 : Cond.selects RX0 yX0_placeInOrder yX0_placeInOrder ∈ GW := gwm 396 (by decide +kernel) (by decide +kernel)
theorem gw397 : Cond.code yX0_placeInOrder cX0_placeInOrder 7 (Option.some Jvm.ClassFile.FieldType.int) ∈ GW := gwm 397 (by decide +kernel) (by decide +kernel)
theorem gw398 : Cond.methodLink RX2 20 yX2_wordsWith ∈ GW := gwm 398 (by decide +kernel) (by decide +kernel)
theorem gw400 : Cond.instanceMethod yX2_wordsWith ∈ GW := gwm 400 (by decide +kernel) (by decide +kernel)
theorem gw401 : Cond.code yX2_wordsWith cX2_wordsWith 3 (Option.some Jvm.ClassFile.FieldType.int) ∈ GW := gwm 401 (by decide +kernel) (by decide +kernel)
theorem gw402 : Cond.methodLink RX2 24 yX2_lesserWordsOfSum ∈ GW := gwm 402 (by decide +kernel) (by decide +kernel)
theorem gw404 : Cond.instanceMethod yX2_lesserWordsOfSum ∈ GW := gwm 404 (by decide +kernel) (by decide +kernel)
theorem gw405 : Cond.code yX2_lesserWordsOfSum cX2_lesserWordsOfSum 10 (Option.some Jvm.ClassFile.FieldType.int) ∈ GW := gwm 405 (by decide +kernel) (by decide +kernel)
theorem gw406 : Cond.methodLink RL 128 yX3_safe ∈ GW := gwm 406 (by decide +kernel) (by decide +kernel)
theorem gw407 : Cond.instanceMethod yX3_safe ∈ GW := gwm 407 (by decide +kernel) (by decide +kernel)
theorem gw408 : Cond.selects RX3 yX3_safe yX3_safe ∈ GW := gwm 408 (by decide +kernel) (by decide +kernel)
theorem gw409 : Cond.code yX3_safe cX3_safe 3 (Option.some Jvm.ClassFile.FieldType.int) ∈ GW := gwm 409 (by decide +kernel) (by decide +kernel)
theorem gw410 : Cond.methodLink RL 108 yX3_pass ∈ GW := gwm 410 (by decide +kernel) (by decide +kernel)
theorem gw411 : Cond.instanceMethod yX3_pass ∈ GW := gwm 411 (by decide +kernel) (by decide +kernel)
theorem gw412 : Cond.selects RX3 yX3_pass yX3_pass ∈ GW := gwm 412 (by decide +kernel) (by decide +kernel)
theorem gw413 : Cond.code yX3_pass cX3_pass 5 (Option.some Jvm.ClassFile.FieldType.int) ∈ GW := gwm 413 (by decide +kernel) (by decide +kernel)
theorem gw414 : Cond.methodLink RX3 185 yX3_requireHours ∈ GW := gwm 414 (by decide +kernel) (by decide +kernel)
theorem gw415 : Cond.static yX3_requireHours ∈ GW := gwm 415 (by decide +kernel) (by decide +kernel)
theorem gw416 : Cond.code yX3_requireHours cX3_requireHours 1 (Option.none : Option Jvm.ClassFile.FieldType) ∈ GW := gwm 416 (by decide +kernel) (by decide +kernel)
theorem gw418 : Cond.methodLink RX3 192 yX3_letHourGoBy ∈ GW := gwm 418 (by decide +kernel) (by decide +kernel)
theorem gw420 : Cond.instanceMethod yX3_letHourGoBy ∈ GW := gwm 420 (by decide +kernel) (by decide +kernel)
theorem gw421 : Cond.code yX3_letHourGoBy cX3_letHourGoBy 3 (Option.some Jvm.ClassFile.FieldType.boolean) ∈ GW := gwm 421 (by decide +kernel) (by decide +kernel)
theorem gw422 : Cond.methodLink RX3 247 yX0_wearByAnHour ∈ GW := gwm 422 (by decide +kernel) (by decide +kernel)
theorem gw423 : Cond.instanceMethod yX0_wearByAnHour ∈ GW := gwm 423 (by decide +kernel) (by decide +kernel)
theorem gw424 : Cond.selects RX0 yX0_wearByAnHour yX0_wearByAnHour ∈ GW := gwm 424 (by decide +kernel) (by decide +kernel)
theorem gw425 : Cond.code yX0_wearByAnHour cX0_wearByAnHour 2 (Option.none : Option Jvm.ClassFile.FieldType) ∈ GW := gwm 425 (by decide +kernel) (by decide +kernel)
theorem gw426 : Cond.methodLink RX0 45 yX0_wearMore ∈ GW := gwm 426 (by decide +kernel) (by decide +kernel)
theorem gw428 : Cond.instanceMethod yX0_wearMore ∈ GW := gwm 428 (by decide +kernel) (by decide +kernel)
theorem gw429 : Cond.code yX0_wearMore cX0_wearMore 5 (Option.none : Option Jvm.ClassFile.FieldType) ∈ GW := gwm 429 (by decide +kernel) (by decide +kernel)
theorem gw430 : Cond.methodLink RX0 53 Lib.Math.min.name ∈ GW := gwm 430 (by decide +kernel) (by decide +kernel)
theorem nw431 : Cond.methodLinkNest RX0 49 yX3_letterOf "LetterLocks" ∈ NW := nwm 431 (by decide +kernel) (by decide +kernel)
theorem gw432 : Cond.methodLink RX3 199 yX3_isInClosedRack ∈ GW := gwm 432 (by decide +kernel) (by decide +kernel)
theorem gw434 : Cond.instanceMethod yX3_isInClosedRack ∈ GW := gwm 434 (by decide +kernel) (by decide +kernel)
theorem gw435 : Cond.code yX3_isInClosedRack cX3_isInClosedRack 3 (Option.some Jvm.ClassFile.FieldType.boolean) ∈ GW := gwm 435 (by decide +kernel) (by decide +kernel)
theorem gw436 : Cond.methodLink RX3 106 yX0_close ∈ GW := gwm 436 (by decide +kernel) (by decide +kernel)
theorem gw437 : Cond.instanceMethod yX0_close ∈ GW := gwm 437 (by decide +kernel) (by decide +kernel)
theorem gw438 : Cond.selects RX0 yX0_close yX0_close ∈ GW := gwm 438 (by decide +kernel) (by decide +kernel)
theorem gw439 : Cond.code yX0_close cX0_close 2 (Option.none : Option Jvm.ClassFile.FieldType) ∈ GW := gwm 439 (by decide +kernel) (by decide +kernel)
theorem gw440 : Cond.methodLink RL 111 yX5_pass ∈ GW := gwm 440 rfl (by decide +kernel)
theorem gw441 : Cond.instanceMethod yX5_pass ∈ GW := gwm 441 rfl (by decide +kernel)
theorem gw442 : Cond.selects RX5 yX5_pass yX5_pass ∈ GW := gwm 442 rfl (by decide +kernel)
theorem gw443 : Cond.code yX5_pass cX5_pass 8 (Option.some Jvm.ClassFile.FieldType.int) ∈ GW := gwm 443 rfl (by decide +kernel)
theorem gw444 : Cond.methodLink RX5 49 Lib.Math.min.name ∈ GW := gwm 444 (by decide +kernel) (by decide +kernel)
theorem gw445 : Cond.methodLink RX5 55 yX5_isOpen ∈ GW := gwm 445 (by decide +kernel) (by decide +kernel)
theorem gw446 : Cond.instanceMethod yX5_isOpen ∈ GW := gwm 446 (by decide +kernel) (by decide +kernel)
theorem gw447 : Cond.selects RX5 yX5_isOpen yX5_isOpen ∈ GW := gwm 447 (by decide +kernel) (by decide +kernel)
theorem gw448 : Cond.code yX5_isOpen cX5_isOpen 3 (Option.some Jvm.ClassFile.FieldType.boolean) ∈ GW := gwm 448 (by decide +kernel) (by decide +kernel)
theorem gw449 : Cond.methodLink RX5 58 yX4_shut ∈ GW := gwm 449 (by decide +kernel) (by decide +kernel)
theorem gw450 : Cond.instanceMethod yX4_shut ∈ GW := gwm 450 (by decide +kernel) (by decide +kernel)
theorem gw451 : Cond.selects RX4 yX4_shut yX4_shut ∈ GW := gwm 451 (by decide +kernel) (by decide +kernel)
theorem gw452 : Cond.code yX4_shut cX4_shut 2 (Option.none : Option Jvm.ClassFile.FieldType) ∈ GW := gwm 452 (by decide +kernel) (by decide +kernel)
theorem gw453 : Cond.methodLink RL 136 yX5_isSame ∈ GW := gwm 453 rfl (by decide +kernel)
theorem gw454 : Cond.instanceMethod yX5_isSame ∈ GW := gwm 454 rfl (by decide +kernel)
theorem gw455 : Cond.selects RX5 yX5_isSame yX5_isSame ∈ GW := gwm 455 rfl (by decide +kernel)
theorem gw456 : Cond.code yX5_isSame cX5_isSame 11 (Option.some Jvm.ClassFile.FieldType.boolean) ∈ GW := gwm 456 rfl (by decide +kernel)
theorem gw457 : Cond.methodLink RX5 65 yX5_best ∈ GW := gwm 457 (by decide +kernel) (by decide +kernel)
theorem gw458 : Cond.static yX5_best ∈ GW := gwm 458 (by decide +kernel) (by decide +kernel)
theorem gw459 : Cond.code yX5_best cX5_best 3 (Option.some Jvm.ClassFile.FieldType.int) ∈ GW := gwm 459 (by decide +kernel) (by decide +kernel)
theorem gw460 : Cond.methodLink RX5 84 yX3_wear ∈ GW := gwm 460 (by decide +kernel) (by decide +kernel)
theorem nw461 : Cond.methodLinkNest RX5 89 yL_word "LetterLocksLaw" ∈ NW := nwm 461 (by decide +kernel) (by decide +kernel)
theorem gw462 : Cond.static yL_word ∈ GW := gwm 462 (by decide +kernel) (by decide +kernel)
theorem gw463 : Cond.code yL_word cL_word 1 (Option.some Jvm.ClassFile.FieldType.int) ∈ GW := gwm 463 (by decide +kernel) (by decide +kernel)
theorem gw464 : Cond.methodLink RX5 94 yX3_told ∈ GW := gwm 464 (by decide +kernel) (by decide +kernel)
theorem gw465 : Cond.methodLink RX5 97 yX5_in ∈ GW := gwm 465 (by decide +kernel) (by decide +kernel)
theorem gw466 : Cond.instanceMethod yX5_in ∈ GW := gwm 466 (by decide +kernel) (by decide +kernel)
theorem gw467 : Cond.selects RX5 yX5_in yX5_in ∈ GW := gwm 467 (by decide +kernel) (by decide +kernel)
theorem gw468 : Cond.code yX5_in cX5_in 7 (Option.some Jvm.ClassFile.FieldType.int) ∈ GW := gwm 468 (by decide +kernel) (by decide +kernel)
theorem gw469 : Cond.methodLink RX5 101 yX3_rack ∈ GW := gwm 469 (by decide +kernel) (by decide +kernel)
theorem gw470 : Cond.methodLink RX5 103 yX3_count ∈ GW := gwm 470 (by decide +kernel) (by decide +kernel)
theorem gw471 : Cond.methodLink RX5 106 yX3_mean ∈ GW := gwm 471 (by decide +kernel) (by decide +kernel)
theorem gw472 : Cond.instanceMethod yX3_mean ∈ GW := gwm 472 (by decide +kernel) (by decide +kernel)
theorem gw473 : Cond.selects RX3 yX3_mean yX3_mean ∈ GW := gwm 473 (by decide +kernel) (by decide +kernel)
theorem gw474 : Cond.code yX3_mean cX3_mean 2 (Option.some Jvm.ClassFile.FieldType.double) ∈ GW := gwm 474 (by decide +kernel) (by decide +kernel)
theorem gw475 : Cond.methodLink RL 15 yL_below ∈ GW := gwm 475 (by decide +kernel) (by decide +kernel)
theorem gw476 : Cond.static yL_below ∈ GW := gwm 476 (by decide +kernel) (by decide +kernel)
theorem gw477 : Cond.code yL_below cL_below 2 (Option.some Jvm.ClassFile.FieldType.int) ∈ GW := gwm 477 (by decide +kernel) (by decide +kernel)
theorem gw479 : Cond.methodLink RL 100 yL_cell ∈ GW := gwm 479 (by decide +kernel) (by decide +kernel)
theorem gw480 : Cond.static yL_cell ∈ GW := gwm 480 (by decide +kernel) (by decide +kernel)
theorem gw481 : Cond.code yL_cell cL_cell 2 (Option.some Jvm.ClassFile.FieldType.int) ∈ GW := gwm 481 (by decide +kernel) (by decide +kernel)
theorem gw483 : Cond.methodLink RL 32 yL_word ∈ GW := gwm 483 (by decide +kernel) (by decide +kernel)
theorem gw484 : Cond.methodLink RL 104 yL_act ∈ GW := gwm 484 rfl (by decide +kernel)
theorem gw485 : Cond.static yL_act ∈ GW := gwm 485 rfl (by decide +kernel)
theorem gw486 : Cond.code yL_act cL_act 18 (Option.some Jvm.ClassFile.FieldType.boolean) ∈ GW := gwm 486 rfl (by decide +kernel)
theorem gw487 : Cond.classLink RL 21 RX4 ∈ GW := gwm 487 (by decide +kernel) (by decide +kernel)
theorem gw489 : Cond.instantiable RX4 6 ∈ GW := gwm 489 (by decide +kernel) (by decide +kernel)
theorem nw490 : Cond.methodLinkNest RL 23 yX4_init "LetterLocksLaw" ∈ NW := nwm 490 (by decide +kernel) (by decide +kernel)
theorem gw491 : Cond.instanceMethod yX4_init ∈ GW := gwm 491 (by decide +kernel) (by decide +kernel)
theorem gw492 : Cond.code yX4_init cX4_init 1 (Option.none : Option Jvm.ClassFile.FieldType) ∈ GW := gwm 492 (by decide +kernel) (by decide +kernel)
theorem gw493 : Cond.methodLink RX4 1 objectInit ∈ GW := gwm 493 (by decide +kernel) (by decide +kernel)
theorem gw494 : Cond.classLink RX4 13 "[[I" ∈ GW := gwm 494 (by decide +kernel) (by decide +kernel)
theorem gw495 : Cond.fieldLink RX5 40 "LetterLocksLaw$Lock" "word" "[I" ∈ GW := gwm 495 (by decide +kernel) (by decide +kernel)
theorem gw496 : Cond.fieldLink RL 28 "LetterLocksLaw$Lock" "word" "[I" ∈ GW := gwm 496 (by decide +kernel) (by decide +kernel)
theorem gw497 : Cond.fieldLink RX4 7 "LetterLocksLaw$Lock" "rings" "[I" ∈ GW := gwm 497 (by decide +kernel) (by decide +kernel)
theorem gw498 : Cond.fieldLink RX5 43 "LetterLocksLaw$Lock" "rings" "[I" ∈ GW := gwm 498 (by decide +kernel) (by decide +kernel)
theorem gw499 : Cond.fieldLink RL 41 "LetterLocksLaw$Lock" "rings" "[I" ∈ GW := gwm 499 (by decide +kernel) (by decide +kernel)
theorem gw500 : Cond.fieldLink RX4 15 "LetterLocksLaw$Lock" "wear" "[[I" ∈ GW := gwm 500 (by decide +kernel) (by decide +kernel)
theorem gw501 : Cond.fieldLink RX5 46 "LetterLocksLaw$Lock" "wear" "[[I" ∈ GW := gwm 501 (by decide +kernel) (by decide +kernel)
theorem gw502 : Cond.fieldLink RX4 18 "LetterLocksLaw$Lock" "isOpen" "Z" ∈ GW := gwm 502 (by decide +kernel) (by decide +kernel)
theorem gw503 : Cond.fieldLink RX5 36 "LetterLocksLaw$Lock" "isOpen" "Z" ∈ GW := gwm 503 (by decide +kernel) (by decide +kernel)
theorem gw504 : Cond.fieldLink RL 55 "LetterLocksLaw$Lock" "isOpen" "Z" ∈ GW := gwm 504 (by decide +kernel) (by decide +kernel)
theorem gw505 : Cond.fieldLink RL 68 "LetterLocksLaw$Lock" "isLost" "Z" ∈ GW := gwm 505 (by decide +kernel) (by decide +kernel)
theorem gw506 : Cond.fieldLink RX5 91 "LetterLocksLaw$Lock" "isLost" "Z" ∈ GW := gwm 506 (by decide +kernel) (by decide +kernel)
theorem gw507 : Cond.fieldLink RX4 22 "LetterLocksLaw$Lock" "rack" "I" ∈ GW := gwm 507 (by decide +kernel) (by decide +kernel)
theorem gw508 : Cond.fieldLink RX5 33 "LetterLocksLaw$Lock" "rack" "I" ∈ GW := gwm 508 (by decide +kernel) (by decide +kernel)
theorem gw509 : Cond.fieldLink RL 91 "LetterLocksLaw$Lock" "rack" "I" ∈ GW := gwm 509 (by decide +kernel) (by decide +kernel)
theorem gw523 : Cond.methodLink RL 24 yL_letters ∈ GW := gwm 523 (by decide +kernel) (by decide +kernel)
theorem gw524 : Cond.static yL_letters ∈ GW := gwm 524 (by decide +kernel) (by decide +kernel)
theorem gw525 : Cond.code yL_letters cL_letters 1 (Option.some (Jvm.ClassFile.FieldType.array Jvm.ClassFile.FieldType.int)) ∈ GW := gwm 525 (by decide +kernel) (by decide +kernel)
theorem gw526 : Cond.methodLink RL 35 yX3_lock ∈ GW := gwm 526 (by decide +kernel) (by decide +kernel)
theorem gw527 : Cond.instanceMethod yX3_lock ∈ GW := gwm 527 (by decide +kernel) (by decide +kernel)
theorem gw528 : Cond.selects RX3 yX3_lock yX3_lock ∈ GW := gwm 528 (by decide +kernel) (by decide +kernel)
theorem gw529 : Cond.code yX3_lock cX3_lock 2 (Option.some Jvm.ClassFile.FieldType.int) ∈ GW := gwm 529 (by decide +kernel) (by decide +kernel)
theorem gw530 : Cond.classLink RX3 53 "java/lang/IllegalStateException" ∈ GW := gwm 530 (by decide +kernel) (by decide +kernel)
theorem gw531 : Cond.instantiable "java/lang/IllegalStateException" 6 ∈ GW := gwm 531 (by decide +kernel) (by decide +kernel)
theorem nw532 : Cond.castable "java/lang/IllegalStateException" "java/lang/IllegalStateException" ∈ NW := nwm 532 (by decide +kernel) (by decide +kernel)
theorem gw533 : Cond.selects "java/lang/IllegalStateException" ⟨"java/lang/Throwable", "fillInStackTrace", "(I)Ljava/lang/Throwable;"⟩ ⟨"java/lang/Throwable", "fillInStackTrace", "(I)Ljava/lang/Throwable;"⟩ ∈ GW := gwm 533 (by decide +kernel) (by decide +kernel)
theorem gw540 : Cond.methodLink RX3 57 ⟨"java/lang/IllegalStateException", "<init>", "(Ljava/lang/String;)V"⟩ ∈ GW := gwm 540 (by decide +kernel) (by decide +kernel)
theorem gw541 : Cond.instanceMethod ⟨"java/lang/IllegalStateException", "<init>", "(Ljava/lang/String;)V"⟩ ∈ GW := gwm 541 (by decide +kernel) (by decide +kernel)
theorem gw543 : Cond.methodLink "java/lang/IllegalStateException" 7 ⟨"java/lang/RuntimeException", "<init>", "(Ljava/lang/String;)V"⟩ ∈ GW := gwm 543 (by decide +kernel) (by decide +kernel)
theorem gw546 : Cond.methodLink RX3 60 yJx4a65c_add_9ea2d ∈ GW := gwm 546 (by decide +kernel) (by decide +kernel)
theorem gw547 : Cond.instanceMethod yJx4a65c_add_9ea2d ∈ GW := gwm 547 (by decide +kernel) (by decide +kernel)
theorem gw548 : Cond.selects RJx4a65c yJx4a65c_add_9ea2d yJx4a65c_add_9ea2d ∈ GW := gwm 548 (by decide +kernel) (by decide +kernel)
theorem gw549 : Cond.code yJx4a65c_add_9ea2d cJx4a65c_add_9ea2d 2 (Option.some Jvm.ClassFile.FieldType.boolean) ∈ GW := gwm 549 (by decide +kernel) (by decide +kernel)
theorem gw550 : Cond.methodLink RJx4a65c 131 yJx4a65c_add_72be8 ∈ GW := gwm 550 (by decide +kernel) (by decide +kernel)
theorem gw552 : Cond.instanceMethod yJx4a65c_add_72be8 ∈ GW := gwm 552 (by decide +kernel) (by decide +kernel)
theorem gw553 : Cond.code yJx4a65c_add_72be8 cJx4a65c_add_72be8 4 (Option.none : Option Jvm.ClassFile.FieldType) ∈ GW := gwm 553 (by decide +kernel) (by decide +kernel)
theorem gw554 : Cond.methodLink RJx4a65c 129 yJx4a65c_grow_d5877 ∈ GW := gwm 554 (by decide +kernel) (by decide +kernel)
theorem gw556 : Cond.instanceMethod yJx4a65c_grow_d5877 ∈ GW := gwm 556 (by decide +kernel) (by decide +kernel)
theorem gw557 : Cond.code yJx4a65c_grow_d5877 cJx4a65c_grow_d5877 1 (Option.some (Jvm.ClassFile.FieldType.array (Jvm.ClassFile.FieldType.object "java/lang/Object"))) ∈ GW := gwm 557 (by decide +kernel) (by decide +kernel)
theorem gw558 : Cond.methodLink RJx4a65c 69 yJx4a65c_grow_92f84 ∈ GW := gwm 558 (by decide +kernel) (by decide +kernel)
theorem gw560 : Cond.instanceMethod yJx4a65c_grow_92f84 ∈ GW := gwm 560 (by decide +kernel) (by decide +kernel)
theorem gw561 : Cond.code yJx4a65c_grow_92f84 cJx4a65c_grow_92f84 4 (Option.some (Jvm.ClassFile.FieldType.array (Jvm.ClassFile.FieldType.object "java/lang/Object"))) ∈ GW := gwm 561 (by decide +kernel) (by decide +kernel)
theorem gw562 : Cond.methodLink RJx4a65c 73 yJ8_newLength_cabcc ∈ GW := gwm 562 (by decide +kernel) (by decide +kernel)
theorem gw563 : Cond.static yJ8_newLength_cabcc ∈ GW := gwm 563 (by decide +kernel) (by decide +kernel)
theorem gw564 : Cond.code yJ8_newLength_cabcc cJ8_newLength_cabcc 4 (Option.some Jvm.ClassFile.FieldType.int) ∈ GW := gwm 564 (by decide +kernel) (by decide +kernel)
theorem gw565 : Cond.methodLink RJ8 194 Lib.Math.max.name ∈ GW := gwm 565 (by decide +kernel) (by decide +kernel)
theorem gw566 : Cond.static Lib.Math.max.name ∈ GW := gwm 566 (by decide +kernel) (by decide +kernel)
theorem gw567 : Cond.code Lib.Math.max.name Lib.Math.max.code 2 (Option.some Jvm.ClassFile.FieldType.int) ∈ GW := gwm 567 (by decide +kernel) (by decide +kernel)
theorem gw569 : Cond.methodLink RJ8 201 yJ8_hugeLength_7cf53 ∈ GW := gwm 569 (by decide +kernel) (by decide +kernel)
theorem gw570 : Cond.static yJ8_hugeLength_7cf53 ∈ GW := gwm 570 (by decide +kernel) (by decide +kernel)
theorem gw571 : Cond.code yJ8_hugeLength_7cf53 cJ8_hugeLength_7cf53 3 (Option.some Jvm.ClassFile.FieldType.int) ∈ GW := gwm 571 (by decide +kernel) (by decide +kernel)
theorem gw572 : Cond.methodLink RJx4a65c 66 yJ7_copyOf_1904c ∈ GW := gwm 572 (by decide +kernel) (by decide +kernel)
theorem gw573 : Cond.static yJ7_copyOf_1904c ∈ GW := gwm 573 (by decide +kernel) (by decide +kernel)
theorem gw574 : Cond.code yJ7_copyOf_1904c cJ7_copyOf_1904c 2 (Option.some (Jvm.ClassFile.FieldType.array (Jvm.ClassFile.FieldType.object "java/lang/Object"))) ∈ GW := gwm 574 (by decide +kernel) (by decide +kernel)
theorem gw575 : Cond.methodLink RJ7 86 ⟨"java/lang/Object", "getClass", "()Ljava/lang/Class;"⟩ ∈ GW := gwm 575 (by decide +kernel) (by decide +kernel)
theorem gw576 : Cond.instanceMethod ⟨"java/lang/Object", "getClass", "()Ljava/lang/Class;"⟩ ∈ GW := gwm 576 (by decide +kernel) (by decide +kernel)
theorem gw578 : Cond.selects RX3 ⟨"java/lang/Object", "getClass", "()Ljava/lang/Class;"⟩ ⟨"java/lang/Object", "getClass", "()Ljava/lang/Class;"⟩ ∈ GW := gwm 578 (by decide +kernel) (by decide +kernel)
theorem gw579 : Cond.selects RX0 ⟨"java/lang/Object", "getClass", "()Ljava/lang/Class;"⟩ ⟨"java/lang/Object", "getClass", "()Ljava/lang/Class;"⟩ ∈ GW := gwm 579 (by decide +kernel) (by decide +kernel)
theorem gw580 : Cond.selects RX1 ⟨"java/lang/Object", "getClass", "()Ljava/lang/Class;"⟩ ⟨"java/lang/Object", "getClass", "()Ljava/lang/Class;"⟩ ∈ GW := gwm 580 (by decide +kernel) (by decide +kernel)
theorem gw581 : Cond.selects RX2 ⟨"java/lang/Object", "getClass", "()Ljava/lang/Class;"⟩ ⟨"java/lang/Object", "getClass", "()Ljava/lang/Class;"⟩ ∈ GW := gwm 581 (by decide +kernel) (by decide +kernel)
theorem gw582 : Cond.selects RX4 ⟨"java/lang/Object", "getClass", "()Ljava/lang/Class;"⟩ ⟨"java/lang/Object", "getClass", "()Ljava/lang/Class;"⟩ ∈ GW := gwm 582 (by decide +kernel) (by decide +kernel)
theorem gw583 : Cond.selects RX5 ⟨"java/lang/Object", "getClass", "()Ljava/lang/Class;"⟩ ⟨"java/lang/Object", "getClass", "()Ljava/lang/Class;"⟩ ∈ GW := gwm 583 (by decide +kernel) (by decide +kernel)
theorem gw584 : Cond.selects "java/lang/IllegalArgumentException" ⟨"java/lang/Object", "getClass", "()Ljava/lang/Class;"⟩ ⟨"java/lang/Object", "getClass", "()Ljava/lang/Class;"⟩ ∈ GW := gwm 584 (by decide +kernel) (by decide +kernel)
theorem gw585 : Cond.selects "java/lang/IllegalStateException" ⟨"java/lang/Object", "getClass", "()Ljava/lang/Class;"⟩ ⟨"java/lang/Object", "getClass", "()Ljava/lang/Class;"⟩ ∈ GW := gwm 585 (by decide +kernel) (by decide +kernel)
theorem gw586 : Cond.selects "java/lang/IndexOutOfBoundsException" ⟨"java/lang/Object", "getClass", "()Ljava/lang/Class;"⟩ ⟨"java/lang/Object", "getClass", "()Ljava/lang/Class;"⟩ ∈ GW := gwm 586 (by decide +kernel) (by decide +kernel)
theorem gw587 : Cond.selects RJx4a65c ⟨"java/lang/Object", "getClass", "()Ljava/lang/Class;"⟩ ⟨"java/lang/Object", "getClass", "()Ljava/lang/Class;"⟩ ∈ GW := gwm 587 (by decide +kernel) (by decide +kernel)
theorem gw588 : Cond.native ⟨"java/lang/Object", "getClass", "()Ljava/lang/Class;"⟩ ∈ GW := gwm 588 (by decide +kernel) (by decide +kernel)
theorem gw589 : Cond.methodLink RJ7 300 yJ7_copyOf_6403c ∈ GW := gwm 589 (by decide +kernel) (by decide +kernel)
theorem gw590 : Cond.static yJ7_copyOf_6403c ∈ GW := gwm 590 (by decide +kernel) (by decide +kernel)
theorem gw591 : Cond.code yJ7_copyOf_6403c cJ7_copyOf_6403c 4 (Option.some (Jvm.ClassFile.FieldType.array (Jvm.ClassFile.FieldType.object "java/lang/Object"))) ∈ GW := gwm 591 (by decide +kernel) (by decide +kernel)
theorem gw592 : Cond.classLink RJ7 110 "[Ljava/lang/Object;" ∈ GW := gwm 592 (by decide +kernel) (by decide +kernel)
theorem gw594 : Cond.classLink RJ7 2 "java/lang/Object" ∈ GW := gwm 594 (by decide +kernel) (by decide +kernel)
theorem gw595 : Cond.methodLink RJ7 304 Lib.Math.min.name ∈ GW := gwm 595 (by decide +kernel) (by decide +kernel)
theorem gw596 : Cond.methodLink RJ7 150 arraycopyName ∈ GW := gwm 596 (by decide +kernel) (by decide +kernel)
theorem gw597 : Cond.static arraycopyName ∈ GW := gwm 597 (by decide +kernel) (by decide +kernel)
theorem gw598 : Cond.native arraycopyName ∈ GW := gwm 598 (by decide +kernel) (by decide +kernel)
theorem gw599 : Cond.methodLink RJx4a65c 79 Lib.Math.max.name ∈ GW := gwm 599 (by decide +kernel) (by decide +kernel)
theorem gw600 : Cond.classLink RJx4a65c 7 "java/lang/Object" ∈ GW := gwm 600 (by decide +kernel) (by decide +kernel)
theorem gw601 : Cond.methodLink RL 44 yL_far ∈ GW := gwm 601 (by decide +kernel) (by decide +kernel)
theorem gw602 : Cond.static yL_far ∈ GW := gwm 602 (by decide +kernel) (by decide +kernel)
theorem gw603 : Cond.code yL_far cL_far 3 (Option.some Jvm.ClassFile.FieldType.int) ∈ GW := gwm 603 (by decide +kernel) (by decide +kernel)
theorem gw604 : Cond.methodLink RL 63 yX4_shut ∈ GW := gwm 604 (by decide +kernel) (by decide +kernel)
theorem gw605 : Cond.methodLink RL 66 yX3_shut ∈ GW := gwm 605 (by decide +kernel) (by decide +kernel)
theorem gw606 : Cond.instanceMethod yX3_shut ∈ GW := gwm 606 (by decide +kernel) (by decide +kernel)
theorem gw607 : Cond.selects RX3 yX3_shut yX3_shut ∈ GW := gwm 607 (by decide +kernel) (by decide +kernel)
theorem gw608 : Cond.code yX3_shut cX3_shut 3 (Option.some Jvm.ClassFile.FieldType.int) ∈ GW := gwm 608 (by decide +kernel) (by decide +kernel)
theorem gw609 : Cond.methodLink RX3 102 yX3_requireOpen ∈ GW := gwm 609 (by decide +kernel) (by decide +kernel)
theorem gw610 : Cond.static yX3_requireOpen ∈ GW := gwm 610 (by decide +kernel) (by decide +kernel)
theorem gw611 : Cond.code yX3_requireOpen cX3_requireOpen 1 (Option.none : Option Jvm.ClassFile.FieldType) ∈ GW := gwm 611 (by decide +kernel) (by decide +kernel)
theorem gw613 : Cond.methodLink RL 71 yX3_rename ∈ GW := gwm 613 (by decide +kernel) (by decide +kernel)
theorem gw614 : Cond.instanceMethod yX3_rename ∈ GW := gwm 614 (by decide +kernel) (by decide +kernel)
theorem gw615 : Cond.selects RX3 yX3_rename yX3_rename ∈ GW := gwm 615 (by decide +kernel) (by decide +kernel)
theorem gw616 : Cond.code yX3_rename cX3_rename 5 (Option.some Jvm.ClassFile.FieldType.int) ∈ GW := gwm 616 (by decide +kernel) (by decide +kernel)
theorem gw617 : Cond.methodLink RL 74 yX3_lose ∈ GW := gwm 617 (by decide +kernel) (by decide +kernel)
theorem gw618 : Cond.instanceMethod yX3_lose ∈ GW := gwm 618 (by decide +kernel) (by decide +kernel)
theorem gw619 : Cond.selects RX3 yX3_lose yX3_lose ∈ GW := gwm 619 (by decide +kernel) (by decide +kernel)
theorem gw620 : Cond.code yX3_lose cX3_lose 5 (Option.some Jvm.ClassFile.FieldType.boolean) ∈ GW := gwm 620 (by decide +kernel) (by decide +kernel)
theorem gw621 : Cond.methodLink RL 78 yX5_in ∈ GW := gwm 621 (by decide +kernel) (by decide +kernel)
theorem gw622 : Cond.methodLink RL 85 yX3_setPlaces ∈ GW := gwm 622 (by decide +kernel) (by decide +kernel)
theorem gw623 : Cond.instanceMethod yX3_setPlaces ∈ GW := gwm 623 (by decide +kernel) (by decide +kernel)
theorem gw624 : Cond.selects RX3 yX3_setPlaces yX3_setPlaces ∈ GW := gwm 624 (by decide +kernel) (by decide +kernel)
theorem gw625 : Cond.code yX3_setPlaces cX3_setPlaces 5 (Option.some Jvm.ClassFile.FieldType.int) ∈ GW := gwm 625 (by decide +kernel) (by decide +kernel)
theorem gw628 : Cond.methodLink RL 88 yX3_setHours ∈ GW := gwm 628 (by decide +kernel) (by decide +kernel)
theorem gw629 : Cond.instanceMethod yX3_setHours ∈ GW := gwm 629 (by decide +kernel) (by decide +kernel)
theorem gw630 : Cond.selects RX3 yX3_setHours yX3_setHours ∈ GW := gwm 630 (by decide +kernel) (by decide +kernel)
theorem gw631 : Cond.code yX3_setHours cX3_setHours 6 (Option.some Jvm.ClassFile.FieldType.int) ∈ GW := gwm 631 (by decide +kernel) (by decide +kernel)
theorem gw633 : Cond.methodLink RL 94 yX5_isOpen ∈ GW := gwm 633 (by decide +kernel) (by decide +kernel)
theorem gw634 : Cond.methodLink RL 96 yX3_put ∈ GW := gwm 634 (by decide +kernel) (by decide +kernel)
theorem gw635 : Cond.instanceMethod yX3_put ∈ GW := gwm 635 (by decide +kernel) (by decide +kernel)
theorem gw636 : Cond.selects RX3 yX3_put yX3_put ∈ GW := gwm 636 (by decide +kernel) (by decide +kernel)
theorem gw637 : Cond.code yX3_put cX3_put 5 (Option.some Jvm.ClassFile.FieldType.int) ∈ GW := gwm 637 (by decide +kernel) (by decide +kernel)
theorem gw638 : Cond.methodLink RX3 145 yX3_takesAnother ∈ GW := gwm 638 (by decide +kernel) (by decide +kernel)
theorem gw640 : Cond.instanceMethod yX3_takesAnother ∈ GW := gwm 640 (by decide +kernel) (by decide +kernel)
theorem gw641 : Cond.code yX3_takesAnother cX3_takesAnother 2 (Option.some Jvm.ClassFile.FieldType.boolean) ∈ GW := gwm 641 (by decide +kernel) (by decide +kernel)
theorem gw643 : Cond.methodLink RL 115 yL_build ∈ GW := gwm 643 (by decide +kernel) (by decide +kernel)
theorem gw644 : Cond.static yL_build ∈ GW := gwm 644 (by decide +kernel) (by decide +kernel)
theorem gw645 : Cond.code yL_build cL_build 4 (Option.some (Jvm.ClassFile.FieldType.object "LetterLocksLaw$Sim")) ∈ GW := gwm 645 (by decide +kernel) (by decide +kernel)
theorem gw646 : Cond.classLink RL 10 RX5 ∈ GW := gwm 646 (by decide +kernel) (by decide +kernel)
theorem gw647 : Cond.instantiable RX5 4 ∈ GW := gwm 647 (by decide +kernel) (by decide +kernel)
theorem nw648 : Cond.methodLinkNest RL 99 yX5_init "LetterLocksLaw" ∈ NW := nwm 648 (by decide +kernel) (by decide +kernel)
theorem gw649 : Cond.instanceMethod yX5_init ∈ GW := gwm 649 (by decide +kernel) (by decide +kernel)
theorem gw650 : Cond.code yX5_init cX5_init 1 (Option.none : Option Jvm.ClassFile.FieldType) ∈ GW := gwm 650 (by decide +kernel) (by decide +kernel)
theorem gw651 : Cond.methodLink RX5 1 objectInit ∈ GW := gwm 651 (by decide +kernel) (by decide +kernel)
theorem gw652 : Cond.classLink RX5 7 RX4 ∈ GW := gwm 652 (by decide +kernel) (by decide +kernel)
theorem gw653 : Cond.classLink RX5 15 "[I" ∈ GW := gwm 653 (by decide +kernel) (by decide +kernel)
theorem gw654 : Cond.fieldLink RX5 22 "LetterLocksLaw$Sim" "hour" "I" ∈ GW := gwm 654 (by decide +kernel) (by decide +kernel)
theorem gw655 : Cond.fieldLink RL 47 "LetterLocksLaw$Sim" "turns" "I" ∈ GW := gwm 655 (by decide +kernel) (by decide +kernel)
theorem gw656 : Cond.fieldLink RX5 26 "LetterLocksLaw$Sim" "turns" "I" ∈ GW := gwm 656 (by decide +kernel) (by decide +kernel)
theorem gw657 : Cond.fieldLink RX5 9 "LetterLocksLaw$Sim" "locks" "[LLetterLocksLaw$Lock;" ∈ GW := gwm 657 (by decide +kernel) (by decide +kernel)
theorem gw658 : Cond.fieldLink RL 9 "LetterLocksLaw$Sim" "locks" "[LLetterLocksLaw$Lock;" ∈ GW := gwm 658 (by decide +kernel) (by decide +kernel)
theorem gw659 : Cond.fieldLink RX5 17 "LetterLocksLaw$Sim" "racks" "[[I" ∈ GW := gwm 659 (by decide +kernel) (by decide +kernel)
theorem gw660 : Cond.fieldLink RL 81 "LetterLocksLaw$Sim" "racks" "[[I" ∈ GW := gwm 660 (by decide +kernel) (by decide +kernel)
theorem nw671 : Cond.castable RX1 "java/lang/Object" ∈ NW := nwm 671 (by decide +kernel) (by decide +kernel)
theorem nw672 : Cond.castable RX4 "java/lang/Object" ∈ NW := nwm 672 (by decide +kernel) (by decide +kernel)
theorem nw673 : Cond.castable RX3 "java/lang/Object" ∈ NW := nwm 673 (by decide +kernel) (by decide +kernel)
theorem nw674 : Cond.castable RJx4a65c "java/lang/Object" ∈ NW := nwm 674 (by decide +kernel) (by decide +kernel)
theorem nw675 : Cond.castable RX2 "java/lang/Object" ∈ NW := nwm 675 (by decide +kernel) (by decide +kernel)
theorem nw676 : Cond.castable RX0 "java/lang/Object" ∈ NW := nwm 676 (by decide +kernel) (by decide +kernel)
theorem nw677 : Cond.castable RX5 "java/lang/Object" ∈ NW := nwm 677 (by decide +kernel) (by decide +kernel)
theorem nw678 : Cond.castable "java/lang/IllegalArgumentException" "java/lang/Object" ∈ NW := nwm 678 (by decide +kernel) (by decide +kernel)
theorem nw679 : Cond.castable "java/lang/IllegalStateException" "java/lang/Object" ∈ NW := nwm 679 (by decide +kernel) (by decide +kernel)
theorem nw680 : Cond.castable "java/lang/IndexOutOfBoundsException" "java/lang/Object" ∈ NW := nwm 680 (by decide +kernel) (by decide +kernel)
theorem nw681 : Cond.castable "java/lang/Throwable" "java/lang/Object" ∈ NW := nwm 681 (by decide +kernel) (by decide +kernel)
theorem nw682 : Cond.castable RJ0 "java/lang/Object" ∈ NW := nwm 682 (by decide +kernel) (by decide +kernel)
theorem gw684 : Cond.selects "[Ljava/lang/Object;" ⟨"java/lang/Object", "getClass", "()Ljava/lang/Class;"⟩ ⟨"java/lang/Object", "getClass", "()Ljava/lang/Class;"⟩ ∈ GW := gwm 684 (by decide +kernel) (by decide +kernel)
theorem nw685 : Cond.declares ⟨"java/lang/Object", "getClass", "()Ljava/lang/Class;"⟩ ∈ NW := nwm 685 (by decide +kernel) (by decide +kernel)
theorem nw686 : Cond.castable "[LLetterLocks$Rack;" "java/lang/Object" ∈ NW := nwm 686 (by decide +kernel) (by decide +kernel)
theorem nw687 : Cond.castable "[[I" "java/lang/Object" ∈ NW := nwm 687 (by decide +kernel) (by decide +kernel)
theorem nw688 : Cond.castable "[I" "java/lang/Object" ∈ NW := nwm 688 (by decide +kernel) (by decide +kernel)
theorem nw689 : Cond.castable "[B" "java/lang/Object" ∈ NW := nwm 689 (by decide +kernel) (by decide +kernel)
theorem nw690 : Cond.castable "[LLetterLocksLaw$Lock;" "java/lang/Object" ∈ NW := nwm 690 (by decide +kernel) (by decide +kernel)
theorem nw691 : Cond.castable "[Ljava/lang/Object;" "java/lang/Object" ∈ NW := nwm 691 (by decide +kernel) (by decide +kernel)
theorem gwSF : Cond.sameField "java/util/ArrayList" "java/util/AbstractList" "modCount" "I" ∈ GW := gwm 68 (by decide +kernel) (by decide +kernel)
theorem gw478 : (Cond.constant "LetterLocksLaw" (7 : Nat) (2147483647 : Int32)) ∈ GW := gwm 478 (by decide +kernel) (by decide +kernel)
theorem gw482 : (Cond.constant "LetterLocksLaw" (8 : Nat) (790386105 : Int32)) ∈ GW := gwm 482 (by decide +kernel) (by decide +kernel)
theorem gw568 : (Cond.constant "jdk/internal/util/ArraysSupport" (200 : Nat) (2147483639 : Int32)) ∈ GW := gwm 568 (by decide +kernel) (by decide +kernel)
theorem gw108 : Cond.arrayClass Jvm.ClassFile.FieldType.int ∈ GW := gwm 108 (by decide +kernel) (by decide +kernel)
theorem gw236 : Cond.arrayClass Jvm.ClassFile.FieldType.byte ∈ GW := gwm 236 (by decide +kernel) (by decide +kernel)
theorem iX0 : ∀ w ∈ wsX00, w ∈ GW := by decide +kernel
theorem iX1 : ∀ w ∈ wsX10, w ∈ GW := by decide +kernel
theorem iX2 : ∀ w ∈ wsX20, w ∈ GW := by decide +kernel
theorem iX3 : ∀ w ∈ wsX30, w ∈ GW := by decide +kernel
theorem iX4 : ∀ w ∈ wsX40, w ∈ GW := by decide +kernel
theorem iX5 : ∀ w ∈ wsX50, w ∈ GW := by decide +kernel
theorem iJx4a65c : ∀ w ∈ wsJx4a65c0, w ∈ GW := by decide +kernel
end
section
/-! THE LAYER: a walk's fixed things in one tuple, its heap facts in one judgement -/
abbrev Ctx : Type := Program × Launch × Env × Room × State × MethodId × Array Value × List Frame × Method × Code × va_G × (Nat → ClassId) × (Nat → Nat) × (Nat → Prop) × Nat × (State → Prop)
/-- the array classes: of int, of Rack, of Object, of int[], of the law's Lock -/
abbrev TY (ct : Nat → ClassId) : List (ClassId × FieldType) := [(ct 0, .int), (ct 1, .object "LetterLocks$Rack"), (ct 2, .object "java/lang/Object"), (ct 3, .array .int), (ct 4, .object "LetterLocksLaw$Lock")]
theorem va_AOA.moved {ty : FieldType} {u U : State} (hvm : u.vm.Alike U.vm) (h : va_AOA ty u) : va_AOA ty U := by
  have h0 : (Cond.arrayOver (.array ty)).holds #[] u none u [] = true := h
  simp only [Cond.holds, Cond.value, beq_iff_eq] at h0
  show (Cond.arrayOver (.array ty)).holds #[] U none U [] = true
  simp only [Cond.holds, Cond.value, beq_iff_eq]
  cases hc : u.vm.findClass (FieldType.array ty).toString with
  | none => simp [hc] at h0
  | some comp =>
    simp only [hc, Option.bind_some, Option.bind_eq_some_iff, Option.map_eq_some_iff] at h0
    obtain ⟨c, hi, k, hk, hb⟩ := h0
    obtain ⟨k', hk', he⟩ := hvm.2.2 _ _ hk
    have hi' : (U.vm.classes.findIdx? fun (x : Class) => match x.kind with | .array component _ => component == comp | _ => false) = some c := by
      refine (va_idx_bare U.vm comp).symm.trans ?_
      have e : U.vm.bare = u.vm.bare := by first | exact hvm.bare_eq | exact hvm.bare_eq.symm
      rw [e]
      exact (va_idx_bare u.vm comp).trans hi
    have hkind : k'.kind = k.kind := by rw [he]
    rw [show U.vm.findClass (FieldType.array ty).toString = some comp by rw [hvm.findClass]; exact hc]
    rw [Option.bind_some]
    refine (congrArg (fun o : Option Nat => o.bind (fun c => (U.vm.classes[c]?).map fun (k : Class) => match k.kind with | .array _ t2 => decide (t2 = FieldType.array ty) && decide (U.vm.findClass ("[" ++ (FieldType.array ty).toString) = some c) | _ => false)) hi').trans ?_
    simp only [Option.bind_some]
    rw [hk', Option.map_some, hkind, hvm.findClass]
    exact congrArg some hb
abbrev STRS : List (Nat × String) := [(226, "no such lock"), (176, "what is 0 to 6"), (139, "no such rack"), (153, "what is 0 to 5"), (231, "no such ring"), (77, "no such letter"), (233, "no such word"), (55, "there are 8 locks"), (237, "the lock is shut"), (116, "places are 1 to 6"), (121, "more locks are in the rack"), (126, "hours are 0 to 23 and 0 to 24"), (148, "the rack is not open, or full"), (235, "hours are 1 to 99")]
abbrev scB (sa : Nat → Nat) : Nat := sa 1
abbrev scL (sa : Nat → Nat) : Nat := sa 2
abbrev scX (sa : Nat → Nat) (j : Nat) : Int32 := Int32.ofNat (sa (1000 + j))
/-- the law's script, an array that nobody writes; its place, length and numbers are kept by sa -/
def SCR (sa : Nat → Nat) (A : Nat → Prop) (U : State) (H : Heap) : Prop := va_X (scB sa) (scL sa) (scX sa) U H ∧ scB sa < H.size ∧ ¬ A (scB sa) ∧ scL sa ≤ 260
theorem SCR.moved {sa : Nat → Nat} {A : Nat → Prop} {u U : State} {H : Heap} (hvm : u.vm.Alike U.vm) (h : SCR sa A u H) : SCR sa A U H := ⟨h.1.moved hvm, h.2⟩
theorem SCR.kept {sa : Nat → Nat} {A : Nat → Prop} {U : State} {H H1 : Heap} (h : SCR sa A U H) (hq : ∀ a : Nat, a < H.size → ¬ A a → H1[a]? = H[a]?) : SCR sa A U H1 := by
  obtain ⟨h1, h2, h3, h4⟩ := h
  have e := hq _ h2 h3
  refine ⟨h1.kept e, ?_, h3, h4⟩
  obtain ⟨scr, hs, -⟩ := h1
  exact (Array.getElem?_eq_some_iff.mp (e.trans hs)).1
theorem SCR.narrow {sa : Nat → Nat} {A B : Nat → Prop} {U : State} {H : Heap} (h : SCR sa A U H) (hAB : ∀ q, B q → A q) : SCR sa B U H := ⟨h.1, h.2.1, fun z => h.2.2.1 (hAB _ z), h.2.2.2⟩
/-- what a walk may ask beside the good words: members of nest mates, texts, classes of arrays, statics outside A -/
def EX (sa : Nat → Nat) (A : Nat → Prop) (U : State) (H : Heap) : Prop :=
  (∀ w ∈ NW, va_Nw w U) ∧ (∀ q ∈ STRS, vk_R "LetterLocks" q.1 q.2 (sa q.1) U) ∧ va_AO "LetterLocks$Rack" U ∧ va_AOA .int U ∧ va_AO "java/lang/Object" U ∧
  vx_Zq Bundle.tN "UNASSIGNED_STACK" Bundle.steD A U H ∧ vx_Zq Bundle.tN "SUPPRESSED_SENTINEL" Bundle.listD A U H ∧
  va_Z "java/util/ArrayList" "DEFAULTCAPACITY_EMPTY_ELEMENTDATA" "[Ljava/lang/Object;" (.ref (sa 0)) A U H ∧ va_T (.object "java/lang/Object") (sa 0) 0 (fun _ => .null) A U H ∧
  va_AO "LetterLocksLaw$Lock" U ∧ SCR sa A U H
theorem EX.moved {sa : Nat → Nat} {A : Nat → Prop} {s U : State} {H : Heap} (hW : s.WarmedH U.vm) (h : EX sa A s H) : EX sa A U H := by
  obtain ⟨h1, h2, h3, h4, h5, h6, h7, h8, h9, h10, h11⟩ := h
  exact ⟨fun w hw => nw_warm (List.mem_filter.mp hw).2 hW (h1 w hw), fun q hq => vk_R.warm hW (h2 q hq), h3.moved hW.alike, h4.moved hW.alike, h5.moved hW.alike, h6.moved hW.alike, h7.moved hW.alike, h8.moved hW.alike, h9.moved hW.alike, h10.moved hW.alike, h11.moved hW.alike⟩
theorem EX.kept {sa : Nat → Nat} {A : Nat → Prop} {U : State} {H H1 : Heap} (h : EX sa A U H) (hq : ∀ a : Nat, a < H.size → ¬ A a → H1[a]? = H[a]?) : EX sa A U H1 := by
  obtain ⟨h1, h2, h3, h4, h5, h6, h7, h8, h9, h10, h11⟩ := h
  exact ⟨h1, h2, h3, h4, h5, h6.kept hq, h7.kept hq, h8.kept hq, h9.kept hq, h10, h11.kept hq⟩
theorem EX.narrow {sa : Nat → Nat} {A B : Nat → Prop} {U : State} {H : Heap} (h : EX sa A U H) (hAB : ∀ q, B q → A q) : EX sa B U H := by
  obtain ⟨h1, h2, h3, h4, h5, h6, h7, h8, h9, h10, h11⟩ := h
  exact ⟨h1, h2, h3, h4, h5, h6.narrow hAB, h7.narrow hAB, h8.narrow hAB, h9.narrow hAB, h10, h11.narrow hAB⟩
def J (X : Ctx) (ws : va_W) (k n pc : Nat) (lv : List (Nat × Value)) (st : List Value) : Prop :=
  match X with
  | (p, l0, e, R, s, m, args, below, meth, c, D0, ct0, sa0, A, nL, Q) =>
    ∀ (H : Heap) (locs : List Loc) (ls : Array Slot), va_P D0 vwCl ws H → va_D A ws → va_S A s.heap H locs → lv_has ls nL lv → W p l0 e R s m args below meth c H locs k n Q (F0 m pc ls st)
def jC (X : Ctx) (l : Launch) (D : va_G) (ct : Nat → ClassId) (sa : Nat → Nat) (cc : ByteArray) (nL1 : Nat) (own : String) (R0 : Room) : Prop :=
  match X with
  | (p, l0, e, R, s, m, args, below, meth, c, D0, ct0, sa0, A, nL, Q) =>
    p.tables.exec = Jvm.exec ∧ c.code = cc ∧ c.maxLocals = nL ∧ s.vm.findClass own = some m.cls ∧ (∀ w ∈ GW, w.before args s = true) ∧ va_K D vwCl (TY ct) s ∧ (∀ q, s.heap.size ≤ q → A q) ∧ meth.locks = false ∧ EX sa A s s.heap ∧
    R = R0 ∧ l0 = l ∧ D0 = D ∧ ct0 = ct ∧ sa0 = sa ∧ nL = nL1
/-- the world that a contract begins with -/
def jPre (D : va_G) (ct : Nat → ClassId) (sa : Nat → Nat) (sz : Nat) (ws : va_W) (U : State) : Prop := U.heap.size = sz ∧ va_P D vwCl ws U.heap ∧ va_K D vwCl (TY ct) U ∧ va_D (fun _ => True) ws ∧ EX sa (va_A ws sz) U U.heap
def jW (D : va_G) (ct : Nat → ClassId) (sz : Nat) (ws w : va_W) (t : State) : Prop := va_P D vwCl w t.heap ∧ va_D (va_A ws sz) w
def jQ (D : va_G) (ct : Nat → ClassId) (sz : Nat) (ws : va_W) (K : Option Value → va_W → Prop) : Array Value → State → Outcome → State → Prop := fun _ st oc t => (∃ r w, oc = .returned r ∧ K r w ∧ jW D ct sz ws w t) ∧ va_F (va_A ws sz) st t
def jX (D : va_G) (ct : Nat → ClassId) (sz : Nat) (ws : va_W) (KX : String → Prop) : String → State → State → Prop := fun E st t => (KX E ∧ jW D ct sz ws ws t) ∧ va_F (va_A ws sz) st t
def jM (l : Launch) (y : MethodName) (wl : List Cond) (rm : Room) (D : va_G) (ct : Nat → ClassId) (sa : Nat → Nat) (av : List Value) (ws : va_W) (K : Option Value → va_W → Prop) (mc ms : Nat) : Prop :=
  ∀ sz, Met l y wl rm (va_Pc av (jPre D ct sa sz ws)) (jQ D ct sz ws K) mc ms (va_A ws sz)
def jMX (l : Launch) (y : MethodName) (wl : List Cond) (rm : Room) (D : va_G) (ct : Nat → ClassId) (sa : Nat → Nat) (av : List Value) (ws : va_W) (K : Option Value → va_W → Prop) (KX : String → Prop) (mc ms : Nat) : Prop :=
  ∀ sz, vx_Met l y wl rm (va_Pc av (jPre D ct sa sz ws)) (jQ D ct sz ws K) (jX D ct sz ws KX) mc ms (va_A ws sz)
/-- what stands at a method's end -/
def jE (X : Ctx) (ws0 : va_W) (K : Option Value → va_W → Prop) (KX : String → Prop) (mc ms : Nat) (rt : Option FieldType) : Prop :=
  match X with
  | (p, l0, e, R, s, m, args, below, meth, c, D0, ct0, sa0, A, nL, Q) =>
    Q = vx_MQ below (jQ D0 ct0 s.heap.size ws0 K) (jX D0 ct0 s.heap.size ws0 KX) args s mc ms A ∧ A = va_A ws0 s.heap.size ∧ meth.sig.returnType = rt
def jT0 (X : Ctx) : Prop :=
  match X with
  | (p, l0, e, R, s, m, args, below, meth, c, D0, ct0, sa0, A, nL, Q) => ∀ x ∈ c.exceptionTable.toList, False
def jTb (X : Ctx) (hh : List (Nat × Nat × Nat × Nat)) : Prop :=
  match X with
  | (p, l0, e, R, s, m, args, below, meth, c, D0, ct0, sa0, A, nL, Q) => c.exceptionTable.toList = tableOf hh
/-- a contract that never throws is a plain one -/
theorem jMX.plain {l : Launch} {y : MethodName} {wl : List Cond} {rm : Room} {D : va_G} {ct : Nat → ClassId} {sa : Nat → Nat} {av : List Value} {ws : va_W} {K : Option Value → va_W → Prop} {mc ms : Nat} (h : jMX l y wl rm D ct sa av ws K (fun _ => False) mc ms) : jM l y wl rm D ct sa av ws K mc ms := by
  intro sz p e h1 h2 h3 s m args below h4 h5 h6 h7
  obtain ⟨n, o, a1, a2, a3, a4⟩ := h sz p e h1 h2 h3 s m args below h4 h5 h6 h7
  refine ⟨n, o, a1, a2, a3, ?_⟩
  rcases a4 with a4 | ⟨q, -, E, ce, L, ⟨⟨hx, -⟩, -⟩, -⟩
  · exact a4
  · exact hx.elim
theorem jM.weak {l : Launch} {y : MethodName} {wl : List Cond} {rm : Room} {D : va_G} {ct : Nat → ClassId} {sa : Nat → Nat} {av : List Value} {ws : va_W} {K K' : Option Value → va_W → Prop} {mc ms : Nat} (h : jM l y wl rm D ct sa av ws K mc ms) (hk : ∀ r w, K r w → K' r w) : jM l y wl rm D ct sa av ws K' mc ms := by
  intro sz p e h1 h2 h3 s m args below h4 h5 h6 h7
  obtain ⟨n, o, a1, a2, a3, ⟨⟨r, w, b1, b2, b3⟩, a5⟩, a6⟩ := h sz p e h1 h2 h3 s m args below h4 h5 h6 h7
  exact ⟨n, o, a1, a2, a3, ⟨⟨r, w, b1, hk r w b2, b3⟩, a5⟩, a6⟩

abbrev rM (f k n lo : Nat) : Room := { frames := f, cells := k, slots := n, locals := lo }
theorem jBody {l : Launch} {y : MethodName} {ws' : List Cond} {D : va_G} {ct : Nat → ClassId} {sa : Nat → Nat} {av : List Value} {ws : va_W} {K : Option Value → va_W → Prop} {KX : String → Prop} {f lo mc ms : Nat} {cc : ByteArray} {maxL : Nat} {ret : Option FieldType} {own : String}
    (hy : plainName y.cls = true) (hown : y.cls = own) (hw : ws' = GW) (hfit : (lg_sl av).length ≤ maxL)
    (body : ∀ X : Ctx, jC X l D ct sa cc maxL own (rM f mc ms lo) → jE X ws K KX mc ms ret → jT0 X → J X ws 0 0 0 (lv_args 0 av) []) : jMX l y (Cond.code y cc maxL ret :: ws') (rM f mc ms lo) D ct sa av ws K KX mc ms := by
  intro sz
  subst hw
  refine vx_ofW (cc := cc) (maxL := maxL) (ret := ret) hy rfl ?_
  intro p e s m args below meth c s₁ B hml htab hv
  obtain ⟨rfl, hsz, hP, hK, hD0, hE⟩ := hv
  have hts := atoms_spec (ws := Cond.code y cc maxL ret :: GW) B.pre
  subst hsz
  have hA : ∀ q : Nat, s.heap.size ≤ q → va_A ws s.heap.size q := fun q h => Or.inr h
  have hl := lv_entry av (n := maxL) hfit
  rw [lg_entry_eq]
  exact body (p, l, e, rM f mc ms lo, s, m, av.toArray, below, meth, c, D, ct, sa, va_A ws s.heap.size, maxL, vx_MQ below (jQ D ct s.heap.size ws K) (jX D ct s.heap.size ws KX) av.toArray s mc ms (va_A ws s.heap.size))
    ⟨B.exec, B.bytes, hml, hown ▸ findClass_of_methodNamed B.named, fun w h => hts w (List.mem_cons_of_mem _ h), hK, hA, B.notSynchronized, hE, rfl, rfl, rfl, rfl, rfl, rfl⟩
    ⟨rfl, rfl, B.returns⟩ htab s.heap [] _ hP hD0.self va_S.rf hl
theorem jBodyH {l : Launch} {y : MethodName} {ws' : List Cond} {D : va_G} {ct : Nat → ClassId} {sa : Nat → Nat} {av : List Value} {ws : va_W} {K : Option Value → va_W → Prop} {KX : String → Prop} {f lo mc ms : Nat} {cc : ByteArray} {maxL : Nat} {ret : Option FieldType} {own : String} {hh : List (Nat × Nat × Nat × Nat)}
    (hy : plainName y.cls = true) (hown : y.cls = own) (hw : ws' = GW) (hfit : (lg_sl av).length ≤ maxL)
    (body : ∀ X : Ctx, jC X l D ct sa cc maxL own (rM f mc ms lo) → jE X ws K KX mc ms ret → jTb X hh → J X ws 0 0 0 (lv_args 0 av) []) : jMX l y (Cond.codeWith y cc maxL ret hh :: ws') (rM f mc ms lo) D ct sa av ws K KX mc ms := by
  intro sz
  subst hw
  refine vx_ofWH (cc := cc) (maxL := maxL) (ret := ret) hy rfl ?_
  intro p e s m args below meth c s₁ B hml hv
  obtain ⟨rfl, hsz, hP, hK, hD0, hE⟩ := hv
  have hts := atoms_spec (ws := Cond.codeWith y cc maxL ret hh :: GW) B.pre
  subst hsz
  have hA : ∀ q : Nat, s.heap.size ≤ q → va_A ws s.heap.size q := fun q h => Or.inr h
  have hl := lv_entry av (n := maxL) hfit
  rw [lg_entry_eq]
  exact body (p, l, e, rM f mc ms lo, s, m, av.toArray, below, meth, c, D, ct, sa, va_A ws s.heap.size, maxL, vx_MQ below (jQ D ct s.heap.size ws K) (jX D ct s.heap.size ws KX) av.toArray s mc ms (va_A ws s.heap.size))
    ⟨B.exec, B.bytes, hml, hown ▸ findClass_of_methodNamed B.named, fun w h => hts w (List.mem_cons_of_mem _ h), hK, hA, B.notSynchronized, hE, rfl, rfl, rfl, rfl, rfl, rfl⟩
    ⟨rfl, rfl, B.returns⟩ (vx_table (x := y) B (hts _ List.mem_cons_self)) s.heap [] _ hP hD0.self va_S.rf hl

section JR
variable {X : Ctx} {l : Launch} {D : va_G} {ct : Nat → ClassId} {sa : Nat → Nat} {cc : ByteArray} {nL1 : Nat} {own : String} {R0 : Room} {ws : va_W} {k n pc : Nat} {lv lv' : List (Nat × Value)} {st : List Value}

theorem j_iconst (C : jC X l D ct sa cc nL1 own R0) {i : Int} {v : Int32} (d : decode cc pc = .ok (.iconst i, 1)) (hv : Int32.ofInt i = v) (kk : J X ws k n (pc + 1) lv (.int v :: st)) : J X ws k n pc lv st := by
  obtain ⟨p, l0, e, R, s, m, args, below, meth, c, D0, ct0, sa0, A, nL, Q⟩ := X
  obtain ⟨hx, hb, hml, ho, hts, hK, hA, hlk, hEX, rfl, rfl, rfl, rfl, rfl, rfl⟩ := C
  intro H locs ls hP hD hS hl
  exact lv_iconst hx hb d hv (kk H locs ls hP hD hS hl)
theorem j_bipush (C : jC X l D ct sa cc nL1 own R0) {i : Int} {v : Int32} (d : decode cc pc = .ok (.bipush i, 2)) (hv : (Int8.ofInt i).toInt32 = v) (kk : J X ws k n (pc + 2) lv (.int v :: st)) : J X ws k n pc lv st := by
  obtain ⟨p, l0, e, R, s, m, args, below, meth, c, D0, ct0, sa0, A, nL, Q⟩ := X
  obtain ⟨hx, hb, hml, ho, hts, hK, hA, hlk, hEX, rfl, rfl, rfl, rfl, rfl, rfl⟩ := C
  intro H locs ls hP hD hS hl
  exact lv_bipush hx hb d hv (kk H locs ls hP hD hS hl)
theorem j_sipush (C : jC X l D ct sa cc nL1 own R0) {i : Int} {v : Int32} (d : decode cc pc = .ok (.sipush i, 3)) (hv : (Int16.ofInt i).toInt32 = v) (kk : J X ws k n (pc + 3) lv (.int v :: st)) : J X ws k n pc lv st := by
  obtain ⟨p, l0, e, R, s, m, args, below, meth, c, D0, ct0, sa0, A, nL, Q⟩ := X
  obtain ⟨hx, hb, hml, ho, hts, hK, hA, hlk, hEX, rfl, rfl, rfl, rfl, rfl, rfl⟩ := C
  intro H locs ls hP hD hS hl
  exact lv_sipush hx hb d hv (kk H locs ls hP hD hS hl)
theorem j_lconst (C : jC X l D ct sa cc nL1 own R0) {i : Fin 2} {v : Int64} (d : decode cc pc = .ok (.lconst i, 1)) (hv : Int64.ofNat (i : Nat) = v) (kk : J X ws k n (pc + 1) lv (.long v :: st)) : J X ws k n pc lv st := by
  obtain ⟨p, l0, e, R, s, m, args, below, meth, c, D0, ct0, sa0, A, nL, Q⟩ := X
  obtain ⟨hx, hb, hml, ho, hts, hK, hA, hlk, hEX, rfl, rfl, rfl, rfl, rfl, rfl⟩ := C
  intro H locs ls hP hD hS hl
  exact lv_lconst hx hb d hv (kk H locs ls hP hD hS hl)
theorem j_iload_n (C : jC X l D ct sa cc nL1 own R0) {q : Fin 4} {i : Nat} {x : Int32} (d : decode cc pc = .ok (.iload_n q, 1)) (hi : (q : Nat) = i) (z : Nat) (hz : lv[z]? = some (i, .int x)) (kk : J X ws k n (pc + 1) lv (.int x :: st)) : J X ws k n pc lv st := by
  obtain ⟨p, l0, e, R, s, m, args, below, meth, c, D0, ct0, sa0, A, nL, Q⟩ := X
  obtain ⟨hx, hb, hml, ho, hts, hK, hA, hlk, hEX, rfl, rfl, rfl, rfl, rfl, rfl⟩ := C
  intro H locs ls hP hD hS hl
  exact lv_iload_n hx hb d hi (lv_at hl z hz) (kk H locs ls hP hD hS hl)
theorem j_iload (C : jC X l D ct sa cc nL1 own R0) {i : Nat} {x : Int32} (d : decode cc pc = .ok (.iload i, 2)) (z : Nat) (hz : lv[z]? = some (i, .int x)) (kk : J X ws k n (pc + 2) lv (.int x :: st)) : J X ws k n pc lv st := by
  obtain ⟨p, l0, e, R, s, m, args, below, meth, c, D0, ct0, sa0, A, nL, Q⟩ := X
  obtain ⟨hx, hb, hml, ho, hts, hK, hA, hlk, hEX, rfl, rfl, rfl, rfl, rfl, rfl⟩ := C
  intro H locs ls hP hD hS hl
  exact lv_iload hx hb d (lv_at hl z hz) (kk H locs ls hP hD hS hl)
theorem j_lload_n (C : jC X l D ct sa cc nL1 own R0) {q : Fin 4} {i : Nat} {x : Int64} (d : decode cc pc = .ok (.lload_n q, 1)) (hi : (q : Nat) = i) (z : Nat) (hz : lv[z]? = some (i, .long x)) (kk : J X ws k n (pc + 1) lv (.long x :: st)) : J X ws k n pc lv st := by
  obtain ⟨p, l0, e, R, s, m, args, below, meth, c, D0, ct0, sa0, A, nL, Q⟩ := X
  obtain ⟨hx, hb, hml, ho, hts, hK, hA, hlk, hEX, rfl, rfl, rfl, rfl, rfl, rfl⟩ := C
  intro H locs ls hP hD hS hl
  exact lv_lload_n hx hb d hi (lv_at hl z hz) (kk H locs ls hP hD hS hl)
theorem j_lload (C : jC X l D ct sa cc nL1 own R0) {i : Nat} {x : Int64} (d : decode cc pc = .ok (.lload i, 2)) (z : Nat) (hz : lv[z]? = some (i, .long x)) (kk : J X ws k n (pc + 2) lv (.long x :: st)) : J X ws k n pc lv st := by
  obtain ⟨p, l0, e, R, s, m, args, below, meth, c, D0, ct0, sa0, A, nL, Q⟩ := X
  obtain ⟨hx, hb, hml, ho, hts, hK, hA, hlk, hEX, rfl, rfl, rfl, rfl, rfl, rfl⟩ := C
  intro H locs ls hP hD hS hl
  exact lv_lload hx hb d (lv_at hl z hz) (kk H locs ls hP hD hS hl)
theorem j_aload_n (C : jC X l D ct sa cc nL1 own R0) {q : Fin 4} {i : Nat} {x : Nat} (d : decode cc pc = .ok (.aload_n q, 1)) (hi : (q : Nat) = i) (z : Nat) (hz : lv[z]? = some (i, .ref x)) (kk : J X ws k n (pc + 1) lv (.ref x :: st)) : J X ws k n pc lv st := by
  obtain ⟨p, l0, e, R, s, m, args, below, meth, c, D0, ct0, sa0, A, nL, Q⟩ := X
  obtain ⟨hx, hb, hml, ho, hts, hK, hA, hlk, hEX, rfl, rfl, rfl, rfl, rfl, rfl⟩ := C
  intro H locs ls hP hD hS hl
  exact lv_aload_n hx hb d hi (lv_at hl z hz) (kk H locs ls hP hD hS hl)
theorem j_aload (C : jC X l D ct sa cc nL1 own R0) {i : Nat} {x : Nat} (d : decode cc pc = .ok (.aload i, 2)) (z : Nat) (hz : lv[z]? = some (i, .ref x)) (kk : J X ws k n (pc + 2) lv (.ref x :: st)) : J X ws k n pc lv st := by
  obtain ⟨p, l0, e, R, s, m, args, below, meth, c, D0, ct0, sa0, A, nL, Q⟩ := X
  obtain ⟨hx, hb, hml, ho, hts, hK, hA, hlk, hEX, rfl, rfl, rfl, rfl, rfl, rfl⟩ := C
  intro H locs ls hP hD hS hl
  exact lv_aload hx hb d (lv_at hl z hz) (kk H locs ls hP hD hS hl)
theorem j_dload_n (C : jC X l D ct sa cc nL1 own R0) {q : Fin 4} {i : Nat} {x : UInt64} (d : decode cc pc = .ok (.dload_n q, 1)) (hi : (q : Nat) = i) (z : Nat) (hz : lv[z]? = some (i, .double x)) (kk : J X ws k n (pc + 1) lv (.double x :: st)) : J X ws k n pc lv st := by
  obtain ⟨p, l0, e, R, s, m, args, below, meth, c, D0, ct0, sa0, A, nL, Q⟩ := X
  obtain ⟨hx, hb, hml, ho, hts, hK, hA, hlk, hEX, rfl, rfl, rfl, rfl, rfl, rfl⟩ := C
  intro H locs ls hP hD hS hl
  exact lv_dload_n hx hb d hi (lv_at hl z hz) (kk H locs ls hP hD hS hl)
theorem j_dload (C : jC X l D ct sa cc nL1 own R0) {i : Nat} {x : UInt64} (d : decode cc pc = .ok (.dload i, 2)) (z : Nat) (hz : lv[z]? = some (i, .double x)) (kk : J X ws k n (pc + 2) lv (.double x :: st)) : J X ws k n pc lv st := by
  obtain ⟨p, l0, e, R, s, m, args, below, meth, c, D0, ct0, sa0, A, nL, Q⟩ := X
  obtain ⟨hx, hb, hml, ho, hts, hK, hA, hlk, hEX, rfl, rfl, rfl, rfl, rfl, rfl⟩ := C
  intro H locs ls hP hD hS hl
  exact lv_dload hx hb d (lv_at hl z hz) (kk H locs ls hP hD hS hl)
theorem j_istore_n (C : jC X l D ct sa cc nL1 own R0) {q : Fin 4} {i : Nat} {x : Int32} (d : decode cc pc = .ok (.istore_n q, 1)) (hi : (q : Nat) = i) (hn : i < nL1) (hl2 : (i, Value.int x) :: lv.filter (fun q => !(q.1 == i) && !(q.1 + 1 == i && q.2.category == 2)) = lv') (kk : J X ws k n (pc + 1) lv' st) : J X ws k n pc lv (Value.int x :: st) := by
  obtain ⟨p, l0, e, R, s, m, args, below, meth, c, D0, ct0, sa0, A, nL, Q⟩ := X
  obtain ⟨hx, hb, hml, ho, hts, hK, hA, hlk, hEX, rfl, rfl, rfl, rfl, rfl, rfl⟩ := C
  intro H locs ls hP hD hS hl
  exact lv_istore_n hx hb d hi hl hn hl2 (fun ls1 h1 => kk H locs ls1 hP hD hS h1)
theorem j_istore (C : jC X l D ct sa cc nL1 own R0) {i : Nat} {x : Int32} (d : decode cc pc = .ok (.istore i, 2)) (hn : i < nL1) (hl2 : (i, Value.int x) :: lv.filter (fun q => !(q.1 == i) && !(q.1 + 1 == i && q.2.category == 2)) = lv') (kk : J X ws k n (pc + 2) lv' st) : J X ws k n pc lv (Value.int x :: st) := by
  obtain ⟨p, l0, e, R, s, m, args, below, meth, c, D0, ct0, sa0, A, nL, Q⟩ := X
  obtain ⟨hx, hb, hml, ho, hts, hK, hA, hlk, hEX, rfl, rfl, rfl, rfl, rfl, rfl⟩ := C
  intro H locs ls hP hD hS hl
  exact lv_istore hx hb d hl hn hl2 (fun ls1 h1 => kk H locs ls1 hP hD hS h1)
theorem j_astore_n (C : jC X l D ct sa cc nL1 own R0) {q : Fin 4} {i : Nat} {x : Nat} (d : decode cc pc = .ok (.astore_n q, 1)) (hi : (q : Nat) = i) (hn : i < nL1) (hl2 : (i, Value.ref x) :: lv.filter (fun q => !(q.1 == i) && !(q.1 + 1 == i && q.2.category == 2)) = lv') (kk : J X ws k n (pc + 1) lv' st) : J X ws k n pc lv (Value.ref x :: st) := by
  obtain ⟨p, l0, e, R, s, m, args, below, meth, c, D0, ct0, sa0, A, nL, Q⟩ := X
  obtain ⟨hx, hb, hml, ho, hts, hK, hA, hlk, hEX, rfl, rfl, rfl, rfl, rfl, rfl⟩ := C
  intro H locs ls hP hD hS hl
  exact lv_astore_n hx hb d hi hl hn hl2 (fun ls1 h1 => kk H locs ls1 hP hD hS h1)
theorem j_astore (C : jC X l D ct sa cc nL1 own R0) {i : Nat} {x : Nat} (d : decode cc pc = .ok (.astore i, 2)) (hn : i < nL1) (hl2 : (i, Value.ref x) :: lv.filter (fun q => !(q.1 == i) && !(q.1 + 1 == i && q.2.category == 2)) = lv') (kk : J X ws k n (pc + 2) lv' st) : J X ws k n pc lv (Value.ref x :: st) := by
  obtain ⟨p, l0, e, R, s, m, args, below, meth, c, D0, ct0, sa0, A, nL, Q⟩ := X
  obtain ⟨hx, hb, hml, ho, hts, hK, hA, hlk, hEX, rfl, rfl, rfl, rfl, rfl, rfl⟩ := C
  intro H locs ls hP hD hS hl
  exact lv_astore hx hb d hl hn hl2 (fun ls1 h1 => kk H locs ls1 hP hD hS h1)
theorem j_lstore_n (C : jC X l D ct sa cc nL1 own R0) {q : Fin 4} {i : Nat} {x : Int64} (d : decode cc pc = .ok (.lstore_n q, 1)) (hi : (q : Nat) = i) (hn : i + 1 < nL1) (hl2 : (i, Value.long x) :: lv.filter (fun q => !(q.1 == i) && (!(q.1 == i + 1) && !(q.1 + 1 == i && q.2.category == 2))) = lv') (kk : J X ws k n (pc + 1) lv' st) : J X ws k n pc lv (Value.long x :: st) := by
  obtain ⟨p, l0, e, R, s, m, args, below, meth, c, D0, ct0, sa0, A, nL, Q⟩ := X
  obtain ⟨hx, hb, hml, ho, hts, hK, hA, hlk, hEX, rfl, rfl, rfl, rfl, rfl, rfl⟩ := C
  intro H locs ls hP hD hS hl
  exact lv_lstore_n hx hb d hi hl hn hl2 (fun ls1 h1 => kk H locs ls1 hP hD hS h1)
theorem j_lstore (C : jC X l D ct sa cc nL1 own R0) {i : Nat} {x : Int64} (d : decode cc pc = .ok (.lstore i, 2)) (hn : i + 1 < nL1) (hl2 : (i, Value.long x) :: lv.filter (fun q => !(q.1 == i) && (!(q.1 == i + 1) && !(q.1 + 1 == i && q.2.category == 2))) = lv') (kk : J X ws k n (pc + 2) lv' st) : J X ws k n pc lv (Value.long x :: st) := by
  obtain ⟨p, l0, e, R, s, m, args, below, meth, c, D0, ct0, sa0, A, nL, Q⟩ := X
  obtain ⟨hx, hb, hml, ho, hts, hK, hA, hlk, hEX, rfl, rfl, rfl, rfl, rfl, rfl⟩ := C
  intro H locs ls hP hD hS hl
  exact lv_lstore hx hb d hl hn hl2 (fun ls1 h1 => kk H locs ls1 hP hD hS h1)
theorem j_dstore_n (C : jC X l D ct sa cc nL1 own R0) {q : Fin 4} {i : Nat} {x : UInt64} (d : decode cc pc = .ok (.dstore_n q, 1)) (hi : (q : Nat) = i) (hn : i + 1 < nL1) (hl2 : (i, Value.double x) :: lv.filter (fun q => !(q.1 == i) && (!(q.1 == i + 1) && !(q.1 + 1 == i && q.2.category == 2))) = lv') (kk : J X ws k n (pc + 1) lv' st) : J X ws k n pc lv (Value.double x :: st) := by
  obtain ⟨p, l0, e, R, s, m, args, below, meth, c, D0, ct0, sa0, A, nL, Q⟩ := X
  obtain ⟨hx, hb, hml, ho, hts, hK, hA, hlk, hEX, rfl, rfl, rfl, rfl, rfl, rfl⟩ := C
  intro H locs ls hP hD hS hl
  exact lv_dstore_n hx hb d hi hl hn hl2 (fun ls1 h1 => kk H locs ls1 hP hD hS h1)
theorem j_dstore (C : jC X l D ct sa cc nL1 own R0) {i : Nat} {x : UInt64} (d : decode cc pc = .ok (.dstore i, 2)) (hn : i + 1 < nL1) (hl2 : (i, Value.double x) :: lv.filter (fun q => !(q.1 == i) && (!(q.1 == i + 1) && !(q.1 + 1 == i && q.2.category == 2))) = lv') (kk : J X ws k n (pc + 2) lv' st) : J X ws k n pc lv (Value.double x :: st) := by
  obtain ⟨p, l0, e, R, s, m, args, below, meth, c, D0, ct0, sa0, A, nL, Q⟩ := X
  obtain ⟨hx, hb, hml, ho, hts, hK, hA, hlk, hEX, rfl, rfl, rfl, rfl, rfl, rfl⟩ := C
  intro H locs ls hP hD hS hl
  exact lv_dstore hx hb d hl hn hl2 (fun ls1 h1 => kk H locs ls1 hP hD hS h1)
theorem j_iinc (C : jC X l D ct sa cc nL1 own R0) {i z : Nat} {b : Int} {x v : Int32} (d : decode cc pc = .ok (.iinc i b, 3)) (hz : lv[z]? = some (i, .int x)) (hv : x + Int32.ofInt b = v) (hn : i < nL1) (hl2 : (i, Value.int v) :: lv.filter (fun q => !(q.1 == i) && !(q.1 + 1 == i && q.2.category == 2)) = lv') (kk : J X ws k n (pc + 3) lv' st) : J X ws k n pc lv st := by
  obtain ⟨p, l0, e, R, s, m, args, below, meth, c, D0, ct0, sa0, A, nL, Q⟩ := X
  obtain ⟨hx, hb, hml, ho, hts, hK, hA, hlk, hEX, rfl, rfl, rfl, rfl, rfl, rfl⟩ := C
  intro H locs ls hP hD hS hl
  exact lv_iinc hx hb d hl hz hv hn hl2 (fun ls1 h1 => kk H locs ls1 hP hD hS h1)
theorem j_iadd (C : jC X l D ct sa cc nL1 own R0) {x y : Int32} (d : decode cc pc = .ok (.iadd, 1)) (kk : J X ws k n (pc + 1) lv (.int (x + y) :: st)) : J X ws k n pc lv (.int y :: .int x :: st) := by
  obtain ⟨p, l0, e, R, s, m, args, below, meth, c, D0, ct0, sa0, A, nL, Q⟩ := X
  obtain ⟨hx, hb, hml, ho, hts, hK, hA, hlk, hEX, rfl, rfl, rfl, rfl, rfl, rfl⟩ := C
  intro H locs ls hP hD hS hl
  exact lv_iadd hx hb d (kk H locs ls hP hD hS hl)
theorem j_isub (C : jC X l D ct sa cc nL1 own R0) {x y : Int32} (d : decode cc pc = .ok (.isub, 1)) (kk : J X ws k n (pc + 1) lv (.int (x - y) :: st)) : J X ws k n pc lv (.int y :: .int x :: st) := by
  obtain ⟨p, l0, e, R, s, m, args, below, meth, c, D0, ct0, sa0, A, nL, Q⟩ := X
  obtain ⟨hx, hb, hml, ho, hts, hK, hA, hlk, hEX, rfl, rfl, rfl, rfl, rfl, rfl⟩ := C
  intro H locs ls hP hD hS hl
  exact lv_isub hx hb d (kk H locs ls hP hD hS hl)
theorem j_imul (C : jC X l D ct sa cc nL1 own R0) {x y : Int32} (d : decode cc pc = .ok (.imul, 1)) (kk : J X ws k n (pc + 1) lv (.int (x * y) :: st)) : J X ws k n pc lv (.int y :: .int x :: st) := by
  obtain ⟨p, l0, e, R, s, m, args, below, meth, c, D0, ct0, sa0, A, nL, Q⟩ := X
  obtain ⟨hx, hb, hml, ho, hts, hK, hA, hlk, hEX, rfl, rfl, rfl, rfl, rfl, rfl⟩ := C
  intro H locs ls hP hD hS hl
  exact lv_imul hx hb d (kk H locs ls hP hD hS hl)
theorem j_iand (C : jC X l D ct sa cc nL1 own R0) {x y : Int32} (d : decode cc pc = .ok (.iand, 1)) (kk : J X ws k n (pc + 1) lv (.int (x &&& y) :: st)) : J X ws k n pc lv (.int y :: .int x :: st) := by
  obtain ⟨p, l0, e, R, s, m, args, below, meth, c, D0, ct0, sa0, A, nL, Q⟩ := X
  obtain ⟨hx, hb, hml, ho, hts, hK, hA, hlk, hEX, rfl, rfl, rfl, rfl, rfl, rfl⟩ := C
  intro H locs ls hP hD hS hl
  exact lv_iand hx hb d (kk H locs ls hP hD hS hl)
theorem j_ladd (C : jC X l D ct sa cc nL1 own R0) {x y : Int64} (d : decode cc pc = .ok (.ladd, 1)) (kk : J X ws k n (pc + 1) lv (.long (x + y) :: st)) : J X ws k n pc lv (.long y :: .long x :: st) := by
  obtain ⟨p, l0, e, R, s, m, args, below, meth, c, D0, ct0, sa0, A, nL, Q⟩ := X
  obtain ⟨hx, hb, hml, ho, hts, hK, hA, hlk, hEX, rfl, rfl, rfl, rfl, rfl, rfl⟩ := C
  intro H locs ls hP hD hS hl
  exact lv_ladd hx hb d (kk H locs ls hP hD hS hl)
theorem j_lmul (C : jC X l D ct sa cc nL1 own R0) {x y : Int64} (d : decode cc pc = .ok (.lmul, 1)) (kk : J X ws k n (pc + 1) lv (.long (x * y) :: st)) : J X ws k n pc lv (.long y :: .long x :: st) := by
  obtain ⟨p, l0, e, R, s, m, args, below, meth, c, D0, ct0, sa0, A, nL, Q⟩ := X
  obtain ⟨hx, hb, hml, ho, hts, hK, hA, hlk, hEX, rfl, rfl, rfl, rfl, rfl, rfl⟩ := C
  intro H locs ls hP hD hS hl
  exact lv_lmul hx hb d (kk H locs ls hP hD hS hl)
theorem j_idiv (C : jC X l D ct sa cc nL1 own R0) {x y : Int32} (d : decode cc pc = .ok (.idiv, 1)) (hne : ¬ y = 0) (kk : J X ws k n (pc + 1) lv (.int (x / y) :: st)) : J X ws k n pc lv (.int y :: .int x :: st) := by
  obtain ⟨p, l0, e, R, s, m, args, below, meth, c, D0, ct0, sa0, A, nL, Q⟩ := X
  obtain ⟨hx, hb, hml, ho, hts, hK, hA, hlk, hEX, rfl, rfl, rfl, rfl, rfl, rfl⟩ := C
  intro H locs ls hP hD hS hl
  exact lv_idiv hx hb d hne (kk H locs ls hP hD hS hl)
theorem j_irem (C : jC X l D ct sa cc nL1 own R0) {x y : Int32} (d : decode cc pc = .ok (.irem, 1)) (hne : ¬ y = 0) (kk : J X ws k n (pc + 1) lv (.int (x - x / y * y) :: st)) : J X ws k n pc lv (.int y :: .int x :: st) := by
  obtain ⟨p, l0, e, R, s, m, args, below, meth, c, D0, ct0, sa0, A, nL, Q⟩ := X
  obtain ⟨hx, hb, hml, ho, hts, hK, hA, hlk, hEX, rfl, rfl, rfl, rfl, rfl, rfl⟩ := C
  intro H locs ls hP hD hS hl
  exact lv_irem hx hb d hne (kk H locs ls hP hD hS hl)
theorem j_i2l (C : jC X l D ct sa cc nL1 own R0) {x : Int32} {v : Int64} (d : decode cc pc = .ok (.i2l, 1)) (hv : x.toInt64 = v) (kk : J X ws k n (pc + 1) lv (.long v :: st)) : J X ws k n pc lv (.int x :: st) := by
  obtain ⟨p, l0, e, R, s, m, args, below, meth, c, D0, ct0, sa0, A, nL, Q⟩ := X
  obtain ⟨hx, hb, hml, ho, hts, hK, hA, hlk, hEX, rfl, rfl, rfl, rfl, rfl, rfl⟩ := C
  intro H locs ls hP hD hS hl
  exact lv_i2l hx hb d hv (kk H locs ls hP hD hS hl)
theorem j_dup (C : jC X l D ct sa cc nL1 own R0) {va : Value} (d : decode cc pc = .ok (.dup, 1)) (hva : va.category = 1) (kk : J X ws k n (pc + 1) lv (va :: va :: st)) : J X ws k n pc lv (va :: st) := by
  obtain ⟨p, l0, e, R, s, m, args, below, meth, c, D0, ct0, sa0, A, nL, Q⟩ := X
  obtain ⟨hx, hb, hml, ho, hts, hK, hA, hlk, hEX, rfl, rfl, rfl, rfl, rfl, rfl⟩ := C
  intro H locs ls hP hD hS hl
  exact lv_dup hx hb d hva (kk H locs ls hP hD hS hl)
theorem j_pop (C : jC X l D ct sa cc nL1 own R0) {va : Value} (d : decode cc pc = .ok (.pop, 1)) (hva : va.category = 1) (kk : J X ws k n (pc + 1) lv st) : J X ws k n pc lv (va :: st) := by
  obtain ⟨p, l0, e, R, s, m, args, below, meth, c, D0, ct0, sa0, A, nL, Q⟩ := X
  obtain ⟨hx, hb, hml, ho, hts, hK, hA, hlk, hEX, rfl, rfl, rfl, rfl, rfl, rfl⟩ := C
  intro H locs ls hP hD hS hl
  exact lv_pop hx hb d hva (kk H locs ls hP hD hS hl)
theorem j_dup2 (C : jC X l D ct sa cc nL1 own R0) {va vb : Value} (d : decode cc pc = .ok (.dup2, 1)) (hva : va.category = 1) (hvb : vb.category = 1) (kk : J X ws k n (pc + 1) lv (va :: vb :: va :: vb :: st)) : J X ws k n pc lv (va :: vb :: st) := by
  obtain ⟨p, l0, e, R, s, m, args, below, meth, c, D0, ct0, sa0, A, nL, Q⟩ := X
  obtain ⟨hx, hb, hml, ho, hts, hK, hA, hlk, hEX, rfl, rfl, rfl, rfl, rfl, rfl⟩ := C
  intro H locs ls hP hD hS hl
  exact lv_dup2_11 hx hb d hva hvb (kk H locs ls hP hD hS hl)
theorem j_dup_x1 (C : jC X l D ct sa cc nL1 own R0) {va vb : Value} (d : decode cc pc = .ok (.dup_x1, 1)) (hva : va.category = 1) (hvb : vb.category = 1) (kk : J X ws k n (pc + 1) lv (va :: vb :: va :: st)) : J X ws k n pc lv (va :: vb :: st) := by
  obtain ⟨p, l0, e, R, s, m, args, below, meth, c, D0, ct0, sa0, A, nL, Q⟩ := X
  obtain ⟨hx, hb, hml, ho, hts, hK, hA, hlk, hEX, rfl, rfl, rfl, rfl, rfl, rfl⟩ := C
  intro H locs ls hP hD hS hl
  exact lv_dup_x1 hx hb d hva hvb (kk H locs ls hP hD hS hl)
theorem j_if_eq (C : jC X l D ct sa cc nL1 own R0) {x : Int32} {off : Int} (tgt : Nat) (d : decode cc pc = .ok (.ifCond .eq off, 3)) (ht : (pc : Int) + off = (tgt : Int)) (kt : x = 0 → J X ws k n (tgt) lv st) (kf : ¬ x = 0 → J X ws k n (pc + 3) lv st) : J X ws k n pc lv (.int x :: st) := by
  obtain ⟨p, l0, e, R, s, m, args, below, meth, c, D0, ct0, sa0, A, nL, Q⟩ := X
  obtain ⟨hx, hb, hml, ho, hts, hK, hA, hlk, hEX, rfl, rfl, rfl, rfl, rfl, rfl⟩ := C
  intro H locs ls hP hD hS hl
  exact lv_if_eq hx hb d ht (fun h => kt h H locs ls hP hD hS hl) (fun h => kf h H locs ls hP hD hS hl)
theorem j_if_ne (C : jC X l D ct sa cc nL1 own R0) {x : Int32} {off : Int} (tgt : Nat) (d : decode cc pc = .ok (.ifCond .ne off, 3)) (ht : (pc : Int) + off = (tgt : Int)) (kt : ¬ x = 0 → J X ws k n (tgt) lv st) (kf : x = 0 → J X ws k n (pc + 3) lv st) : J X ws k n pc lv (.int x :: st) := by
  obtain ⟨p, l0, e, R, s, m, args, below, meth, c, D0, ct0, sa0, A, nL, Q⟩ := X
  obtain ⟨hx, hb, hml, ho, hts, hK, hA, hlk, hEX, rfl, rfl, rfl, rfl, rfl, rfl⟩ := C
  intro H locs ls hP hD hS hl
  exact lv_if_ne hx hb d ht (fun h => kt h H locs ls hP hD hS hl) (fun h => kf h H locs ls hP hD hS hl)
theorem j_if_lt (C : jC X l D ct sa cc nL1 own R0) {x : Int32} {off : Int} (tgt : Nat) (d : decode cc pc = .ok (.ifCond .lt off, 3)) (ht : (pc : Int) + off = (tgt : Int)) (kt : x < 0 → J X ws k n (tgt) lv st) (kf : ¬ x < 0 → J X ws k n (pc + 3) lv st) : J X ws k n pc lv (.int x :: st) := by
  obtain ⟨p, l0, e, R, s, m, args, below, meth, c, D0, ct0, sa0, A, nL, Q⟩ := X
  obtain ⟨hx, hb, hml, ho, hts, hK, hA, hlk, hEX, rfl, rfl, rfl, rfl, rfl, rfl⟩ := C
  intro H locs ls hP hD hS hl
  exact lv_if_lt hx hb d ht (fun h => kt h H locs ls hP hD hS hl) (fun h => kf h H locs ls hP hD hS hl)
theorem j_if_ge (C : jC X l D ct sa cc nL1 own R0) {x : Int32} {off : Int} (tgt : Nat) (d : decode cc pc = .ok (.ifCond .ge off, 3)) (ht : (pc : Int) + off = (tgt : Int)) (kt : 0 ≤ x → J X ws k n (tgt) lv st) (kf : ¬ 0 ≤ x → J X ws k n (pc + 3) lv st) : J X ws k n pc lv (.int x :: st) := by
  obtain ⟨p, l0, e, R, s, m, args, below, meth, c, D0, ct0, sa0, A, nL, Q⟩ := X
  obtain ⟨hx, hb, hml, ho, hts, hK, hA, hlk, hEX, rfl, rfl, rfl, rfl, rfl, rfl⟩ := C
  intro H locs ls hP hD hS hl
  exact lv_if_ge hx hb d ht (fun h => kt h H locs ls hP hD hS hl) (fun h => kf h H locs ls hP hD hS hl)
theorem j_if_gt (C : jC X l D ct sa cc nL1 own R0) {x : Int32} {off : Int} (tgt : Nat) (d : decode cc pc = .ok (.ifCond .gt off, 3)) (ht : (pc : Int) + off = (tgt : Int)) (kt : 0 < x → J X ws k n (tgt) lv st) (kf : ¬ 0 < x → J X ws k n (pc + 3) lv st) : J X ws k n pc lv (.int x :: st) := by
  obtain ⟨p, l0, e, R, s, m, args, below, meth, c, D0, ct0, sa0, A, nL, Q⟩ := X
  obtain ⟨hx, hb, hml, ho, hts, hK, hA, hlk, hEX, rfl, rfl, rfl, rfl, rfl, rfl⟩ := C
  intro H locs ls hP hD hS hl
  exact lv_if_gt hx hb d ht (fun h => kt h H locs ls hP hD hS hl) (fun h => kf h H locs ls hP hD hS hl)
theorem j_if_le (C : jC X l D ct sa cc nL1 own R0) {x : Int32} {off : Int} (tgt : Nat) (d : decode cc pc = .ok (.ifCond .le off, 3)) (ht : (pc : Int) + off = (tgt : Int)) (kt : x ≤ 0 → J X ws k n (tgt) lv st) (kf : ¬ x ≤ 0 → J X ws k n (pc + 3) lv st) : J X ws k n pc lv (.int x :: st) := by
  obtain ⟨p, l0, e, R, s, m, args, below, meth, c, D0, ct0, sa0, A, nL, Q⟩ := X
  obtain ⟨hx, hb, hml, ho, hts, hK, hA, hlk, hEX, rfl, rfl, rfl, rfl, rfl, rfl⟩ := C
  intro H locs ls hP hD hS hl
  exact lv_if_le hx hb d ht (fun h => kt h H locs ls hP hD hS hl) (fun h => kf h H locs ls hP hD hS hl)
theorem j_icmp_eq (C : jC X l D ct sa cc nL1 own R0) {x y : Int32} {off : Int} (tgt : Nat) (d : decode cc pc = .ok (.if_icmp .eq off, 3)) (ht : (pc : Int) + off = (tgt : Int)) (kt : x = y → J X ws k n (tgt) lv st) (kf : ¬ x = y → J X ws k n (pc + 3) lv st) : J X ws k n pc lv (.int y :: .int x :: st) := by
  obtain ⟨p, l0, e, R, s, m, args, below, meth, c, D0, ct0, sa0, A, nL, Q⟩ := X
  obtain ⟨hx, hb, hml, ho, hts, hK, hA, hlk, hEX, rfl, rfl, rfl, rfl, rfl, rfl⟩ := C
  intro H locs ls hP hD hS hl
  exact lv_icmp_eq hx hb d ht (fun h => kt h H locs ls hP hD hS hl) (fun h => kf h H locs ls hP hD hS hl)
theorem j_icmp_ne (C : jC X l D ct sa cc nL1 own R0) {x y : Int32} {off : Int} (tgt : Nat) (d : decode cc pc = .ok (.if_icmp .ne off, 3)) (ht : (pc : Int) + off = (tgt : Int)) (kt : ¬ x = y → J X ws k n (tgt) lv st) (kf : x = y → J X ws k n (pc + 3) lv st) : J X ws k n pc lv (.int y :: .int x :: st) := by
  obtain ⟨p, l0, e, R, s, m, args, below, meth, c, D0, ct0, sa0, A, nL, Q⟩ := X
  obtain ⟨hx, hb, hml, ho, hts, hK, hA, hlk, hEX, rfl, rfl, rfl, rfl, rfl, rfl⟩ := C
  intro H locs ls hP hD hS hl
  exact lv_icmp_ne hx hb d ht (fun h => kt h H locs ls hP hD hS hl) (fun h => kf h H locs ls hP hD hS hl)
theorem j_icmp_lt (C : jC X l D ct sa cc nL1 own R0) {x y : Int32} {off : Int} (tgt : Nat) (d : decode cc pc = .ok (.if_icmp .lt off, 3)) (ht : (pc : Int) + off = (tgt : Int)) (kt : x < y → J X ws k n (tgt) lv st) (kf : ¬ x < y → J X ws k n (pc + 3) lv st) : J X ws k n pc lv (.int y :: .int x :: st) := by
  obtain ⟨p, l0, e, R, s, m, args, below, meth, c, D0, ct0, sa0, A, nL, Q⟩ := X
  obtain ⟨hx, hb, hml, ho, hts, hK, hA, hlk, hEX, rfl, rfl, rfl, rfl, rfl, rfl⟩ := C
  intro H locs ls hP hD hS hl
  exact lv_icmp_lt hx hb d ht (fun h => kt h H locs ls hP hD hS hl) (fun h => kf h H locs ls hP hD hS hl)
theorem j_icmp_ge (C : jC X l D ct sa cc nL1 own R0) {x y : Int32} {off : Int} (tgt : Nat) (d : decode cc pc = .ok (.if_icmp .ge off, 3)) (ht : (pc : Int) + off = (tgt : Int)) (kt : y ≤ x → J X ws k n (tgt) lv st) (kf : ¬ y ≤ x → J X ws k n (pc + 3) lv st) : J X ws k n pc lv (.int y :: .int x :: st) := by
  obtain ⟨p, l0, e, R, s, m, args, below, meth, c, D0, ct0, sa0, A, nL, Q⟩ := X
  obtain ⟨hx, hb, hml, ho, hts, hK, hA, hlk, hEX, rfl, rfl, rfl, rfl, rfl, rfl⟩ := C
  intro H locs ls hP hD hS hl
  exact lv_icmp_ge hx hb d ht (fun h => kt h H locs ls hP hD hS hl) (fun h => kf h H locs ls hP hD hS hl)
theorem j_icmp_gt (C : jC X l D ct sa cc nL1 own R0) {x y : Int32} {off : Int} (tgt : Nat) (d : decode cc pc = .ok (.if_icmp .gt off, 3)) (ht : (pc : Int) + off = (tgt : Int)) (kt : y < x → J X ws k n (tgt) lv st) (kf : ¬ y < x → J X ws k n (pc + 3) lv st) : J X ws k n pc lv (.int y :: .int x :: st) := by
  obtain ⟨p, l0, e, R, s, m, args, below, meth, c, D0, ct0, sa0, A, nL, Q⟩ := X
  obtain ⟨hx, hb, hml, ho, hts, hK, hA, hlk, hEX, rfl, rfl, rfl, rfl, rfl, rfl⟩ := C
  intro H locs ls hP hD hS hl
  exact lv_icmp_gt hx hb d ht (fun h => kt h H locs ls hP hD hS hl) (fun h => kf h H locs ls hP hD hS hl)
theorem j_icmp_le (C : jC X l D ct sa cc nL1 own R0) {x y : Int32} {off : Int} (tgt : Nat) (d : decode cc pc = .ok (.if_icmp .le off, 3)) (ht : (pc : Int) + off = (tgt : Int)) (kt : x ≤ y → J X ws k n (tgt) lv st) (kf : ¬ x ≤ y → J X ws k n (pc + 3) lv st) : J X ws k n pc lv (.int y :: .int x :: st) := by
  obtain ⟨p, l0, e, R, s, m, args, below, meth, c, D0, ct0, sa0, A, nL, Q⟩ := X
  obtain ⟨hx, hb, hml, ho, hts, hK, hA, hlk, hEX, rfl, rfl, rfl, rfl, rfl, rfl⟩ := C
  intro H locs ls hP hD hS hl
  exact lv_icmp_le hx hb d ht (fun h => kt h H locs ls hP hD hS hl) (fun h => kf h H locs ls hP hD hS hl)
theorem j_goto (C : jC X l D ct sa cc nL1 own R0) {off : Int} (tgt : Nat) (d : decode cc pc = .ok (.goto off, 3)) (ht : (pc : Int) + off = (tgt : Int)) (kk : J X ws k n (tgt) lv st) : J X ws k n pc lv st := by
  obtain ⟨p, l0, e, R, s, m, args, below, meth, c, D0, ct0, sa0, A, nL, Q⟩ := X
  obtain ⟨hx, hb, hml, ho, hts, hK, hA, hlk, hEX, rfl, rfl, rfl, rfl, rfl, rfl⟩ := C
  intro H locs ls hP hD hS hl
  exact lv_goto hx hb d ht (kk H locs ls hP hD hS hl)
theorem j_get (C : jC X l D ct sa cc nL1 own R0) {a ci N index : Nat} {Cn ref : String} {T : u_T} {fs : List Value} {v : Value} (hin : ∀ w ∈ u_ws Cn T N, w ∈ GW) (hc : vwCl[ci]? = some (Cn, T, N)) (q0 : Nat) (he : ws[q0]? = some (a, .inr (ci, fs))) (z : Nat) (hz : z < N) (hl1 : Cond.fieldLink own index ref (T z).2.1 (T z).2.2.1 ∈ GW) (hsame : (T z).1 = ref) (hv : fs[z]? = some v) (d : decode cc pc = .ok (.getfield index, 3)) (kk : J X ws k n (pc + 3) lv (v :: st)) : J X ws k n pc lv (.ref a :: st) := by
  obtain ⟨p, l0, e, R, s, m, args, below, meth, c, D0, ct0, sa0, A, nL, Q⟩ := X
  obtain ⟨hx, hb, hml, ho, hts, hK, hA, hlk, hEX, rfl, rfl, rfl, rfl, rfl, rfl⟩ := C
  intro H locs ls hP hD hS hl
  exact va_get hx hb hts hin ho hK hP q0 he hc z hz (hts _ hl1) (fun _ h => hsame ▸ h) hv d (kk H locs ls hP hD hS hl)
theorem j_getN (C : jC X l D ct sa cc nL1 own R0) {a ci N index : Nat} {Cn ref host : String} {T : u_T} {fs : List Value} {v : Value} (hin : ∀ w ∈ u_ws Cn T N, w ∈ GW) (hc : vwCl[ci]? = some (Cn, T, N)) (q0 : Nat) (he : ws[q0]? = some (a, .inr (ci, fs))) (z : Nat) (hz : z < N) (hl1 : Cond.fieldLinkNest own index ref (T z).2.1 (T z).2.2.1 host ∈ NW) (hsame : (T z).1 = ref) (hv : fs[z]? = some v) (d : decode cc pc = .ok (.getfield index, 3)) (kk : J X ws k n (pc + 3) lv (v :: st)) : J X ws k n pc lv (.ref a :: st) := by
  obtain ⟨p, l0, e, R, s, m, args, below, meth, c, D0, ct0, sa0, A, nL, Q⟩ := X
  obtain ⟨hx, hb, hml, ho, hts, hK, hA, hlk, hEX, rfl, rfl, rfl, rfl, rfl, rfl⟩ := C
  intro H locs ls hP hD hS hl
  exact va_getN hx hb hts hin ho hK hP q0 he hc z hz (va_Nw.use rfl (hEX.1 _ hl1)) (fun _ h => hsame ▸ h) hv d (kk H locs ls hP hD hS hl)
theorem j_put (C : jC X l D ct sa cc nL1 own R0) {a ci N index : Nat} {Cn ref : String} {T : u_T} {fs : List Value} {v : Value} {ws2 : va_W} {ty : FieldType} (hin : ∀ w ∈ u_ws Cn T N, w ∈ GW) (ty0 : Nat → FieldType) (hty : ∀ k, k < N → parseFieldDescriptor (T k).2.2.1 = some (ty0 k)) (hnm : ∀ a, a < N → ∀ b, b < N → a ≠ b → (T a).2.1 ≠ (T b).2.1) (hc : vwCl[ci]? = some (Cn, T, N)) (q0 : Nat) (he : ws[q0]? = some (a, .inr (ci, fs))) (z : Nat) (hz : z < N) (hl1 : Cond.fieldLink own index ref (T z).2.1 (T z).2.2.1 ∈ GW) (hsame : (T z).1 = ref) (hfin : (T z).2.2.2 = false) (hd : parseFieldDescriptor (T z).2.2.1 = some ty) (hnr : narrow ty v = v) (hfit : fits ty v = true) (hlt : z < fs.length) (hw : ws.set q0 (a, .inr (ci, fs.set z v)) = ws2) (d : decode cc pc = .ok (.putfield index, 3)) (kk : J X ws2 k n (pc + 3) lv st) : J X ws k n pc lv (v :: .ref a :: st) := by
  obtain ⟨p, l0, e, R, s, m, args, below, meth, c, D0, ct0, sa0, A, nL, Q⟩ := X
  obtain ⟨hx, hb, hml, ho, hts, hK, hA, hlk, hEX, rfl, rfl, rfl, rfl, rfl, rfl⟩ := C
  intro H locs ls hP hD hS hl
  exact va_put hx hb hts hin ty0 hty hnm ho hK hP hD hS q0 he hc z hz (hts _ hl1) (fun _ h => hsame ▸ h) hfin hd hnr hfit hlt d (fun H1 locs1 hP1 hD1 hS1 => kk H1 locs1 ls (hw ▸ hP1) (hw ▸ hD1) hS1 hl)
theorem j_putN (C : jC X l D ct sa cc nL1 own R0) {a ci N index : Nat} {Cn ref host : String} {T : u_T} {fs : List Value} {v : Value} {ws2 : va_W} {ty : FieldType} (hin : ∀ w ∈ u_ws Cn T N, w ∈ GW) (ty0 : Nat → FieldType) (hty : ∀ k, k < N → parseFieldDescriptor (T k).2.2.1 = some (ty0 k)) (hnm : ∀ a, a < N → ∀ b, b < N → a ≠ b → (T a).2.1 ≠ (T b).2.1) (hc : vwCl[ci]? = some (Cn, T, N)) (q0 : Nat) (he : ws[q0]? = some (a, .inr (ci, fs))) (z : Nat) (hz : z < N) (hl1 : Cond.fieldLinkNest own index ref (T z).2.1 (T z).2.2.1 host ∈ NW) (hsame : (T z).1 = ref) (hfin : (T z).2.2.2 = false) (hd : parseFieldDescriptor (T z).2.2.1 = some ty) (hnr : narrow ty v = v) (hfit : fits ty v = true) (hlt : z < fs.length) (hw : ws.set q0 (a, .inr (ci, fs.set z v)) = ws2) (d : decode cc pc = .ok (.putfield index, 3)) (kk : J X ws2 k n (pc + 3) lv st) : J X ws k n pc lv (v :: .ref a :: st) := by
  obtain ⟨p, l0, e, R, s, m, args, below, meth, c, D0, ct0, sa0, A, nL, Q⟩ := X
  obtain ⟨hx, hb, hml, ho, hts, hK, hA, hlk, hEX, rfl, rfl, rfl, rfl, rfl, rfl⟩ := C
  intro H locs ls hP hD hS hl
  exact va_putN hx hb hts hin ty0 hty hnm ho hK hP hD hS q0 he hc z hz (va_Nw.use rfl (hEX.1 _ hl1)) (fun _ h => hsame ▸ h) hfin hd hnr hfit hlt d (fun H1 locs1 hP1 hD1 hS1 => kk H1 locs1 ls (hw ▸ hP1) (hw ▸ hD1) hS1 hl)
theorem j_iald (C : jC X l D ct sa cc nL1 own R0) {a N : Nat} {f : Nat → Int32} {i : Int32} (q0 : Nat) (ha : ws[q0]? = some (a, .inl (ct 0, N, .inl f))) (j : Nat) (hi : i = nI j) (hj : j < N) (hN : N < 2 ^ 31) (d : decode cc pc = .ok (.iaload, 1)) (kk : J X ws k n (pc + 1) lv (.int (f j) :: st)) : J X ws k n pc lv (.int i :: .ref a :: st) := by
  obtain ⟨p, l0, e, R, s, m, args, below, meth, c, D0, ct0, sa0, A, nL, Q⟩ := X
  obtain ⟨hx, hb, hml, ho, hts, hK, hA, hlk, hEX, rfl, rfl, rfl, rfl, rfl, rfl⟩ := C
  intro H locs ls hP hD hS hl
  exact va_iald hx hb hK hP q0 0 ha rfl (i := i) (by rw [hi]; exact vp_in_nI hj hN) d (by rw [hi, nI_clamp (Nat.lt_trans hj hN)]; exact kk H locs ls hP hD hS hl)
theorem j_iast (C : jC X l D ct sa cc nL1 own R0) {a N : Nat} {f : Nat → Int32} {i x : Int32} {ws2 : va_W} (q0 : Nat) (ha : ws[q0]? = some (a, .inl (ct 0, N, .inl f))) (j : Nat) (hi : i = nI j) (hj : j < N) (hN : N < 2 ^ 31) (hw : ws.set q0 (a, .inl (ct 0, N, .inl (upd f j x))) = ws2) (d : decode cc pc = .ok (.iastore, 1)) (kk : J X ws2 k n (pc + 1) lv st) : J X ws k n pc lv (.int x :: .int i :: .ref a :: st) := by
  obtain ⟨p, l0, e, R, s, m, args, below, meth, c, D0, ct0, sa0, A, nL, Q⟩ := X
  obtain ⟨hx, hb, hml, ho, hts, hK, hA, hlk, hEX, rfl, rfl, rfl, rfl, rfl, rfl⟩ := C
  intro H locs ls hP hD hS hl
  exact va_iast hx hb hK hP hD hS q0 0 ha rfl (i := i) (by rw [hi]; exact vp_in_nI hj hN) d (fun H1 locs1 hP1 hD1 hS1 => by rw [hi, nI_clamp (Nat.lt_trans hj hN), hw] at hP1 hD1; exact kk H1 locs1 ls hP1 hD1 hS1 hl)
theorem j_alen (C : jC X l D ct sa cc nL1 own R0) {a : Nat} {x : vp_A} {v : Int32} {cA : ClassId} {ty : FieldType} (q0 t0 : Nat) (ha : ws[q0]? = some (a, .inl (cA, x))) (ht : (TY ct)[t0]? = some (cA, ty)) (hv : Int32.ofNat x.1 = v) (d : decode cc pc = .ok (.arraylength, 1)) (kk : J X ws k n (pc + 1) lv (.int v :: st)) : J X ws k n pc lv (.ref a :: st) := by
  obtain ⟨p, l0, e, R, s, m, args, below, meth, c, D0, ct0, sa0, A, nL, Q⟩ := X
  obtain ⟨hx, hb, hml, ho, hts, hK, hA, hlk, hEX, rfl, rfl, rfl, rfl, rfl, rfl⟩ := C
  intro H locs ls hP hD hS hl
  exact va_alen hx hb hK hP q0 t0 ha ht hv d (kk H locs ls hP hD hS hl)
theorem j_aldq (C : jC X l D ct sa cc nL1 own R0) {a N : Nat} {Cn : String} {cA : ClassId} {f : Nat → Option Nat} {i : Int32} {b : Nat} (q0 t0 : Nat) (ha : ws[q0]? = some (a, .inl (cA, N, .inr (.inr (.inr (.inr f)))))) (ht : (TY ct)[t0]? = some (cA, .object Cn)) (j : Nat) (hi : i = nI j) (hj : j < N) (hN : N < 2 ^ 31) (hb2 : f j = some b) (d : decode cc pc = .ok (.aaload, 1)) (kk : J X ws k n (pc + 1) lv (.ref b :: st)) : J X ws k n pc lv (.int i :: .ref a :: st) := by
  obtain ⟨p, l0, e, R, s, m, args, below, meth, c, D0, ct0, sa0, A, nL, Q⟩ := X
  obtain ⟨hx, hb, hml, ho, hts, hK, hA, hlk, hEX, rfl, rfl, rfl, rfl, rfl, rfl⟩ := C
  intro H locs ls hP hD hS hl
  exact va_aldq hx hb hK hP q0 t0 ha ht (i := i) (by rw [hi]; exact vp_in_nI hj hN) d (by rw [hi, nI_clamp (Nat.lt_trans hj hN), hb2]; exact kk H locs ls hP hD hS hl)
theorem j_ishr (C : jC X l D ct sa cc nL1 own R0) {x y : Int32} (d : decode cc pc = .ok (.ishr, 1)) (kk : ∀ z : Int32, J X ws k n (pc + 1) lv (.int z :: st)) : J X ws k n pc lv (.int y :: .int x :: st) := by
  obtain ⟨p, l0, e, R, s, m, args, below, meth, c, D0, ct0, sa0, A, nL, Q⟩ := X
  obtain ⟨hx, hb, hml, ho, hts, hK, hA, hlk, hEX, rfl, rfl, rfl, rfl, rfl, rfl⟩ := C
  intro H locs ls hP hD hS hl
  exact lv_ishr hx hb d (kk _ H locs ls hP hD hS hl)
theorem j_ldc (C : jC X l D ct sa cc nL1 own R0) {index : Nat} {v : Int32} (w : Cond.constant own index v ∈ GW) (d : decode cc pc = .ok (.ldc index, 2)) (kk : J X ws k n (pc + 2) lv (.int v :: st)) : J X ws k n pc lv st := by
  obtain ⟨p, l0, e, R, s, m, args, below, meth, c, D0, ct0, sa0, A, nL, Q⟩ := X
  obtain ⟨hx, hb, hml, ho, hts, hK, hA, hlk, hEX, rfl, rfl, rfl, rfl, rfl, rfl⟩ := C
  intro H locs ls hP hD hS hl
  exact lv_ldc hx hb ho (hts _ w) d (kk H locs ls hP hD hS hl)
theorem j_ifnn (C : jC X l D ct sa cc nL1 own R0) {x : Nat} {off : Int} (tgt : Nat) (d : decode cc pc = .ok (.ifnonnull off, 3)) (ht : (pc : Int) + off = (tgt : Int)) (kk : J X ws k n (tgt) lv st) : J X ws k n pc lv (.ref x :: st) := by
  obtain ⟨p, l0, e, R, s, m, args, below, meth, c, D0, ct0, sa0, A, nL, Q⟩ := X
  obtain ⟨hx, hb, hml, ho, hts, hK, hA, hlk, hEX, rfl, rfl, rfl, rfl, rfl, rfl⟩ := C
  intro H locs ls hP hD hS hl
  exact lv_ifnonnull hx hb d ht (kk H locs ls hP hD hS hl)
theorem j_scd (C : jC X l D ct sa cc nL1 own R0) {i : Int32} (j : Nat) (hi : i = nI j) (hj : j < scL sa) (d : decode cc pc = .ok (.iaload, 1)) (kk : ∀ z : Int32, J X ws k n (pc + 1) lv (.int z :: st)) : J X ws k n pc lv (.int i :: .ref (scB sa) :: st) := by
  obtain ⟨p, l0, e, R, s, m, args, below, meth, c, D0, ct0, sa0, A, nL, Q⟩ := X
  obtain ⟨hx, hb, hml, ho, hts, hK, hA, hlk, hEX, rfl, rfl, rfl, rfl, rfl, rfl⟩ := C
  intro H locs ls hP hD hS hl
  exact va_sld hx hb hEX.2.2.2.2.2.2.2.2.2.2.1 hEX.2.2.2.2.2.2.2.2.2.2.2.1 hEX.2.2.2.2.2.2.2.2.2.2.2.2.1 hS (by rw [hi]; exact vp_in_nI hj (Nat.lt_of_le_of_lt hEX.2.2.2.2.2.2.2.2.2.2.2.2.2 (by decide))) d (kk _ H locs ls hP hD hS hl)
theorem j_sclen (C : jC X l D ct sa cc nL1 own R0) (d : decode cc pc = .ok (.arraylength, 1)) (kk : scL sa ≤ 260 → J X ws k n (pc + 1) lv (.int (nI (scL sa)) :: st)) : J X ws k n pc lv (.ref (scB sa) :: st) := by
  obtain ⟨p, l0, e, R, s, m, args, below, meth, c, D0, ct0, sa0, A, nL, Q⟩ := X
  obtain ⟨hx, hb, hml, ho, hts, hK, hA, hlk, hEX, rfl, rfl, rfl, rfl, rfl, rfl⟩ := C
  intro H locs ls hP hD hS hl
  exact va_slen hx hb hEX.2.2.2.2.2.2.2.2.2.2.1 hEX.2.2.2.2.2.2.2.2.2.2.2.1 hEX.2.2.2.2.2.2.2.2.2.2.2.2.1 hS d (kk hEX.2.2.2.2.2.2.2.2.2.2.2.2.2 H locs ls hP hD hS hl)
end JR
end
section
/-- one answer, one world -/
abbrev dK (r : Option Value) (w : va_W) : Option Value → va_W → Prop := fun r1 w1 => r1 = r ∧ w1 = w
section JD
variable {X : Ctx} {k n pc : Nat} {lv : List (Nat × Value)} {st : List Value} {w0 : va_W}
theorem dki {x : Int32} (h : J X w0 k n pc lv (.int x :: st)) : ∀ v w, dK (some (.int x)) w0 v w → J X w k n pc lv (v.toList ++ st) := fun v w q => by obtain ⟨rfl, rfl⟩ := q; exact h
theorem dkl {x : Int64} (h : J X w0 k n pc lv (.long x :: st)) : ∀ v w, dK (some (.long x)) w0 v w → J X w k n pc lv (v.toList ++ st) := fun v w q => by obtain ⟨rfl, rfl⟩ := q; exact h
theorem dkd {x : UInt64} (h : J X w0 k n pc lv (.double x :: st)) : ∀ v w, dK (some (.double x)) w0 v w → J X w k n pc lv (v.toList ++ st) := fun v w q => by obtain ⟨rfl, rfl⟩ := q; exact h
theorem dkr {x : Nat} (h : J X w0 k n pc lv (.ref x :: st)) : ∀ v w, dK (some (.ref x)) w0 v w → J X w k n pc lv (v.toList ++ st) := fun v w q => by obtain ⟨rfl, rfl⟩ := q; exact h
theorem dkv (h : J X w0 k n pc lv st) : ∀ v w, dK none w0 v w → J X w k n pc lv (v.toList ++ st) := fun v w q => by obtain ⟨rfl, rfl⟩ := q; exact h
end JD
/-- q thrown over this frame -/
def JT (X : Ctx) (ws : va_W) (k n pc : Nat) (lv : List (Nat × Value)) (E : String) : Prop :=
  match X with
  | (p, l0, e, R, s, m, args, below, meth, c, D0, ct0, sa0, A, nL, Q) =>
    ∀ (H : Heap) (locs : List Loc) (ls : Array Slot) (rest : List Value) (q : Addr) (ce : Cell), va_P D0 vwCl ws H → va_D A ws → va_S A s.heap H locs → lv_has ls nL lv → H[q]? = some ce → ce.vm = .none → s.vm.findClass E = some ce.cls → vx_W p l0 e R s m args below meth c H locs k n Q (F0 m pc ls rest) q
theorem jp_blind {D : va_G} {ct : Nat → ClassId} {sa : Nat → Nat} {sz : Nat} {ws : va_W} {av : List Value} : FrameBlind (va_Pc av (jPre D ct sa sz ws)) := fun a U g mk q => by
  obtain ⟨e, h1, h2, h3, h4, h5⟩ := q
  exact ⟨e, h1, h2, va_K.moved (u := U) (U := U.calling g mk a) (Vm.Alike.refl U.vm) h3, h4, h5.moved (U := U.calling g mk a) (State.WarmedH.refl U)⟩
theorem jp_pre {s : State} {A : Nat → Prop} {D : va_G} {ct : Nat → ClassId} {sa : Nat → Nat} {ws : va_W} {H : Heap} {locs : List Loc} (hK : va_K D vwCl (TY ct) s) (hA : ∀ q, s.heap.size ≤ q → A q) (hEX : EX sa A s s.heap) (hP : va_P D vwCl ws H) (hD : va_D A ws) (hS : va_S A s.heap H locs) :
    (∀ q, va_A ws H.size q → A q) ∧ ∀ U : State, U.heap = H → s.WarmedH U.vm → jPre D ct sa H.size ws U := by
  have hsub : ∀ q, va_A ws H.size q → A q := by
    intro q hq
    rcases hq with ⟨i, e, hi⟩ | hq
    · exact hD.2 i _ hi
    · exact hA q (Nat.le_trans hS.1 hq)
  refine ⟨hsub, fun U hU hW => ⟨by rw [hU], by rw [hU]; exact hP, va_K.moved hW.alike hK, hD.weaken (fun _ _ _ _ => trivial), ?_⟩⟩
  rw [hU]
  exact ((hEX.kept hS.2.1).narrow hsub).moved hW
section JC
variable {X : Ctx} {l : Launch} {D : va_G} {ct : Nat → ClassId} {sa : Nat → Nat} {cc : ByteArray} {nL1 : Nat} {own : String} {R0 : Room} {ws : va_W} {k n pc : Nat} {lv lv' : List (Nat × Value)} {st : List Value}
variable {ws0 : va_W} {K0 : Option Value → va_W → Prop} {KX0 : String → Prop} {mc0 ms0 : Nat} {rt0 : Option FieldType}

theorem j_ireturn (C : jC X l D ct sa cc nL1 own R0) {v : Int32} {ty : FieldType} (E : jE X ws0 K0 KX0 mc0 ms0 (some ty)) (hnr : narrow ty (.int v) = .int v) (d : decode cc pc = .ok (.ireturn, 1)) (hk : k ≤ mc0) (hn : n ≤ ms0) (h : K0 (some (.int v)) ws) : J X ws k n pc lv [.int v] := by
  obtain ⟨p, l0, e, R, s, m, args, below, meth, c, D0, ct0, sa0, A, nL, Q⟩ := X
  obtain ⟨hx, hb, hml, ho, hts, hK, hA, hlk, hEX, rfl, rfl, rfl, rfl, rfl, rfl⟩ := C
  obtain ⟨rfl, rfl, hr⟩ := E
  intro H locs ls hP hD hS hl
  refine W.widen hk hn (vx_ret ?_)
  exact W.zret hx hb hr hnr (fun t ht hW => ⟨⟨_, ws, rfl, h, by rw [ht]; exact hP, hD⟩, hS.F ht⟩) hS.2.2 d hlk
theorem j_lreturn (C : jC X l D ct sa cc nL1 own R0) {v : Int64} (E : jE X ws0 K0 KX0 mc0 ms0 (some .long)) (d : decode cc pc = .ok (.lreturn, 1)) (hk : k ≤ mc0) (hn : n ≤ ms0) (h : K0 (some (.long v)) ws) : J X ws k n pc lv [.long v] := by
  obtain ⟨p, l0, e, R, s, m, args, below, meth, c, D0, ct0, sa0, A, nL, Q⟩ := X
  obtain ⟨hx, hb, hml, ho, hts, hK, hA, hlk, hEX, rfl, rfl, rfl, rfl, rfl, rfl⟩ := C
  obtain ⟨rfl, rfl, hr⟩ := E
  intro H locs ls hP hD hS hl
  refine W.widen hk hn (vx_ret ?_)
  exact W.lret hx hb hr (fun t ht hW => ⟨⟨_, ws, rfl, h, by rw [ht]; exact hP, hD⟩, hS.F ht⟩) hS.2.2 d hlk
theorem j_dreturn (C : jC X l D ct sa cc nL1 own R0) {v : UInt64} (E : jE X ws0 K0 KX0 mc0 ms0 (some .double)) (d : decode cc pc = .ok (.dreturn, 1)) (hk : k ≤ mc0) (hn : n ≤ ms0) (h : K0 (some (.double v)) ws) : J X ws k n pc lv [.double v] := by
  obtain ⟨p, l0, e, R, s, m, args, below, meth, c, D0, ct0, sa0, A, nL, Q⟩ := X
  obtain ⟨hx, hb, hml, ho, hts, hK, hA, hlk, hEX, rfl, rfl, rfl, rfl, rfl, rfl⟩ := C
  obtain ⟨rfl, rfl, hr⟩ := E
  intro H locs ls hP hD hS hl
  refine W.widen hk hn (vx_ret ?_)
  exact W.dret hx hb hr (fun t ht hW => ⟨⟨_, ws, rfl, h, by rw [ht]; exact hP, hD⟩, hS.F ht⟩) hS.2.2 d hlk
theorem j_areturn (C : jC X l D ct sa cc nL1 own R0) {v : Nat} {rt : FieldType} (E : jE X ws0 K0 KX0 mc0 ms0 (some rt)) (hrt : (∃ n, rt = .object n) ∨ ∃ t, rt = .array t) (d : decode cc pc = .ok (.areturn, 1)) (hk : k ≤ mc0) (hn : n ≤ ms0) (h : K0 (some (.ref v)) ws) : J X ws k n pc lv [.ref v] := by
  obtain ⟨p, l0, e, R, s, m, args, below, meth, c, D0, ct0, sa0, A, nL, Q⟩ := X
  obtain ⟨hx, hb, hml, ho, hts, hK, hA, hlk, hEX, rfl, rfl, rfl, rfl, rfl, rfl⟩ := C
  obtain ⟨rfl, rfl, hr⟩ := E
  intro H locs ls hP hD hS hl
  refine W.widen hk hn (vx_ret ?_)
  exact W.aret hx hb hr hrt (Or.inr ⟨v, rfl⟩) (fun t ht hW => ⟨⟨_, ws, rfl, h, by rw [ht]; exact hP, hD⟩, hS.F ht⟩) hS.2.2 d hlk
theorem j_return (C : jC X l D ct sa cc nL1 own R0)  (E : jE X ws0 K0 KX0 mc0 ms0 none) (d : decode cc pc = .ok (.return_, 1)) (hk : k ≤ mc0) (hn : n ≤ ms0) (h : K0 none ws) : J X ws k n pc lv [] := by
  obtain ⟨p, l0, e, R, s, m, args, below, meth, c, D0, ct0, sa0, A, nL, Q⟩ := X
  obtain ⟨hx, hb, hml, ho, hts, hK, hA, hlk, hEX, rfl, rfl, rfl, rfl, rfl, rfl⟩ := C
  obtain ⟨rfl, rfl, hr⟩ := E
  intro H locs ls hP hD hS hl
  refine W.widen hk hn (vx_ret ?_)
  exact W.vret hx hb hr (fun t ht hW => ⟨⟨_, ws, rfl, h, by rw [ht]; exact hP, hD⟩, hS.F ht⟩) hS.2.2 d hlk
theorem j_widen {k1 n1 : Nat} (h1 : k ≤ k1) (h2 : n ≤ n1) (kk : J X ws k1 n1 pc lv st) : J X ws k n pc lv st := by
  obtain ⟨p, l0, e, R, s, m, args, below, meth, c, D0, ct0, sa0, A, nL, Q⟩ := X
  intro H locs ls hP hD hS hl
  exact W.widen h1 h2 (kk H locs ls hP hD hS hl)
theorem j_lv {lv1 : List (Nat × Value)} (h : lv = lv1) (kk : J X ws k n pc lv1 st) : J X ws k n pc lv st := h ▸ kk
theorem j_lvs {lv1 : List (Nat × Value)} (ks : List Nat) (h : lv_pick lv ks = lv1) (kk : J X ws k n pc lv1 st) : J X ws k n pc lv st := by
  obtain ⟨p, l0, e, R, s, m, args, below, meth, c, D0, ct0, sa0, A, nL, Q⟩ := X
  intro H locs ls hP hD hS hl
  exact kk H locs ls hP hD hS (lv_sub hl ks h)
theorem j_st {st1 : List Value} (h : st = st1) (kk : J X ws k n pc lv st1) : J X ws k n pc lv st := h ▸ kk
theorem j_ws {ws1 : va_W} (h : ws = ws1) (kk : J X ws1 k n pc lv st) : J X ws k n pc lv st := h ▸ kk
/-- the cells in another order, or fewer -/
theorem j_by {ws1 : va_W} (g : Nat → Nat) (hg : ∀ (k : Nat) (q : Nat × va_E), ws1[k]? = some q → ws[g k]? = some q) (hi : ∀ i j : Nat, i < ws1.length → j < ws1.length → g i = g j → i = j) (kk : J X ws1 k n pc lv st) : J X ws k n pc lv st := by
  obtain ⟨p, l0, e, R, s, m, args, below, meth, c, D0, ct0, sa0, A, nL, Q⟩ := X
  intro H locs ls hP hD hS hl
  exact kk H locs ls (hP.by g hg) (hD.by g hg hi) hS hl
theorem j_swap {a b c0 : va_W} (h : ws = (a ++ b) ++ c0) (kk : J X ((a ++ c0) ++ b) k n pc lv st) : J X ws k n pc lv st := by
  subst h
  obtain ⟨p, l0, e, R, s, m, args, below, meth, c, D0, ct0, sa0, A, nL, Q⟩ := X
  intro H locs ls hP hD hS hl
  exact kk H locs ls hP.swap hD.swap hS hl
/-- the cells in front are forgotten, or those behind -/
theorem j_drop {a b : va_W} (h : ws = a ++ b) (kk : J X a k n pc lv st) : J X ws k n pc lv st := by
  subst h
  refine j_by (fun i => i) (fun i q hq => ?_) (fun i j _ _ h => h) kk
  have hl : i < a.length := (List.getElem?_eq_some_iff.mp hq).1
  rw [List.getElem?_append_left hl]
  exact hq

theorem jt_out (C : jC X l D ct sa cc nL1 own R0) (E : jE X ws0 K0 KX0 mc0 ms0 rt0) (T0 : jT0 X) {En : String} (h0 : ws = ws0) (hk : k ≤ mc0) (hn : n ≤ ms0) (h : KX0 En) : JT X ws k n pc lv En := by
  obtain ⟨p, l0, e, R, s, m, args, below, meth, c, D0, ct0, sa0, A, nL, Q⟩ := X
  obtain ⟨hx, hb, hml, ho, hts, hK, hA, hlk, hEX, rfl, rfl, rfl, rfl, rfl, rfl⟩ := C
  obtain ⟨rfl, rfl, hr⟩ := E
  subst h0
  intro H locs ls rest q ce hP hD hS hl hce hcv hcl
  exact vx_out (fun x hx => (T0 x hx).elim) hlk hce hcv hcl (fun t ht hW => ⟨⟨h, by rw [ht]; exact hP, hD⟩, hS.F ht⟩) hS.2.2 hk hn
theorem j_throwS (C : jC X l D ct sa cc nL1 own R0) (E : jE X ws0 K0 KX0 mc0 ms0 rt0) (T0 : jT0 X) (htr : l.stackTraces = false) {cls text : String} {names : List String} {ik is ic : Nat} (hown : own = "LetterLocks") (hcls : Bundle.fit cls = true) (hnames : ∀ n ∈ names, Bundle.fit n = true) (hk1 : Cond.classLink own ik cls ∈ GW) (hini : Cond.initialized cls ∈ GW) (hstr : (is, text) ∈ STRS) (hat : ∀ w ∈ vx_atS own ic cls names, w ∈ GW ∨ w ∈ NW) (hgood : ∀ w ∈ Cond.classLink own ik cls :: Cond.initialized cls :: vx_atS own ic cls names, vx_ot w = true) (d0 : decode cc pc = .ok (.new ik, 3)) (d3 : decode cc (pc + 3) = .ok (.dup, 1)) (d4 : decode cc (pc + 4) = .ok (.ldc is, 2)) (d6 : decode cc (pc + 6) = .ok (.invokespecial ic, 3)) (d9 : decode cc (pc + 9) = .ok (.athrow, 1)) (hRf : names.length + 3 < R0.frames) (hRl : (st.map fun v => v.category).sum + (13 * (names.length + 1) + 43) ≤ R0.locals) (hRc : k + 1 ≤ R0.cells) (hRs : n + 6 ≤ R0.slots) (h0 : ws = ws0) (h : KX0 cls) (hk : k + 1 ≤ mc0) (hn : n + 6 ≤ ms0) : J X ws k n pc lv st := by
  obtain ⟨p, l0, e, R, s, m, args, below, meth, c, D0, ct0, sa0, A, nL, Q⟩ := X
  obtain ⟨hx, hb, hml, ho, hts, hK, hA, hlk, hEX, rfl, rfl, rfl, rfl, rfl, rfl⟩ := C
  obtain ⟨rfl, rfl, hr⟩ := E
  subst h0
  subst hown
  intro H locs ls hP hD hS hl
  exact vx_throwS hx hb htr ho hcls hnames (hts _ hk1) (hts _ hini) (hEX.2.1 _ hstr) (fun w hw => (hat w hw).elim (fun q => hts _ q) (fun q => va_Nw.use (nw_tab (List.mem_filter.mp q).2) (hEX.1 _ q))) hgood hEX.2.2.2.2.2.1 hEX.2.2.2.2.2.2.1 hS (hl.1.trans hml.symm) d0 d3 d4 d6 d9 (fun x hx => (T0 x hx).elim) hRf hRl hRc hRs hlk
    (fun t hal hz hq => ⟨⟨h, hP.kept (fun i q hi => hq _ (hP i q hi).lt), hD⟩, ⟨Nat.le_trans hS.1 hz, fun q h1 h2 => (hq q (Nat.lt_of_lt_of_le h1 hS.1)).trans (hS.2.1 q h1 h2)⟩⟩) hS.2.2 hk hn
theorem jr_core {p : Program} {e : Env} {R : Room} {s : State} {m : MethodId} {args : Array Value} {below : List Frame} {meth : Method} {c : Code} {A : Nat → Prop} {nL : Nat} {Q : State → Prop} {H : Heap} {locs : List Loc} {ls : Array Slot} {mc ms : Nat} {rest st0 : List Value} {K : Option Value → va_W → Prop} {a : Array Value}
    (hA : ∀ q, va_A ws H.size q → A q) (hS : va_S A s.heap H locs) (hl : lv_has ls nL lv)
    (hr : va_Run p l e R s m args below meth c H locs k n mc ms (F0 m pc ls st0) rest (jQ D ct H.size ws K a) (va_A ws H.size))
    (kk : ∀ v w, K v w → J (p, l, e, R, s, m, args, below, meth, c, D, ct, sa, A, nL, Q) w (k + mc) (n + ms) (pc + 3) lv (v.toList ++ rest)) : W p l e R s m args below meth c H locs k n Q (F0 m pc ls st0) := by
  intro T hT Xs
  obtain ⟨v, st₀, t, T', L, h0, X', hL, e1, e2, ⟨⟨r, w, hv, hk, hP1, hD1⟩, hF⟩, stp⟩ := hr T hT Xs
  cases hv
  obtain ⟨k1, k2, k3⟩ := vx_keep h0 e1 hS (fun q _ h => hA q h) (fun q h => hA q h) hL hF
  obtain ⟨t2, a1, b1⟩ := kk v w hk T'.heap (locs ++ L) ls (by rw [e1]; exact hP1) (hD1.weaken (fun _ _ _ h => hA _ h)) k3 hl T' rfl X'
  exact ⟨t2, stp t2 a1, b1⟩
theorem jr_coreX {p : Program} {e : Env} {R : Room} {s : State} {m : MethodId} {args : Array Value} {below : List Frame} {meth : Method} {c : Code} {A : Nat → Prop} {nL : Nat} {Q : State → Prop} {H : Heap} {locs : List Loc} {ls : Array Slot} {mc ms : Nat} {rest st0 : List Value} {K : Option Value → va_W → Prop} {KX : String → Prop} {a : Array Value}
    (hA : ∀ q, va_A ws H.size q → A q) (hS : va_S A s.heap H locs) (hl : lv_has ls nL lv)
    (hr : vx_Run p l e R s m args below meth c H locs k n mc ms (F0 m pc ls st0) rest (jQ D ct H.size ws K a) (jX D ct H.size ws KX) (va_A ws H.size))
    (kx : ∀ En, KX En → JT (p, l, e, R, s, m, args, below, meth, c, D, ct, sa, A, nL, Q) ws (k + mc) (n + ms) pc lv En)
    (kk : ∀ v w, K v w → J (p, l, e, R, s, m, args, below, meth, c, D, ct, sa, A, nL, Q) w (k + mc) (n + ms) (pc + 3) lv (v.toList ++ rest)) : W p l e R s m args below meth c H locs k n Q (F0 m pc ls st0) := by
  intro T hT Xs
  rcases hr T hT Xs with ⟨v, st₀, t, T', L, h0, X', hL, e1, e2, ⟨⟨r, w, hv, hk, hP1, hD1⟩, hF⟩, stp⟩ | ⟨q, st₀, t, T', L, En, ce, h0, X', hL, e1, e2, ⟨⟨hkx, hP1, hD1⟩, hF⟩, hce, hcv, hcl, stp⟩
  · cases hv
    obtain ⟨k1, k2, k3⟩ := vx_keep h0 e1 hS (fun q _ h => hA q h) (fun q h => hA q h) hL hF
    obtain ⟨t2, a1, b1⟩ := kk v w hk T'.heap (locs ++ L) ls (by rw [e1]; exact hP1) (hD1.weaken (fun _ _ _ h => hA _ h)) k3 hl T' rfl X'
    exact ⟨t2, stp t2 a1, b1⟩
  · obtain ⟨k1, k2, k3⟩ := vx_keep h0 e1 hS (fun q _ h => hA q h) (fun q h => hA q h) hL hF
    obtain ⟨t2, a1, b1⟩ := kx En hkx T'.heap (locs ++ L) ls rest q ce (by rw [e1]; exact hP1) (hD1.weaken (fun _ _ _ h => hA _ h)) k3 hl (by rw [e1]; exact hce) hcv hcl T' rfl X'
    exact ⟨t2, stp.trans a1, b1⟩
theorem gi_V {own Cn : String} {index : Nat} {y : MethodName} {wl : List Cond} (w1 : Cond.methodLink own index y ∈ GW) (w2 : Cond.instanceMethod y ∈ GW) (w3 : Cond.selects Cn y y ∈ GW) (w4 : Cond.initialized Cn ∈ GW) (hw : ∀ w ∈ wl, w ∈ GW) : GoodIn GW (wsV own index Cn y wl) := by
  refine good_in (fun w h => ?_)
  rcases List.mem_append.mp h with h | h
  · simp only [List.mem_cons, List.not_mem_nil, or_false] at h
    rcases h with rfl | rfl | rfl | rfl
    · exact w1
    · exact w2
    · exact w3
    · exact w4
  · exact hw w h
theorem gi_S {own : String} {index : Nat} {y : MethodName} {wl : List Cond} (w1 : Cond.methodLink own index y ∈ GW) (w2 : Cond.static y ∈ GW) (w4 : Cond.initialized y.cls ∈ GW) (hw : ∀ w ∈ wl, w ∈ GW) : GoodIn GW (va_wsS own index y wl) := by
  refine good_in (fun w h => ?_)
  rcases List.mem_append.mp h with h | h
  · simp only [List.mem_cons, List.not_mem_nil, or_false] at h
    rcases h with rfl | rfl | rfl
    · exact w1
    · exact w2
    · exact w4
  · exact hw w h
theorem gi_c {w : Cond} (h : w ∈ GW) : ∀ q ∈ w :: GW, q ∈ GW := fun q hq => (List.mem_cons.mp hq).elim (fun e => e ▸ h) id

theorem j_callV (C : jC X l D ct sa cc nL1 own R0) {y : MethodName} {bytes : ByteArray} {maxL index f mc ms lo nargs : Nat} {ret : Option FieldType} {As rest : List Value} {K : Option Value → va_W → Prop}  {b ci : Nat} {fs : List Value} {Cn : String} {r0 : vw_C} (q0 : Nat) (he : ws[q0]? = some (b, .inr (ci, fs))) (hc : vwCl[ci]? = some r0) (hr0 : r0.1 = Cn) (w1 : Cond.methodLink own index y ∈ GW) (w2 : Cond.instanceMethod y ∈ GW) (w3 : Cond.selects Cn y y ∈ GW) (w4 : Cond.initialized Cn ∈ GW) (hM : jM l y (Cond.code y bytes maxL ret :: GW) (rM f mc ms lo) D ct sa (.ref b :: As) ws K mc ms) (w5 : Cond.code y bytes maxL ret ∈ GW) (hy : y.cls = Cn ∧ y.cls ≠ "java/lang/invoke/MethodHandle" ∧ y.cls ≠ "java/lang/invoke/VarHandle" ∧ (parseMethodDescriptor y.desc).map (fun d => d.parameters.length) = some nargs) (hn : As.length = nargs) (d : decode cc pc = .ok (.invokevirtual index, 3)) (hR : f + 1 ≤ R0.frames ∧ 8 + (maxL + 11) + lo ≤ R0.locals) (hf : k + mc ≤ R0.cells ∧ n + ms ≤ R0.slots) (hrest : (rest.map fun v => v.category).sum ≤ 8) (kk : ∀ v w, K v w → J X w (k + mc) (n + ms) (pc + 3) lv (v.toList ++ rest)) : J X ws k n pc lv (As.reverse ++ .ref b :: rest) := by
  obtain ⟨p, l0, e, R, s, m, args, below, meth, c, D0, ct0, sa0, A, nL, Q⟩ := X
  obtain ⟨hx, hb, hml, ho, hts, hK, hA, hlk, hEX, rfl, rfl, rfl, rfl, rfl, rfl⟩ := C
  intro H locs ls hP hD hS hl
  obtain ⟨hsub, hpre⟩ := jp_pre hK hA hEX hP hD hS
  exact jr_core hsub hS hl (va_runV (C := Cn) (As := As) (rest := rest) ⟨hx, hb, hml, ho, hts⟩ (hM H.size) (cwV nargs hts (gi_V w1 w2 w3 w4 (gi_c w5)) rfl rfl rfl hy hR) ⟨jp_blind, by obtain ⟨cb, h1, h2, h3⟩ := va_recv hK hP hc he; exact ⟨cb, h1, h2, hr0 ▸ h3⟩, fun U hU hW => ⟨rfl, hpre U hU hW⟩⟩ rfl hn hl.1 rfl (lv_room hrest) d hf) kk
theorem j_callS (C : jC X l D ct sa cc nL1 own R0) {y : MethodName} {bytes : ByteArray} {maxL index f mc ms lo nargs : Nat} {ret : Option FieldType} {As rest : List Value} {K : Option Value → va_W → Prop}  (w1 : Cond.methodLink own index y ∈ GW) (w2 : Cond.static y ∈ GW) (w4 : Cond.initialized y.cls ∈ GW) (hM : jM l y (Cond.code y bytes maxL ret :: GW) (rM f mc ms lo) D ct sa As ws K mc ms) (w5 : Cond.code y bytes maxL ret ∈ GW) (hy : y.cls ≠ "java/lang/invoke/MethodHandle" ∧ y.cls ≠ "java/lang/invoke/VarHandle" ∧ (parseMethodDescriptor y.desc).map (fun d => d.parameters.length) = some nargs) (hn : As.length = nargs) (d : decode cc pc = .ok (.invokestatic index, 3)) (hR : f + 1 ≤ R0.frames ∧ 8 + (maxL + 11) + lo ≤ R0.locals) (hf : k + mc ≤ R0.cells ∧ n + ms ≤ R0.slots) (hrest : (rest.map fun v => v.category).sum ≤ 8) (kk : ∀ v w, K v w → J X w (k + mc) (n + ms) (pc + 3) lv (v.toList ++ rest)) : J X ws k n pc lv (As.reverse ++ rest) := by
  obtain ⟨p, l0, e, R, s, m, args, below, meth, c, D0, ct0, sa0, A, nL, Q⟩ := X
  obtain ⟨hx, hb, hml, ho, hts, hK, hA, hlk, hEX, rfl, rfl, rfl, rfl, rfl, rfl⟩ := C
  intro H locs ls hP hD hS hl
  obtain ⟨hsub, hpre⟩ := jp_pre hK hA hEX hP hD hS
  exact jr_core hsub hS hl (va_runS (As := As) (rest := rest) ⟨hx, hb, hml, ho, hts⟩ (hM H.size) (va_cwS nargs hts (gi_S w1 w2 w4 (gi_c w5)) rfl rfl rfl hy hR) ⟨jp_blind, fun U hU hW => ⟨rfl, hpre U hU hW⟩⟩ rfl hn hl.1 rfl (lv_room hrest) d hf) kk
theorem j_callVX (C : jC X l D ct sa cc nL1 own R0) {y : MethodName} {bytes : ByteArray} {maxL index f mc ms lo nargs : Nat} {ret : Option FieldType} {As rest : List Value} {K : Option Value → va_W → Prop} {KX : String → Prop}  {b ci : Nat} {fs : List Value} {Cn : String} {r0 : vw_C} (q0 : Nat) (he : ws[q0]? = some (b, .inr (ci, fs))) (hc : vwCl[ci]? = some r0) (hr0 : r0.1 = Cn) (w1 : Cond.methodLink own index y ∈ GW) (w2 : Cond.instanceMethod y ∈ GW) (w3 : Cond.selects Cn y y ∈ GW) (w4 : Cond.initialized Cn ∈ GW) (hM : jMX l y (Cond.code y bytes maxL ret :: GW) (rM f mc ms lo) D ct sa (.ref b :: As) ws K KX mc ms) (w5 : Cond.code y bytes maxL ret ∈ GW) (hy : y.cls = Cn ∧ y.cls ≠ "java/lang/invoke/MethodHandle" ∧ y.cls ≠ "java/lang/invoke/VarHandle" ∧ (parseMethodDescriptor y.desc).map (fun d => d.parameters.length) = some nargs) (hn : As.length = nargs) (d : decode cc pc = .ok (.invokevirtual index, 3)) (hR : f + 1 ≤ R0.frames ∧ 8 + (maxL + 11) + lo ≤ R0.locals) (hf : k + mc ≤ R0.cells ∧ n + ms ≤ R0.slots) (hrest : (rest.map fun v => v.category).sum ≤ 8) (kx : ∀ En, KX En → JT X ws (k + mc) (n + ms) pc lv En) (kk : ∀ v w, K v w → J X w (k + mc) (n + ms) (pc + 3) lv (v.toList ++ rest)) : J X ws k n pc lv (As.reverse ++ .ref b :: rest) := by
  obtain ⟨p, l0, e, R, s, m, args, below, meth, c, D0, ct0, sa0, A, nL, Q⟩ := X
  obtain ⟨hx, hb, hml, ho, hts, hK, hA, hlk, hEX, rfl, rfl, rfl, rfl, rfl, rfl⟩ := C
  intro H locs ls hP hD hS hl
  obtain ⟨hsub, hpre⟩ := jp_pre hK hA hEX hP hD hS
  exact jr_coreX hsub hS hl (vx_runV (C := Cn) (As := As) (rest := rest) ⟨hx, hb, hml, ho, hts⟩ (hM H.size) (cwV nargs hts (gi_V w1 w2 w3 w4 (gi_c w5)) rfl rfl rfl hy hR) ⟨jp_blind, by obtain ⟨cb, h1, h2, h3⟩ := va_recv hK hP hc he; exact ⟨cb, h1, h2, hr0 ▸ h3⟩, fun U hU hW => ⟨rfl, hpre U hU hW⟩⟩ rfl hn hl.1 rfl (lv_room hrest) d hf) kx kk
theorem j_callSX (C : jC X l D ct sa cc nL1 own R0) {y : MethodName} {bytes : ByteArray} {maxL index f mc ms lo nargs : Nat} {ret : Option FieldType} {As rest : List Value} {K : Option Value → va_W → Prop} {KX : String → Prop}  (w1 : Cond.methodLink own index y ∈ GW) (w2 : Cond.static y ∈ GW) (w4 : Cond.initialized y.cls ∈ GW) (hM : jMX l y (Cond.code y bytes maxL ret :: GW) (rM f mc ms lo) D ct sa As ws K KX mc ms) (w5 : Cond.code y bytes maxL ret ∈ GW) (hy : y.cls ≠ "java/lang/invoke/MethodHandle" ∧ y.cls ≠ "java/lang/invoke/VarHandle" ∧ (parseMethodDescriptor y.desc).map (fun d => d.parameters.length) = some nargs) (hn : As.length = nargs) (d : decode cc pc = .ok (.invokestatic index, 3)) (hR : f + 1 ≤ R0.frames ∧ 8 + (maxL + 11) + lo ≤ R0.locals) (hf : k + mc ≤ R0.cells ∧ n + ms ≤ R0.slots) (hrest : (rest.map fun v => v.category).sum ≤ 8) (kx : ∀ En, KX En → JT X ws (k + mc) (n + ms) pc lv En) (kk : ∀ v w, K v w → J X w (k + mc) (n + ms) (pc + 3) lv (v.toList ++ rest)) : J X ws k n pc lv (As.reverse ++ rest) := by
  obtain ⟨p, l0, e, R, s, m, args, below, meth, c, D0, ct0, sa0, A, nL, Q⟩ := X
  obtain ⟨hx, hb, hml, ho, hts, hK, hA, hlk, hEX, rfl, rfl, rfl, rfl, rfl, rfl⟩ := C
  intro H locs ls hP hD hS hl
  obtain ⟨hsub, hpre⟩ := jp_pre hK hA hEX hP hD hS
  exact jr_coreX hsub hS hl (vx_runS (As := As) (rest := rest) ⟨hx, hb, hml, ho, hts⟩ (hM H.size) (va_cwS nargs hts (gi_S w1 w2 w4 (gi_c w5)) rfl rfl rfl hy hR) ⟨jp_blind, fun U hU hW => ⟨rfl, hpre U hU hW⟩⟩ rfl hn hl.1 rfl (lv_room hrest) d hf) kx kk
theorem j_callSW (C : jC X l D ct sa cc nL1 own R0) {y : MethodName} {bytes : ByteArray} {maxL index f mc ms lo nargs : Nat} {ret : Option FieldType} {As rest : List Value} {K : Option Value → va_W → Prop} {hh : List (Nat × Nat × Nat × Nat)} (w1 : Cond.methodLink own index y ∈ GW) (w2 : Cond.static y ∈ GW) (w4 : Cond.initialized y.cls ∈ GW) (hM : jM l y (Cond.codeWith y bytes maxL ret hh :: GW) (rM f mc ms lo) D ct sa As ws K mc ms) (w5 : Cond.codeWith y bytes maxL ret hh ∈ GW) (hy : y.cls ≠ "java/lang/invoke/MethodHandle" ∧ y.cls ≠ "java/lang/invoke/VarHandle" ∧ (parseMethodDescriptor y.desc).map (fun d => d.parameters.length) = some nargs) (hn : As.length = nargs) (d : decode cc pc = .ok (.invokestatic index, 3)) (hR : f + 1 ≤ R0.frames ∧ 8 + (maxL + 11) + lo ≤ R0.locals) (hf : k + mc ≤ R0.cells ∧ n + ms ≤ R0.slots) (hrest : (rest.map fun v => v.category).sum ≤ 8) (kk : ∀ v w, K v w → J X w (k + mc) (n + ms) (pc + 3) lv (v.toList ++ rest)) : J X ws k n pc lv (As.reverse ++ rest) := by
  obtain ⟨p, l0, e, R, s, m, args, below, meth, c, D0, ct0, sa0, A, nL, Q⟩ := X
  obtain ⟨hx, hb, hml, ho, hts, hK, hA, hlk, hEX, rfl, rfl, rfl, rfl, rfl, rfl⟩ := C
  intro H locs ls hP hD hS hl
  obtain ⟨hsub, hpre⟩ := jp_pre hK hA hEX hP hD hS
  exact jr_core hsub hS hl (vx_runSW (As := As) (rest := rest) ⟨hx, hb, hml, ho, hts⟩ (hM H.size) (vx_cwSW (hh := hh) nargs hts (gi_S w1 w2 w4 (gi_c w5)) rfl rfl rfl hy hR) ⟨jp_blind, fun U hU hW => ⟨rfl, hpre U hU hW⟩⟩ rfl hn hl.1 rfl (lv_room hrest) d hf) kk
theorem j_callI (C : jC X l D ct sa cc nL1 own R0) {y : MethodName} {bytes : ByteArray} {maxL index f mc ms lo nargs : Nat} {As rest : List Value} {K : Option Value → va_W → Prop}  {b : Nat} (w1 : Cond.methodLink own index y ∈ GW) (w2 : Cond.instanceMethod y ∈ GW) (w4 : Cond.initialized y.cls ∈ GW) (hi0 : y.name = "<init>") (hM : jM l y (Cond.code y bytes maxL none :: GW) (rM f mc ms lo) D ct sa (.ref b :: As) ws K mc ms) (w5 : Cond.code y bytes maxL none ∈ GW) (hy : y.cls ≠ "java/lang/invoke/MethodHandle" ∧ y.cls ≠ "java/lang/invoke/VarHandle" ∧ (parseMethodDescriptor y.desc).map (fun d => d.parameters.length) = some nargs) (hn : As.length = nargs) (d : decode cc pc = .ok (.invokespecial index, 3)) (hR : f + 1 ≤ R0.frames ∧ 8 + (maxL + 11) + lo ≤ R0.locals) (hf : k + mc ≤ R0.cells ∧ n + ms ≤ R0.slots) (hrest : (rest.map fun v => v.category).sum ≤ 8) (kk : ∀ v w, K v w → J X w (k + mc) (n + ms) (pc + 3) lv (v.toList ++ rest)) : J X ws k n pc lv (As.reverse ++ .ref b :: rest) := by
  obtain ⟨p, l0, e, R, s, m, args, below, meth, c, D0, ct0, sa0, A, nL, Q⟩ := X
  obtain ⟨hx, hb, hml, ho, hts, hK, hA, hlk, hEX, rfl, rfl, rfl, rfl, rfl, rfl⟩ := C
  intro H locs ls hP hD hS hl
  obtain ⟨hsub, hpre⟩ := jp_pre hK hA hEX hP hD hS
  exact jr_core hsub hS hl (va_runI (As := As) (rest := rest) ⟨hx, hb, hml, ho, hts⟩ (hM H.size) (cwI nargs hts (good_in (gi_c w5)) rfl rfl rfl (hts _ w4) (hts _ w1) (hts _ w2) hi0 hy hR) ⟨jp_blind, fun U hU hW => ⟨rfl, hpre U hU hW⟩⟩ rfl hn hl.1 rfl (lv_room hrest) d hf) kk
theorem j_callSN (C : jC X l D ct sa cc nL1 own R0) {y : MethodName} {bytes : ByteArray} {maxL index f mc ms lo nargs : Nat} {ret : Option FieldType} {As rest : List Value} {K : Option Value → va_W → Prop}  {host : String} (w1 : Cond.methodLinkNest own index y host ∈ NW) (w2 : Cond.static y ∈ GW) (w4 : Cond.initialized y.cls ∈ GW) (hM : jM l y (Cond.code y bytes maxL ret :: GW) (rM f mc ms lo) D ct sa As ws K mc ms) (w5 : Cond.code y bytes maxL ret ∈ GW) (hy : y.cls ≠ "java/lang/invoke/MethodHandle" ∧ y.cls ≠ "java/lang/invoke/VarHandle" ∧ (parseMethodDescriptor y.desc).map (fun d => d.parameters.length) = some nargs) (hn : As.length = nargs) (d : decode cc pc = .ok (.invokestatic index, 3)) (hR : f + 1 ≤ R0.frames ∧ 8 + (maxL + 11) + lo ≤ R0.locals) (hf : k + mc ≤ R0.cells ∧ n + ms ≤ R0.slots) (hrest : (rest.map fun v => v.category).sum ≤ 8) (kk : ∀ v w, K v w → J X w (k + mc) (n + ms) (pc + 3) lv (v.toList ++ rest)) : J X ws k n pc lv (As.reverse ++ rest) := by
  obtain ⟨p, l0, e, R, s, m, args, below, meth, c, D0, ct0, sa0, A, nL, Q⟩ := X
  obtain ⟨hx, hb, hml, ho, hts, hK, hA, hlk, hEX, rfl, rfl, rfl, rfl, rfl, rfl⟩ := C
  intro H locs ls hP hD hS hl
  obtain ⟨hsub, hpre⟩ := jp_pre hK hA hEX hP hD hS
  exact jr_core hsub hS hl (va_runSN (As := As) (rest := rest) ⟨hx, hb, hml, ho, hts⟩ (hM H.size) (⟨va_cnB nargs hts (good_in (gi_c w5)) rfl rfl rfl (hEX.1 _ w1) (hts _ w4) hy hR, hts _ w2, trivial⟩) ⟨jp_blind, fun U hU hW => ⟨rfl, hpre U hU hW⟩⟩ rfl hn hl.1 rfl (lv_room hrest) d hf) kk
theorem j_callIN (C : jC X l D ct sa cc nL1 own R0) {y : MethodName} {bytes : ByteArray} {maxL index f mc ms lo nargs : Nat} {As rest : List Value} {K : Option Value → va_W → Prop}  {b : Nat} {host : String} (w1 : Cond.methodLinkNest own index y host ∈ NW) (w2 : Cond.instanceMethod y ∈ GW) (w4 : Cond.initialized y.cls ∈ GW) (hi0 : y.name = "<init>") (hM : jM l y (Cond.code y bytes maxL none :: GW) (rM f mc ms lo) D ct sa (.ref b :: As) ws K mc ms) (w5 : Cond.code y bytes maxL none ∈ GW) (hy : y.cls ≠ "java/lang/invoke/MethodHandle" ∧ y.cls ≠ "java/lang/invoke/VarHandle" ∧ (parseMethodDescriptor y.desc).map (fun d => d.parameters.length) = some nargs) (hn : As.length = nargs) (d : decode cc pc = .ok (.invokespecial index, 3)) (hR : f + 1 ≤ R0.frames ∧ 8 + (maxL + 11) + lo ≤ R0.locals) (hf : k + mc ≤ R0.cells ∧ n + ms ≤ R0.slots) (hrest : (rest.map fun v => v.category).sum ≤ 8) (kk : ∀ v w, K v w → J X w (k + mc) (n + ms) (pc + 3) lv (v.toList ++ rest)) : J X ws k n pc lv (As.reverse ++ .ref b :: rest) := by
  obtain ⟨p, l0, e, R, s, m, args, below, meth, c, D0, ct0, sa0, A, nL, Q⟩ := X
  obtain ⟨hx, hb, hml, ho, hts, hK, hA, hlk, hEX, rfl, rfl, rfl, rfl, rfl, rfl⟩ := C
  intro H locs ls hP hD hS hl
  obtain ⟨hsub, hpre⟩ := jp_pre hK hA hEX hP hD hS
  exact jr_core hsub hS hl (va_runIN (As := As) (rest := rest) ⟨hx, hb, hml, ho, hts⟩ (hM H.size) (⟨va_cnB nargs hts (good_in (gi_c w5)) rfl rfl rfl (hEX.1 _ w1) (hts _ w4) hy hR, hi0, hts _ w2⟩) ⟨jp_blind, fun U hU hW => ⟨rfl, hpre U hU hW⟩⟩ rfl hn hl.1 rfl (lv_room hrest) d hf) kk
theorem j_mmin (C : jC X l D ct sa cc nL1 own R0) {index : Nat} {x y : Int32} (w1 : Cond.methodLink own index Lib.Math.min.name ∈ GW) (w2 : Cond.static Lib.Math.min.name ∈ GW) (w4 : Cond.initialized "java/lang/Math" ∈ GW) (w5 : Cond.code Lib.Math.min.name Lib.Math.min.code 2 (some .int) ∈ GW) (hR : 1 ≤ R0.frames ∧ (st.map fun v => v.category).sum + 13 ≤ R0.locals) (hf : k ≤ R0.cells ∧ n ≤ R0.slots) (d : decode cc pc = .ok (.invokestatic index, 3)) (kk : J X ws k n (pc + 3) lv (.int (if y < x then y else x) :: st)) : J X ws k n pc lv (.int y :: .int x :: st) := by
  obtain ⟨p, l0, e, R, s, m, args, below, meth, c, D0, ct0, sa0, A, nL, Q⟩ := X
  obtain ⟨hx, hb, hml, ho, hts, hK, hA, hlk, hEX, rfl, rfl, rfl, rfl, rfl, rfl⟩ := C
  intro H locs ls hP hD hS hl
  exact va_mmin hx hb (hml.trans hl.1.symm) ho (hts _ w1) (hts _ w2) (hts _ w4) (hts _ w5) hR.1 hR.2 hf.1 hf.2 d (kk H locs ls hP hD hS hl)
theorem j_mmax (C : jC X l D ct sa cc nL1 own R0) {index : Nat} {x y : Int32} (w1 : Cond.methodLink own index Lib.Math.max.name ∈ GW) (w2 : Cond.static Lib.Math.max.name ∈ GW) (w4 : Cond.initialized "java/lang/Math" ∈ GW) (w5 : Cond.code Lib.Math.max.name Lib.Math.max.code 2 (some .int) ∈ GW) (hR : 1 ≤ R0.frames ∧ (st.map fun v => v.category).sum + 13 ≤ R0.locals) (hf : k ≤ R0.cells ∧ n ≤ R0.slots) (d : decode cc pc = .ok (.invokestatic index, 3)) (kk : J X ws k n (pc + 3) lv (.int (if x < y then y else x) :: st)) : J X ws k n pc lv (.int y :: .int x :: st) := by
  obtain ⟨p, l0, e, R, s, m, args, below, meth, c, D0, ct0, sa0, A, nL, Q⟩ := X
  obtain ⟨hx, hb, hml, ho, hts, hK, hA, hlk, hEX, rfl, rfl, rfl, rfl, rfl, rfl⟩ := C
  intro H locs ls hP hD hS hl
  exact va_mmax hx hb (hml.trans hl.1.symm) ho (hts _ w1) (hts _ w2) (hts _ w4) (hts _ w5) hR.1 hR.2 hf.1 hf.2 d (kk H locs ls hP hD hS hl)
theorem j_mabs (C : jC X l D ct sa cc nL1 own R0) {index : Nat} {x : Int32} (w1 : Cond.methodLink own index Lib.Math.abs.name ∈ GW) (w2 : Cond.static Lib.Math.abs.name ∈ GW) (w4 : Cond.initialized "java/lang/Math" ∈ GW) (w5 : Cond.code Lib.Math.abs.name Lib.Math.abs.code 1 (some .int) ∈ GW) (hR : 1 ≤ R0.frames ∧ (st.map fun v => v.category).sum + 13 ≤ R0.locals) (hf : k ≤ R0.cells ∧ n ≤ R0.slots) (d : decode cc pc = .ok (.invokestatic index, 3)) (kk : J X ws k n (pc + 3) lv (.int (if 0 ≤ x then x else 0 - x) :: st)) : J X ws k n pc lv (.int x :: st) := by
  obtain ⟨p, l0, e, R, s, m, args, below, meth, c, D0, ct0, sa0, A, nL, Q⟩ := X
  obtain ⟨hx, hb, hml, ho, hts, hK, hA, hlk, hEX, rfl, rfl, rfl, rfl, rfl, rfl⟩ := C
  intro H locs ls hP hD hS hl
  exact va_mabs hx hb (hml.trans hl.1.symm) ho (hts _ w1) (hts _ w2) (hts _ w4) (hts _ w5) hR.1 hR.2 hf.1 hf.2 d (kk H locs ls hP hD hS hl)
theorem j_objInit (C : jC X l D ct sa cc nL1 own R0) {index a : Nat} (w1 : Cond.methodLink own index objectInit ∈ GW) (w2 : Cond.instanceMethod objectInit ∈ GW) (w5 : Cond.code objectInit ⟨#[0xb1]⟩ 1 none ∈ GW) (hR : 1 ≤ R0.frames ∧ (st.map fun v => v.category).sum + 12 ≤ R0.locals) (d : decode cc pc = .ok (.invokespecial index, 3)) (kk : J X ws k n (pc + 3) lv st) : J X ws k n pc lv (.ref a :: st) := by
  obtain ⟨p, l0, e, R, s, m, args, below, meth, c, D0, ct0, sa0, A, nL, Q⟩ := X
  obtain ⟨hx, hb, hml, ho, hts, hK, hA, hlk, hEX, rfl, rfl, rfl, rfl, rfl, rfl⟩ := C
  intro H locs ls hP hD hS hl
  have hm : 2 * (F0 m pc ls (.ref a :: st)).monitorRoom + (st.map fun v => v.category).sum + 12 ≤ R.locals := by
    have : (F0 m pc ls (.ref a :: st)).monitorRoom = 0 := rfl
    rw [this]
    have := hR.2
    omega
  refine W.objInit hx hb ho (hts _ w1) (hts _ w2) (hts _ w5) rfl (hl.1.trans hml.symm) rfl d hR.1 hm ?_
  exact kk H locs ls hP hD hS hl
theorem j_aald (C : jC X l D ct sa cc nL1 own R0) {a N : Nat} {cA : ClassId} {ty : FieldType} {f : Nat → Option Nat} {i : Int32} {b : Nat} (q0 t0 : Nat) (ha : ws[q0]? = some (a, .inl (cA, N, .inr (.inr (.inr (.inr f)))))) (ht : (TY ct)[t0]? = some (cA, ty)) (hty : ty.isReference = true) (j : Nat) (hi : i = nI j) (hj : j < N) (hN : N < 2 ^ 31) (hb2 : f j = some b) (d : decode cc pc = .ok (.aaload, 1)) (kk : J X ws k n (pc + 1) lv (.ref b :: st)) : J X ws k n pc lv (.int i :: .ref a :: st) := by
  obtain ⟨p, l0, e, R, s, m, args, below, meth, c, D0, ct0, sa0, A, nL, Q⟩ := X
  obtain ⟨hx, hb, hml, ho, hts, hK, hA, hlk, hEX, rfl, rfl, rfl, rfl, rfl, rfl⟩ := C
  intro H locs ls hP hD hS hl
  subst hi
  have hin : vp_in (nI j) N := vp_in_nI hj hN
  have ec : (nI j).toNatClampNeg = j := nI_clamp (Nat.lt_trans hj hN)
  exact W.aald (v := .ref b) (ty := ty) hx hb (hP q0 _ ha) ((hK.2 t0 _ ht).1 N (fun j => va_rf (f j))) hty (fun q => by cases q) (by show ¬ (nI j < 0 ∨ (arrV _ _ _).slots.size ≤ _); rw [arrV_size]; exact hin) (by show (arrV _ _ _).slots[_]? = _; rw [ec, arrV_read _ _ hj, hb2]; rfl) rfl rfl d (kk H locs ls hP hD hS hl)
theorem j_cast (C : jC X l D ct sa cc nL1 own R0) {a ci index : Nat} {fs : List Value} {nm : String} {r0 : vw_C} (q0 : Nat) (he : ws[q0]? = some (a, .inr (ci, fs))) (hc : vwCl[ci]? = some r0) (w1 : Cond.classLink own index nm ∈ GW) (w2 : Cond.castable r0.1 nm ∈ NW) (d : decode cc pc = .ok (.checkcast index, 3)) (kk : J X ws k n (pc + 3) lv (.ref a :: st)) : J X ws k n pc lv (.ref a :: st) := by
  obtain ⟨p, l0, e, R, s, m, args, below, meth, c, D0, ct0, sa0, A, nL, Q⟩ := X
  obtain ⟨hx, hb, hml, ho, hts, hK, hA, hlk, hEX, rfl, rfl, rfl, rfl, rfl, rfl⟩ := C
  intro H locs ls hP hD hS hl
  exact va_castY hx hb ho (hts _ w1) (hEX.1 _ w2) (va_recv hK hP hc he) d (kk H locs ls hP hD hS hl)
end JC
end
section
/-! numbers and the station's state -/
abbrev b2i (p : Prop) [Decidable p] : Int32 := if p then nI 1 else nI 0
theorem b2i_f {p : Prop} [Decidable p] (h : b2i p = 0) : ¬ p := by
  intro hp
  simp only [b2i, if_pos hp] at h
  exact absurd h (by decide)
theorem b2i_t {p : Prop} [Decidable p] (h : ¬ b2i p = 0) : p := by
  by_cases hp : p
  · exact hp
  · simp only [b2i, if_neg hp] at h
    exact absurd rfl h
theorem b2i_y {p : Prop} [Decidable p] (h : p) : b2i p = nI 1 := if_pos h
theorem b2i_n {p : Prop} [Decidable p] (h : ¬ p) : b2i p = nI 0 := if_neg h
theorem b2i_c {p q : Prop} [Decidable p] [Decidable q] (h : p ↔ q) : b2i p = b2i q := by
  by_cases hp : p
  · rw [b2i_y hp, b2i_y (h.mp hp)]
  · rw [b2i_n hp, b2i_n (fun z => hp (h.mpr z))]
theorem nr_b {p : Prop} [Decidable p] : narrow .boolean (.int (b2i p)) = .int (b2i p) := by
  by_cases hp : p
  · rw [b2i_y hp]; rfl
  · rw [b2i_n hp]; rfl
theorem nI_nle0 {a b : Nat} (h : a < b) (hb : b < 2 ^ 31) : ¬ nI b ≤ nI a := nI_ge h hb
theorem ile_of {x y : Int32} (h : ¬ x < y) : y ≤ x := by
  rw [Int32.lt_iff_toInt_lt] at h
  rw [Int32.le_iff_toInt_le]
  omega
theorem ilt_of {x y : Int32} (h : ¬ x ≤ y) : y < x := by
  rw [Int32.le_iff_toInt_le] at h
  rw [Int32.lt_iff_toInt_lt]
  omega
theorem inlt {x y : Int32} (h : x ≤ y) : ¬ y < x := by
  rw [Int32.le_iff_toInt_le] at h
  rw [Int32.lt_iff_toInt_lt]
  omega
theorem inle {x y : Int32} (h : x < y) : ¬ y ≤ x := by
  rw [Int32.lt_iff_toInt_lt] at h
  rw [Int32.le_iff_toInt_le]
  omega
/-- x is one of 0 to N - 1 -/
abbrev okI (N : Nat) (x : Int32) : Prop := 0 ≤ x ∧ x < nI N
theorem i0T : (0 : Int32).toInt = 0 := by decide
theorem im1T : (-1 : Int32).toInt = -1 := by decide
theorem okI_of {N : Nat} {x : Int32} (h : okI N x) (hN : N < 2 ^ 31) : ∃ j, j < N ∧ x = nI j := by
  obtain ⟨h1, h2⟩ := h
  rw [Int32.le_iff_toInt_le, i0T] at h1
  rw [Int32.lt_iff_toInt_lt, nI_toInt hN] at h2
  refine ⟨x.toInt.toNat, by omega, ?_⟩
  apply Int32.toInt_inj.mp
  rw [nI_toInt (by omega)]
  omega
theorem okI_n {N j : Nat} (h : j < N) (hN : N < 2 ^ 31) : okI N (nI j) := by
  constructor
  · rw [Int32.le_iff_toInt_le, i0T, nI_toInt (by omega)]; omega
  · rw [Int32.lt_iff_toInt_lt, nI_toInt (by omega), nI_toInt hN]; omega
theorem in_ok {M : Nat} {x : Int32} (hM : M + 1 < 2 ^ 31) : (nI 0 ≤ x ∧ x ≤ nI M) ↔ okI (M + 1) x := by
  have e0 : (nI 0).toInt = 0 := by decide
  simp only [okI, Int32.le_iff_toInt_le, Int32.lt_iff_toInt_lt, i0T, e0, nI_toInt hM, nI_toInt (show M < 2 ^ 31 by omega)]
  omega
theorem in_okn {n : Nat} {x : Int32} (hn : n ≤ 8) : (nI 0 ≤ x ∧ x ≤ nI n - nI 1) ↔ okI n x := by
  have e0 : (nI 0).toInt = 0 := by decide
  have e1 : (nI n - nI 1).toInt = (n : Int) - 1 := pk_sub_toInt (by omega) (by omega)
  simp only [okI, Int32.le_iff_toInt_le, Int32.lt_iff_toInt_lt, i0T, e0, e1, nI_toInt (show n < 2 ^ 31 by omega)]
  omega
abbrev irm (x d : Int32) : Int32 := x - x / d * d
/-- the state: locks, the hour, the turns; eight rows of eight, eight of twenty-four, three of three -/
abbrev St : Type := Nat × Int32 × Int32 × (Nat → Int32) × (Nat → Int32) × (Nat → Int32)
abbrev sN (σ : St) : Nat := σ.1
abbrev sH (σ : St) : Int32 := σ.2.1
abbrev sT (σ : St) : Int32 := σ.2.2.1
abbrev sR (σ : St) : Nat → Int32 := σ.2.2.2.1
abbrev sW (σ : St) : Nat → Int32 := σ.2.2.2.2.1
abbrev sK (σ : St) : Nat → Int32 := σ.2.2.2.2.2
abbrev uN (σ : St) (x : Nat) : St := (x, σ.2.1, σ.2.2.1, σ.2.2.2.1, σ.2.2.2.2.1, σ.2.2.2.2.2)
abbrev uH (σ : St) (x : Int32) : St := (σ.1, x, σ.2.2.1, σ.2.2.2.1, σ.2.2.2.2.1, σ.2.2.2.2.2)
abbrev uT (σ : St) (x : Int32) : St := (σ.1, σ.2.1, x, σ.2.2.2.1, σ.2.2.2.2.1, σ.2.2.2.2.2)
abbrev uR (σ : St) (x : Nat → Int32) : St := (σ.1, σ.2.1, σ.2.2.1, x, σ.2.2.2.2.1, σ.2.2.2.2.2)
abbrev uW (σ : St) (x : Nat → Int32) : St := (σ.1, σ.2.1, σ.2.2.1, σ.2.2.2.1, x, σ.2.2.2.2.2)
abbrev uK (σ : St) (x : Nat → Int32) : St := (σ.1, σ.2.1, σ.2.2.1, σ.2.2.2.1, σ.2.2.2.2.1, x)
/-- the model's four cells -/
def WM (ct : Nat → ClassId) (a : Nat → Nat) (thr : Int32) (σ : St) : va_W := [(a 0, .inr (5, [.int thr, .int (nI (sN σ)), .int (sH σ), .int (sT σ), .ref (a 1), .ref (a 2), .ref (a 3)])), (a 1, .inl (ct 0, 64, .inl (sR σ))), (a 2, .inl (ct 0, 192, .inl (sW σ))), (a 3, .inl (ct 0, 9, .inl (sK σ)))]
def sumF (f : Nat → Int32) : Nat → Int32
  | 0 => nI 0
  | i + 1 => sumF f i + f i
/-- six-fold, ring by ring -/
def stF (g : Nat → Int32) : Nat → Int32
  | 0 => nI 0
  | i + 1 => nI 6 * stF g i + g i
def dvF (w : Int32) : Nat → Int32
  | 0 => w
  | m + 1 => dvF w m / nI 6
def ltF (w : Int32) (r : Nat) : Int32 := irm (dvF w (3 - r)) (nI 6)
def absF (x : Int32) : Int32 := if 0 ≤ x then x else 0 - x
def minF (x y : Int32) : Int32 := if y < x then y else x
def farF (a b : Int32) : Int32 := minF (absF (a - b)) (nI 6 - absF (a - b))
def clF (f : Nat → Int32) (j : Nat) : Nat → (Nat → Int32)
  | 0 => upd f (8 * j + 1) (nI 0)
  | r + 1 => upd (clF f j r) (8 * j + (4 + r)) (irm (clF f j r (8 * j + (4 + r)) + nI r + nI 1) (nI 6))
section JS
variable {X : Ctx} {l : Launch} {D : va_G} {ct : Nat → ClassId} {sa : Nat → Nat} {cc : ByteArray} {nL1 : Nat} {own : String} {R0 : Room} {ws : va_W} {k n pc : Nat} {lv lv' : List (Nat × Value)} {st : List Value}
theorem j_tsIn (C : jC X l D ct sa cc nL1 own R0) {dflt lo hi : Int} {offs : Array Int} {len : Nat} {x : Int32} {off : Int} {tgt : Nat} (d : decode cc pc = .ok (.tableswitch dflt lo hi offs, len)) (h1 : ¬ x.toInt < lo) (h2 : ¬ hi < x.toInt) (ho1 : offs[(x.toInt - lo).toNat]? = some off) (ht : (pc : Int) + off = (tgt : Int)) (kk : J X ws k n tgt lv st) : J X ws k n pc lv (.int x :: st) := by
  obtain ⟨p, l0, e, R, s, m, args, below, meth, c, D0, ct0, sa0, A, nL, Q⟩ := X
  obtain ⟨hx, hb, hml, ho, hts, hK, hA, hlk, hEX, rfl, rfl, rfl, rfl, rfl, rfl⟩ := C
  intro H locs ls hP hD hS hl
  exact lv_tableIn hx hb d h1 h2 ho1 ht (kk H locs ls hP hD hS hl)
theorem j_tsOut (C : jC X l D ct sa cc nL1 own R0) {dflt lo hi : Int} {offs : Array Int} {len : Nat} {x : Int32} {tgt : Nat} (d : decode cc pc = .ok (.tableswitch dflt lo hi offs, len)) (h : x.toInt < lo ∨ hi < x.toInt) (ht : (pc : Int) + dflt = (tgt : Int)) (kk : J X ws k n tgt lv st) : J X ws k n pc lv (.int x :: st) := by
  obtain ⟨p, l0, e, R, s, m, args, below, meth, c, D0, ct0, sa0, A, nL, Q⟩ := X
  obtain ⟨hx, hb, hml, ho, hts, hK, hA, hlk, hEX, rfl, rfl, rfl, rfl, rfl, rfl⟩ := C
  intro H locs ls hP hD hS hl
  exact lv_tableOut hx hb d h ht (kk H locs ls hP hD hS hl)
end JS
end
section
/-! what each call answers: (the number of what is thrown, the answer, the state behind) -/
abbrev ix (x : Int32) : Nat := x.toNatClampNeg
theorem okI_ix {N : Nat} {x : Int32} (h : okI N x) (hN : N < 2 ^ 31) : ix x < N ∧ x = nI (ix x) := by
  obtain ⟨j, hj, rfl⟩ := okI_of h hN
  have e : ix (nI j) = j := nI_clamp (by omega)
  rw [e]
  exact ⟨hj, rfl⟩
abbrev Op : Type := Int32 × Int32 × St
abbrev fD (ct : Nat → ClassId) (a : Nat → Nat) (wr : va_W) (f : Op) : Option Value → va_W → Prop := dK (some (.int f.2.1)) (WM ct a f.1 f.2.2 ++ wr)
theorem fK {ct : Nat → ClassId} {a : Nat → Nat} {wr : va_W} {f : Op} {k v : Int32} {σ : St} (h : f = (k, v, σ)) : fD ct a wr f (some (.int v)) (WM ct a k σ ++ wr) := by
  subst h
  exact ⟨rfl, rfl⟩
/-- letters, words and places of all rows are such -/
abbrev rowsOK (f : Nat → Int32) : Prop := ∀ j, j < 8 → okI 1296 (f (8 * j + 0)) ∧ (f (8 * j + 2) = -1 ∨ okI 3 (f (8 * j + 2))) ∧ ∀ r, r < 4 → okI 6 (f (8 * j + (4 + r)))
abbrev Inv0 (σ : St) : Prop := sN σ ≤ 8 ∧ rowsOK (sR σ)
abbrev opP (h f t : Int32) : Prop := (f < t ∧ f ≤ h ∧ h < t) ∨ (t < f ∧ (f ≤ h ∨ h < t))
abbrev opR (σ : St) (h : Int32) (r : Nat) : Prop := opP (irm h (nI 24)) (sK σ (3 * r + 1)) (sK σ (3 * r + 2))
abbrev inF (σ : St) (y : Int32) : Int32 := sumF (fun i => b2i (sR σ (8 * i + 2) = y)) (sN σ)
def f_lock (σ : St) (w : Int32) : Op := if okI 1296 w then (if nI (sN σ) = nI 8 then (nI 2, nI 0, σ) else (nI 0, nI (sN σ), uN (uR σ (upd (upd (upd (sR σ) (8 * sN σ + 0) w) (8 * sN σ + 1) (nI 1)) (8 * sN σ + 2) (-1))) (sN σ + 1))) else (nI 1, nI 0, σ)
def f_turn (σ : St) (x y z : Int32) : Op := if okI (sN σ) x ∧ okI 4 y then (if okI 6 z then (nI 0, farF (sR σ (8 * ix x + (4 + ix y))) z, uT (uR σ (upd (sR σ) (8 * ix x + (4 + ix y)) z)) (sT σ + farF (sR σ (8 * ix x + (4 + ix y))) z)) else (nI 2, nI 0, σ)) else (nI 1, nI 0, σ)
abbrev stR (f : Nat → Int32) (j : Nat) : Int32 := stF (fun i => f (8 * j + (4 + i))) 4
def opnF (f : Nat → Int32) (j : Nat) : Nat → Int32 := if stR f j = f (8 * j + 0) then upd f (8 * j + 1) (nI 1) else f
def f_open (σ : St) (x : Int32) : Op := if okI (sN σ) x then (nI 0, b2i (opnF (sR σ) (ix x) (8 * ix x + 1) = nI 1), uR σ (opnF (sR σ) (ix x))) else (nI 1, nI 0, σ)
def f_shut (σ : St) (x : Int32) : Op := if okI (sN σ) x then (if sR σ (8 * ix x + 1) = 0 then (nI 2, nI 0, σ) else (nI 0, stR (clF (sR σ) (ix x) 4) (ix x), uR σ (clF (sR σ) (ix x) 4))) else (nI 1, nI 0, σ)
def f_rename (σ : St) (x w : Int32) : Op := if okI (sN σ) x then (if okI 1296 w then (if sR σ (8 * ix x + 1) = 0 then (nI 3, nI 0, σ) else (nI 0, sR σ (8 * ix x + 0), uR σ (upd (upd (sR σ) (8 * ix x + 0) w) (8 * ix x + 3) (nI 0)))) else (nI 2, nI 0, σ)) else (nI 1, nI 0, σ)
def f_lose (σ : St) (x b : Int32) : Op := if okI (sN σ) x then (nI 0, b2i (sR σ (8 * ix x + 3) = nI 1), uR σ (upd (sR σ) (8 * ix x + 3) (b2i (¬ b = 0)))) else (nI 1, nI 0, σ)
def f_setPlaces (σ : St) (x y : Int32) : Op := if okI 3 x then (if nI 1 ≤ y ∧ y ≤ nI 6 then (if inF σ x ≤ y then (nI 0, sK σ (3 * ix x + 0), uK σ (upd (sK σ) (3 * ix x + 0) y)) else (nI 3, nI 0, σ)) else (nI 2, nI 0, σ)) else (nI 1, nI 0, σ)
def f_setHours (σ : St) (x y z : Int32) : Op := if okI 3 x then (if okI 24 y ∧ okI 25 z then (nI 0, nI 25 * sK σ (3 * ix x + 1) + sK σ (3 * ix x + 2), uK σ (upd (upd (sK σ) (3 * ix x + 1) y) (3 * ix x + 2) z)) else (nI 2, nI 0, σ)) else (nI 1, nI 0, σ)
def f_put (σ : St) (x y : Int32) : Op := if okI (sN σ) x ∧ (y = -1 ∨ okI 3 y) then (if sR σ (8 * ix x + 2) = y then (nI 0, sR σ (8 * ix x + 2), σ) else (if sR σ (8 * ix x + 1) = 0 ∨ (¬ y = -1 ∧ (¬ opR σ (sH σ) (ix y) ∨ sK σ (3 * ix y + 0) ≤ inF σ y)) then (nI 2, nI 0, σ) else (nI 0, sR σ (8 * ix x + 2), uR σ (upd (sR σ) (8 * ix x + 2) y)))) else (nI 1, nI 0, σ)
/-- the most worn letter, of several the least one -/
def bmF (g : Nat → Int32) : Nat → Nat
  | 0 => 0
  | t + 1 => if g (bmF g t) < g (t + 1) then t + 1 else bmF g t
theorem bmF_le (g : Nat → Int32) : ∀ t, bmF g t ≤ t
  | 0 => Nat.le_refl 0
  | t + 1 => by
    show (if g (bmF g t) < g (t + 1) then t + 1 else bmF g t) ≤ t + 1
    by_cases h : g (bmF g t) < g (t + 1)
    · rw [if_pos h]; exact Nat.le_refl _
    · rw [if_neg h]; exact Nat.le_succ_of_le (bmF_le g t)
abbrev wrow (f : Nat → Int32) (j r : Nat) : Nat → Int32 := fun q => f (6 * (4 * j + r) + q)
abbrev shF (f : Nat → Int32) (j : Nat) : Int32 := stF (fun r => nI (bmF (wrow f j r) 5)) 4
def tld (σ : St) (j : Nat) : Nat → Int32
  | 0 => stR (sR σ) j
  | 1 => sR σ (8 * j + 1)
  | 2 => sR σ (8 * j + 2)
  | 3 => sR σ (8 * j + 3)
  | 4 => shF (sW σ) j
  | _ => if sR σ (8 * j + 3) = nI 1 then -1 else sR σ (8 * j + 0)
def f_told (σ : St) (x y : Int32) : Op := if okI (sN σ) x ∧ okI 6 y then (nI 0, tld σ (ix x) (ix y), σ) else (nI 1, nI 0, σ)
def f_wear (σ : St) (x y z : Int32) : Op := if okI (sN σ) x ∧ okI 4 y ∧ okI 6 z then (nI 0, sW σ (6 * (4 * ix x + ix y) + ix z), σ) else (nI 1, nI 0, σ)
def rtl (σ : St) (r : Nat) : Nat → Int32
  | 0 => sK σ (3 * r + 0)
  | 1 => inF σ (nI r)
  | 2 => b2i (opR σ (sH σ) r)
  | 3 => sumF (fun i => if sR σ (8 * i + 2) = nI r then sR σ (8 * i + 1) else nI 0) (sN σ)
  | 4 => sK σ (3 * r + 1)
  | _ => sK σ (3 * r + 2)
def f_rack (σ : St) (x y : Int32) : Op := if okI 3 x ∧ okI 6 y then (nI 0, rtl σ (ix x) (ix y), σ) else (nI 1, nI 0, σ)
def cnd (σ : St) : Nat → Int32
  | 0 => sH σ
  | 1 => nI (sN σ)
  | 2 => sumF (fun i => sR σ (8 * i + 1)) (sN σ)
  | 3 => sumF (fun i => sR σ (8 * i + 3)) (sN σ)
  | 4 => sumF (sW σ) 192
  | 5 => sT σ
  | _ => inF σ (nI 0) + inF σ (nI 1) + inF σ (nI 2)
def f_count (σ : St) (x : Int32) : Op := if okI 7 x then (nI 0, cnd σ (ix x), σ) else (nI 1, nI 0, σ)
abbrev betF (a b : Int32) : Int32 := sumF (fun r => farF (ltF a r) (ltF b r)) 4
def f_apart (σ : St) (a b : Int32) : Op := if okI 1296 a ∧ okI 1296 b then (nI 0, betF a b, σ) else (nI 1, nI 0, σ)
theorem nI_ne {a b : Nat} (h : a ≠ b) (ha : a < 2 ^ 31) (hb : b < 2 ^ 31) : ¬ nI a = nI b := fun z => h ((nI_eq ha hb).mp z)
end
section
theorem ra_same {s : State} {cA cB : ClassId} {ty : FieldType} (h1 : va_RA s cA ty) (h2 : va_RA s cB ty) : cA = cB := by
  cases ty with
  | object C =>
    obtain ⟨_, _, _, _, _, h1⟩ := h1
    obtain ⟨_, _, _, _, _, h2⟩ := h2
    exact Option.some.inj (h1.symm.trans h2)
  | _ => exact Option.some.inj (Eq.trans (Eq.symm h1) h2)
theorem tys_last {D : va_G} {ct : Nat → ClassId} {s : State} {cA : ClassId} {ty : FieldType} (t0 : Nat) {c0 : ClassId} (ht : (TY ct)[t0]? = some (c0, ty)) (h : va_K D vwCl (TY ct ++ [(cA, ty)]) s) : cA = c0 := by
  have hl : t0 < (TY ct).length := (List.getElem?_eq_some_iff.mp ht).1
  have h1 := (h.2 t0 (c0, ty) (by rw [List.getElem?_append_left hl]; exact ht)).2
  have h2 := (h.2 (TY ct).length (cA, ty) (by simp)).2
  exact ra_same h2 h1
theorem gA {ws : va_W} {x : Nat × va_E} : (ws ++ [x])[ws.length]? = some x := by simp
theorem sA {ws : va_W} {x y : Nat × va_E} : (ws ++ [x]).set ws.length y = ws ++ [y] := by simp
section J2
variable {X : Ctx} {l : Launch} {D : va_G} {ct : Nat → ClassId} {sa : Nat → Nat} {cc : ByteArray} {nL1 : Nat} {own : String} {R0 : Room} {ws : va_W} {k n pc : Nat} {lv lv' : List (Nat × Value)} {st : List Value}
theorem j_cong {f g : Nat → Int32} {a N q0 : Nat} {cA : ClassId} (he : ws[q0]? = some (a, .inl (cA, N, .inl f))) (hfg : ∀ i, i < N → f i = g i) (kk : J X (ws.set q0 (a, .inl (cA, N, .inl g))) k n pc lv st) : J X ws k n pc lv st := by
  obtain ⟨p, l0, e, R, s, m, args, below, meth, c, D0, ct0, sa0, A, nL, Q⟩ := X
  intro H locs ls hP hD hS hl
  refine kk H locs ls (hP.set hD he ?_ (fun _ _ => rfl)) (hD.set he) hS hl
  have h1 : H[a]? = some (vp_cell cA (N, .inl f)) := hP q0 _ he
  show H[a]? = some (vp_cell cA (N, .inl g))
  rw [h1, vp_cell_i, vp_cell_i]
  have e : (fun j : Fin N => Value.int (f j)) = (fun j : Fin N => Value.int (g j)) := funext fun j => by rw [hfg j.val j.isLt]
  show some ({ cls := cA, slots := Array.ofFn (n := N) fun j => Value.int (f j.val), vm := .none } : Cell) = some ({ cls := cA, slots := Array.ofFn (n := N) fun j => Value.int (g j.val), vm := .none } : Cell)
  rw [e]
theorem j_newaI (C : jC X l D ct sa cc nL1 own R0) {x : Int32} {N : Nat} (hx9 : x = nI N) (hN : N < 2 ^ 20) (hcells : k + 1 ≤ R0.cells) (hslots : n + N ≤ R0.slots) (d : decode cc pc = .ok (.newarray .int, 2)) (kk : ∀ q : Nat, J X (ws ++ [(q, .inl (ct 0, N, .inl (fun _ => nI 0)))]) (k + 1) (n + N) (pc + 2) lv (.ref q :: st)) : J X ws k n pc lv (.int x :: st) := by
  obtain ⟨p, l0, e, R, s, m, args, below, meth, c, D0, ct0, sa0, A, nL, Q⟩ := X
  obtain ⟨hx, hb, hml, ho, hts, hK, hA, hlk, hEX, rfl, rfl, rfl, rfl, rfl, rfl⟩ := C
  intro H locs ls hP hD hS hl
  refine va_newa (atype := .int) (ty := .int) (a0 := (N, .inl (fun _ => nI 0))) hx hb (hts _ gw108) rfl hK hP hD hS hA (fun cA => rfl) (by rw [hx9]; exact nI_pos (by omega)) (by rw [hx9]; exact nI_clamp (by omega)) (by simp only [componentBytes]; omega) hcells hslots d (fun q cA H1 hK1 hP1 hD1 hS1 => ?_)
  obtain rfl := tys_last 0 rfl hK1
  exact kk q H1 locs ls hP1 hD1 hS1 hl
theorem j_dconst0 (C : jC X l D ct sa cc nL1 own R0) (d : decode cc pc = .ok (.dconst 0, 1)) (kk : J X ws k n (pc + 1) lv (.double FP.dconst0 :: st)) : J X ws k n pc lv st := by
  obtain ⟨p, l0, e, R, s, m, args, below, meth, c, D0, ct0, sa0, A, nL, Q⟩ := X
  obtain ⟨hx, hb, hml, ho, hts, hK, hA, hlk, hEX, rfl, rfl, rfl, rfl, rfl, rfl⟩ := C
  intro H locs ls hP hD hS hl
  exact lv_dconst0 hx hb d (kk H locs ls hP hD hS hl)
theorem j_i2d (C : jC X l D ct sa cc nL1 own R0) {x : Int32} (d : decode cc pc = .ok (.i2d, 1)) (kk : J X ws k n (pc + 1) lv (.double (FP.i2d x) :: st)) : J X ws k n pc lv (.int x :: st) := by
  obtain ⟨p, l0, e, R, s, m, args, below, meth, c, D0, ct0, sa0, A, nL, Q⟩ := X
  obtain ⟨hx, hb, hml, ho, hts, hK, hA, hlk, hEX, rfl, rfl, rfl, rfl, rfl, rfl⟩ := C
  intro H locs ls hP hD hS hl
  exact lv_i2d hx hb d (kk H locs ls hP hD hS hl)
theorem j_ddiv (C : jC X l D ct sa cc nL1 own R0) {x y : UInt64} (d : decode cc pc = .ok (.ddiv, 1)) (hne : vf_n64 (FP.ddiv x y)) (kk : J X ws k n (pc + 1) lv (.double (FP.ddiv x y) :: st)) : J X ws k n pc lv (.double y :: .double x :: st) := by
  obtain ⟨p, l0, e, R, s, m, args, below, meth, c, D0, ct0, sa0, A, nL, Q⟩ := X
  obtain ⟨hx, hb, hml, ho, hts, hK, hA, hlk, hEX, rfl, rfl, rfl, rfl, rfl, rfl⟩ := C
  intro H locs ls hP hD hS hl
  exact lv_ddiv hx hb d hne (kk H locs ls hP hD hS hl)
theorem j_dcmp (C : jC X l D ct sa cc nL1 own R0) {x y : UInt64} {op : CmpOp} (d : decode cc pc = .ok (.dcmp op, 1)) (kk : J X ws k n (pc + 1) lv (.int (Op.cmpValue (FP.dcmp x y) op) :: st)) : J X ws k n pc lv (.double y :: .double x :: st) := by
  obtain ⟨p, l0, e, R, s, m, args, below, meth, c, D0, ct0, sa0, A, nL, Q⟩ := X
  obtain ⟨hx, hb, hml, ho, hts, hK, hA, hlk, hEX, rfl, rfl, rfl, rfl, rfl, rfl⟩ := C
  intro H locs ls hP hD hS hl
  exact lv_dcmp hx hb d (kk H locs ls hP hD hS hl)
theorem j_newqL (C : jC X l D ct sa cc nL1 own R0) {index : Nat} (w1 : Cond.classLink own index "LetterLocksLaw$Lock" ∈ GW) {x : Int32} {N : Nat} (hx9 : x = nI N) (hN : N < 2 ^ 20) (hcells : k + 1 ≤ R0.cells) (hslots : n + N ≤ R0.slots) (d : decode cc pc = .ok (.anewarray index, 3)) (kk : ∀ q : Nat, J X (ws ++ [(q, .inl (ct 4, N, .inr (.inr (.inr (.inr (fun _ => none))))))]) (k + 1) (n + N) (pc + 3) lv (.ref q :: st)) : J X ws k n pc lv (.int x :: st) := by
  obtain ⟨p, l0, e, R, s, m, args, below, meth, c, D0, ct0, sa0, A, nL, Q⟩ := X
  obtain ⟨hx, hb, hml, ho, hts, hK, hA, hlk, hEX, rfl, rfl, rfl, rfl, rfl, rfl⟩ := C
  intro H locs ls hP hD hS hl
  refine va_newq hx hb ho (hts _ w1) hEX.2.2.2.2.2.2.2.2.2.1 hK hP hD hS hA (by rw [hx9]; exact nI_pos (by omega)) (by rw [hx9]; exact nI_clamp (by omega)) (by omega) hcells hslots d (fun q cA H1 hK1 hP1 hD1 hS1 => ?_)
  obtain rfl := tys_last 4 rfl hK1
  exact kk q H1 locs ls hP1 hD1 hS1 hl
theorem j_newqA (C : jC X l D ct sa cc nL1 own R0) {index : Nat} (w1 : Cond.classLink own index "[I" ∈ GW) {x : Int32} {N : Nat} (hx9 : x = nI N) (hN : N < 2 ^ 20) (hcells : k + 1 ≤ R0.cells) (hslots : n + N ≤ R0.slots) (d : decode cc pc = .ok (.anewarray index, 3)) (kk : ∀ q : Nat, J X (ws ++ [(q, .inl (ct 3, N, .inr (.inr (.inr (.inr (fun _ => none))))))]) (k + 1) (n + N) (pc + 3) lv (.ref q :: st)) : J X ws k n pc lv (.int x :: st) := by
  obtain ⟨p, l0, e, R, s, m, args, below, meth, c, D0, ct0, sa0, A, nL, Q⟩ := X
  obtain ⟨hx, hb, hml, ho, hts, hK, hA, hlk, hEX, rfl, rfl, rfl, rfl, rfl, rfl⟩ := C
  intro H locs ls hP hD hS hl
  subst hx9
  have eN : (nI N).toNatClampNeg = N := nI_clamp (by omega)
  refine W.anewA (t := .int) hx hb ho (hts _ w1) (va_AOA.use hEX.2.2.2.1) rfl d rfl (nI_pos (by omega)) (by rw [eN]; omega) hcells (by rw [eN]; exact hslots) (fun cA kA comp f1 f2 f3 f4 => ?_)
  rw [eN]
  have hcA : cA = ct0 3 := ra_same (s := s) (ty := .array .int) f1 (hK.2 3 _ rfl).2
  subst hcA
  generalize hH1 : H.push ({ cls := ct0 3, slots := Array.replicate N .null, vm := .none } : Cell) = H1
  have z1 : H1.size = H.size + 1 := by rw [← hH1, Array.size_push]
  have e1 : H1[H.size]? = some (arrV (ct0 3) N (fun _ => .null)) := by rw [← hH1, Array.getElem?_push_size, ← arrV_new]
  have o1 : ∀ q : Nat, q < H.size → H1[q]? = H[q]? := fun q hq => by rw [← hH1, Array.getElem?_push, if_neg (Nat.ne_of_lt hq)]
  have hk : ∀ (k : Nat) (x : Nat × va_E), ws[k]? = some x → H1[x.1]? = H[x.1]? := fun k x hx => o1 x.1 ((hP k x hx).lt)
  exact kk H.size H1 locs ls ((hP.kept hk).app (fun k9 x9 hx9 => by
    have h0 : k9 < 1 := (List.getElem?_eq_some_iff.mp hx9).1
    rw [show k9 = 0 by omega] at hx9
    cases hx9
    show H1[H.size]? = some (vp_cell _ _)
    rw [e1, vp_cell_q]
    rfl)) (hD.push hP rfl (hA _ hS.1)) ⟨Nat.le_trans hS.1 (by omega), fun x h1 h2 => (o1 x (Nat.lt_of_lt_of_le h1 hS.1)).trans (hS.2.1 x h1 h2), hS.2.2⟩ hl
theorem va_assignA {s : State} {cA comp : ClassId} {k : Class} {t : FieldType} (hk : s.vm.classes[cA]? = some k) (hkind : k.kind = .array comp t) : s.vm.assignable cA cA = true := by
  show s.vm.assignableAux (255 + 1) cA cA = true
  rw [Vm.assignableAux, beq_self_eq_true, Bool.true_or]
theorem j_astqA (C : jC X l D ct sa cc nL1 own R0) {a v N M : Nat} {f : Nat → Option Nat} {g : Nat → Int32} {i : Int32} {ws2 : va_W} (q0 qk : Nat) (ha : ws[q0]? = some (a, .inl (ct 3, N, .inr (.inr (.inr (.inr f)))))) (hv : ws[qk]? = some (v, .inl (ct 0, M, .inl g))) (j : Nat) (hi : i = nI j) (hj : j < N) (hN : N < 2 ^ 31) (hw : ws.set q0 (a, .inl (ct 3, N, .inr (.inr (.inr (.inr (va_up f j (some v))))))) = ws2) (d : decode cc pc = .ok (.aastore, 1)) (kk : J X ws2 k n (pc + 1) lv st) : J X ws k n pc lv (.ref v :: .int i :: .ref a :: st) := by
  obtain ⟨p, l0, e, R, s, m, args, below, meth, c, D0, ct0, sa0, A, nL, Q⟩ := X
  obtain ⟨hx, hb, hml, ho, hts, hK, hA, hlk, hEX, rfl, rfl, rfl, rfl, rfl, rfl⟩ := C
  intro H locs ls hP hD hS hl
  subst hi
  have ec : (nI j).toNatClampNeg = j := nI_clamp (Nat.lt_trans hj hN)
  have g1 : H[v]? = some (vp_cell (ct0 0) (M, .inl g)) := hP qk _ hv
  have hArr := (hK.2 3 _ rfl)
  obtain ⟨hobj3, k3, hk3, comp3, hkind3⟩ := hArr.1 N (fun j => va_rf (f j))
  obtain ⟨hobj0, k0, hk0, comp0, hkind0⟩ := (hK.2 0 _ rfl).1 M (fun j => Value.int (g j))
  have hcomp : comp3 = ct0 0 := by
    obtain ⟨compA, cA, kA, hc, hi9, hkA, hkindA, hn⟩ := arrayOverA_spec hEX.2.2.2.1
    have e3 : cA = ct0 3 := ra_same (s := s) (ty := .array .int) hn hArr.2
    subst e3
    obtain rfl : kA = k3 := Option.some.inj (hkA.symm.trans hk3)
    rw [hkindA] at hkind3
    cases hkind3
    have h0 := (hK.2 0 _ rfl).2
    exact Option.some.inj (hc.symm.trans h0)
  subst hcomp
  have ecell : vp_cell (ct0 0) (M, .inl g) = arrV (ct0 0) M (fun j => Value.int (g j)) := by rw [vp_cell_i]
  refine W.aast hx hb (hP q0 _ ha) (fun q h => by cases h) (fun h => by cases h) hk3 hkind3 rfl hk0 ⟨nI_pos (Nat.lt_trans hj hN), by show _ < (arrV _ _ _).slots.size; rw [arrV_size, ec]; exact hj⟩ g1 (fun q h => by rw [ecell] at h; cases h) (by rw [ecell]; exact hk0) (by rw [ecell]; exact va_assignA hk0 hkind0) rfl rfl d fun H1 e z oq => ?_
  refine kk H1 _ ls (hw ▸ (hP.set hD ha ?_ oq)) (hw ▸ (hD.set ha)) (hS.put z oq (hD.2 q0 _ ha)) hl
  show H1[a]? = some (vp_cell _ _)
  rw [e, ec]
  rw [vp_cell_q, vp_cell_q, arrV_store]
  congr 2
  funext q
  by_cases hq : q = j
  · subst hq
    simp [updV, va_up, va_rf]
  · simp [updV, va_up, hq]
theorem j_astqL (C : jC X l D ct sa cc nL1 own R0) {a v N : Nat} {vs : List Value} {f : Nat → Option Nat} {i : Int32} {ws2 : va_W} (q0 qk : Nat) (ha : ws[q0]? = some (a, .inl (ct 4, N, .inr (.inr (.inr (.inr f)))))) (hv : ws[qk]? = some (v, .inr (5, vs))) (j : Nat) (hi : i = nI j) (hj : j < N) (hN : N < 2 ^ 31) (hw : ws.set q0 (a, .inl (ct 4, N, .inr (.inr (.inr (.inr (va_up f j (some v))))))) = ws2) (d : decode cc pc = .ok (.aastore, 1)) (kk : J X ws2 k n (pc + 1) lv st) : J X ws k n pc lv (.ref v :: .int i :: .ref a :: st) := by
  obtain ⟨p, l0, e, R, s, m, args, below, meth, c, D0, ct0, sa0, A, nL, Q⟩ := X
  obtain ⟨hx, hb, hml, ho, hts, hK, hA, hlk, hEX, rfl, rfl, rfl, rfl, rfl, rfl⟩ := C
  intro H locs ls hP hD hS hl
  subst hi
  have ec : (nI j).toNatClampNeg = j := nI_clamp (Nat.lt_trans hj hN)
  exact va_astq hx hb hK hP hD hS q0 4 qk 5 ha rfl hv rfl (vp_in_nI hj hN) d (fun H1 locs1 hP1 hD1 hS1 => kk H1 locs1 ls (hw ▸ ec ▸ hP1) (hw ▸ ec ▸ hD1) hS1 hl)
end J2
end
section
/-! trials and hours -/
abbrev plC (g : Nat → Int32) (a b : Nat) : Prop := 0 < g b - g a ∨ (g b - g a = 0 ∧ nI b < nI a)
abbrev plN (g : Nat → Int32) (a t : Nat) : Int32 := sumF (fun b => b2i (plC g a b)) t
/-- the places of the letters: the first m are reckoned -/
def plA (f : Nat → Int32) (j m : Nat) : Nat → Int32 := fun k => if k < m then plN (wrow f j (k / 6)) (k % 6) 6 else nI 0
theorem plA_0 (f : Nat → Int32) (j : Nat) : (fun _ => nI 0) = plA f j 0 := by
  funext k
  exact (if_neg (Nat.not_lt_zero k)).symm
theorem plA_s (f : Nat → Int32) (j i a : Nat) (h : a < 6) : upd (plA f j (6 * i + a)) (6 * i + a) (plN (wrow f j i) a 6) = plA f j (6 * i + (a + 1)) := by
  funext k
  by_cases e : k = 6 * i + a
  · subst e
    rw [pk_us]
    show _ = if _ then _ else _
    rw [if_pos (by omega), show (6 * i + a) / 6 = i by omega, show (6 * i + a) % 6 = a by omega]
  · rw [pk_un e]
    show (if _ then _ else _) = if _ then _ else _
    by_cases h2 : k < 6 * i + a
    · rw [if_pos h2, if_pos (by omega)]
    · rw [if_neg h2, if_neg (by omega)]
theorem upd_self (f : Nat → Int32) (k : Nat) (v : Int32) (h : f k = v) : upd f k v = f := by
  funext j
  by_cases e : j = k
  · subst e; rw [pk_us, h]
  · rw [pk_un e]
theorem upd_upd (f : Nat → Int32) (k : Nat) (v w : Int32) : upd (upd f k v) k w = upd f k w := by
  funext j
  by_cases e : j = k
  · subst e; rw [pk_us, pk_us]
  · rw [pk_un e, pk_un e, pk_un e]
def rgF : Nat → Int32
  | 0 => nI 3
  | t + 1 => rgF t + Int32.ofInt (-1)
theorem rg_n : ∀ t, t < 4 → rgF t = nI (3 - t) := by decide
abbrev smI (P : Nat → Int32) (v t : Nat) : Int32 := sumF (fun i => P (6 * (3 - i) + v / 6 ^ i % 6)) t
def accF (s : Int32) (f : Nat → Int32) : Nat → Int32
  | 0 => s
  | i + 1 => accF s f i + f i
abbrev trC (P : Nat → Int32) (v o : Nat) : Prop := smI P o 4 < smI P v 4 ∨ (smI P o 4 = smI P v 4 ∧ nI o < nI v)
abbrev trF (P : Nat → Int32) (v : Nat) : Int32 := accF (nI 1) (fun o => b2i (trC P v o)) 1296
/-- in how many trials the word v of the lock j is found, the wear being f -/
abbrev trL (f : Nat → Int32) (j v : Nat) : Int32 := trF (plA f j 24) v
def f_trial (σ : St) (x y : Int32) : Op := if okI (sN σ) x then (if okI 1296 y then (nI 0, trL (sW σ) (ix x) (ix y), σ) else (nI 2, nI 0, σ)) else (nI 1, nI 0, σ)
def f_safe (σ : St) (x : Int32) : Op := if okI (sN σ) x then (nI 0, trL (sW σ) (ix x) (ix (sR σ (8 * ix x + 0))), σ) else (nI 1, nI 0, σ)
abbrev wup (W : Nat → Int32) (j r q : Nat) (by_ : Int32) : Nat → Int32 := upd W (6 * (4 * j + r) + q) (minF (nI 99) (W (6 * (4 * j + r) + q) + by_))
def wst (f W : Nat → Int32) (j r : Nat) : Nat → Int32 := if f (8 * j + 1) = 0 then wup W j r (ix (f (8 * j + (4 + r)))) (nI 1) else if f (8 * j + 2) = -1 then W else wup W j r (ix (ltF (f (8 * j + 0)) r)) (nI 2)
def wLF (f W : Nat → Int32) (j : Nat) : Nat → (Nat → Int32)
  | 0 => W
  | r + 1 => wst f (wLF f W j r) j r
def wAF (f W : Nat → Int32) : Nat → (Nat → Int32)
  | 0 => W
  | j + 1 => wLF f (wAF f W j) j 4
/-- a lock that its rack shuts in the hour h -/
abbrev shutC (K : Nat → Int32) (h : Int32) (f : Nat → Int32) (j : Nat) : Prop := ¬ f (8 * j + 2) = -1 ∧ ¬ f (8 * j + 1) = 0 ∧ ¬ opP (irm h (nI 24)) (K (3 * ix (f (8 * j + 2)) + 1)) (K (3 * ix (f (8 * j + 2)) + 2))
def cAF (K : Nat → Int32) (h : Int32) (f : Nat → Int32) : Nat → (Nat → Int32)
  | 0 => f
  | j + 1 => if shutC K h (cAF K h f j) j then clF (cAF K h f j) j 4 else cAF K h f j
def cCF (K : Nat → Int32) (h : Int32) (f : Nat → Int32) : Nat → Int32
  | 0 => nI 0
  | j + 1 => if shutC K h (cAF K h f j) j then cCF K h f j + nI 1 else cCF K h f j
abbrev hrC (σ : St) : Int32 := cCF (sK σ) (sH σ) (sR σ) (sN σ)
abbrev hrS (σ : St) : St := uH (uR (uW σ (wAF (sR σ) (sW σ) (sN σ))) (cAF (sK σ) (sH σ) (sR σ) (sN σ))) (sH σ + nI 1)
def hsS (σ : St) : Nat → St
  | 0 => σ
  | i + 1 => hrS (hsS σ i)
def hsC (σ : St) : Nat → Int32
  | 0 => nI 0
  | i + 1 => hsC σ i + hrC (hsS σ i)
def f_pass (σ : St) (x : Int32) : Op := if nI 1 ≤ x ∧ x ≤ nI 99 then (nI 0, hsC σ (ix x), hsS σ (ix x)) else (nI 1, nI 0, σ)
def f_foresee (σ : St) (x y : Int32) : Op := if nI 1 ≤ x ∧ x ≤ nI 99 then (if okI (sN σ) y then (nI 0, trL (sW (hsS σ (ix x))) (ix y) (ix (sR (hsS σ (ix x)) (8 * ix y + 0))), σ) else (nI 2, nI 0, σ)) else (nI 1, nI 0, σ)
/-- the hours that go by before the lock j is shut, at most d -/
def utF (j : Nat) : Nat → St → Nat
  | 0, _ => 0
  | d + 1, σ => if sR σ (8 * j + 1) = nI 1 then utF j d (hrS σ) + 1 else 0
def f_until (σ : St) (x : Int32) : Op := if okI (sN σ) x then (nI 0, if utF (ix x) 49 σ ≤ 48 then nI (utF (ix x) 49 σ) else -1, σ) else (nI 1, nI 0, σ)
/-- the best so far, and its trials -/
def wkF (σ : St) : Nat → Int32 × Int32
  | 0 => (-1, nI 1297)
  | i + 1 => if trL (sW σ) i (ix (sR σ (8 * i + 0))) < (wkF σ i).2 then (nI i, trL (sW σ) i (ix (sR σ (8 * i + 0)))) else wkF σ i
def dLF (d : Int64) (f : Nat → Int32) : Nat → Int64
  | 0 => d
  | i + 1 => dLF d f i * 31 + (f i).toInt64
def dRF (d : Int64) (σ : St) : Nat → Int64
  | 0 => d
  | i + 1 => dLF (dRF d σ i) (rtl σ i) 6
def dKF (d : Int64) (σ : St) : Nat → Int64
  | 0 => d
  | i + 1 => dLF (dLF (dKF d σ i) (tld σ i) 6) (fun q => sW σ (24 * i + q)) 24
abbrev dgF (σ : St) : Int64 := dKF (dRF (dLF 1471 (cnd σ) 7) σ 3) σ (sN σ)
/-! that rows stay such -/
theorem okI_0 {N : Nat} (h : 0 < N) (hN : N < 2 ^ 31) : okI N (nI 0) := okI_n h hN
theorem irm_ok {x : Int32} {d : Nat} {b : Nat} (hx : x = nI b) (hb : b < 2 ^ 31) (hd : 0 < d) (hd2 : d < 2 ^ 31) : irm x (nI d) = nI (b % d) := by
  rw [hx]
  exact pk_rem hb hd hd2
theorem dv_n : ∀ (m w : Nat), w < 2 ^ 31 → dvF (nI w) m = nI (w / 6 ^ m)
  | 0, w, _ => by rw [Nat.pow_zero, Nat.div_one]; rfl
  | m + 1, w, h => by
    show dvF (nI w) m / nI 6 = _
    have h2 : w / 6 ^ m < 2 ^ 31 := Nat.lt_of_le_of_lt (Nat.div_le_self _ _) h
    rw [dv_n m w h, pk_div h2 (by decide) (by decide), Nat.div_div_eq_div_mul, Nat.pow_succ]
theorem lt_n {w r : Nat} (h : w < 2 ^ 31) : ltF (nI w) r = nI (w / 6 ^ (3 - r) % 6) := by
  have h2 : w / 6 ^ (3 - r) < 2 ^ 31 := Nat.lt_of_le_of_lt (Nat.div_le_self _ _) h
  exact irm_ok (dv_n _ _ h) h2 (by decide) (by decide)
theorem lt_ok {x : Int32} {r : Nat} (h : okI 1296 x) : okI 6 (ltF x r) := by
  obtain ⟨w, hw, rfl⟩ := okI_of h (by decide)
  rw [lt_n (by omega)]
  exact okI_n (Nat.mod_lt _ (by decide)) (by decide)
theorem rok_upd {f : Nat → Int32} (h : rowsOK f) {k : Nat} {v : Int32} (h0 : ∀ j, k = 8 * j + 0 → okI 1296 v) (h2 : ∀ j, k = 8 * j + 2 → v = -1 ∨ okI 3 v) (h4 : ∀ j r, r < 4 → k = 8 * j + (4 + r) → okI 6 v) : rowsOK (upd f k v) := by
  intro j hj
  obtain ⟨a, b, c⟩ := h j hj
  refine ⟨?_, ?_, fun r hr => ?_⟩
  · by_cases e : 8 * j + 0 = k
    · rw [e, pk_us]; exact h0 j e.symm
    · rw [pk_un e]; exact a
  · by_cases e : 8 * j + 2 = k
    · rw [e, pk_us]; exact h2 j e.symm
    · rw [pk_un e]; exact b
  · by_cases e : 8 * j + (4 + r) = k
    · rw [e, pk_us]; exact h4 j r hr e.symm
    · rw [pk_un e]; exact c r hr
theorem rok_cl {f : Nat → Int32} (h : rowsOK f) {j : Nat} (hj : j < 8) : ∀ r, r ≤ 4 → rowsOK (clF f j r)
  | 0, _ => rok_upd h (fun i e => by omega) (fun i e => by omega) (fun i r hr e => by omega)
  | r + 1, hr => by
    have ih := rok_cl h hj r (by omega)
    refine rok_upd ih (fun i e => by omega) (fun i e => by omega) (fun i r' hr' e => ?_)
    obtain ⟨q, hq, e2⟩ := okI_of ((ih j hj).2.2 r (by omega)) (by decide)
    have e3 : clF f j r (8 * j + (4 + r)) + nI r + nI 1 = nI (q + r + 1) := by rw [e2, nI_add, nI_add]
    rw [irm_ok e3 (by omega) (by decide) (by decide)]
    exact okI_n (Nat.mod_lt _ (by decide)) (by decide)
theorem rok_cA {K : Nat → Int32} {h : Int32} {f : Nat → Int32} (hf : rowsOK f) : ∀ j, j ≤ 8 → rowsOK (cAF K h f j)
  | 0, _ => hf
  | j + 1, hj => by
    have ih := rok_cA (K := K) (h := h) hf j (by omega)
    show rowsOK (if _ then _ else _)
    by_cases c : shutC K h (cAF K h f j) j
    · rw [if_pos c]; exact rok_cl ih (by omega) 4 (Nat.le_refl 4)
    · rw [if_neg c]; exact ih
theorem inv_hr {σ : St} (h : Inv0 σ) : Inv0 (hrS σ) := ⟨h.1, rok_cA h.2 _ h.1⟩
theorem inv_hs {σ : St} (h : Inv0 σ) : ∀ i, Inv0 (hsS σ i)
  | 0 => h
  | i + 1 => inv_hr (inv_hs h i)
theorem hs_n (σ : St) : ∀ i, sN (hsS σ i) = sN σ
  | 0 => rfl
  | i + 1 => hs_n σ i
theorem hs_k (σ : St) : ∀ i, sK (hsS σ i) = sK σ
  | 0 => rfl
  | i + 1 => hs_k σ i
theorem hs_t (σ : St) : ∀ i, sT (hsS σ i) = sT σ
  | 0 => rfl
  | i + 1 => hs_t σ i
theorem hs_s (σ : St) : ∀ i, hsS (hrS σ) i = hsS σ (i + 1)
  | 0 => rfl
  | i + 1 => congrArg hrS (hs_s σ i)
theorem pl_y {P : Nat → Int32} {k : Nat} {g : Nat → Int32} {a t : Nat} (h : plC g a t) : upd (upd P k (plN g a t)) k (upd P k (plN g a t) k + nI 1) = upd P k (plN g a (t + 1)) := by
  rw [upd_upd, pk_us]
  exact congrArg (fun z => upd P k (plN g a t + z)) (b2i_y h).symm
theorem pl_n {P : Nat → Int32} {k : Nat} {g : Nat → Int32} {a t : Nat} (h : ¬ plC g a t) : upd (upd P k (plN g a t)) k (upd P k (plN g a t) k + nI 0) = upd P k (plN g a (t + 1)) := by
  rw [upd_upd, pk_us]
  exact congrArg (fun z => upd P k (plN g a t + z)) (b2i_n h).symm
theorem ix_99 {x : Int32} (h : nI 1 ≤ x ∧ x ≤ nI 99) : 1 ≤ ix x ∧ ix x ≤ 99 ∧ x = nI (ix x) := by
  have h2 : okI 100 x := (in_ok (M := 99) (by decide)).mp ⟨by
    have := h.1
    rw [Int32.le_iff_toInt_le] at this ⊢
    have e1 : (nI 1).toInt = 1 := by decide
    have e0 : (nI 0).toInt = 0 := by decide
    omega, h.2⟩
  obtain ⟨h3, h4⟩ := okI_ix h2 (by decide)
  refine ⟨?_, by omega, h4⟩
  have h5 := h.1
  rw [h4] at h5
  exact (nI_leI (by decide) (by omega)).mp h5
theorem cpy_all {f g : Nat → Int32} {N i : Nat} (hN : N < 2 ^ 31) (h : i < N) : va_cpy f g (nI 0).toNatClampNeg (nI 0).toNatClampNeg (nI N).toNatClampNeg i = f i := by
  have e0 : (nI 0).toNatClampNeg = 0 := by decide
  rw [e0, nI_clamp hN, pk_cpy_in (Nat.zero_le _) (by omega), Nat.zero_add, Nat.sub_zero]
theorem back_s (σ : St) (m : Nat) : uH (uW (uR (hsS σ m) (sR σ)) (sW σ)) (sH σ) = σ := by
  have h1 := hs_n σ m
  have h2 := hs_t σ m
  have h3 := hs_k σ m
  show (sN (hsS σ m), sH σ, sT (hsS σ m), sR σ, sW σ, sK (hsS σ m)) = σ
  rw [h1, h2, h3]
end
section
/-! the class's small objects, by their places in the world -/
abbrev Lk (ct : Nat → ClassId) (ws : va_W) (k h a b : Nat) (lt wr : Nat → Int32) (w rk op lo : Int32) : Prop :=
  ws[k]? = some (h, .inr (1, [.ref a, .ref b, .int w, .int rk, .int op, .int lo])) ∧ ws[k + 1]? = some (a, .inl (ct 0, 4, .inl lt)) ∧ ws[k + 2]? = some (b, .inl (ct 0, 24, .inl wr))
theorem set_ne {ws : va_W} {i j : Nat} {x : Nat × va_E} (h : i ≠ j) : (ws.set i x)[j]? = ws[j]? := List.getElem?_set_ne h
theorem set_eq {ws : va_W} {i : Nat} {x y : Nat × va_E} (h : ws[i]? = some y) : (ws.set i x)[i]? = some x := List.getElem?_set_self (List.getElem?_eq_some_iff.mp h).1
theorem set_set {ws : va_W} {i : Nat} {x y : Nat × va_E} : (ws.set i x).set i y = ws.set i y := List.set_set ..
theorem set_self {ws : va_W} {i : Nat} {y : Nat × va_E} (h : ws[i]? = some y) : ws.set i y = ws := by
  apply List.ext_getElem?
  intro j
  by_cases e : i = j
  · subst e
    rw [set_eq h, h]
  · rw [set_ne e]
/-- the rings mixed, as the class does it -/
def clL (f : Nat → Int32) : Nat → (Nat → Int32)
  | 0 => f
  | r + 1 => upd (clL f r) r (irm (clL f r r + nI r + nI 1) (nI 6))
abbrev wuL (W : Nat → Int32) (r q : Nat) (by_ : Int32) : Nat → Int32 := upd W (6 * r + q) (minF (nI 99) (W (6 * r + q) + by_))
def wsL (lt : Nat → Int32) (w rk op : Int32) (W : Nat → Int32) (r : Nat) : Nat → Int32 := if op = 0 then wuL W r (ix (lt r)) (nI 1) else if rk = -1 then W else wuL W r (ix (ltF w r)) (nI 2)
def wLL (lt : Nat → Int32) (w rk op : Int32) (W : Nat → Int32) : Nat → (Nat → Int32)
  | 0 => W
  | r + 1 => wsL lt w rk op (wLL lt w rk op W r) r
abbrev pxC (g : Nat → Int32) (a b : Nat) : Prop := g a < g b ∨ (g b = g a ∧ nI b < nI a)
abbrev pxN (g : Nat → Int32) (a t : Nat) : Int32 := sumF (fun b => b2i (pxC g a b)) t
abbrev wrw (W : Nat → Int32) (r : Nat) : Nat → Int32 := fun q => W (6 * r + q)
theorem okI_b {N : Nat} {x : Int32} (hN : N < 2 ^ 31) : (¬ x < 0 ∧ ¬ nI N ≤ x) ↔ okI N x := ⟨fun h => ⟨ile_of h.1, ilt_of h.2⟩, fun h => ⟨inlt h.1, inle h.2⟩⟩
theorem i_add0 (x : Int32) : x + nI 0 = x := Int32.add_zero x
section JN
variable {X : Ctx} {l : Launch} {D : va_G} {ct : Nat → ClassId} {sa : Nat → Nat} {cc : ByteArray} {nL1 : Nat} {own : String} {R0 : Room} {ws : va_W} {k n pc : Nat} {lv lv' : List (Nat × Value)} {st : List Value}
theorem j_null (C : jC X l D ct sa cc nL1 own R0) (d : decode cc pc = .ok (.aconst_null, 1)) (kk : J X ws k n (pc + 1) lv (.null :: st)) : J X ws k n pc lv st := by
  obtain ⟨p, l0, e, R, s, m, args, below, meth, c, D0, ct0, sa0, A, nL, Q⟩ := X
  obtain ⟨hx, hb, hml, ho, hts, hK, hA, hlk, hEX, rfl, rfl, rfl, rfl, rfl, rfl⟩ := C
  intro H locs ls hP hD hS hl
  exact lv_null hx hb d (kk H locs ls hP hD hS hl)
end JN
end
section
set_option maxRecDepth 100000 in
set_option maxHeartbeats 4000000 in
theorem kX3_isRing (l : Launch) (D : va_G) (ct : Nat → ClassId) (sa : Nat → Nat) (ws : va_W) (x : Int32) : jM l yX3_isRing (Cond.code yX3_isRing cX3_isRing 1 (Option.some Jvm.ClassFile.FieldType.boolean) :: GW) (rM 0 0 0 0) D ct sa [.int x] (ws) (dK (some (.int (b2i (okI 4 x)))) ws) 0 0 := by
  refine jMX.plain (jBody (own := RX3) (by decide) rfl rfl (Nat.le_of_ble_eq_true rfl) ?_)
  intro X C E T0
  refine j_lv (lv1 := [(0, .int _)]) rfl ?_
  refine j_iload_n (i := 0) C dX3_isRing_0 rfl 0 rfl ?_
  refine j_if_lt C 13 dX3_isRing_1 (by decide) (fun c1 => ?_) (fun c1 => ?_)
  · refine j_iconst (v := nI 0) C dX3_isRing_13 (by decide) ?_
    exact j_ireturn C E (by first | exact nr_b | rfl) dX3_isRing_14 (Nat.le_of_ble_eq_true rfl) (Nat.le_of_ble_eq_true rfl) (⟨congrArg (fun z => some (Value.int z)) (by first | exact (b2i_y ⟨ile_of c1, ilt_of c6⟩).symm | (refine Eq.symm (b2i_n ?_); rintro ⟨h1, h2⟩; first | exact inlt h1 c1 | exact inle h2 c6)), rfl⟩)
  · refine j_iload_n (i := 0) C dX3_isRing_4 rfl 0 rfl ?_
    refine j_iconst (v := nI 4) C dX3_isRing_5 (by decide) ?_
    refine j_icmp_ge C 13 dX3_isRing_6 (by decide) (fun c6 => ?_) (fun c6 => ?_)
    · refine j_iconst (v := nI 0) C dX3_isRing_13 (by decide) ?_
      exact j_ireturn C E (by first | exact nr_b | rfl) dX3_isRing_14 (Nat.le_of_ble_eq_true rfl) (Nat.le_of_ble_eq_true rfl) (⟨congrArg (fun z => some (Value.int z)) (by first | exact (b2i_y ⟨ile_of c1, ilt_of c6⟩).symm | (refine Eq.symm (b2i_n ?_); rintro ⟨h1, h2⟩; first | exact inlt h1 c1 | exact inle h2 c6)), rfl⟩)
    · refine j_iconst (v := nI 1) C dX3_isRing_9 (by decide) ?_
      refine j_goto C 14 dX3_isRing_10 (by decide) ?_
      exact j_ireturn C E (by first | exact nr_b | rfl) dX3_isRing_14 (Nat.le_of_ble_eq_true rfl) (Nat.le_of_ble_eq_true rfl) (⟨congrArg (fun z => some (Value.int z)) (by first | exact (b2i_y ⟨ile_of c1, ilt_of c6⟩).symm | (refine Eq.symm (b2i_n ?_); rintro ⟨h1, h2⟩; first | exact inlt h1 c1 | exact inle h2 c6)), rfl⟩)
set_option maxRecDepth 100000 in
set_option maxHeartbeats 4000000 in
theorem kX3_isLetter (l : Launch) (D : va_G) (ct : Nat → ClassId) (sa : Nat → Nat) (ws : va_W) (x : Int32) : jM l yX3_isLetter (Cond.code yX3_isLetter cX3_isLetter 1 (Option.some Jvm.ClassFile.FieldType.boolean) :: GW) (rM 0 0 0 0) D ct sa [.int x] (ws) (dK (some (.int (b2i (okI 6 x)))) ws) 0 0 := by
  refine jMX.plain (jBody (own := RX3) (by decide) rfl rfl (Nat.le_of_ble_eq_true rfl) ?_)
  intro X C E T0
  refine j_lv (lv1 := [(0, .int _)]) rfl ?_
  refine j_iload_n (i := 0) C dX3_isLetter_0 rfl 0 rfl ?_
  refine j_if_lt C 14 dX3_isLetter_1 (by decide) (fun c1 => ?_) (fun c1 => ?_)
  · refine j_iconst (v := nI 0) C dX3_isLetter_14 (by decide) ?_
    exact j_ireturn C E (by first | exact nr_b | rfl) dX3_isLetter_15 (Nat.le_of_ble_eq_true rfl) (Nat.le_of_ble_eq_true rfl) (⟨congrArg (fun z => some (Value.int z)) (by first | exact (b2i_y ⟨ile_of c1, ilt_of c7⟩).symm | (refine Eq.symm (b2i_n ?_); rintro ⟨h1, h2⟩; first | exact inlt h1 c1 | exact inle h2 c7)), rfl⟩)
  · refine j_iload_n (i := 0) C dX3_isLetter_4 rfl 0 rfl ?_
    refine j_bipush (v := nI 6) C dX3_isLetter_5 (by decide) ?_
    refine j_icmp_ge C 14 dX3_isLetter_7 (by decide) (fun c7 => ?_) (fun c7 => ?_)
    · refine j_iconst (v := nI 0) C dX3_isLetter_14 (by decide) ?_
      exact j_ireturn C E (by first | exact nr_b | rfl) dX3_isLetter_15 (Nat.le_of_ble_eq_true rfl) (Nat.le_of_ble_eq_true rfl) (⟨congrArg (fun z => some (Value.int z)) (by first | exact (b2i_y ⟨ile_of c1, ilt_of c7⟩).symm | (refine Eq.symm (b2i_n ?_); rintro ⟨h1, h2⟩; first | exact inlt h1 c1 | exact inle h2 c7)), rfl⟩)
    · refine j_iconst (v := nI 1) C dX3_isLetter_10 (by decide) ?_
      refine j_goto C 15 dX3_isLetter_11 (by decide) ?_
      exact j_ireturn C E (by first | exact nr_b | rfl) dX3_isLetter_15 (Nat.le_of_ble_eq_true rfl) (Nat.le_of_ble_eq_true rfl) (⟨congrArg (fun z => some (Value.int z)) (by first | exact (b2i_y ⟨ile_of c1, ilt_of c7⟩).symm | (refine Eq.symm (b2i_n ?_); rintro ⟨h1, h2⟩; first | exact inlt h1 c1 | exact inle h2 c7)), rfl⟩)
set_option maxRecDepth 100000 in
set_option maxHeartbeats 4000000 in
theorem kX3_letterOf (l : Launch) (D : va_G) (ct : Nat → ClassId) (sa : Nat → Nat) (ws : va_W) (x y : Int32) (r : Nat) (hy : y = nI r) (hr : r < 4) : jM l yX3_letterOf (Cond.code yX3_letterOf cX3_letterOf 4 (Option.some Jvm.ClassFile.FieldType.int) :: GW) (rM 0 0 0 0) D ct sa [.int x, .int y] (ws) (dK (some (.int (ltF x r))) ws) 0 0 := by
  refine jMX.plain (jBody (own := RX3) (by decide) rfl rfl (Nat.le_of_ble_eq_true rfl) ?_)
  intro X C E T0
  refine j_lv (lv1 := [(0, .int _), (1, .int _)]) rfl ?_
  subst hy
  refine j_iload_n (i := 0) C dX3_letterOf_0 rfl 0 rfl ?_
  refine j_istore_n (lv' := [(2, .int _), (0, .int _), (1, .int _)]) C dX3_letterOf_1 rfl (by decide) rfl ?_
  refine j_iconst (v := nI 3) C dX3_letterOf_2 (by decide) ?_
  refine j_istore_n (lv' := [(3, .int _), (2, .int _), (0, .int _), (1, .int _)]) C dX3_letterOf_3 rfl (by decide) rfl ?_
  have L4 : ∀ (d i : Nat) (x2 : Int32) (x3 : Int32), i + d = 3 - r → x2 = dvF x i → x3 = rgF i → J X (ws) (0) (0) 4 [(1, .int (nI r)), (2, .int x2), (3, .int x3)] [] := by
    intro d
    induction d with
    | zero =>
      intro i x2 x3 hd e_x2 e_x3 
      subst e_x2
      subst e_x3
      have hi9 : i = 3 - r := by omega
      subst hi9
      refine j_iload_n (i := 3) C dX3_letterOf_4 rfl 2 rfl ?_
      refine j_iload_n (i := 1) C dX3_letterOf_5 rfl 0 rfl ?_
      refine j_icmp_le C 20 dX3_letterOf_6 (by decide) (fun c6 => ?_) (fun c6 => by (rw [rg_n _ (by omega)] at c6; first | exact absurd c6 (by decide) | exact absurd c6 (nI_ge (by omega) (by omega)) | exact absurd (nI_le (by omega) (by omega)) c6 | exact absurd c6 (nI_nlt (by omega) (by omega)) | exact absurd (nI_lt (by omega) (by omega)) c6 | exact absurd c6 (nI_nle0 (by omega) (by omega))))
      refine j_iload_n (i := 2) C dX3_letterOf_20 rfl 1 rfl ?_
      refine j_bipush (v := nI 6) C dX3_letterOf_21 (by decide) ?_
      refine j_irem C dX3_letterOf_23 (by decide) ?_
      exact j_ireturn C E rfl dX3_letterOf_24 (Nat.le_of_ble_eq_true rfl) (Nat.le_of_ble_eq_true rfl) (⟨rfl, rfl⟩)
    | succ d ih =>
      intro i x2 x3 hd e_x2 e_x3 
      subst e_x2
      subst e_x3
      refine j_iload_n (i := 3) C dX3_letterOf_4 rfl 2 rfl ?_
      refine j_iload_n (i := 1) C dX3_letterOf_5 rfl 0 rfl ?_
      refine j_icmp_le C 20 dX3_letterOf_6 (by decide) (fun c6 => by (rw [rg_n _ (by omega)] at c6; first | exact absurd c6 (by decide) | exact absurd c6 (nI_ge (by omega) (by omega)) | exact absurd (nI_le (by omega) (by omega)) c6 | exact absurd c6 (nI_nlt (by omega) (by omega)) | exact absurd (nI_lt (by omega) (by omega)) c6 | exact absurd c6 (nI_nle0 (by omega) (by omega)))) (fun c6 => ?_)
      refine j_iload_n (i := 2) C dX3_letterOf_9 rfl 1 rfl ?_
      refine j_bipush (v := nI 6) C dX3_letterOf_10 (by decide) ?_
      refine j_idiv C dX3_letterOf_12 (by decide) ?_
      refine j_istore_n (lv' := [(2, .int _), (1, .int _), (3, .int _)]) C dX3_letterOf_13 rfl (by decide) rfl ?_
      refine j_iinc (z := 2) (lv' := [(3, .int _), (2, .int _), (1, .int _)]) C dX3_letterOf_14 rfl rfl (by decide) rfl ?_
      refine j_goto C 4 dX3_letterOf_17 (by decide) ?_
      exact j_lvs [2, 1, 0] rfl (ih (i + 1) _ _ (by omega) (rfl) (rfl))
  exact j_lvs [3, 1, 0] rfl (L4 (3 - r) (0) _ _ (by omega) (rfl) (rfl))
set_option maxRecDepth 100000 in
set_option maxHeartbeats 4000000 in
theorem kX3_turnsBetween (l : Launch) (D : va_G) (ct : Nat → ClassId) (sa : Nat → Nat) (ws : va_W) (x y : Int32) : jM l yX3_turnsBetween (Cond.code yX3_turnsBetween cX3_turnsBetween 3 (Option.some Jvm.ClassFile.FieldType.int) :: GW) (rM 1 0 0 17) D ct sa [.int x, .int y] (ws) (dK (some (.int (farF x y))) ws) 0 0 := by
  refine jMX.plain (jBody (own := RX3) (by decide) rfl rfl (Nat.le_of_ble_eq_true rfl) ?_)
  intro X C E T0
  refine j_lv (lv1 := [(0, .int _), (1, .int _)]) rfl ?_
  refine j_iload_n (i := 0) C dX3_turnsBetween_0 rfl 0 rfl ?_
  refine j_iload_n (i := 1) C dX3_turnsBetween_1 rfl 1 rfl ?_
  refine j_isub C dX3_turnsBetween_2 ?_
  refine j_mabs C gw285 gw286 gw36 gw287 ⟨Nat.le_of_ble_eq_true rfl, Nat.le_of_ble_eq_true rfl⟩ ⟨Nat.le_of_ble_eq_true rfl, Nat.le_of_ble_eq_true rfl⟩ dX3_turnsBetween_3 ?_
  refine j_istore_n (lv' := [(2, .int _), (0, .int _), (1, .int _)]) C dX3_turnsBetween_6 rfl (by decide) rfl ?_
  refine j_iload_n (i := 2) C dX3_turnsBetween_7 rfl 0 rfl ?_
  refine j_bipush (v := nI 6) C dX3_turnsBetween_8 (by decide) ?_
  refine j_iload_n (i := 2) C dX3_turnsBetween_10 rfl 0 rfl ?_
  refine j_isub C dX3_turnsBetween_11 ?_
  refine j_mmin C gw288 gw289 gw36 gw290 ⟨Nat.le_of_ble_eq_true rfl, Nat.le_of_ble_eq_true rfl⟩ ⟨Nat.le_of_ble_eq_true rfl, Nat.le_of_ble_eq_true rfl⟩ dX3_turnsBetween_12 ?_
  exact j_ireturn C E rfl dX3_turnsBetween_15 (Nat.le_of_ble_eq_true rfl) (Nat.le_of_ble_eq_true rfl) (⟨rfl, rfl⟩)
set_option maxRecDepth 100000 in
set_option maxHeartbeats 4000000 in
theorem kX0_letterAt (l : Launch) (D : va_G) (ct : Nat → ClassId) (sa : Nat → Nat) (ws : va_W) (k h a b : Nat) (lt wr : Nat → Int32) (w rk op lo : Int32) (x : Int32) (r : Nat) (hk : Lk ct ws k h a b lt wr w rk op lo) (hx : x = nI r) (hr : r < 4) : jM l yX0_letterAt (Cond.code yX0_letterAt cX0_letterAt 2 (Option.some Jvm.ClassFile.FieldType.int) :: GW) (rM 1 0 0 20) D ct sa [.ref h, .int x] (ws) (dK (some (.int (lt r))) ws) 0 0 := by
  refine jMX.plain (jBody (own := RX0) (by decide) rfl rfl (Nat.le_of_ble_eq_true rfl) ?_)
  intro X C E T0
  refine j_lv (lv1 := [(0, .ref _), (1, .int _)]) rfl ?_
  subst hx
  refine j_iload_n (i := 1) C dX0_letterAt_0 rfl 1 rfl ?_
  refine j_callSN (nargs := 1) (As := [_]) C nw281 gw255 gw21 (kX3_isRing l D ct sa _ _) gw256 (by decide +kernel) rfl dX0_letterAt_1 ⟨Nat.le_of_ble_eq_true rfl, Nat.le_of_ble_eq_true rfl⟩ ⟨Nat.le_of_ble_eq_true rfl, Nat.le_of_ble_eq_true rfl⟩ (Nat.le_of_ble_eq_true rfl) (dki ?_)
  refine j_if_eq C 16 dX0_letterAt_4 (by decide) (fun c4 => by exact absurd c4 (by rw [b2i_y (okI_n hr (by decide))]; decide)) (fun c4 => ?_)
  refine j_aload_n (i := 0) C dX0_letterAt_7 rfl 0 rfl ?_
  refine j_get (Cn := RX0) (T := TX0) (N := 6) (ci := 1) C iX0 rfl (k) hk.1 0 (by decide) gw115 rfl rfl dX0_letterAt_8 ?_
  refine j_iload_n (i := 1) C dX0_letterAt_11 rfl 1 rfl ?_
  refine j_iald C (k + 1) hk.2.1 (r) rfl hr (by decide) dX0_letterAt_12 ?_
  refine j_goto C 17 dX0_letterAt_13 (by decide) ?_
  exact j_ireturn C E rfl dX0_letterAt_17 (Nat.le_of_ble_eq_true rfl) (Nat.le_of_ble_eq_true rfl) (⟨rfl, rfl⟩)
set_option maxRecDepth 100000 in
set_option maxHeartbeats 4000000 in
theorem kX0_turnTo (l : Launch) (D : va_G) (ct : Nat → ClassId) (sa : Nat → Nat) (ws : va_W) (k h a b : Nat) (lt wr : Nat → Int32) (w rk op lo : Int32) (x y : Int32) (r : Nat) (hk : Lk ct ws k h a b lt wr w rk op lo) (hx : x = nI r) (hr : r < 4) : jM l yX0_turnTo (Cond.code yX0_turnTo cX0_turnTo 3 (Option.none : Option Jvm.ClassFile.FieldType) :: GW) (rM 1 0 0 20) D ct sa [.ref h, .int x, .int y] (ws) (dK none (ws.set (k + 1) (a, .inl (ct 0, 4, .inl (upd lt r y))))) 0 0 := by
  refine jMX.plain (jBody (own := RX0) (by decide) rfl rfl (Nat.le_of_ble_eq_true rfl) ?_)
  intro X C E T0
  refine j_lv (lv1 := [(0, .ref _), (1, .int _), (2, .int _)]) rfl ?_
  subst hx
  refine j_iload_n (i := 1) C dX0_turnTo_0 rfl 1 rfl ?_
  refine j_callSN (nargs := 1) (As := [_]) C nw281 gw255 gw21 (kX3_isRing l D ct sa _ _) gw256 (by decide +kernel) rfl dX0_turnTo_1 ⟨Nat.le_of_ble_eq_true rfl, Nat.le_of_ble_eq_true rfl⟩ ⟨Nat.le_of_ble_eq_true rfl, Nat.le_of_ble_eq_true rfl⟩ (Nat.le_of_ble_eq_true rfl) (dki ?_)
  refine j_if_eq C 14 dX0_turnTo_4 (by decide) (fun c4 => by exact absurd c4 (by rw [b2i_y (okI_n hr (by decide))]; decide)) (fun c4 => ?_)
  refine j_aload_n (i := 0) C dX0_turnTo_7 rfl 0 rfl ?_
  refine j_get (Cn := RX0) (T := TX0) (N := 6) (ci := 1) C iX0 rfl (k) hk.1 0 (by decide) gw115 rfl rfl dX0_turnTo_8 ?_
  refine j_iload_n (i := 1) C dX0_turnTo_11 rfl 1 rfl ?_
  refine j_iload_n (i := 2) C dX0_turnTo_12 rfl 2 rfl ?_
  refine j_iast (ws2 := ws.set (k + 1) (a, .inl (ct 0, 4, .inl (upd lt r y)))) C (k + 1) hk.2.1 (r) rfl hr (by decide) rfl dX0_turnTo_13 ?_
  exact j_return C E dX0_turnTo_14 (Nat.le_of_ble_eq_true rfl) (Nat.le_of_ble_eq_true rfl) (⟨rfl, rfl⟩)
set_option maxRecDepth 100000 in
set_option maxHeartbeats 4000000 in
theorem kX0_standing (l : Launch) (D : va_G) (ct : Nat → ClassId) (sa : Nat → Nat) (ws : va_W) (k h a b : Nat) (lt wr : Nat → Int32) (w rk op lo : Int32) (hk : Lk ct ws k h a b lt wr w rk op lo) : jM l yX0_standing (Cond.code yX0_standing cX0_standing 3 (Option.some Jvm.ClassFile.FieldType.int) :: GW) (rM 0 0 0 0) D ct sa [.ref h] (ws) (dK (some (.int (stF lt 4))) ws) 0 0 := by
  refine jMX.plain (jBody (own := RX0) (by decide) rfl rfl (Nat.le_of_ble_eq_true rfl) ?_)
  intro X C E T0
  refine j_lv (lv1 := [(0, .ref _)]) rfl ?_
  refine j_iconst (v := nI 0) C dX0_standing_0 (by decide) ?_
  refine j_istore_n (lv' := [(1, .int _), (0, .ref _)]) C dX0_standing_1 rfl (by decide) rfl ?_
  refine j_iconst (v := nI 0) C dX0_standing_2 (by decide) ?_
  refine j_istore_n (lv' := [(2, .int _), (1, .int _), (0, .ref _)]) C dX0_standing_3 rfl (by decide) rfl ?_
  have L4 : ∀ (d i : Nat) (x1 : Int32) (x2 : Int32), i + d = 4 → x1 = stF lt i → x2 = nI i → J X (ws) (0) (0) 4 [(0, .ref h), (1, .int x1), (2, .int x2)] [] := by
    intro d
    induction d with
    | zero =>
      intro i x1 x2 hd e_x1 e_x2 
      subst e_x1
      subst e_x2
      have hi9 : i = 4 := by omega
      subst hi9
      refine j_iload_n (i := 2) C dX0_standing_4 rfl 2 rfl ?_
      refine j_iconst (v := nI 4) C dX0_standing_5 (by decide) ?_
      refine j_icmp_ge C 27 dX0_standing_6 (by decide) (fun c6 => ?_) (fun c6 => by first | exact absurd c6 (by decide) | exact absurd c6 (nI_ge (by omega) (by omega)) | exact absurd (nI_le (by omega) (by omega)) c6 | exact absurd c6 (nI_nlt (by omega) (by omega)) | exact absurd (nI_lt (by omega) (by omega)) c6 | exact absurd c6 (nI_nle0 (by omega) (by omega)))
      refine j_iload_n (i := 1) C dX0_standing_27 rfl 1 rfl ?_
      exact j_ireturn C E rfl dX0_standing_28 (Nat.le_of_ble_eq_true rfl) (Nat.le_of_ble_eq_true rfl) (⟨rfl, rfl⟩)
    | succ d ih =>
      intro i x1 x2 hd e_x1 e_x2 
      subst e_x1
      subst e_x2
      refine j_iload_n (i := 2) C dX0_standing_4 rfl 2 rfl ?_
      refine j_iconst (v := nI 4) C dX0_standing_5 (by decide) ?_
      refine j_icmp_ge C 27 dX0_standing_6 (by decide) (fun c6 => by first | exact absurd c6 (by decide) | exact absurd c6 (nI_ge (by omega) (by omega)) | exact absurd (nI_le (by omega) (by omega)) c6 | exact absurd c6 (nI_nlt (by omega) (by omega)) | exact absurd (nI_lt (by omega) (by omega)) c6 | exact absurd c6 (nI_nle0 (by omega) (by omega))) (fun c6 => ?_)
      refine j_iload_n (i := 1) C dX0_standing_9 rfl 1 rfl ?_
      refine j_bipush (v := nI 6) C dX0_standing_10 (by decide) ?_
      refine j_imul C dX0_standing_12 ?_
      refine j_aload_n (i := 0) C dX0_standing_13 rfl 0 rfl ?_
      refine j_get (Cn := RX0) (T := TX0) (N := 6) (ci := 1) C iX0 rfl (k) hk.1 0 (by decide) gw115 rfl rfl dX0_standing_14 ?_
      refine j_iload_n (i := 2) C dX0_standing_17 rfl 2 rfl ?_
      refine j_iald C (k + 1) hk.2.1 (i) rfl (by omega) (by decide) dX0_standing_18 ?_
      refine j_iadd C dX0_standing_19 ?_
      refine j_istore_n (lv' := [(1, .int _), (0, .ref _), (2, .int _)]) C dX0_standing_20 rfl (by decide) rfl ?_
      refine j_iinc (z := 2) (lv' := [(2, .int _), (1, .int _), (0, .ref _)]) C dX0_standing_21 rfl rfl (by decide) rfl ?_
      refine j_goto C 4 dX0_standing_24 (by decide) ?_
      exact j_lvs [2, 1, 0] rfl (ih (i + 1) _ _ (by omega) (congrArg (fun z => z + lt i) (Int32.mul_comm _ _)) (nI_1 i))
  exact j_lvs [2, 1, 0] rfl (L4 (4) (0) _ _ (by omega) (rfl) (rfl))
set_option maxRecDepth 100000 in
set_option maxHeartbeats 4000000 in
theorem kX0_close (l : Launch) (D : va_G) (ct : Nat → ClassId) (sa : Nat → Nat) (ws : va_W) (k h a b : Nat) (lt wr : Nat → Int32) (w rk op lo : Int32) (hk : Lk ct ws k h a b lt wr w rk op lo) : jM l yX0_close (Cond.code yX0_close cX0_close 2 (Option.none : Option Jvm.ClassFile.FieldType) :: GW) (rM 0 0 0 0) D ct sa [.ref h] (ws) (dK none ((ws.set (k + 1) (a, .inl (ct 0, 4, .inl (clL lt 4)))).set k (h, .inr (1, [.ref a, .ref b, .int w, .int rk, .int (nI 0), .int lo])))) 0 0 := by
  refine jMX.plain (jBody (own := RX0) (by decide) rfl rfl (Nat.le_of_ble_eq_true rfl) ?_)
  intro X C E T0
  refine j_lv (lv1 := [(0, .ref _)]) rfl ?_
  refine j_iconst (v := nI 0) C dX0_close_0 (by decide) ?_
  refine j_istore_n (lv' := [(1, .int _), (0, .ref _)]) C dX0_close_1 rfl (by decide) rfl ?_
  have L2 : ∀ (d i : Nat) (x1 : Int32) (wx : va_W), i + d = 4 → x1 = nI i → wx = ws.set (k + 1) (a, .inl (ct 0, 4, .inl (clL lt i))) → J X (wx) (0) (0) 2 [(0, .ref h), (1, .int x1)] [] := by
    intro d
    induction d with
    | zero =>
      intro i x1 wx hd e_x1 e_wx 
      subst e_x1
      subst e_wx
      have hi9 : i = 4 := by omega
      subst hi9
      refine j_iload_n (i := 1) C dX0_close_2 rfl 1 rfl ?_
      refine j_iconst (v := nI 4) C dX0_close_3 (by decide) ?_
      refine j_icmp_ge C 32 dX0_close_4 (by decide) (fun c4 => ?_) (fun c4 => by first | exact absurd c4 (by decide) | exact absurd c4 (nI_ge (by omega) (by omega)) | exact absurd (nI_le (by omega) (by omega)) c4 | exact absurd c4 (nI_nlt (by omega) (by omega)) | exact absurd (nI_lt (by omega) (by omega)) c4 | exact absurd c4 (nI_nle0 (by omega) (by omega)))
      refine j_aload_n (i := 0) C dX0_close_32 rfl 0 rfl ?_
      refine j_iconst (v := nI 0) C dX0_close_33 (by decide) ?_
      refine j_put (Cn := RX0) (T := TX0) (N := 6) (ci := 1) (ws2 := (ws.set (k + 1) (a, .inl (ct 0, 4, .inl (clL lt 4)))).set k (h, .inr (1, [.ref a, .ref b, .int w, .int rk, .int (nI 0), .int lo]))) C iX0 tyX0 tyX0_ok nmX0 rfl (k) ((set_ne (by omega)).trans hk.1) 4 (by decide) gw121 rfl rfl rfl rfl rfl (Nat.le_of_ble_eq_true rfl) rfl dX0_close_34 ?_
      exact j_return C E dX0_close_37 (Nat.le_of_ble_eq_true rfl) (Nat.le_of_ble_eq_true rfl) (⟨rfl, rfl⟩)
    | succ d ih =>
      intro i x1 wx hd e_x1 e_wx 
      subst e_x1
      subst e_wx
      refine j_iload_n (i := 1) C dX0_close_2 rfl 1 rfl ?_
      refine j_iconst (v := nI 4) C dX0_close_3 (by decide) ?_
      refine j_icmp_ge C 32 dX0_close_4 (by decide) (fun c4 => by first | exact absurd c4 (by decide) | exact absurd c4 (nI_ge (by omega) (by omega)) | exact absurd (nI_le (by omega) (by omega)) c4 | exact absurd c4 (nI_nlt (by omega) (by omega)) | exact absurd (nI_lt (by omega) (by omega)) c4 | exact absurd c4 (nI_nle0 (by omega) (by omega))) (fun c4 => ?_)
      refine j_aload_n (i := 0) C dX0_close_7 rfl 0 rfl ?_
      refine j_get (Cn := RX0) (T := TX0) (N := 6) (ci := 1) C iX0 rfl (k) ((set_ne (by omega)).trans hk.1) 0 (by decide) gw115 rfl rfl dX0_close_8 ?_
      refine j_iload_n (i := 1) C dX0_close_11 rfl 1 rfl ?_
      refine j_aload_n (i := 0) C dX0_close_12 rfl 0 rfl ?_
      refine j_get (Cn := RX0) (T := TX0) (N := 6) (ci := 1) C iX0 rfl (k) ((set_ne (by omega)).trans hk.1) 0 (by decide) gw115 rfl rfl dX0_close_13 ?_
      refine j_iload_n (i := 1) C dX0_close_16 rfl 1 rfl ?_
      refine j_iald C (k + 1) (set_eq hk.2.1) (i) rfl (by omega) (by decide) dX0_close_17 ?_
      refine j_iload_n (i := 1) C dX0_close_18 rfl 1 rfl ?_
      refine j_iadd C dX0_close_19 ?_
      refine j_iconst (v := nI 1) C dX0_close_20 (by decide) ?_
      refine j_iadd C dX0_close_21 ?_
      refine j_bipush (v := nI 6) C dX0_close_22 (by decide) ?_
      refine j_irem C dX0_close_24 (by decide) ?_
      refine j_iast (ws2 := ws.set (k + 1) (a, .inl (ct 0, 4, .inl (clL lt (i + 1))))) C (k + 1) (set_eq hk.2.1) (i) rfl (by omega) (by decide) set_set dX0_close_25 ?_
      refine j_iinc (z := 1) (lv' := [(1, .int _), (0, .ref _)]) C dX0_close_26 rfl rfl (by decide) rfl ?_
      refine j_goto C 2 dX0_close_29 (by decide) ?_
      exact j_lvs [1, 0] rfl (ih (i + 1) _ _ (by omega) (nI_1 i) (rfl))
  exact j_lvs [1, 0] rfl (L2 (4) (0) _ _ (by omega) (rfl) ((set_self hk.2.1).symm))
set_option maxRecDepth 100000 in
set_option maxHeartbeats 4000000 in
theorem kX0_wearAt (l : Launch) (D : va_G) (ct : Nat → ClassId) (sa : Nat → Nat) (ws : va_W) (k h a b : Nat) (lt wr : Nat → Int32) (w rk op lo : Int32) (x y : Int32) (r q : Nat) (hk : Lk ct ws k h a b lt wr w rk op lo) (hx : x = nI r) (hy : y = nI q) (hr : r < 4) (hq : q < 6) : jM l yX0_wearAt (Cond.code yX0_wearAt cX0_wearAt 3 (Option.some Jvm.ClassFile.FieldType.int) :: GW) (rM 1 0 0 20) D ct sa [.ref h, .int x, .int y] (ws) (dK (some (.int (wr (6 * r + q)))) ws) 0 0 := by
  refine jMX.plain (jBody (own := RX0) (by decide) rfl rfl (Nat.le_of_ble_eq_true rfl) ?_)
  intro X C E T0
  refine j_lv (lv1 := [(0, .ref _), (1, .int _), (2, .int _)]) rfl ?_
  subst hx
  subst hy
  refine j_iload_n (i := 1) C dX0_wearAt_0 rfl 1 rfl ?_
  refine j_callSN (nargs := 1) (As := [_]) C nw281 gw255 gw21 (kX3_isRing l D ct sa _ _) gw256 (by decide +kernel) rfl dX0_wearAt_1 ⟨Nat.le_of_ble_eq_true rfl, Nat.le_of_ble_eq_true rfl⟩ ⟨Nat.le_of_ble_eq_true rfl, Nat.le_of_ble_eq_true rfl⟩ (Nat.le_of_ble_eq_true rfl) (dki ?_)
  refine j_if_eq C 28 dX0_wearAt_4 (by decide) (fun c4 => by exact absurd c4 (by rw [b2i_y (okI_n hr (by decide))]; decide)) (fun c4 => ?_)
  refine j_iload_n (i := 2) C dX0_wearAt_7 rfl 2 rfl ?_
  refine j_callSN (nargs := 1) (As := [_]) C nw319 gw259 gw21 (kX3_isLetter l D ct sa _ _) gw260 (by decide +kernel) rfl dX0_wearAt_8 ⟨Nat.le_of_ble_eq_true rfl, Nat.le_of_ble_eq_true rfl⟩ ⟨Nat.le_of_ble_eq_true rfl, Nat.le_of_ble_eq_true rfl⟩ (Nat.le_of_ble_eq_true rfl) (dki ?_)
  refine j_if_eq C 28 dX0_wearAt_11 (by decide) (fun c11 => by exact absurd c11 (by rw [b2i_y (okI_n hq (by decide))]; decide)) (fun c11 => ?_)
  refine j_aload_n (i := 0) C dX0_wearAt_14 rfl 0 rfl ?_
  refine j_get (Cn := RX0) (T := TX0) (N := 6) (ci := 1) C iX0 rfl (k) hk.1 1 (by decide) gw116 rfl rfl dX0_wearAt_15 ?_
  refine j_iload_n (i := 1) C dX0_wearAt_18 rfl 1 rfl ?_
  refine j_bipush (v := nI 6) C dX0_wearAt_19 (by decide) ?_
  refine j_imul C dX0_wearAt_21 ?_
  refine j_iload_n (i := 2) C dX0_wearAt_22 rfl 2 rfl ?_
  refine j_iadd C dX0_wearAt_23 ?_
  refine j_iald C (k + 2) hk.2.2 (6 * r + q) (by rw [Int32.mul_comm, pk_mul, nI_add]) (by omega) (by decide) dX0_wearAt_24 ?_
  refine j_goto C 29 dX0_wearAt_25 (by decide) ?_
  exact j_ireturn C E rfl dX0_wearAt_29 (Nat.le_of_ble_eq_true rfl) (Nat.le_of_ble_eq_true rfl) (⟨rfl, rfl⟩)
set_option maxRecDepth 100000 in
set_option maxHeartbeats 4000000 in
theorem kX0_wearMore (l : Launch) (D : va_G) (ct : Nat → ClassId) (sa : Nat → Nat) (ws : va_W) (k h a b : Nat) (lt wr : Nat → Int32) (w rk op lo : Int32) (x y z : Int32) (r q : Nat) (hk : Lk ct ws k h a b lt wr w rk op lo) (hx : x = nI r) (hy : y = nI q) (hr : r < 4) (hq : q < 6) : jM l yX0_wearMore (Cond.code yX0_wearMore cX0_wearMore 5 (Option.none : Option Jvm.ClassFile.FieldType) :: GW) (rM 1 0 0 20) D ct sa [.ref h, .int x, .int y, .int z] (ws) (dK none (ws.set (k + 2) (b, .inl (ct 0, 24, .inl (wuL wr r q z))))) 0 0 := by
  refine jMX.plain (jBody (own := RX0) (by decide) rfl rfl (Nat.le_of_ble_eq_true rfl) ?_)
  intro X C E T0
  refine j_lv (lv1 := [(0, .ref _), (1, .int _), (2, .int _), (3, .int _)]) rfl ?_
  subst hx
  subst hy
  refine j_iload_n (i := 1) C dX0_wearMore_0 rfl 1 rfl ?_
  refine j_callSN (nargs := 1) (As := [_]) C nw281 gw255 gw21 (kX3_isRing l D ct sa _ _) gw256 (by decide +kernel) rfl dX0_wearMore_1 ⟨Nat.le_of_ble_eq_true rfl, Nat.le_of_ble_eq_true rfl⟩ ⟨Nat.le_of_ble_eq_true rfl, Nat.le_of_ble_eq_true rfl⟩ (Nat.le_of_ble_eq_true rfl) (dki ?_)
  refine j_if_eq C 43 dX0_wearMore_4 (by decide) (fun c4 => by exact absurd c4 (by rw [b2i_y (okI_n hr (by decide))]; decide)) (fun c4 => ?_)
  refine j_iload_n (i := 2) C dX0_wearMore_7 rfl 2 rfl ?_
  refine j_callSN (nargs := 1) (As := [_]) C nw319 gw259 gw21 (kX3_isLetter l D ct sa _ _) gw260 (by decide +kernel) rfl dX0_wearMore_8 ⟨Nat.le_of_ble_eq_true rfl, Nat.le_of_ble_eq_true rfl⟩ ⟨Nat.le_of_ble_eq_true rfl, Nat.le_of_ble_eq_true rfl⟩ (Nat.le_of_ble_eq_true rfl) (dki ?_)
  refine j_if_eq C 43 dX0_wearMore_11 (by decide) (fun c11 => by exact absurd c11 (by rw [b2i_y (okI_n hq (by decide))]; decide)) (fun c11 => ?_)
  refine j_iload_n (i := 1) C dX0_wearMore_14 rfl 1 rfl ?_
  refine j_bipush (v := nI 6) C dX0_wearMore_15 (by decide) ?_
  refine j_imul C dX0_wearMore_17 ?_
  refine j_iload_n (i := 2) C dX0_wearMore_18 rfl 2 rfl ?_
  refine j_iadd C dX0_wearMore_19 ?_
  refine j_istore (lv' := [(4, .int _), (0, .ref _), (1, .int _), (2, .int _), (3, .int _)]) C dX0_wearMore_20 (by decide) rfl ?_
  refine j_aload_n (i := 0) C dX0_wearMore_22 rfl 1 rfl ?_
  refine j_get (Cn := RX0) (T := TX0) (N := 6) (ci := 1) C iX0 rfl (k) hk.1 1 (by decide) gw116 rfl rfl dX0_wearMore_23 ?_
  refine j_iload C dX0_wearMore_26 0 rfl ?_
  refine j_bipush (v := nI 99) C dX0_wearMore_28 (by decide) ?_
  refine j_aload_n (i := 0) C dX0_wearMore_30 rfl 1 rfl ?_
  refine j_get (Cn := RX0) (T := TX0) (N := 6) (ci := 1) C iX0 rfl (k) hk.1 1 (by decide) gw116 rfl rfl dX0_wearMore_31 ?_
  refine j_iload C dX0_wearMore_34 0 rfl ?_
  refine j_iald C (k + 2) hk.2.2 (6 * r + q) (by rw [Int32.mul_comm, pk_mul, nI_add]) (by omega) (by decide) dX0_wearMore_36 ?_
  refine j_iload_n (i := 3) C dX0_wearMore_37 rfl 4 rfl ?_
  refine j_iadd C dX0_wearMore_38 ?_
  refine j_mmin C gw430 gw289 gw36 gw290 ⟨Nat.le_of_ble_eq_true rfl, Nat.le_of_ble_eq_true rfl⟩ ⟨Nat.le_of_ble_eq_true rfl, Nat.le_of_ble_eq_true rfl⟩ dX0_wearMore_39 ?_
  refine j_iast (ws2 := ws.set (k + 2) (b, .inl (ct 0, 24, .inl (wuL wr r q z)))) C (k + 2) hk.2.2 (6 * r + q) (by rw [Int32.mul_comm, pk_mul, nI_add]) (by omega) (by decide) rfl dX0_wearMore_42 ?_
  exact j_return C E dX0_wearMore_43 (Nat.le_of_ble_eq_true rfl) (Nat.le_of_ble_eq_true rfl) (⟨rfl, rfl⟩)
set_option maxRecDepth 100000 in
set_option maxHeartbeats 4000000 in
theorem kX0_wearByAnHour (l : Launch) (D : va_G) (ct : Nat → ClassId) (sa : Nat → Nat) (ws : va_W) (k h a b : Nat) (lt wr : Nat → Int32) (w rk op lo : Int32) (hk : Lk ct ws k h a b lt wr w rk op lo) (hl : ∀ r, r < 4 → okI 6 (lt r)) (hw : okI 1296 w) : jM l yX0_wearByAnHour (Cond.code yX0_wearByAnHour cX0_wearByAnHour 2 (Option.none : Option Jvm.ClassFile.FieldType) :: GW) (rM 2 0 0 44) D ct sa [.ref h] (ws) (dK none (ws.set (k + 2) (b, .inl (ct 0, 24, .inl (wLL lt w rk op wr 4))))) 0 0 := by
  refine jMX.plain (jBody (own := RX0) (by decide) rfl rfl (Nat.le_of_ble_eq_true rfl) ?_)
  intro X C E T0
  refine j_lv (lv1 := [(0, .ref _)]) rfl ?_
  refine j_iconst (v := nI 0) C dX0_wearByAnHour_0 (by decide) ?_
  refine j_istore_n (lv' := [(1, .int _), (0, .ref _)]) C dX0_wearByAnHour_1 rfl (by decide) rfl ?_
  have L2 : ∀ (d i : Nat) (x1 : Int32) (wx : va_W), i + d = 4 → x1 = nI i → wx = ws.set (k + 2) (b, .inl (ct 0, 24, .inl (wLL lt w rk op wr i))) → J X (wx) (0) (0) 2 [(0, .ref h), (1, .int x1)] [] := by
    intro d
    induction d with
    | zero =>
      intro i x1 wx hd e_x1 e_wx 
      subst e_x1
      subst e_wx
      have hi9 : i = 4 := by omega
      subst hi9
      refine j_iload_n (i := 1) C dX0_wearByAnHour_2 rfl 1 rfl ?_
      refine j_iconst (v := nI 4) C dX0_wearByAnHour_3 (by decide) ?_
      refine j_icmp_ge C 57 dX0_wearByAnHour_4 (by decide) (fun c4 => ?_) (fun c4 => by first | exact absurd c4 (by decide) | exact absurd c4 (nI_ge (by omega) (by omega)) | exact absurd (nI_le (by omega) (by omega)) c4 | exact absurd c4 (nI_nlt (by omega) (by omega)) | exact absurd (nI_lt (by omega) (by omega)) c4 | exact absurd c4 (nI_nle0 (by omega) (by omega)))
      exact j_return C E dX0_wearByAnHour_57 (Nat.le_of_ble_eq_true rfl) (Nat.le_of_ble_eq_true rfl) (⟨rfl, rfl⟩)
    | succ d ih =>
      intro i x1 wx hd e_x1 e_wx 
      subst e_x1
      subst e_wx
      obtain ⟨h6, e6⟩ := okI_ix (hl i (by omega)) (by decide)
      obtain ⟨h7, e7⟩ := okI_ix (lt_ok (r := i) hw) (by decide)
      refine j_iload_n (i := 1) C dX0_wearByAnHour_2 rfl 1 rfl ?_
      refine j_iconst (v := nI 4) C dX0_wearByAnHour_3 (by decide) ?_
      refine j_icmp_ge C 57 dX0_wearByAnHour_4 (by decide) (fun c4 => by first | exact absurd c4 (by decide) | exact absurd c4 (nI_ge (by omega) (by omega)) | exact absurd (nI_le (by omega) (by omega)) c4 | exact absurd c4 (nI_nlt (by omega) (by omega)) | exact absurd (nI_lt (by omega) (by omega)) c4 | exact absurd c4 (nI_nle0 (by omega) (by omega))) (fun c4 => ?_)
      refine j_aload_n (i := 0) C dX0_wearByAnHour_7 rfl 0 rfl ?_
      refine j_get (Cn := RX0) (T := TX0) (N := 6) (ci := 1) C iX0 rfl (k) ((set_ne (by omega)).trans hk.1) 4 (by decide) gw121 rfl rfl dX0_wearByAnHour_8 ?_
      refine j_if_ne C 29 dX0_wearByAnHour_11 (by decide) (fun c11 => ?_) (fun c11 => ?_)
      · refine j_aload_n (i := 0) C dX0_wearByAnHour_29 rfl 0 rfl ?_
        refine j_get (Cn := RX0) (T := TX0) (N := 6) (ci := 1) C iX0 rfl (k) ((set_ne (by omega)).trans hk.1) 3 (by decide) gw119 rfl rfl dX0_wearByAnHour_30 ?_
        refine j_iconst (v := (-1)) C dX0_wearByAnHour_33 (by decide) ?_
        refine j_icmp_eq C 51 dX0_wearByAnHour_34 (by decide) (fun c34 => ?_) (fun c34 => ?_)
        · refine j_iinc (z := 1) (lv' := [(1, .int _), (0, .ref _)]) C dX0_wearByAnHour_51 rfl rfl (by decide) rfl ?_
          refine j_goto C 2 dX0_wearByAnHour_54 (by decide) ?_
          exact j_lvs [1, 0] rfl (ih (i + 1) _ _ (by omega) (nI_1 i) (by first | exact set_set.trans (congrArg (fun f => ws.set (k + 2) (b, .inl (ct 0, 24, .inl (f)))) (if_pos c11).symm) | exact set_set.trans (congrArg (fun f => ws.set (k + 2) (b, .inl (ct 0, 24, .inl (f)))) ((if_neg c11).trans (if_neg c34)).symm) | exact congrArg (fun f => ws.set (k + 2) (b, .inl (ct 0, 24, .inl (f)))) ((if_neg c11).trans (if_pos c34)).symm))
        · refine j_aload_n (i := 0) C dX0_wearByAnHour_37 rfl 0 rfl ?_
          refine j_iload_n (i := 1) C dX0_wearByAnHour_38 rfl 1 rfl ?_
          refine j_aload_n (i := 0) C dX0_wearByAnHour_39 rfl 0 rfl ?_
          refine j_get (Cn := RX0) (T := TX0) (N := 6) (ci := 1) C iX0 rfl (k) ((set_ne (by omega)).trans hk.1) 2 (by decide) gw117 rfl rfl dX0_wearByAnHour_40 ?_
          refine j_iload_n (i := 1) C dX0_wearByAnHour_43 rfl 1 rfl ?_
          refine j_callSN (nargs := 2) (As := [_, _]) C nw431 gw392 gw21 (kX3_letterOf l D ct sa _ _ _ i rfl (by omega)) gw393 (by decide +kernel) rfl dX0_wearByAnHour_44 ⟨Nat.le_of_ble_eq_true rfl, Nat.le_of_ble_eq_true rfl⟩ ⟨Nat.le_of_ble_eq_true rfl, Nat.le_of_ble_eq_true rfl⟩ (Nat.le_of_ble_eq_true rfl) (dki ?_)
          refine j_iconst (v := nI 2) C dX0_wearByAnHour_47 (by decide) ?_
          refine j_callV (nargs := 3) (As := [_, _, _]) (Cn := RX0) C (k) ((set_ne (by omega)).trans hk.1) rfl rfl gw426 gw428 gw14 gw27 (kX0_wearMore l D ct sa _ k h a b lt _ w rk op lo _ _ _ i _ ⟨(set_ne (by omega)).trans hk.1, (set_ne (by omega)).trans hk.2.1, set_eq hk.2.2⟩ rfl e7 (by omega) h7) gw429 (by decide +kernel) rfl dX0_wearByAnHour_48 ⟨Nat.le_of_ble_eq_true rfl, Nat.le_of_ble_eq_true rfl⟩ ⟨Nat.le_of_ble_eq_true rfl, Nat.le_of_ble_eq_true rfl⟩ (Nat.le_of_ble_eq_true rfl) (dkv ?_)
          refine j_iinc (z := 1) (lv' := [(1, .int _), (0, .ref _)]) C dX0_wearByAnHour_51 rfl rfl (by decide) rfl ?_
          refine j_goto C 2 dX0_wearByAnHour_54 (by decide) ?_
          exact j_lvs [1, 0] rfl (ih (i + 1) _ _ (by omega) (nI_1 i) (by first | exact set_set.trans (congrArg (fun f => ws.set (k + 2) (b, .inl (ct 0, 24, .inl (f)))) (if_pos c11).symm) | exact set_set.trans (congrArg (fun f => ws.set (k + 2) (b, .inl (ct 0, 24, .inl (f)))) ((if_neg c11).trans (if_neg c34)).symm) | exact congrArg (fun f => ws.set (k + 2) (b, .inl (ct 0, 24, .inl (f)))) ((if_neg c11).trans (if_pos c34)).symm))
      · refine j_aload_n (i := 0) C dX0_wearByAnHour_14 rfl 0 rfl ?_
        refine j_iload_n (i := 1) C dX0_wearByAnHour_15 rfl 1 rfl ?_
        refine j_aload_n (i := 0) C dX0_wearByAnHour_16 rfl 0 rfl ?_
        refine j_get (Cn := RX0) (T := TX0) (N := 6) (ci := 1) C iX0 rfl (k) ((set_ne (by omega)).trans hk.1) 0 (by decide) gw115 rfl rfl dX0_wearByAnHour_17 ?_
        refine j_iload_n (i := 1) C dX0_wearByAnHour_20 rfl 1 rfl ?_
        refine j_iald C (k + 1) ((set_ne (by omega)).trans hk.2.1) (i) rfl (by omega) (by decide) dX0_wearByAnHour_21 ?_
        refine j_iconst (v := nI 1) C dX0_wearByAnHour_22 (by decide) ?_
        refine j_callV (nargs := 3) (As := [_, _, _]) (Cn := RX0) C (k) ((set_ne (by omega)).trans hk.1) rfl rfl gw426 gw428 gw14 gw27 (kX0_wearMore l D ct sa _ k h a b lt _ w rk op lo _ _ _ i _ ⟨(set_ne (by omega)).trans hk.1, (set_ne (by omega)).trans hk.2.1, set_eq hk.2.2⟩ rfl e6 (by omega) h6) gw429 (by decide +kernel) rfl dX0_wearByAnHour_23 ⟨Nat.le_of_ble_eq_true rfl, Nat.le_of_ble_eq_true rfl⟩ ⟨Nat.le_of_ble_eq_true rfl, Nat.le_of_ble_eq_true rfl⟩ (Nat.le_of_ble_eq_true rfl) (dkv ?_)
        refine j_goto C 51 dX0_wearByAnHour_26 (by decide) ?_
        refine j_iinc (z := 1) (lv' := [(1, .int _), (0, .ref _)]) C dX0_wearByAnHour_51 rfl rfl (by decide) rfl ?_
        refine j_goto C 2 dX0_wearByAnHour_54 (by decide) ?_
        exact j_lvs [1, 0] rfl (ih (i + 1) _ _ (by omega) (nI_1 i) (by first | exact set_set.trans (congrArg (fun f => ws.set (k + 2) (b, .inl (ct 0, 24, .inl (f)))) (if_pos c11).symm) | exact set_set.trans (congrArg (fun f => ws.set (k + 2) (b, .inl (ct 0, 24, .inl (f)))) ((if_neg c11).trans (if_neg c34)).symm) | exact congrArg (fun f => ws.set (k + 2) (b, .inl (ct 0, 24, .inl (f)))) ((if_neg c11).trans (if_pos c34)).symm))
  exact j_lvs [1, 0] rfl (L2 (4) (0) _ _ (by omega) (rfl) ((set_self hk.2.2).symm))
set_option maxRecDepth 100000 in
set_option maxHeartbeats 4000000 in
theorem kX0_allWears (l : Launch) (D : va_G) (ct : Nat → ClassId) (sa : Nat → Nat) (ws : va_W) (k h a b : Nat) (lt wr : Nat → Int32) (w rk op lo : Int32) (hk : Lk ct ws k h a b lt wr w rk op lo) : jM l yX0_allWears (Cond.code yX0_allWears cX0_allWears 3 (Option.some Jvm.ClassFile.FieldType.int) :: GW) (rM 0 0 0 0) D ct sa [.ref h] (ws) (dK (some (.int (sumF wr 24))) ws) 0 0 := by
  refine jMX.plain (jBody (own := RX0) (by decide) rfl rfl (Nat.le_of_ble_eq_true rfl) ?_)
  intro X C E T0
  refine j_lv (lv1 := [(0, .ref _)]) rfl ?_
  refine j_iconst (v := nI 0) C dX0_allWears_0 (by decide) ?_
  refine j_istore_n (lv' := [(1, .int _), (0, .ref _)]) C dX0_allWears_1 rfl (by decide) rfl ?_
  refine j_iconst (v := nI 0) C dX0_allWears_2 (by decide) ?_
  refine j_istore_n (lv' := [(2, .int _), (1, .int _), (0, .ref _)]) C dX0_allWears_3 rfl (by decide) rfl ?_
  have L4 : ∀ (d i : Nat) (x1 : Int32) (x2 : Int32), i + d = 24 → x1 = sumF wr i → x2 = nI i → J X (ws) (0) (0) 4 [(0, .ref h), (1, .int x1), (2, .int x2)] [] := by
    intro d
    induction d with
    | zero =>
      intro i x1 x2 hd e_x1 e_x2 
      subst e_x1
      subst e_x2
      have hi9 : i = 24 := by omega
      subst hi9
      refine j_iload_n (i := 2) C dX0_allWears_4 rfl 2 rfl ?_
      refine j_aload_n (i := 0) C dX0_allWears_5 rfl 0 rfl ?_
      refine j_get (Cn := RX0) (T := TX0) (N := 6) (ci := 1) C iX0 rfl (k) hk.1 1 (by decide) gw116 rfl rfl dX0_allWears_6 ?_
      refine j_alen (v := nI 24) C (k + 2) 0 hk.2.2 rfl rfl dX0_allWears_9 ?_
      refine j_icmp_ge C 28 dX0_allWears_10 (by decide) (fun c10 => ?_) (fun c10 => by first | exact absurd c10 (by decide) | exact absurd c10 (nI_ge (by omega) (by omega)) | exact absurd (nI_le (by omega) (by omega)) c10 | exact absurd c10 (nI_nlt (by omega) (by omega)) | exact absurd (nI_lt (by omega) (by omega)) c10 | exact absurd c10 (nI_nle0 (by omega) (by omega)))
      refine j_iload_n (i := 1) C dX0_allWears_28 rfl 1 rfl ?_
      exact j_ireturn C E rfl dX0_allWears_29 (Nat.le_of_ble_eq_true rfl) (Nat.le_of_ble_eq_true rfl) (⟨rfl, rfl⟩)
    | succ d ih =>
      intro i x1 x2 hd e_x1 e_x2 
      subst e_x1
      subst e_x2
      refine j_iload_n (i := 2) C dX0_allWears_4 rfl 2 rfl ?_
      refine j_aload_n (i := 0) C dX0_allWears_5 rfl 0 rfl ?_
      refine j_get (Cn := RX0) (T := TX0) (N := 6) (ci := 1) C iX0 rfl (k) hk.1 1 (by decide) gw116 rfl rfl dX0_allWears_6 ?_
      refine j_alen (v := nI 24) C (k + 2) 0 hk.2.2 rfl rfl dX0_allWears_9 ?_
      refine j_icmp_ge C 28 dX0_allWears_10 (by decide) (fun c10 => by first | exact absurd c10 (by decide) | exact absurd c10 (nI_ge (by omega) (by omega)) | exact absurd (nI_le (by omega) (by omega)) c10 | exact absurd c10 (nI_nlt (by omega) (by omega)) | exact absurd (nI_lt (by omega) (by omega)) c10 | exact absurd c10 (nI_nle0 (by omega) (by omega))) (fun c10 => ?_)
      refine j_iload_n (i := 1) C dX0_allWears_13 rfl 1 rfl ?_
      refine j_aload_n (i := 0) C dX0_allWears_14 rfl 0 rfl ?_
      refine j_get (Cn := RX0) (T := TX0) (N := 6) (ci := 1) C iX0 rfl (k) hk.1 1 (by decide) gw116 rfl rfl dX0_allWears_15 ?_
      refine j_iload_n (i := 2) C dX0_allWears_18 rfl 2 rfl ?_
      refine j_iald C (k + 2) hk.2.2 (i) rfl (by omega) (by decide) dX0_allWears_19 ?_
      refine j_iadd C dX0_allWears_20 ?_
      refine j_istore_n (lv' := [(1, .int _), (0, .ref _), (2, .int _)]) C dX0_allWears_21 rfl (by decide) rfl ?_
      refine j_iinc (z := 2) (lv' := [(2, .int _), (1, .int _), (0, .ref _)]) C dX0_allWears_22 rfl rfl (by decide) rfl ?_
      refine j_goto C 4 dX0_allWears_25 (by decide) ?_
      exact j_lvs [2, 1, 0] rfl (ih (i + 1) _ _ (by omega) (rfl) (nI_1 i))
  exact j_lvs [2, 1, 0] rfl (L4 (24) (0) _ _ (by omega) (rfl) (rfl))
set_option maxRecDepth 100000 in
set_option maxHeartbeats 4000000 in
theorem kX0_mostWorn (l : Launch) (D : va_G) (ct : Nat → ClassId) (sa : Nat → Nat) (ws : va_W) (k h a b : Nat) (lt wr : Nat → Int32) (w rk op lo : Int32) (x : Int32) (r : Nat) (hk : Lk ct ws k h a b lt wr w rk op lo) (hx : x = nI r) (hr : r < 4) : jM l yX0_mostWorn (Cond.code yX0_mostWorn cX0_mostWorn 4 (Option.some Jvm.ClassFile.FieldType.int) :: GW) (rM 2 0 0 42) D ct sa [.ref h, .int x] (ws) (dK (some (.int (nI (bmF (wrw wr r) 5)))) ws) 0 0 := by
  refine jMX.plain (jBody (own := RX0) (by decide) rfl rfl (Nat.le_of_ble_eq_true rfl) ?_)
  intro X C E T0
  refine j_lv (lv1 := [(0, .ref _), (1, .int _)]) rfl ?_
  refine j_iconst (v := nI 0) C dX0_mostWorn_0 (by decide) ?_
  refine j_istore_n (lv' := [(2, .int _), (0, .ref _), (1, .int _)]) C dX0_mostWorn_1 rfl (by decide) rfl ?_
  refine j_iconst (v := nI 1) C dX0_mostWorn_2 (by decide) ?_
  refine j_istore_n (lv' := [(3, .int _), (2, .int _), (0, .ref _), (1, .int _)]) C dX0_mostWorn_3 rfl (by decide) rfl ?_
  have L4 : ∀ (d t : Nat) (x2 : Int32) (x3 : Int32), t + d = 5 → x2 = nI (bmF (wrw wr r) t) → x3 = nI (t + 1) → J X (ws) (0) (0) 4 [(0, .ref h), (1, .int x), (2, .int x2), (3, .int x3)] [] := by
    intro d
    induction d with
    | zero =>
      intro t x2 x3 hd e_x2 e_x3 
      subst e_x2
      subst e_x3
      have ht : t = 5 := by omega
      subst ht
      refine j_iload_n (i := 3) C dX0_mostWorn_4 rfl 3 rfl ?_
      refine j_bipush (v := nI 6) C dX0_mostWorn_5 (by decide) ?_
      refine j_icmp_ge C 33 dX0_mostWorn_7 (by decide) (fun c7 => ?_) (fun c7 => by first | exact absurd c7 (by decide) | exact absurd c7 (nI_ge (by omega) (by omega)) | exact absurd (nI_le (by omega) (by omega)) c7 | exact absurd c7 (nI_nlt (by omega) (by omega)) | exact absurd (nI_lt (by omega) (by omega)) c7 | exact absurd c7 (nI_nle0 (by omega) (by omega)))
      refine j_iload_n (i := 2) C dX0_mostWorn_33 rfl 2 rfl ?_
      exact j_ireturn C E rfl dX0_mostWorn_34 (Nat.le_of_ble_eq_true rfl) (Nat.le_of_ble_eq_true rfl) (⟨rfl, rfl⟩)
    | succ d ih =>
      intro t x2 x3 hd e_x2 e_x3 
      subst e_x2
      subst e_x3
      have hb := bmF_le (wrw wr r) t
      refine j_iload_n (i := 3) C dX0_mostWorn_4 rfl 3 rfl ?_
      refine j_bipush (v := nI 6) C dX0_mostWorn_5 (by decide) ?_
      refine j_icmp_ge C 33 dX0_mostWorn_7 (by decide) (fun c7 => by first | exact absurd c7 (by decide) | exact absurd c7 (nI_ge (by omega) (by omega)) | exact absurd (nI_le (by omega) (by omega)) c7 | exact absurd c7 (nI_nlt (by omega) (by omega)) | exact absurd (nI_lt (by omega) (by omega)) c7 | exact absurd c7 (nI_nle0 (by omega) (by omega))) (fun c7 => ?_)
      refine j_aload_n (i := 0) C dX0_mostWorn_10 rfl 0 rfl ?_
      refine j_iload_n (i := 1) C dX0_mostWorn_11 rfl 1 rfl ?_
      refine j_iload_n (i := 3) C dX0_mostWorn_12 rfl 3 rfl ?_
      refine j_callV (nargs := 2) (As := [_, _]) (Cn := RX0) C (k) hk.1 rfl rfl gw315 gw316 gw317 gw27 (kX0_wearAt l D ct sa _ k h a b lt wr w rk op lo _ _ r (t + 1) hk hx rfl hr (by omega)) gw318 (by decide +kernel) rfl dX0_mostWorn_13 ⟨Nat.le_of_ble_eq_true rfl, Nat.le_of_ble_eq_true rfl⟩ ⟨Nat.le_of_ble_eq_true rfl, Nat.le_of_ble_eq_true rfl⟩ (Nat.le_of_ble_eq_true rfl) (dki ?_)
      refine j_aload_n (i := 0) C dX0_mostWorn_16 rfl 0 rfl ?_
      refine j_iload_n (i := 1) C dX0_mostWorn_17 rfl 1 rfl ?_
      refine j_iload_n (i := 2) C dX0_mostWorn_18 rfl 2 rfl ?_
      refine j_callV (nargs := 2) (As := [_, _]) (Cn := RX0) C (k) hk.1 rfl rfl gw315 gw316 gw317 gw27 (kX0_wearAt l D ct sa _ k h a b lt wr w rk op lo _ _ r (bmF (wrw wr r) t) hk hx rfl hr (by omega)) gw318 (by decide +kernel) rfl dX0_mostWorn_19 ⟨Nat.le_of_ble_eq_true rfl, Nat.le_of_ble_eq_true rfl⟩ ⟨Nat.le_of_ble_eq_true rfl, Nat.le_of_ble_eq_true rfl⟩ (Nat.le_of_ble_eq_true rfl) (dki ?_)
      refine j_icmp_le C 27 dX0_mostWorn_22 (by decide) (fun c22 => ?_) (fun c22 => ?_)
      · refine j_iinc (z := 3) (lv' := [(3, .int _), (0, .ref _), (1, .int _), (2, .int _)]) C dX0_mostWorn_27 rfl rfl (by decide) rfl ?_
        refine j_goto C 4 dX0_mostWorn_30 (by decide) ?_
        exact j_lvs [1, 2, 3, 0] rfl (ih (t + 1) _ _ (by omega) (by show _ = nI (if _ then _ else _); first | rw [if_neg (inlt c22)] | rw [if_pos (ilt_of c22)]) (nI_1 (t + 1)))
      · refine j_iload_n (i := 3) C dX0_mostWorn_25 rfl 3 rfl ?_
        refine j_istore_n (lv' := [(2, .int _), (0, .ref _), (1, .int _), (3, .int _)]) C dX0_mostWorn_26 rfl (by decide) rfl ?_
        refine j_iinc (z := 3) (lv' := [(3, .int _), (2, .int _), (0, .ref _), (1, .int _)]) C dX0_mostWorn_27 rfl rfl (by decide) rfl ?_
        refine j_goto C 4 dX0_mostWorn_30 (by decide) ?_
        exact j_lvs [2, 3, 1, 0] rfl (ih (t + 1) _ _ (by omega) (by show _ = nI (if _ then _ else _); first | rw [if_neg (inlt c22)] | rw [if_pos (ilt_of c22)]) (nI_1 (t + 1)))
  exact j_lvs [2, 3, 1, 0] rfl (L4 (5) (0) _ _ (by omega) (rfl) (rfl))
set_option maxRecDepth 100000 in
set_option maxHeartbeats 4000000 in
theorem kX0_showing (l : Launch) (D : va_G) (ct : Nat → ClassId) (sa : Nat → Nat) (ws : va_W) (k h a b : Nat) (lt wr : Nat → Int32) (w rk op lo : Int32) (hk : Lk ct ws k h a b lt wr w rk op lo) : jM l yX0_showing (Cond.code yX0_showing cX0_showing 3 (Option.some Jvm.ClassFile.FieldType.int) :: GW) (rM 3 0 0 65) D ct sa [.ref h] (ws) (dK (some (.int (stF (fun r => nI (bmF (wrw wr r) 5)) 4))) ws) 0 0 := by
  refine jMX.plain (jBody (own := RX0) (by decide) rfl rfl (Nat.le_of_ble_eq_true rfl) ?_)
  intro X C E T0
  refine j_lv (lv1 := [(0, .ref _)]) rfl ?_
  refine j_iconst (v := nI 0) C dX0_showing_0 (by decide) ?_
  refine j_istore_n (lv' := [(1, .int _), (0, .ref _)]) C dX0_showing_1 rfl (by decide) rfl ?_
  refine j_iconst (v := nI 0) C dX0_showing_2 (by decide) ?_
  refine j_istore_n (lv' := [(2, .int _), (1, .int _), (0, .ref _)]) C dX0_showing_3 rfl (by decide) rfl ?_
  have L4 : ∀ (d i : Nat) (x1 : Int32) (x2 : Int32), i + d = 4 → x1 = stF (fun r => nI (bmF (wrw wr r) 5)) i → x2 = nI i → J X (ws) (0) (0) 4 [(0, .ref h), (1, .int x1), (2, .int x2)] [] := by
    intro d
    induction d with
    | zero =>
      intro i x1 x2 hd e_x1 e_x2 
      subst e_x1
      subst e_x2
      have hi9 : i = 4 := by omega
      subst hi9
      refine j_iload_n (i := 2) C dX0_showing_4 rfl 2 rfl ?_
      refine j_iconst (v := nI 4) C dX0_showing_5 (by decide) ?_
      refine j_icmp_ge C 26 dX0_showing_6 (by decide) (fun c6 => ?_) (fun c6 => by first | exact absurd c6 (by decide) | exact absurd c6 (nI_ge (by omega) (by omega)) | exact absurd (nI_le (by omega) (by omega)) c6 | exact absurd c6 (nI_nlt (by omega) (by omega)) | exact absurd (nI_lt (by omega) (by omega)) c6 | exact absurd c6 (nI_nle0 (by omega) (by omega)))
      refine j_iload_n (i := 1) C dX0_showing_26 rfl 1 rfl ?_
      exact j_ireturn C E rfl dX0_showing_27 (Nat.le_of_ble_eq_true rfl) (Nat.le_of_ble_eq_true rfl) (⟨rfl, rfl⟩)
    | succ d ih =>
      intro i x1 x2 hd e_x1 e_x2 
      subst e_x1
      subst e_x2
      refine j_iload_n (i := 2) C dX0_showing_4 rfl 2 rfl ?_
      refine j_iconst (v := nI 4) C dX0_showing_5 (by decide) ?_
      refine j_icmp_ge C 26 dX0_showing_6 (by decide) (fun c6 => by first | exact absurd c6 (by decide) | exact absurd c6 (nI_ge (by omega) (by omega)) | exact absurd (nI_le (by omega) (by omega)) c6 | exact absurd c6 (nI_nlt (by omega) (by omega)) | exact absurd (nI_lt (by omega) (by omega)) c6 | exact absurd c6 (nI_nle0 (by omega) (by omega))) (fun c6 => ?_)
      refine j_iload_n (i := 1) C dX0_showing_9 rfl 1 rfl ?_
      refine j_bipush (v := nI 6) C dX0_showing_10 (by decide) ?_
      refine j_imul C dX0_showing_12 ?_
      refine j_aload_n (i := 0) C dX0_showing_13 rfl 0 rfl ?_
      refine j_iload_n (i := 2) C dX0_showing_14 rfl 2 rfl ?_
      refine j_callV (nargs := 1) (As := [_]) (Cn := RX0) C (k) hk.1 rfl rfl gw311 gw313 gw2 gw27 (kX0_mostWorn l D ct sa _ k h a b lt wr w rk op lo _ i hk rfl (by omega)) gw314 (by decide +kernel) rfl dX0_showing_15 ⟨Nat.le_of_ble_eq_true rfl, Nat.le_of_ble_eq_true rfl⟩ ⟨Nat.le_of_ble_eq_true rfl, Nat.le_of_ble_eq_true rfl⟩ (Nat.le_of_ble_eq_true rfl) (dki ?_)
      refine j_iadd C dX0_showing_18 ?_
      refine j_istore_n (lv' := [(1, .int _), (0, .ref _), (2, .int _)]) C dX0_showing_19 rfl (by decide) rfl ?_
      refine j_iinc (z := 2) (lv' := [(2, .int _), (1, .int _), (0, .ref _)]) C dX0_showing_20 rfl rfl (by decide) rfl ?_
      refine j_goto C 4 dX0_showing_23 (by decide) ?_
      exact j_lvs [2, 1, 0] rfl (ih (i + 1) _ _ (by omega) (congrArg (fun z => z + nI (bmF (wrw wr i) 5)) (Int32.mul_comm _ _)) (nI_1 i))
  exact j_lvs [2, 1, 0] rfl (L4 (4) (0) _ _ (by omega) (rfl) (rfl))
set_option maxRecDepth 100000 in
set_option maxHeartbeats 4000000 in
theorem kX0_placeInOrder (l : Launch) (D : va_G) (ct : Nat → ClassId) (sa : Nat → Nat) (ws : va_W) (k h a b : Nat) (lt wr : Nat → Int32) (w rk op lo : Int32) (x y : Int32) (r q : Nat) (hk : Lk ct ws k h a b lt wr w rk op lo) (hx : x = nI r) (hy : y = nI q) (hr : r < 4) (hq : q < 6) : jM l yX0_placeInOrder (Cond.code yX0_placeInOrder cX0_placeInOrder 7 (Option.some Jvm.ClassFile.FieldType.int) :: GW) (rM 2 0 0 42) D ct sa [.ref h, .int x, .int y] (ws) (dK (some (.int (pxN (wrw wr r) q 6))) ws) 0 0 := by
  refine jMX.plain (jBody (own := RX0) (by decide) rfl rfl (Nat.le_of_ble_eq_true rfl) ?_)
  intro X C E T0
  refine j_lv (lv1 := [(0, .ref _), (1, .int _), (2, .int _)]) rfl ?_
  subst hy
  refine j_iconst (v := nI 0) C dX0_placeInOrder_0 (by decide) ?_
  refine j_istore_n (lv' := [(3, .int _), (0, .ref _), (1, .int _), (2, .int _)]) C dX0_placeInOrder_1 rfl (by decide) rfl ?_
  refine j_aload_n (i := 0) C dX0_placeInOrder_2 rfl 1 rfl ?_
  refine j_iload_n (i := 1) C dX0_placeInOrder_3 rfl 2 rfl ?_
  refine j_iload_n (i := 2) C dX0_placeInOrder_4 rfl 3 rfl ?_
  refine j_callV (nargs := 2) (As := [_, _]) (Cn := RX0) C (k) hk.1 rfl rfl gw315 gw316 gw317 gw27 (kX0_wearAt l D ct sa _ k h a b lt wr w rk op lo _ _ r q hk hx rfl hr hq) gw318 (by decide +kernel) rfl dX0_placeInOrder_5 ⟨Nat.le_of_ble_eq_true rfl, Nat.le_of_ble_eq_true rfl⟩ ⟨Nat.le_of_ble_eq_true rfl, Nat.le_of_ble_eq_true rfl⟩ (Nat.le_of_ble_eq_true rfl) (dki ?_)
  refine j_istore (lv' := [(4, .int _), (3, .int _), (0, .ref _), (1, .int _), (2, .int _)]) C dX0_placeInOrder_8 (by decide) rfl ?_
  refine j_iconst (v := nI 0) C dX0_placeInOrder_10 (by decide) ?_
  refine j_istore (lv' := [(5, .int _), (4, .int _), (3, .int _), (0, .ref _), (1, .int _), (2, .int _)]) C dX0_placeInOrder_11 (by decide) rfl ?_
  have L13 : ∀ (d t : Nat) (x3 : Int32) (x5 : Int32), t + d = 6 → x3 = pxN (wrw wr r) q t → x5 = nI t → J X (ws) (0) (0) 13 [(0, .ref h), (1, .int x), (2, .int (nI q)), (3, .int x3), (4, .int (wr (6 * r + q))), (5, .int x5)] [] := by
    intro d
    induction d with
    | zero =>
      intro t x3 x5 hd e_x3 e_x5 
      subst e_x3
      subst e_x5
      have ht : t = 6 := by omega
      subst ht
      refine j_iload C dX0_placeInOrder_13 5 rfl ?_
      refine j_bipush (v := nI 6) C dX0_placeInOrder_15 (by decide) ?_
      refine j_icmp_ge C 58 dX0_placeInOrder_17 (by decide) (fun c17 => ?_) (fun c17 => by first | exact absurd c17 (by decide) | exact absurd c17 (nI_ge (by omega) (by omega)) | exact absurd (nI_le (by omega) (by omega)) c17 | exact absurd c17 (nI_nlt (by omega) (by omega)) | exact absurd (nI_lt (by omega) (by omega)) c17 | exact absurd c17 (nI_nle0 (by omega) (by omega)))
      refine j_iload_n (i := 3) C dX0_placeInOrder_58 rfl 3 rfl ?_
      exact j_ireturn C E rfl dX0_placeInOrder_59 (Nat.le_of_ble_eq_true rfl) (Nat.le_of_ble_eq_true rfl) (⟨rfl, rfl⟩)
    | succ d ih =>
      intro t x3 x5 hd e_x3 e_x5 
      subst e_x3
      subst e_x5
      refine j_iload C dX0_placeInOrder_13 5 rfl ?_
      refine j_bipush (v := nI 6) C dX0_placeInOrder_15 (by decide) ?_
      refine j_icmp_ge C 58 dX0_placeInOrder_17 (by decide) (fun c17 => by first | exact absurd c17 (by decide) | exact absurd c17 (nI_ge (by omega) (by omega)) | exact absurd (nI_le (by omega) (by omega)) c17 | exact absurd c17 (nI_nlt (by omega) (by omega)) | exact absurd (nI_lt (by omega) (by omega)) c17 | exact absurd c17 (nI_nle0 (by omega) (by omega))) (fun c17 => ?_)
      refine j_aload_n (i := 0) C dX0_placeInOrder_20 rfl 0 rfl ?_
      refine j_iload_n (i := 1) C dX0_placeInOrder_21 rfl 1 rfl ?_
      refine j_iload C dX0_placeInOrder_22 5 rfl ?_
      refine j_callV (nargs := 2) (As := [_, _]) (Cn := RX0) C (k) hk.1 rfl rfl gw315 gw316 gw317 gw27 (kX0_wearAt l D ct sa _ k h a b lt wr w rk op lo _ _ r t hk hx rfl hr (by omega)) gw318 (by decide +kernel) rfl dX0_placeInOrder_24 ⟨Nat.le_of_ble_eq_true rfl, Nat.le_of_ble_eq_true rfl⟩ ⟨Nat.le_of_ble_eq_true rfl, Nat.le_of_ble_eq_true rfl⟩ (Nat.le_of_ble_eq_true rfl) (dki ?_)
      refine j_istore (lv' := [(6, .int _), (0, .ref _), (1, .int _), (2, .int _), (3, .int _), (4, .int _), (5, .int _)]) C dX0_placeInOrder_27 (by decide) rfl ?_
      refine j_iload C dX0_placeInOrder_29 0 rfl ?_
      refine j_iload C dX0_placeInOrder_31 5 rfl ?_
      refine j_icmp_gt C 49 dX0_placeInOrder_33 (by decide) (fun c33 => ?_) (fun c33 => ?_)
      · refine j_iinc (z := 4) (lv' := [(3, .int _), (6, .int _), (0, .ref _), (1, .int _), (2, .int _), (4, .int _), (5, .int _)]) C dX0_placeInOrder_49 rfl rfl (by decide) rfl ?_
        refine j_iinc (z := 6) (lv' := [(5, .int _), (3, .int _), (6, .int _), (0, .ref _), (1, .int _), (2, .int _), (4, .int _)]) C dX0_placeInOrder_52 rfl rfl (by decide) rfl ?_
        refine j_goto C 13 dX0_placeInOrder_55 (by decide) ?_
        exact j_lvs [3, 4, 5, 1, 6, 0] rfl (ih (t + 1) _ _ (by omega) (by show _ = pxN (wrw wr r) q t + b2i (pxC (wrw wr r) q t); first | exact congrArg (fun z => pxN (wrw wr r) q t + z) (b2i_y (Or.inl c33)).symm | exact congrArg (fun z => pxN (wrw wr r) q t + z) (b2i_y (Or.inr ⟨c40, ilt_of c46⟩)).symm | (refine (i_add0 _).symm.trans (congrArg (fun z => pxN (wrw wr r) q t + z) (b2i_n ?_).symm); rintro (h | ⟨h1, h2⟩); (exact absurd h c33); first | exact absurd h1 c40 | exact inle h2 c46)) (nI_1 t))
      · refine j_iload C dX0_placeInOrder_36 0 rfl ?_
        refine j_iload C dX0_placeInOrder_38 5 rfl ?_
        refine j_icmp_ne C 52 dX0_placeInOrder_40 (by decide) (fun c40 => ?_) (fun c40 => ?_)
        · refine j_iinc (z := 6) (lv' := [(5, .int _), (6, .int _), (0, .ref _), (1, .int _), (2, .int _), (3, .int _), (4, .int _)]) C dX0_placeInOrder_52 rfl rfl (by decide) rfl ?_
          refine j_goto C 13 dX0_placeInOrder_55 (by decide) ?_
          exact j_lvs [2, 3, 4, 5, 6, 0] rfl (ih (t + 1) _ _ (by omega) (by show _ = pxN (wrw wr r) q t + b2i (pxC (wrw wr r) q t); first | exact congrArg (fun z => pxN (wrw wr r) q t + z) (b2i_y (Or.inl c33)).symm | exact congrArg (fun z => pxN (wrw wr r) q t + z) (b2i_y (Or.inr ⟨c40, ilt_of c46⟩)).symm | (refine (i_add0 _).symm.trans (congrArg (fun z => pxN (wrw wr r) q t + z) (b2i_n ?_).symm); rintro (h | ⟨h1, h2⟩); (exact absurd h c33); first | exact absurd h1 c40 | exact inle h2 c46)) (nI_1 t))
        · refine j_iload C dX0_placeInOrder_43 6 rfl ?_
          refine j_iload_n (i := 2) C dX0_placeInOrder_45 rfl 3 rfl ?_
          refine j_icmp_ge C 52 dX0_placeInOrder_46 (by decide) (fun c46 => ?_) (fun c46 => ?_)
          · refine j_iinc (z := 6) (lv' := [(5, .int _), (6, .int _), (0, .ref _), (1, .int _), (2, .int _), (3, .int _), (4, .int _)]) C dX0_placeInOrder_52 rfl rfl (by decide) rfl ?_
            refine j_goto C 13 dX0_placeInOrder_55 (by decide) ?_
            exact j_lvs [2, 3, 4, 5, 6, 0] rfl (ih (t + 1) _ _ (by omega) (by show _ = pxN (wrw wr r) q t + b2i (pxC (wrw wr r) q t); first | exact congrArg (fun z => pxN (wrw wr r) q t + z) (b2i_y (Or.inl c33)).symm | exact congrArg (fun z => pxN (wrw wr r) q t + z) (b2i_y (Or.inr ⟨c40, ilt_of c46⟩)).symm | (refine (i_add0 _).symm.trans (congrArg (fun z => pxN (wrw wr r) q t + z) (b2i_n ?_).symm); rintro (h | ⟨h1, h2⟩); (exact absurd h c33); first | exact absurd h1 c40 | exact inle h2 c46)) (nI_1 t))
          · refine j_iinc (z := 4) (lv' := [(3, .int _), (6, .int _), (0, .ref _), (1, .int _), (2, .int _), (4, .int _), (5, .int _)]) C dX0_placeInOrder_49 rfl rfl (by decide) rfl ?_
            refine j_iinc (z := 6) (lv' := [(5, .int _), (3, .int _), (6, .int _), (0, .ref _), (1, .int _), (2, .int _), (4, .int _)]) C dX0_placeInOrder_52 rfl rfl (by decide) rfl ?_
            refine j_goto C 13 dX0_placeInOrder_55 (by decide) ?_
            exact j_lvs [3, 4, 5, 1, 6, 0] rfl (ih (t + 1) _ _ (by omega) (by show _ = pxN (wrw wr r) q t + b2i (pxC (wrw wr r) q t); first | exact congrArg (fun z => pxN (wrw wr r) q t + z) (b2i_y (Or.inl c33)).symm | exact congrArg (fun z => pxN (wrw wr r) q t + z) (b2i_y (Or.inr ⟨c40, ilt_of c46⟩)).symm | (refine (i_add0 _).symm.trans (congrArg (fun z => pxN (wrw wr r) q t + z) (b2i_n ?_).symm); rintro (h | ⟨h1, h2⟩); (exact absurd h c33); first | exact absurd h1 c40 | exact inle h2 c46)) (nI_1 t))
  exact j_lvs [3, 4, 5, 2, 1, 0] rfl (L13 (6) (0) _ _ (by omega) (rfl) (rfl))
set_option maxRecDepth 100000 in
set_option maxHeartbeats 4000000 in
theorem kX1_isOpenIn (l : Launch) (D : va_G) (ct : Nat → ClassId) (sa : Nat → Nat) (ws : va_W) (k h : Nat) (pl f t : Int32) (x : Int32) (hk : ws[k]? = some (h, .inr (2, [.int pl, .int f, .int t]))) : jM l yX1_isOpenIn (Cond.code yX1_isOpenIn cX1_isOpenIn 3 (Option.some Jvm.ClassFile.FieldType.boolean) :: GW) (rM 0 0 0 0) D ct sa [.ref h, .int x] (ws) (dK (some (.int (b2i (opP (irm x (nI 24)) f t)))) ws) 0 0 := by
  refine jMX.plain (jBody (own := RX1) (by decide) rfl rfl (Nat.le_of_ble_eq_true rfl) ?_)
  intro X C E T0
  refine j_lv (lv1 := [(0, .ref _), (1, .int _)]) rfl ?_
  refine j_iload_n (i := 1) C dX1_isOpenIn_0 rfl 1 rfl ?_
  refine j_bipush (v := nI 24) C dX1_isOpenIn_1 (by decide) ?_
  refine j_irem C dX1_isOpenIn_3 (by decide) ?_
  refine j_istore_n (lv' := [(2, .int _), (0, .ref _), (1, .int _)]) C dX1_isOpenIn_4 rfl (by decide) rfl ?_
  refine j_aload_n (i := 0) C dX1_isOpenIn_5 rfl 1 rfl ?_
  refine j_get (Cn := RX1) (T := TX1) (N := 3) (ci := 2) C iX1 rfl (k) hk 1 (by decide) gw85 rfl rfl dX1_isOpenIn_6 ?_
  refine j_aload_n (i := 0) C dX1_isOpenIn_9 rfl 1 rfl ?_
  refine j_get (Cn := RX1) (T := TX1) (N := 3) (ci := 2) C iX1 rfl (k) hk 2 (by decide) gw87 rfl rfl dX1_isOpenIn_10 ?_
  refine j_icmp_gt C 38 dX1_isOpenIn_13 (by decide) (fun c13 => ?_) (fun c13 => ?_)
  · refine j_iload_n (i := 2) C dX1_isOpenIn_38 rfl 0 rfl ?_
    refine j_aload_n (i := 0) C dX1_isOpenIn_39 rfl 1 rfl ?_
    refine j_get (Cn := RX1) (T := TX1) (N := 3) (ci := 2) C iX1 rfl (k) hk 1 (by decide) gw85 rfl rfl dX1_isOpenIn_40 ?_
    refine j_icmp_ge C 54 dX1_isOpenIn_43 (by decide) (fun c43 => ?_) (fun c43 => ?_)
    · refine j_iconst (v := nI 1) C dX1_isOpenIn_54 (by decide) ?_
      refine j_goto C 59 dX1_isOpenIn_55 (by decide) ?_
      exact j_ireturn C E (by first | exact nr_b | rfl) dX1_isOpenIn_59 (Nat.le_of_ble_eq_true rfl) (Nat.le_of_ble_eq_true rfl) (⟨congrArg (fun z => some (Value.int z)) (by first | exact (b2i_y (by simp only [opP, irm, Int32.lt_iff_toInt_lt, Int32.le_iff_toInt_le] at *; omega)).symm | exact (b2i_n (by simp only [opP, irm, Int32.lt_iff_toInt_lt, Int32.le_iff_toInt_le] at *; omega)).symm), rfl⟩)
    · refine j_iload_n (i := 2) C dX1_isOpenIn_46 rfl 0 rfl ?_
      refine j_aload_n (i := 0) C dX1_isOpenIn_47 rfl 1 rfl ?_
      refine j_get (Cn := RX1) (T := TX1) (N := 3) (ci := 2) C iX1 rfl (k) hk 2 (by decide) gw87 rfl rfl dX1_isOpenIn_48 ?_
      refine j_icmp_ge C 58 dX1_isOpenIn_51 (by decide) (fun c51 => ?_) (fun c51 => ?_)
      · refine j_iconst (v := nI 0) C dX1_isOpenIn_58 (by decide) ?_
        exact j_ireturn C E (by first | exact nr_b | rfl) dX1_isOpenIn_59 (Nat.le_of_ble_eq_true rfl) (Nat.le_of_ble_eq_true rfl) (⟨congrArg (fun z => some (Value.int z)) (by first | exact (b2i_y (by simp only [opP, irm, Int32.lt_iff_toInt_lt, Int32.le_iff_toInt_le] at *; omega)).symm | exact (b2i_n (by simp only [opP, irm, Int32.lt_iff_toInt_lt, Int32.le_iff_toInt_le] at *; omega)).symm), rfl⟩)
      · refine j_iconst (v := nI 1) C dX1_isOpenIn_54 (by decide) ?_
        refine j_goto C 59 dX1_isOpenIn_55 (by decide) ?_
        exact j_ireturn C E (by first | exact nr_b | rfl) dX1_isOpenIn_59 (Nat.le_of_ble_eq_true rfl) (Nat.le_of_ble_eq_true rfl) (⟨congrArg (fun z => some (Value.int z)) (by first | exact (b2i_y (by simp only [opP, irm, Int32.lt_iff_toInt_lt, Int32.le_iff_toInt_le] at *; omega)).symm | exact (b2i_n (by simp only [opP, irm, Int32.lt_iff_toInt_lt, Int32.le_iff_toInt_le] at *; omega)).symm), rfl⟩)
  · refine j_iload_n (i := 2) C dX1_isOpenIn_16 rfl 0 rfl ?_
    refine j_aload_n (i := 0) C dX1_isOpenIn_17 rfl 1 rfl ?_
    refine j_get (Cn := RX1) (T := TX1) (N := 3) (ci := 2) C iX1 rfl (k) hk 1 (by decide) gw85 rfl rfl dX1_isOpenIn_18 ?_
    refine j_icmp_lt C 36 dX1_isOpenIn_21 (by decide) (fun c21 => ?_) (fun c21 => ?_)
    · refine j_iconst (v := nI 0) C dX1_isOpenIn_36 (by decide) ?_
      exact j_ireturn C E (by first | exact nr_b | rfl) dX1_isOpenIn_37 (Nat.le_of_ble_eq_true rfl) (Nat.le_of_ble_eq_true rfl) (⟨congrArg (fun z => some (Value.int z)) (by first | exact (b2i_y (by simp only [opP, irm, Int32.lt_iff_toInt_lt, Int32.le_iff_toInt_le] at *; omega)).symm | exact (b2i_n (by simp only [opP, irm, Int32.lt_iff_toInt_lt, Int32.le_iff_toInt_le] at *; omega)).symm), rfl⟩)
    · refine j_iload_n (i := 2) C dX1_isOpenIn_24 rfl 0 rfl ?_
      refine j_aload_n (i := 0) C dX1_isOpenIn_25 rfl 1 rfl ?_
      refine j_get (Cn := RX1) (T := TX1) (N := 3) (ci := 2) C iX1 rfl (k) hk 2 (by decide) gw87 rfl rfl dX1_isOpenIn_26 ?_
      refine j_icmp_ge C 36 dX1_isOpenIn_29 (by decide) (fun c29 => ?_) (fun c29 => ?_)
      · refine j_iconst (v := nI 0) C dX1_isOpenIn_36 (by decide) ?_
        exact j_ireturn C E (by first | exact nr_b | rfl) dX1_isOpenIn_37 (Nat.le_of_ble_eq_true rfl) (Nat.le_of_ble_eq_true rfl) (⟨congrArg (fun z => some (Value.int z)) (by first | exact (b2i_y (by simp only [opP, irm, Int32.lt_iff_toInt_lt, Int32.le_iff_toInt_le] at *; omega)).symm | exact (b2i_n (by simp only [opP, irm, Int32.lt_iff_toInt_lt, Int32.le_iff_toInt_le] at *; omega)).symm), rfl⟩)
      · refine j_iconst (v := nI 1) C dX1_isOpenIn_32 (by decide) ?_
        refine j_goto C 37 dX1_isOpenIn_33 (by decide) ?_
        exact j_ireturn C E (by first | exact nr_b | rfl) dX1_isOpenIn_37 (Nat.le_of_ble_eq_true rfl) (Nat.le_of_ble_eq_true rfl) (⟨congrArg (fun z => some (Value.int z)) (by first | exact (b2i_y (by simp only [opP, irm, Int32.lt_iff_toInt_lt, Int32.le_iff_toInt_le] at *; omega)).symm | exact (b2i_n (by simp only [opP, irm, Int32.lt_iff_toInt_lt, Int32.le_iff_toInt_le] at *; omega)).symm), rfl⟩)
set_option maxRecDepth 100000 in
set_option maxHeartbeats 4000000 in
theorem kJx4a65c_size_8abf5 (l : Launch) (D : va_G) (ct : Nat → ClassId) (sa : Nat → Nat) (ws : va_W) (k h : Nat) (mc : Int32) (arr : Value) (n : Nat) (hk : ws[k]? = some (h, .inr (0, [.int mc, arr, .int (nI n)]))) : jM l yJx4a65c_size_8abf5 (Cond.code yJx4a65c_size_8abf5 cJx4a65c_size_8abf5 1 (Option.some Jvm.ClassFile.FieldType.int) :: GW) (rM 0 0 0 0) D ct sa [.ref h] (ws) (dK (some (.int (nI n))) ws) 0 0 := by
  refine jMX.plain (jBody (own := RJx4a65c) (by decide) rfl rfl (Nat.le_of_ble_eq_true rfl) ?_)
  intro X C E T0
  refine j_lv (lv1 := [(0, .ref _)]) rfl ?_
  refine j_aload_n (i := 0) C dJx4a65c_size_8abf5_0 rfl 0 rfl ?_
  refine j_get (Cn := RJx4a65c) (T := TJx4a65c) (N := 3) (ci := 0) C iJx4a65c rfl (k) hk 2 (by decide) gw65 rfl rfl dJx4a65c_size_8abf5_1 ?_
  exact j_ireturn C E rfl dJx4a65c_size_8abf5_4 (Nat.le_of_ble_eq_true rfl) (Nat.le_of_ble_eq_true rfl) (⟨rfl, rfl⟩)
set_option maxRecDepth 100000 in
set_option maxHeartbeats 4000000 in
theorem kJ3_checkIndex_8e157 (l : Launch) (D : va_G) (ct : Nat → ClassId) (sa : Nat → Nat) (ws : va_W) (x y : Int32) (i n : Nat) (hx : x = nI i) (hy : y = nI n) (hi : i < n) (hn : n < 2 ^ 31) : jM l yJ3_checkIndex_8e157 (Cond.code yJ3_checkIndex_8e157 cJ3_checkIndex_8e157 3 (Option.some Jvm.ClassFile.FieldType.int) :: GW) (rM 0 0 0 0) D ct sa [.int x, .int y, .null] (ws) (dK (some (.int x)) ws) 0 0 := by
  refine jMX.plain (jBody (own := RJ3) (by decide) rfl rfl (Nat.le_of_ble_eq_true rfl) ?_)
  intro X C E T0
  refine j_lv (lv1 := [(0, .int _), (1, .int _), (2, .null)]) rfl ?_
  refine j_iload_n (i := 0) C dJ3_checkIndex_8e157_0 rfl 0 rfl ?_
  refine j_if_lt C 9 dJ3_checkIndex_8e157_1 (by decide) (fun c1 => by rw [hx] at c1; exact absurd c1 (nI_pos (by omega))) (fun c1 => ?_)
  refine j_iload_n (i := 0) C dJ3_checkIndex_8e157_4 rfl 0 rfl ?_
  refine j_iload_n (i := 1) C dJ3_checkIndex_8e157_5 rfl 1 rfl ?_
  refine j_icmp_lt C 16 dJ3_checkIndex_8e157_6 (by decide) (fun c6 => ?_) (fun c6 => by rw [hx, hy] at c6; exact absurd (nI_lt hi hn) c6)
  refine j_iload_n (i := 0) C dJ3_checkIndex_8e157_16 rfl 0 rfl ?_
  exact j_ireturn C E rfl dJ3_checkIndex_8e157_17 (Nat.le_of_ble_eq_true rfl) (Nat.le_of_ble_eq_true rfl) (⟨rfl, rfl⟩)
set_option maxRecDepth 100000 in
set_option maxHeartbeats 4000000 in
theorem kJ15_checkIndex_7cf53 (l : Launch) (D : va_G) (ct : Nat → ClassId) (sa : Nat → Nat) (ws : va_W) (x y : Int32) (i n : Nat) (hx : x = nI i) (hy : y = nI n) (hi : i < n) (hn : n < 2 ^ 31) : jM l yJ15_checkIndex_7cf53 (Cond.code yJ15_checkIndex_7cf53 cJ15_checkIndex_7cf53 2 (Option.some Jvm.ClassFile.FieldType.int) :: GW) (rM 1 0 0 22) D ct sa [.int x, .int y] (ws) (dK (some (.int x)) ws) 0 0 := by
  refine jMX.plain (jBody (own := RJ15) (by decide) rfl rfl (Nat.le_of_ble_eq_true rfl) ?_)
  intro X C E T0
  refine j_lv (lv1 := [(0, .int _), (1, .int _)]) rfl ?_
  refine j_iload_n (i := 0) C dJ15_checkIndex_7cf53_0 rfl 0 rfl ?_
  refine j_iload_n (i := 1) C dJ15_checkIndex_7cf53_1 rfl 1 rfl ?_
  refine j_null C dJ15_checkIndex_7cf53_2 ?_
  refine j_callS (nargs := 3) (As := [_, _, _]) C gw244 gw245 gw41 (kJ3_checkIndex_8e157 l D ct sa _ _ _ i n hx hy hi hn) gw246 (by decide +kernel) rfl dJ15_checkIndex_7cf53_3 ⟨Nat.le_of_ble_eq_true rfl, Nat.le_of_ble_eq_true rfl⟩ ⟨Nat.le_of_ble_eq_true rfl, Nat.le_of_ble_eq_true rfl⟩ (Nat.le_of_ble_eq_true rfl) (dki ?_)
  exact j_ireturn C E rfl dJ15_checkIndex_7cf53_6 (Nat.le_of_ble_eq_true rfl) (Nat.le_of_ble_eq_true rfl) (⟨rfl, rfl⟩)
set_option maxRecDepth 100000 in
set_option maxHeartbeats 4000000 in
theorem kJx4a65c_elementData_915e3 (l : Launch) (D : va_G) (ct : Nat → ClassId) (sa : Nat → Nat) (ws : va_W) (k ka h ar : Nat) (mc : Int32) (n N : Nat) (g : Nat → Option Nat) (x : Int32) (i b : Nat) (hk : ws[k]? = some (h, .inr (0, [.int mc, .ref ar, .int (nI n)]))) (hka : ws[ka]? = some (ar, .inl (ct 2, N, .inr (.inr (.inr (.inr g)))))) (hx : x = nI i) (hi : i < n) (hN : n ≤ N) (hN2 : N < 2 ^ 31) (hb : g i = some b) : jM l yJx4a65c_elementData_915e3 (Cond.code yJx4a65c_elementData_915e3 cJx4a65c_elementData_915e3 2 (Option.some (Jvm.ClassFile.FieldType.object "java/lang/Object")) :: GW) (rM 0 0 0 0) D ct sa [.ref h, .int x] (ws) (dK (some (.ref b)) ws) 0 0 := by
  refine jMX.plain (jBody (own := RJx4a65c) (by decide) rfl rfl (Nat.le_of_ble_eq_true rfl) ?_)
  intro X C E T0
  refine j_lv (lv1 := [(0, .ref _), (1, .int _)]) rfl ?_
  refine j_aload_n (i := 0) C dJx4a65c_elementData_915e3_0 rfl 0 rfl ?_
  refine j_get (Cn := RJx4a65c) (T := TJx4a65c) (N := 3) (ci := 0) C iJx4a65c rfl (k) hk 1 (by decide) gw64 rfl rfl dJx4a65c_elementData_915e3_1 ?_
  refine j_iload_n (i := 1) C dJx4a65c_elementData_915e3_4 rfl 1 rfl ?_
  refine j_aald C (ka) 2 hka rfl rfl (i) hx (by omega) hN2 hb dJx4a65c_elementData_915e3_5 ?_
  exact j_areturn C E (Or.inl ⟨_, rfl⟩) dJx4a65c_elementData_915e3_6 (Nat.le_of_ble_eq_true rfl) (Nat.le_of_ble_eq_true rfl) (⟨rfl, rfl⟩)
set_option maxRecDepth 100000 in
set_option maxHeartbeats 4000000 in
theorem kJx4a65c_get_915e3 (l : Launch) (D : va_G) (ct : Nat → ClassId) (sa : Nat → Nat) (ws : va_W) (k ka h ar : Nat) (mc : Int32) (n N : Nat) (g : Nat → Option Nat) (x : Int32) (i b : Nat) (hk : ws[k]? = some (h, .inr (0, [.int mc, .ref ar, .int (nI n)]))) (hka : ws[ka]? = some (ar, .inl (ct 2, N, .inr (.inr (.inr (.inr g)))))) (hx : x = nI i) (hi : i < n) (hN : n ≤ N) (hN2 : N < 2 ^ 31) (hb : g i = some b) : jM l yJx4a65c_get_915e3 (Cond.code yJx4a65c_get_915e3 cJx4a65c_get_915e3 2 (Option.some (Jvm.ClassFile.FieldType.object "java/lang/Object")) :: GW) (rM 2 0 0 43) D ct sa [.ref h, .int x] (ws) (dK (some (.ref b)) ws) 0 0 := by
  refine jMX.plain (jBody (own := RJx4a65c) (by decide) rfl rfl (Nat.le_of_ble_eq_true rfl) ?_)
  intro X C E T0
  refine j_lv (lv1 := [(0, .ref _), (1, .int _)]) rfl ?_
  refine j_iload_n (i := 1) C dJx4a65c_get_915e3_0 rfl 1 rfl ?_
  refine j_aload_n (i := 0) C dJx4a65c_get_915e3_1 rfl 0 rfl ?_
  refine j_get (Cn := RJx4a65c) (T := TJx4a65c) (N := 3) (ci := 0) C iJx4a65c rfl (k) hk 2 (by decide) gw65 rfl rfl dJx4a65c_get_915e3_2 ?_
  refine j_callS (nargs := 2) (As := [_, _]) C gw241 gw242 gw40 (kJ15_checkIndex_7cf53 l D ct sa _ _ _ i n hx rfl hi (by omega)) gw243 (by decide +kernel) rfl dJx4a65c_get_915e3_5 ⟨Nat.le_of_ble_eq_true rfl, Nat.le_of_ble_eq_true rfl⟩ ⟨Nat.le_of_ble_eq_true rfl, Nat.le_of_ble_eq_true rfl⟩ (Nat.le_of_ble_eq_true rfl) (dki ?_)
  refine j_pop C dJx4a65c_get_915e3_8 rfl ?_
  refine j_aload_n (i := 0) C dJx4a65c_get_915e3_9 rfl 0 rfl ?_
  refine j_iload_n (i := 1) C dJx4a65c_get_915e3_10 rfl 1 rfl ?_
  refine j_callV (nargs := 1) (As := [_]) (Cn := RJx4a65c) C (k) hk rfl rfl gw247 gw248 gw249 gw24 (kJx4a65c_elementData_915e3 l D ct sa _ k ka h ar mc n N g _ i b hk hka hx hi hN hN2 hb) gw250 (by decide +kernel) rfl dJx4a65c_get_915e3_11 ⟨Nat.le_of_ble_eq_true rfl, Nat.le_of_ble_eq_true rfl⟩ ⟨Nat.le_of_ble_eq_true rfl, Nat.le_of_ble_eq_true rfl⟩ (Nat.le_of_ble_eq_true rfl) (dkr ?_)
  exact j_areturn C E (Or.inl ⟨_, rfl⟩) dJx4a65c_get_915e3_14 (Nat.le_of_ble_eq_true rfl) (Nat.le_of_ble_eq_true rfl) (⟨rfl, rfl⟩)
end
section
/-! more instructions: making, final fields, static parts -/
def jNm (X : Ctx) (nm : String) : Prop :=
  match X with
  | (p, l0, e, R, s, m, args, below, meth, c, D0, ct0, sa0, A, nL, Q) => meth.name = nm
theorem jBodyN {l : Launch} {y : MethodName} {ws' : List Cond} {D : va_G} {ct : Nat → ClassId} {sa : Nat → Nat} {av : List Value} {ws : va_W} {K : Option Value → va_W → Prop} {KX : String → Prop} {f lo mc ms : Nat} {cc : ByteArray} {maxL : Nat} {ret : Option FieldType} {own : String}
    (hy : plainName y.cls = true) (hown : y.cls = own) (hw : ws' = GW) (hfit : (lg_sl av).length ≤ maxL)
    (body : ∀ X : Ctx, jNm X y.name → jC X l D ct sa cc maxL own (rM f mc ms lo) → jE X ws K KX mc ms ret → jT0 X → J X ws 0 0 0 (lv_args 0 av) []) : jMX l y (Cond.code y cc maxL ret :: ws') (rM f mc ms lo) D ct sa av ws K KX mc ms := by
  intro sz
  subst hw
  refine vx_ofW (cc := cc) (maxL := maxL) (ret := ret) hy rfl ?_
  intro p e s m args below meth c s₁ B hml htab hv
  obtain ⟨rfl, hsz, hP, hK, hD0, hE⟩ := hv
  have hts := atoms_spec (ws := Cond.code y cc maxL ret :: GW) B.pre
  subst hsz
  have hA : ∀ q : Nat, s.heap.size ≤ q → va_A ws s.heap.size q := fun q h => Or.inr h
  have hl := lv_entry av (n := maxL) hfit
  rw [lg_entry_eq]
  exact body (p, l, e, rM f mc ms lo, s, m, av.toArray, below, meth, c, D, ct, sa, va_A ws s.heap.size, maxL, vx_MQ below (jQ D ct s.heap.size ws K) (jX D ct s.heap.size ws KX) av.toArray s mc ms (va_A ws s.heap.size))
    (name_of_methodNamed B.named B.method).1
    ⟨B.exec, B.bytes, hml, hown ▸ findClass_of_methodNamed B.named, fun w h => hts w (List.mem_cons_of_mem _ h), hK, hA, B.notSynchronized, hE, rfl, rfl, rfl, rfl, rfl, rfl⟩
    ⟨rfl, rfl, B.returns⟩ htab s.heap [] _ hP hD0.self va_S.rf hl
section J3
variable {X : Ctx} {l : Launch} {D : va_G} {ct : Nat → ClassId} {sa : Nat → Nat} {cc : ByteArray} {nL1 : Nat} {own : String} {R0 : Room} {ws : va_W} {k n pc : Nat} {lv lv' : List (Nat × Value)} {st : List Value}
theorem j_new (C : jC X l D ct sa cc nL1 own R0) {ci N index : Nat} {Cn : String} {T : u_T} {fs : List Value} (hin : ∀ w ∈ u_ws Cn T N, w ∈ GW) (ty0 : Nat → FieldType) (hty : ∀ k, k < N → parseFieldDescriptor (T k).2.2.1 = some (ty0 k)) (w1 : Cond.classLink own index Cn ∈ GW) (w2 : Cond.instantiable Cn N ∈ GW) (w3 : Cond.initialized Cn ∈ GW) (hc : vwCl[ci]? = some (Cn, T, N)) (hfs : ∀ j, j < N → defaultValue (ty0 j) = vp_V fs j) (hcells : k + 1 ≤ R0.cells) (hslots : n + N ≤ R0.slots) (d : decode cc pc = .ok (.new index, 3)) (kk : ∀ q : Nat, J X (ws ++ [(q, .inr (ci, fs))]) (k + 1) (n + N) (pc + 3) lv (.ref q :: st)) : J X ws k n pc lv st := by
  obtain ⟨p, l0, e, R, s, m, args, below, meth, c, D0, ct0, sa0, A, nL, Q⟩ := X
  obtain ⟨hx, hb, hml, ho, hts, hK, hA, hlk, hEX, rfl, rfl, rfl, rfl, rfl, rfl⟩ := C
  intro H locs ls hP hD hS hl
  exact va_new hx hb hts hin ty0 hty ho (hts _ w1) (hts _ w2) (hts _ w3) hK hP hD hS hA hc hfs hcells hslots d (fun q H1 hP1 hD1 hS1 => kk q H1 locs ls hP1 hD1 hS1 hl)
theorem j_putF (C : jC X l D ct sa cc nL1 own R0) (hN0 : jNm X "<init>") {a ci N index : Nat} {Cn ref : String} {T : u_T} {fs : List Value} {v : Value} {ws2 : va_W} {ty : FieldType} (hin : ∀ w ∈ u_ws Cn T N, w ∈ GW) (ty0 : Nat → FieldType) (hty : ∀ k, k < N → parseFieldDescriptor (T k).2.2.1 = some (ty0 k)) (hnm : ∀ a, a < N → ∀ b, b < N → a ≠ b → (T a).2.1 ≠ (T b).2.1) (hc : vwCl[ci]? = some (Cn, T, N)) (q0 : Nat) (he : ws[q0]? = some (a, .inr (ci, fs))) (z : Nat) (hz : z < N) (hl1 : Cond.fieldLink own index ref (T z).2.1 (T z).2.2.1 ∈ GW) (hsame : (T z).1 = ref) (hdecl : (T z).1 = own) (hfin : (T z).2.2.2 = true) (hd : parseFieldDescriptor (T z).2.2.1 = some ty) (hnr : narrow ty v = v) (hfit : fits ty v = true) (hlt : z < fs.length) (hw : ws.set q0 (a, .inr (ci, fs.set z v)) = ws2) (d : decode cc pc = .ok (.putfield index, 3)) (kk : J X ws2 k n (pc + 3) lv st) : J X ws k n pc lv (v :: .ref a :: st) := by
  obtain ⟨p, l0, e, R, s, m, args, below, meth, c, D0, ct0, sa0, A, nL, Q⟩ := X
  obtain ⟨hx, hb, hml, ho, hts, hK, hA, hlk, hEX, rfl, rfl, rfl, rfl, rfl, rfl⟩ := C
  intro H locs ls hP hD hS hl
  exact va_putF hx hb hts hin ty0 hty hnm ho hK hP hD hS q0 he hc z hz (hts _ hl1) (fun _ h => hsame ▸ h) hfin hN0 hdecl hd hnr hfit hlt d (fun H1 locs1 hP1 hD1 hS1 => kk H1 locs1 ls (hw ▸ hP1) (hw ▸ hD1) hS1 hl)
theorem j_getS (C : jC X l D ct sa cc nL1 own R0) {a ci N index : Nat} {Cn ref : String} {T : u_T} {fs : List Value} {v : Value} (hin : ∀ w ∈ u_ws Cn T N, w ∈ GW) (hc : vwCl[ci]? = some (Cn, T, N)) (q0 : Nat) (he : ws[q0]? = some (a, .inr (ci, fs))) (z : Nat) (hz : z < N) (hl1 : Cond.fieldLink own index ref (T z).2.1 (T z).2.2.1 ∈ GW) (hsame : Cond.sameField ref (T z).1 (T z).2.1 (T z).2.2.1 ∈ GW) (hv : fs[z]? = some v) (d : decode cc pc = .ok (.getfield index, 3)) (kk : J X ws k n (pc + 3) lv (v :: st)) : J X ws k n pc lv (.ref a :: st) := by
  obtain ⟨p, l0, e, R, s, m, args, below, meth, c, D0, ct0, sa0, A, nL, Q⟩ := X
  obtain ⟨hx, hb, hml, ho, hts, hK, hA, hlk, hEX, rfl, rfl, rfl, rfl, rfl, rfl⟩ := C
  intro H locs ls hP hD hS hl
  exact va_get hx hb hts hin ho hK hP q0 he hc z hz (hts _ hl1) (u_same (hts _ hsame)) hv d (kk H locs ls hP hD hS hl)
theorem j_putS (C : jC X l D ct sa cc nL1 own R0) {a ci N index : Nat} {Cn ref : String} {T : u_T} {fs : List Value} {v : Value} {ws2 : va_W} {ty : FieldType} (hin : ∀ w ∈ u_ws Cn T N, w ∈ GW) (ty0 : Nat → FieldType) (hty : ∀ k, k < N → parseFieldDescriptor (T k).2.2.1 = some (ty0 k)) (hnm : ∀ a, a < N → ∀ b, b < N → a ≠ b → (T a).2.1 ≠ (T b).2.1) (hc : vwCl[ci]? = some (Cn, T, N)) (q0 : Nat) (he : ws[q0]? = some (a, .inr (ci, fs))) (z : Nat) (hz : z < N) (hl1 : Cond.fieldLink own index ref (T z).2.1 (T z).2.2.1 ∈ GW) (hsame : Cond.sameField ref (T z).1 (T z).2.1 (T z).2.2.1 ∈ GW) (hfin : (T z).2.2.2 = false) (hd : parseFieldDescriptor (T z).2.2.1 = some ty) (hnr : narrow ty v = v) (hfit : fits ty v = true) (hlt : z < fs.length) (hw : ws.set q0 (a, .inr (ci, fs.set z v)) = ws2) (d : decode cc pc = .ok (.putfield index, 3)) (kk : J X ws2 k n (pc + 3) lv st) : J X ws k n pc lv (v :: .ref a :: st) := by
  obtain ⟨p, l0, e, R, s, m, args, below, meth, c, D0, ct0, sa0, A, nL, Q⟩ := X
  obtain ⟨hx, hb, hml, ho, hts, hK, hA, hlk, hEX, rfl, rfl, rfl, rfl, rfl, rfl⟩ := C
  intro H locs ls hP hD hS hl
  exact va_put hx hb hts hin ty0 hty hnm ho hK hP hD hS q0 he hc z hz (hts _ hl1) (u_same (hts _ hsame)) hfin hd hnr hfit hlt d (fun H1 locs1 hP1 hD1 hS1 => kk H1 locs1 ls (hw ▸ hP1) (hw ▸ hD1) hS1 hl)
theorem j_newqR (C : jC X l D ct sa cc nL1 own R0) {index : Nat} (w1 : Cond.classLink own index "LetterLocks$Rack" ∈ GW) {x : Int32} {N : Nat} (hx9 : x = nI N) (hN : N < 2 ^ 20) (hcells : k + 1 ≤ R0.cells) (hslots : n + N ≤ R0.slots) (d : decode cc pc = .ok (.anewarray index, 3)) (kk : ∀ q : Nat, J X (ws ++ [(q, .inl (ct 1, N, .inr (.inr (.inr (.inr (fun _ => none))))))]) (k + 1) (n + N) (pc + 3) lv (.ref q :: st)) : J X ws k n pc lv (.int x :: st) := by
  obtain ⟨p, l0, e, R, s, m, args, below, meth, c, D0, ct0, sa0, A, nL, Q⟩ := X
  obtain ⟨hx, hb, hml, ho, hts, hK, hA, hlk, hEX, rfl, rfl, rfl, rfl, rfl, rfl⟩ := C
  intro H locs ls hP hD hS hl
  refine va_newq hx hb ho (hts _ w1) hEX.2.2.1 hK hP hD hS hA (by rw [hx9]; exact nI_pos (by omega)) (by rw [hx9]; exact nI_clamp (by omega)) (by omega) hcells hslots d (fun q cA H1 hK1 hP1 hD1 hS1 => ?_)
  obtain rfl := tys_last 1 rfl hK1
  exact kk q H1 locs ls hP1 hD1 hS1 hl
theorem j_newqO (C : jC X l D ct sa cc nL1 own R0) {index : Nat} (w1 : Cond.classLink own index "java/lang/Object" ∈ GW) {x : Int32} {N : Nat} (hx9 : x = nI N) (hN : N < 2 ^ 20) (hcells : k + 1 ≤ R0.cells) (hslots : n + N ≤ R0.slots) (d : decode cc pc = .ok (.anewarray index, 3)) (kk : ∀ q : Nat, J X (ws ++ [(q, .inl (ct 2, N, .inr (.inr (.inr (.inr (fun _ => none))))))]) (k + 1) (n + N) (pc + 3) lv (.ref q :: st)) : J X ws k n pc lv (.int x :: st) := by
  obtain ⟨p, l0, e, R, s, m, args, below, meth, c, D0, ct0, sa0, A, nL, Q⟩ := X
  obtain ⟨hx, hb, hml, ho, hts, hK, hA, hlk, hEX, rfl, rfl, rfl, rfl, rfl, rfl⟩ := C
  intro H locs ls hP hD hS hl
  refine va_newq hx hb ho (hts _ w1) hEX.2.2.2.2.1 hK hP hD hS hA (by rw [hx9]; exact nI_pos (by omega)) (by rw [hx9]; exact nI_clamp (by omega)) (by omega) hcells hslots d (fun q cA H1 hK1 hP1 hD1 hS1 => ?_)
  obtain rfl := tys_last 2 rfl hK1
  exact kk q H1 locs ls hP1 hD1 hS1 hl
theorem j_mna (C : jC X l D ct sa cc nL1 own R0) {index : Nat} (w1 : Cond.classLink own index "[[I" ∈ GW) (w2 : Cond.arrayClass .int ∈ GW) (hcells : k + 6 ≤ R0.cells) (hslots : n + 110 ≤ R0.slots) (d : decode cc pc = .ok (.multianewarray index 2, 4)) (kk : ∀ (q : Nat) (r : Nat → Nat), J X (ws ++ ((q, .inl (ct 3, 5, .inr (.inr (.inr (.inr (fun i => if i < 5 then some (r i) else none)))))) :: (List.range 5).map (fun i => (r i, .inl (ct 0, 21, .inl (fun _ => nI 0)))))) (k + 6) (n + 110) (pc + 4) lv (.ref q :: st)) : J X ws k n pc lv (.int (nI 21) :: .int (nI 5) :: st) := by
  obtain ⟨p, l0, e, R, s, m, args, below, meth, c, D0, ct0, sa0, A, nL, Q⟩ := X
  obtain ⟨hx, hb, hml, ho, hts, hK, hA, hlk, hEX, rfl, rfl, rfl, rfl, rfl, rfl⟩ := C
  intro H locs ls hP hD hS hl
  refine va_mna (X := ws) (L := []) (f := fun _ => .inl (ct0 0, 21, .inl (fun _ => nI 0))) (ty := .int) (cy := ct0 0) (N' := 5) (K' := 21) (z := (21, .inl (fun _ => nI 0))) hx hb ho (hts _ w1) hEX.2.2.2.1 (hts _ w2) (hK.2 0 _ rfl).2 hK (by rw [show va_pl [] _ = [] from rfl, List.append_nil]; exact hP) (by rw [show va_pl [] _ = [] from rfl, List.append_nil]; exact hD) hS hA (by decide) (by decide) (by decide) (by decide) (by decide) (by decide) (by decide) (by rfl) (by rfl) hcells hslots (fun c => by rfl) d (fun q r cA H1 hinj hnot hK1 hP1 hD1 hS1 => ?_)
  obtain rfl := tys_last 3 rfl hK1
  have e : (ws ++ [(q, (Sum.inl (ct0 3, 5, .inr (.inr (.inr (.inr (fun i => if i < 5 then some (r i) else none))))) : va_E))]) ++ va_pl ([] ++ (List.range 5).map r) (vr_up (fun _ => .inl (ct0 0, 21, .inl (fun _ => nI 0))) ((List.range 5).map r) (.inl (ct0 0, 21, .inl (fun _ => nI 0)))) = ws ++ ((q, .inl (ct0 3, 5, .inr (.inr (.inr (.inr (fun i => if i < 5 then some (r i) else none)))))) :: (List.range 5).map (fun i => (r i, .inl (ct0 0, 21, .inl (fun _ => nI 0))))) := by
    rw [List.append_assoc]
    congr 1
    show _ :: _ = _ :: _
    congr 1
    rw [List.nil_append]
    unfold va_pl
    rw [List.map_map]
    refine List.map_congr_left (fun i _ => ?_)
    show (r i, vr_up _ _ _ (r i)) = _
    unfold vr_up
    by_cases h : r i ∈ (List.range 5).map r
    · rw [if_pos h]
    · rw [if_neg h]
  rw [e] at hP1 hD1
  exact kk q r H1 locs ls hP1 hD1 hS1 hl
theorem j_mnb (C : jC X l D ct sa cc nL1 own R0) {index : Nat} (w1 : Cond.classLink own index "[[I" ∈ GW) (w2 : Cond.arrayClass .int ∈ GW) (hcells : k + 5 ≤ R0.cells) (hslots : n + 28 ≤ R0.slots) (d : decode cc pc = .ok (.multianewarray index 2, 4)) (kk : ∀ (q : Nat) (r : Nat → Nat), J X (ws ++ ((q, .inl (ct 3, 4, .inr (.inr (.inr (.inr (fun i => if i < 4 then some (r i) else none)))))) :: (List.range 4).map (fun i => (r i, .inl (ct 0, 6, .inl (fun _ => nI 0)))))) (k + 5) (n + 28) (pc + 4) lv (.ref q :: st)) : J X ws k n pc lv (.int (nI 6) :: .int (nI 4) :: st) := by
  obtain ⟨p, l0, e, R, s, m, args, below, meth, c, D0, ct0, sa0, A, nL, Q⟩ := X
  obtain ⟨hx, hb, hml, ho, hts, hK, hA, hlk, hEX, rfl, rfl, rfl, rfl, rfl, rfl⟩ := C
  intro H locs ls hP hD hS hl
  refine va_mna (X := ws) (L := []) (f := fun _ => .inl (ct0 0, 6, .inl (fun _ => nI 0))) (ty := .int) (cy := ct0 0) (N' := 4) (K' := 6) (z := (6, .inl (fun _ => nI 0))) hx hb ho (hts _ w1) hEX.2.2.2.1 (hts _ w2) (hK.2 0 _ rfl).2 hK (by rw [show va_pl [] _ = [] from rfl, List.append_nil]; exact hP) (by rw [show va_pl [] _ = [] from rfl, List.append_nil]; exact hD) hS hA (by decide) (by decide) (by decide) (by decide) (by decide) (by decide) (by decide) (by rfl) (by rfl) hcells hslots (fun c => by rfl) d (fun q r cA H1 hinj hnot hK1 hP1 hD1 hS1 => ?_)
  obtain rfl := tys_last 3 rfl hK1
  have e : (ws ++ [(q, (Sum.inl (ct0 3, 4, .inr (.inr (.inr (.inr (fun i => if i < 4 then some (r i) else none))))) : va_E))]) ++ va_pl ([] ++ (List.range 4).map r) (vr_up (fun _ => .inl (ct0 0, 6, .inl (fun _ => nI 0))) ((List.range 4).map r) (.inl (ct0 0, 6, .inl (fun _ => nI 0)))) = ws ++ ((q, .inl (ct0 3, 4, .inr (.inr (.inr (.inr (fun i => if i < 4 then some (r i) else none)))))) :: (List.range 4).map (fun i => (r i, .inl (ct0 0, 6, .inl (fun _ => nI 0))))) := by
    rw [List.append_assoc]
    congr 1
    show _ :: _ = _ :: _
    congr 1
    rw [List.nil_append]
    unfold va_pl
    rw [List.map_map]
    refine List.map_congr_left (fun i _ => ?_)
    show (r i, vr_up _ _ _ (r i)) = _
    unfold vr_up
    by_cases h : r i ∈ (List.range 4).map r
    · rw [if_pos h]
    · rw [if_neg h]
  rw [e] at hP1 hD1
  exact kk q r H1 locs ls hP1 hD1 hS1 hl
theorem j_astqR (C : jC X l D ct sa cc nL1 own R0) {a v N : Nat} {vs : List Value} {f : Nat → Option Nat} {i : Int32} {ws2 : va_W} (q0 qk : Nat) (ha : ws[q0]? = some (a, .inl (ct 1, N, .inr (.inr (.inr (.inr f)))))) (hv : ws[qk]? = some (v, .inr (2, vs))) (j : Nat) (hi : i = nI j) (hj : j < N) (hN : N < 2 ^ 31) (hw : ws.set q0 (a, .inl (ct 1, N, .inr (.inr (.inr (.inr (va_up f j (some v))))))) = ws2) (d : decode cc pc = .ok (.aastore, 1)) (kk : J X ws2 k n (pc + 1) lv st) : J X ws k n pc lv (.ref v :: .int i :: .ref a :: st) := by
  obtain ⟨p, l0, e, R, s, m, args, below, meth, c, D0, ct0, sa0, A, nL, Q⟩ := X
  obtain ⟨hx, hb, hml, ho, hts, hK, hA, hlk, hEX, rfl, rfl, rfl, rfl, rfl, rfl⟩ := C
  intro H locs ls hP hD hS hl
  subst hi
  have ec : (nI j).toNatClampNeg = j := nI_clamp (Nat.lt_trans hj hN)
  exact va_astq hx hb hK hP hD hS q0 1 qk 2 ha rfl hv rfl (vp_in_nI hj hN) d (fun H1 locs1 hP1 hD1 hS1 => kk H1 locs1 ls (hw ▸ ec ▸ hP1) (hw ▸ ec ▸ hD1) hS1 hl)
theorem j_astqO (C : jC X l D ct sa cc nL1 own R0) {a v N : Nat} {vs : List Value} {f : Nat → Option Nat} {i : Int32} {ws2 : va_W} (wc : Cond.castable "LetterLocks$Lock" "java/lang/Object" ∈ NW) (q0 qk : Nat) (ha : ws[q0]? = some (a, .inl (ct 2, N, .inr (.inr (.inr (.inr f)))))) (hv : ws[qk]? = some (v, .inr (1, vs))) (j : Nat) (hi : i = nI j) (hj : j < N) (hN : N < 2 ^ 31) (hw : ws.set q0 (a, .inl (ct 2, N, .inr (.inr (.inr (.inr (va_up f j (some v))))))) = ws2) (d : decode cc pc = .ok (.aastore, 1)) (kk : J X ws2 k n (pc + 1) lv st) : J X ws k n pc lv (.ref v :: .int i :: .ref a :: st) := by
  obtain ⟨p, l0, e, R, s, m, args, below, meth, c, D0, ct0, sa0, A, nL, Q⟩ := X
  obtain ⟨hx, hb, hml, ho, hts, hK, hA, hlk, hEX, rfl, rfl, rfl, rfl, rfl, rfl⟩ := C
  intro H locs ls hP hD hS hl
  subst hi
  have ec : (nI j).toNatClampNeg = j := nI_clamp (Nat.lt_trans hj hN)
  exact va_astqO hx hb hK hP hD hS q0 2 qk 1 ha rfl (hEX.1 _ wc) hv rfl (vp_in_nI hj hN) d (fun H1 locs1 hP1 hD1 hS1 => kk H1 locs1 ls (hw ▸ ec ▸ hP1) (hw ▸ ec ▸ hD1) hS1 hl)
theorem j_gets (C : jC X l D ct sa cc nL1 own R0) {index : Nat} (w1 : Cond.fieldLink own index "java/util/ArrayList" "DEFAULTCAPACITY_EMPTY_ELEMENTDATA" "[Ljava/lang/Object;" ∈ GW) (d : decode cc pc = .ok (.getstatic index, 3)) (kk : J X ws k n (pc + 3) lv (.ref (sa 0) :: st)) : J X ws k n pc lv st := by
  obtain ⟨p, l0, e, R, s, m, args, below, meth, c, D0, ct0, sa0, A, nL, Q⟩ := X
  obtain ⟨hx, hb, hml, ho, hts, hK, hA, hlk, hEX, rfl, rfl, rfl, rfl, rfl, rfl⟩ := C
  intro H locs ls hP hD hS hl
  exact va_gets hx hb hEX.2.2.2.2.2.2.2.1 hS ho (hts _ w1) (fun _ h => h) d (kk H locs ls hP hD hS hl)
theorem j_tlen (C : jC X l D ct sa cc nL1 own R0) (d : decode cc pc = .ok (.arraylength, 1)) (kk : J X ws k n (pc + 1) lv (.int (nI 0) :: st)) : J X ws k n pc lv (.ref (sa 0) :: st) := by
  obtain ⟨p, l0, e, R, s, m, args, below, meth, c, D0, ct0, sa0, A, nL, Q⟩ := X
  obtain ⟨hx, hb, hml, ho, hts, hK, hA, hlk, hEX, rfl, rfl, rfl, rfl, rfl, rfl⟩ := C
  intro H locs ls hP hD hS hl
  exact va_tlen hx hb hEX.2.2.2.2.2.2.2.2.1 hS rfl d (kk H locs ls hP hD hS hl)
theorem j_acmp_eq (C : jC X l D ct sa cc nL1 own R0) {off : Int} {a b : Nat} (tgt : Nat) (d : decode cc pc = .ok (.if_acmp .eq off, 3)) (ht : (pc : Int) + off = (tgt : Int)) (kt : a = b → J X ws k n tgt lv st) (kf : ¬ a = b → J X ws k n (pc + 3) lv st) : J X ws k n pc lv (.ref b :: .ref a :: st) := by
  obtain ⟨p, l0, e, R, s, m, args, below, meth, c, D0, ct0, sa0, A, nL, Q⟩ := X
  obtain ⟨hx, hb, hml, ho, hts, hK, hA, hlk, hEX, rfl, rfl, rfl, rfl, rfl, rfl⟩ := C
  intro H locs ls hP hD hS hl
  exact lv_acmp_eq (rx := some a) (ry := some b) hx hb d ht (fun h => kt (Option.some.inj h) H locs ls hP hD hS hl) (fun h => kf (fun z => h (congrArg some z)) H locs ls hP hD hS hl)
end J3
theorem app_at {ws r : va_W} {i : Nat} {x : Nat × va_E} (h : ws[i]? = some x) : (ws ++ r)[i]? = some x := by
  rw [List.getElem?_append_left (List.getElem?_eq_some_iff.mp h).1]
  exact h
theorem app_set {ws r : va_W} {i : Nat} {x y : Nat × va_E} (h : ws[i]? = some x) : (ws ++ r).set i y = ws.set i y ++ r := List.set_append_left _ _ (List.getElem?_eq_some_iff.mp h).1
theorem len_set {ws : va_W} {i : Nat} {y : Nat × va_E} : (ws.set i y).length = ws.length := List.length_set ..
/-! words of a sum of places -/
def cwN : Nat → Nat → Nat
  | 0, s => if s = 0 then 1 else 0
  | r + 1, s => (if 0 ≤ s then cwN r (s - 0) else 0) + (if 1 ≤ s then cwN r (s - 1) else 0) + (if 2 ≤ s then cwN r (s - 2) else 0) + (if 3 ≤ s then cwN r (s - 3) else 0) + (if 4 ≤ s then cwN r (s - 4) else 0) + (if 5 ≤ s then cwN r (s - 5) else 0)
/-- the thief, his table and its five rows -/
abbrev Tk (ct : Nat → ClassId) (ws : va_W) (k h tt : Nat) (rw : Nat → Nat) (T : Nat → Nat → Int32) : Prop :=
  ws[k]? = some (h, .inr (3, [.ref tt])) ∧ ws[k + 1]? = some (tt, .inl (ct 3, 5, .inr (.inr (.inr (.inr (fun i => if i < 5 then some (rw i) else none)))))) ∧ ∀ i, i < 5 → ws[k + 2 + i]? = some (rw i, .inl (ct 0, 21, .inl (T i)))
end
section
set_option maxRecDepth 100000 in
set_option maxHeartbeats 4000000 in
theorem kX0_init (l : Launch) (D : va_G) (ct : Nat → ClassId) (sa : Nat → Nat) (ws : va_W) (k h : Nat) (x : Int32) (hk : ws[k]? = some (h, .inr (1, [.null, .null, .int (nI 0), .int (nI 0), .int (nI 0), .int (nI 0)]))) : jM l yX0_init (Cond.code yX0_init cX0_init 2 (Option.none : Option Jvm.ClassFile.FieldType) :: GW) (rM 1 2 28 20) D ct sa [.ref h, .int x] (ws) (fun r w => ∃ q1 q2 : Nat, r = none ∧ w = (ws.set k (h, .inr (1, [.ref q1, .ref q2, .int (x), .int (-1), .int (nI 1), .int (nI 0)]))) ++ [(q1, .inl (ct 0, 4, .inl (fun _ => nI 0))), (q2, .inl (ct 0, 24, .inl (fun _ => nI 0)))]) 2 28 := by
  refine jMX.plain (jBodyN (own := RX0) (by decide) rfl rfl (Nat.le_of_ble_eq_true rfl) ?_)
  intro X N0 C E T0
  refine j_lv (lv1 := [(0, .ref _), (1, .int _)]) rfl ?_
  refine j_aload_n (i := 0) C dX0_init_0 rfl 0 rfl ?_
  refine j_objInit C gw114 gw48 gw49 ⟨Nat.le_of_ble_eq_true rfl, Nat.le_of_ble_eq_true rfl⟩ dX0_init_1 ?_
  refine j_aload_n (i := 0) C dX0_init_4 rfl 0 rfl ?_
  refine j_iconst (v := nI 4) C dX0_init_5 (by decide) ?_
  refine j_newaI C rfl (by decide) (Nat.le_of_ble_eq_true rfl) (Nat.le_of_ble_eq_true rfl) dX0_init_6 (fun q1 => ?_)
  refine j_putF (Cn := RX0) (T := TX0) (N := 6) (ci := 1) (ws2 := (ws.set k (h, .inr (1, [.ref q1, .null, .int (nI 0), .int (nI 0), .int (nI 0), .int (nI 0)]))) ++ [(q1, .inl (ct 0, 4, .inl (fun _ => nI 0)))]) C N0 iX0 tyX0 tyX0_ok nmX0 rfl (k) (app_at hk) 0 (by decide) gw115 rfl rfl rfl rfl rfl rfl (Nat.le_of_ble_eq_true rfl) (app_set hk) dX0_init_8 ?_
  refine j_aload_n (i := 0) C dX0_init_11 rfl 0 rfl ?_
  refine j_bipush (v := nI 24) C dX0_init_12 (by decide) ?_
  refine j_newaI C rfl (by decide) (Nat.le_of_ble_eq_true rfl) (Nat.le_of_ble_eq_true rfl) dX0_init_14 (fun q2 => ?_)
  refine j_putF (Cn := RX0) (T := TX0) (N := 6) (ci := 1) (ws2 := (ws.set k (h, .inr (1, [.ref q1, .ref q2, .int (nI 0), .int (nI 0), .int (nI 0), .int (nI 0)]))) ++ [(q1, .inl (ct 0, 4, .inl (fun _ => nI 0))), (q2, .inl (ct 0, 24, .inl (fun _ => nI 0)))]) C N0 iX0 tyX0 tyX0_ok nmX0 rfl (k) (app_at (app_at (set_eq hk))) 1 (by decide) gw116 rfl rfl rfl rfl rfl rfl (Nat.le_of_ble_eq_true rfl) (by rw [List.append_assoc, app_set (set_eq hk), set_set]; rfl) dX0_init_16 ?_
  refine j_aload_n (i := 0) C dX0_init_19 rfl 0 rfl ?_
  refine j_iconst (v := (-1)) C dX0_init_20 (by decide) ?_
  refine j_put (Cn := RX0) (T := TX0) (N := 6) (ci := 1) (ws2 := (ws.set k (h, .inr (1, [.ref q1, .ref q2, .int (nI 0), .int (-1), .int (nI 0), .int (nI 0)]))) ++ [(q1, .inl (ct 0, 4, .inl (fun _ => nI 0))), (q2, .inl (ct 0, 24, .inl (fun _ => nI 0)))]) C iX0 tyX0 tyX0_ok nmX0 rfl (k) (app_at (set_eq hk)) 3 (by decide) gw119 rfl rfl rfl rfl rfl (Nat.le_of_ble_eq_true rfl) (by rw [app_set (set_eq hk), set_set]; rfl) dX0_init_21 ?_
  refine j_aload_n (i := 0) C dX0_init_24 rfl 0 rfl ?_
  refine j_iconst (v := nI 1) C dX0_init_25 (by decide) ?_
  refine j_put (Cn := RX0) (T := TX0) (N := 6) (ci := 1) (ws2 := (ws.set k (h, .inr (1, [.ref q1, .ref q2, .int (nI 0), .int (-1), .int (nI 1), .int (nI 0)]))) ++ [(q1, .inl (ct 0, 4, .inl (fun _ => nI 0))), (q2, .inl (ct 0, 24, .inl (fun _ => nI 0)))]) C iX0 tyX0 tyX0_ok nmX0 rfl (k) (app_at (set_eq hk)) 4 (by decide) gw121 rfl rfl rfl rfl rfl (Nat.le_of_ble_eq_true rfl) (by rw [app_set (set_eq hk), set_set]; rfl) dX0_init_26 ?_
  refine j_aload_n (i := 0) C dX0_init_29 rfl 0 rfl ?_
  refine j_iconst (v := nI 0) C dX0_init_30 (by decide) ?_
  refine j_put (Cn := RX0) (T := TX0) (N := 6) (ci := 1) (ws2 := (ws.set k (h, .inr (1, [.ref q1, .ref q2, .int (nI 0), .int (-1), .int (nI 1), .int (nI 0)]))) ++ [(q1, .inl (ct 0, 4, .inl (fun _ => nI 0))), (q2, .inl (ct 0, 24, .inl (fun _ => nI 0)))]) C iX0 tyX0 tyX0_ok nmX0 rfl (k) (app_at (set_eq hk)) 5 (by decide) gw123 rfl rfl rfl rfl rfl (Nat.le_of_ble_eq_true rfl) (by rw [app_set (set_eq hk), set_set]; rfl) dX0_init_31 ?_
  refine j_aload_n (i := 0) C dX0_init_34 rfl 0 rfl ?_
  refine j_iload_n (i := 1) C dX0_init_35 rfl 1 rfl ?_
  refine j_put (Cn := RX0) (T := TX0) (N := 6) (ci := 1) (ws2 := (ws.set k (h, .inr (1, [.ref q1, .ref q2, .int (x), .int (-1), .int (nI 1), .int (nI 0)]))) ++ [(q1, .inl (ct 0, 4, .inl (fun _ => nI 0))), (q2, .inl (ct 0, 24, .inl (fun _ => nI 0)))]) C iX0 tyX0 tyX0_ok nmX0 rfl (k) (app_at (set_eq hk)) 2 (by decide) gw117 rfl rfl rfl rfl rfl (Nat.le_of_ble_eq_true rfl) (by rw [app_set (set_eq hk), set_set]; rfl) dX0_init_36 ?_
  exact j_return C E dX0_init_39 (Nat.le_of_ble_eq_true rfl) (Nat.le_of_ble_eq_true rfl) (⟨q1, q2, rfl, rfl⟩)
set_option maxRecDepth 100000 in
set_option maxHeartbeats 4000000 in
theorem kX1_init (l : Launch) (D : va_G) (ct : Nat → ClassId) (sa : Nat → Nat) (ws : va_W) (k h : Nat) (hk : ws[k]? = some (h, .inr (2, [.int (nI 0), .int (nI 0), .int (nI 0)]))) : jM l yX1_init (Cond.code yX1_init cX1_init 1 (Option.none : Option Jvm.ClassFile.FieldType) :: GW) (rM 1 0 0 20) D ct sa [.ref h] (ws) (dK none (ws.set k (h, .inr (2, [.int (nI 4), .int (nI 0), .int (nI 24)])))) 0 0 := by
  refine jMX.plain (jBody (own := RX1) (by decide) rfl rfl (Nat.le_of_ble_eq_true rfl) ?_)
  intro X C E T0
  refine j_lv (lv1 := [(0, .ref _)]) rfl ?_
  refine j_aload_n (i := 0) C dX1_init_0 rfl 0 rfl ?_
  refine j_objInit C gw82 gw48 gw49 ⟨Nat.le_of_ble_eq_true rfl, Nat.le_of_ble_eq_true rfl⟩ dX1_init_1 ?_
  refine j_aload_n (i := 0) C dX1_init_4 rfl 0 rfl ?_
  refine j_iconst (v := nI 4) C dX1_init_5 (by decide) ?_
  refine j_put (Cn := RX1) (T := TX1) (N := 3) (ci := 2) (ws2 := ws.set k (h, .inr (2, [.int (nI 4), .int (nI 0), .int (nI 0)]))) C iX1 tyX1 tyX1_ok nmX1 rfl (k) hk 0 (by decide) gw83 rfl rfl rfl rfl rfl (Nat.le_of_ble_eq_true rfl) rfl dX1_init_6 ?_
  refine j_aload_n (i := 0) C dX1_init_9 rfl 0 rfl ?_
  refine j_iconst (v := nI 0) C dX1_init_10 (by decide) ?_
  refine j_put (Cn := RX1) (T := TX1) (N := 3) (ci := 2) (ws2 := ws.set k (h, .inr (2, [.int (nI 4), .int (nI 0), .int (nI 0)]))) C iX1 tyX1 tyX1_ok nmX1 rfl (k) (set_eq hk) 1 (by decide) gw85 rfl rfl rfl rfl rfl (Nat.le_of_ble_eq_true rfl) set_set dX1_init_11 ?_
  refine j_aload_n (i := 0) C dX1_init_14 rfl 0 rfl ?_
  refine j_bipush (v := nI 24) C dX1_init_15 (by decide) ?_
  refine j_put (Cn := RX1) (T := TX1) (N := 3) (ci := 2) (ws2 := ws.set k (h, .inr (2, [.int (nI 4), .int (nI 0), .int (nI 24)]))) C iX1 tyX1 tyX1_ok nmX1 rfl (k) (set_eq hk) 2 (by decide) gw87 rfl rfl rfl rfl rfl (Nat.le_of_ble_eq_true rfl) set_set dX1_init_17 ?_
  exact j_return C E dX1_init_20 (Nat.le_of_ble_eq_true rfl) (Nat.le_of_ble_eq_true rfl) (⟨rfl, rfl⟩)
set_option maxRecDepth 100000 in
set_option maxHeartbeats 4000000 in
theorem kJxa1e45_init_da8c8 (l : Launch) (D : va_G) (ct : Nat → ClassId) (sa : Nat → Nat) (ws : va_W) (h : Nat) : jM l yJxa1e45_init_da8c8 (Cond.code yJxa1e45_init_da8c8 cJxa1e45_init_da8c8 1 (Option.none : Option Jvm.ClassFile.FieldType) :: GW) (rM 1 0 0 20) D ct sa [.ref h] (ws) (dK none ws) 0 0 := by
  refine jMX.plain (jBody (own := RJxa1e45) (by decide) rfl rfl (Nat.le_of_ble_eq_true rfl) ?_)
  intro X C E T0
  refine j_lv (lv1 := [(0, .ref _)]) rfl ?_
  refine j_aload_n (i := 0) C dJxa1e45_init_da8c8_0 rfl 0 rfl ?_
  refine j_objInit C gw61 gw48 gw49 ⟨Nat.le_of_ble_eq_true rfl, Nat.le_of_ble_eq_true rfl⟩ dJxa1e45_init_da8c8_1 ?_
  exact j_return C E dJxa1e45_init_da8c8_4 (Nat.le_of_ble_eq_true rfl) (Nat.le_of_ble_eq_true rfl) (⟨rfl, rfl⟩)
set_option maxRecDepth 100000 in
set_option maxHeartbeats 4000000 in
theorem kJxc12de_init_da8c8 (l : Launch) (D : va_G) (ct : Nat → ClassId) (sa : Nat → Nat) (ws : va_W) (k h : Nat) (v2 v3 : Value) (x : Int32) (hk : ws[k]? = some (h, .inr (0, [.int x, v2, v3]))) : jM l yJxc12de_init_da8c8 (Cond.code yJxc12de_init_da8c8 cJxc12de_init_da8c8 1 (Option.none : Option Jvm.ClassFile.FieldType) :: GW) (rM 2 0 0 40) D ct sa [.ref h] (ws) (dK none (ws.set k (h, .inr (0, [.int (nI 0), v2, v3])))) 0 0 := by
  refine jMX.plain (jBody (own := RJxc12de) (by decide) rfl rfl (Nat.le_of_ble_eq_true rfl) ?_)
  intro X C E T0
  refine j_lv (lv1 := [(0, .ref _)]) rfl ?_
  refine j_aload_n (i := 0) C dJxc12de_init_da8c8_0 rfl 0 rfl ?_
  refine j_callI (nargs := 0) (As := []) C gw58 gw59 gw22 rfl (kJxa1e45_init_da8c8 l D ct sa ws h) gw60 (by decide +kernel) rfl dJxc12de_init_da8c8_1 ⟨Nat.le_of_ble_eq_true rfl, Nat.le_of_ble_eq_true rfl⟩ ⟨Nat.le_of_ble_eq_true rfl, Nat.le_of_ble_eq_true rfl⟩ (Nat.le_of_ble_eq_true rfl) (dkv ?_)
  refine j_aload_n (i := 0) C dJxc12de_init_da8c8_4 rfl 0 rfl ?_
  refine j_iconst (v := nI 0) C dJxc12de_init_da8c8_5 (by decide) ?_
  refine j_put (Cn := RJx4a65c) (T := TJx4a65c) (N := 3) (ci := 0) (ws2 := ws.set k (h, .inr (0, [.int (nI 0), v2, v3]))) C iJx4a65c tyJx4a65c tyJx4a65c_ok nmJx4a65c rfl (k) hk 0 (by decide) gw66 rfl rfl rfl rfl rfl (Nat.le_of_ble_eq_true rfl) rfl dJxc12de_init_da8c8_6 ?_
  exact j_return C E dJxc12de_init_da8c8_9 (Nat.le_of_ble_eq_true rfl) (Nat.le_of_ble_eq_true rfl) (⟨rfl, rfl⟩)
set_option maxRecDepth 100000 in
set_option maxHeartbeats 4000000 in
theorem kJx4a65c_init_da8c8 (l : Launch) (D : va_G) (ct : Nat → ClassId) (sa : Nat → Nat) (ws : va_W) (k h : Nat) (hk : ws[k]? = some (h, .inr (0, [.int (nI 0), .null, .int (nI 0)]))) : jM l yJx4a65c_init_da8c8 (Cond.code yJx4a65c_init_da8c8 cJx4a65c_init_da8c8 1 (Option.none : Option Jvm.ClassFile.FieldType) :: GW) (rM 3 0 0 60) D ct sa [.ref h] (ws) (dK none (ws.set k (h, .inr (0, [.int (nI 0), .ref (sa 0), .int (nI 0)])))) 0 0 := by
  refine jMX.plain (jBody (own := RJx4a65c) (by decide) rfl rfl (Nat.le_of_ble_eq_true rfl) ?_)
  intro X C E T0
  refine j_lv (lv1 := [(0, .ref _)]) rfl ?_
  refine j_aload_n (i := 0) C dJx4a65c_init_da8c8_0 rfl 0 rfl ?_
  refine j_callI (nargs := 0) (As := []) C gw55 gw56 gw23 rfl (kJxc12de_init_da8c8 l D ct sa ws k h _ _ _ hk) gw57 (by decide +kernel) rfl dJx4a65c_init_da8c8_1 ⟨Nat.le_of_ble_eq_true rfl, Nat.le_of_ble_eq_true rfl⟩ ⟨Nat.le_of_ble_eq_true rfl, Nat.le_of_ble_eq_true rfl⟩ (Nat.le_of_ble_eq_true rfl) (dkv ?_)
  refine j_aload_n (i := 0) C dJx4a65c_init_da8c8_4 rfl 0 rfl ?_
  refine j_gets C gw62 dJx4a65c_init_da8c8_5 ?_
  refine j_put (Cn := RJx4a65c) (T := TJx4a65c) (N := 3) (ci := 0) (ws2 := ws.set k (h, .inr (0, [.int (nI 0), .ref (sa 0), .int (nI 0)]))) C iJx4a65c tyJx4a65c tyJx4a65c_ok nmJx4a65c rfl (k) (set_eq hk) 1 (by decide) gw64 rfl rfl rfl rfl rfl (Nat.le_of_ble_eq_true rfl) set_set dJx4a65c_init_da8c8_8 ?_
  exact j_return C E dJx4a65c_init_da8c8_11 (Nat.le_of_ble_eq_true rfl) (Nat.le_of_ble_eq_true rfl) (⟨rfl, rfl⟩)
set_option maxRecDepth 100000 in
set_option maxHeartbeats 4000000 in
theorem kJx4a65c_grow_92f84 (l : Launch) (D : va_G) (ct : Nat → ClassId) (sa : Nat → Nat) (ws : va_W) (k h : Nat) (mc : Int32) (hk : ws[k]? = some (h, .inr (0, [.int (mc), .ref (sa 0), .int (nI 0)]))) : jM l yJx4a65c_grow_92f84 (Cond.code yJx4a65c_grow_92f84 cJx4a65c_grow_92f84 4 (Option.some (Jvm.ClassFile.FieldType.array (Jvm.ClassFile.FieldType.object "java/lang/Object"))) :: GW) (rM 1 1 10 18) D ct sa [.ref h, .int (nI 1)] (ws) (fun r w => ∃ q : Nat, r = some (.ref q) ∧ w = ws.set k (h, .inr (0, [.int (mc), .ref q, .int (nI 0)])) ++ [(q, .inl (ct 2, 10, .inr (.inr (.inr (.inr (fun _ => none))))))]) 1 10 := by
  refine jMX.plain (jBody (own := RJx4a65c) (by decide) rfl rfl (Nat.le_of_ble_eq_true rfl) ?_)
  intro X C E T0
  refine j_lv (lv1 := [(0, .ref _), (1, .int _)]) rfl ?_
  refine j_aload_n (i := 0) C dJx4a65c_grow_92f84_0 rfl 0 rfl ?_
  refine j_get (Cn := RJx4a65c) (T := TJx4a65c) (N := 3) (ci := 0) C iJx4a65c rfl (k) hk 1 (by decide) gw64 rfl rfl dJx4a65c_grow_92f84_1 ?_
  refine j_tlen C dJx4a65c_grow_92f84_4 ?_
  refine j_istore_n (lv' := [(2, .int _), (0, .ref _), (1, .int _)]) C dJx4a65c_grow_92f84_5 rfl (by decide) rfl ?_
  refine j_iload_n (i := 2) C dJx4a65c_grow_92f84_6 rfl 0 rfl ?_
  refine j_if_gt C 20 dJx4a65c_grow_92f84_7 (by decide) (fun c7 => by exact absurd c7 (by decide)) (fun c7 => ?_)
  refine j_aload_n (i := 0) C dJx4a65c_grow_92f84_10 rfl 1 rfl ?_
  refine j_get (Cn := RJx4a65c) (T := TJx4a65c) (N := 3) (ci := 0) C iJx4a65c rfl (k) hk 1 (by decide) gw64 rfl rfl dJx4a65c_grow_92f84_11 ?_
  refine j_gets C gw62 dJx4a65c_grow_92f84_14 ?_
  refine j_acmp_eq C 45 dJx4a65c_grow_92f84_17 (by decide) (fun _ => ?_) (fun z => absurd rfl z)
  refine j_aload_n (i := 0) C dJx4a65c_grow_92f84_45 rfl 1 rfl ?_
  refine j_bipush (v := nI 10) C dJx4a65c_grow_92f84_46 (by decide) ?_
  refine j_iload_n (i := 1) C dJx4a65c_grow_92f84_48 rfl 2 rfl ?_
  refine j_mmax C gw599 gw566 gw36 gw567 ⟨Nat.le_of_ble_eq_true rfl, Nat.le_of_ble_eq_true rfl⟩ ⟨Nat.le_of_ble_eq_true rfl, Nat.le_of_ble_eq_true rfl⟩ dJx4a65c_grow_92f84_49 ?_
  refine j_newqO (N := 10) C gw600 (by decide) (by decide) (Nat.le_of_ble_eq_true rfl) (Nat.le_of_ble_eq_true rfl) dJx4a65c_grow_92f84_52 (fun q => ?_)
  refine j_dup_x1 C dJx4a65c_grow_92f84_55 rfl rfl ?_
  refine j_put (Cn := RJx4a65c) (T := TJx4a65c) (N := 3) (ci := 0) (ws2 := ws.set k (h, .inr (0, [.int (mc), .ref q, .int (nI 0)])) ++ [(q, .inl (ct 2, 10, .inr (.inr (.inr (.inr (fun _ => none))))))]) C iJx4a65c tyJx4a65c tyJx4a65c_ok nmJx4a65c rfl (k) (app_at hk) 1 (by decide) gw64 rfl rfl rfl rfl rfl (Nat.le_of_ble_eq_true rfl) (app_set hk) dJx4a65c_grow_92f84_56 ?_
  exact j_areturn C E (Or.inr ⟨_, rfl⟩) dJx4a65c_grow_92f84_59 (Nat.le_of_ble_eq_true rfl) (Nat.le_of_ble_eq_true rfl) (⟨q, rfl, rfl⟩)
set_option maxRecDepth 100000 in
set_option maxHeartbeats 4000000 in
theorem kJx4a65c_grow_d5877 (l : Launch) (D : va_G) (ct : Nat → ClassId) (sa : Nat → Nat) (ws : va_W) (k h : Nat) (mc : Int32) (hk : ws[k]? = some (h, .inr (0, [.int (mc), .ref (sa 0), .int (nI 0)]))) : jM l yJx4a65c_grow_d5877 (Cond.code yJx4a65c_grow_d5877 cJx4a65c_grow_d5877 1 (Option.some (Jvm.ClassFile.FieldType.array (Jvm.ClassFile.FieldType.object "java/lang/Object"))) :: GW) (rM 2 1 10 41) D ct sa [.ref h] (ws) (fun r w => ∃ q : Nat, r = some (.ref q) ∧ w = ws.set k (h, .inr (0, [.int (mc), .ref q, .int (nI 0)])) ++ [(q, .inl (ct 2, 10, .inr (.inr (.inr (.inr (fun _ => none))))))]) 1 10 := by
  refine jMX.plain (jBody (own := RJx4a65c) (by decide) rfl rfl (Nat.le_of_ble_eq_true rfl) ?_)
  intro X C E T0
  refine j_lv (lv1 := [(0, .ref _)]) rfl ?_
  refine j_aload_n (i := 0) C dJx4a65c_grow_d5877_0 rfl 0 rfl ?_
  refine j_aload_n (i := 0) C dJx4a65c_grow_d5877_1 rfl 0 rfl ?_
  refine j_get (Cn := RJx4a65c) (T := TJx4a65c) (N := 3) (ci := 0) C iJx4a65c rfl (k) hk 2 (by decide) gw65 rfl rfl dJx4a65c_grow_d5877_2 ?_
  refine j_iconst (v := nI 1) C dJx4a65c_grow_d5877_5 (by decide) ?_
  refine j_iadd C dJx4a65c_grow_d5877_6 ?_
  refine j_callV (nargs := 1) (As := [_]) (Cn := RJx4a65c) C (k) hk rfl rfl gw558 gw560 gw18 gw24 (kJx4a65c_grow_92f84 l D ct sa ws k h mc hk) gw561 (by decide +kernel) rfl dJx4a65c_grow_d5877_7 ⟨Nat.le_of_ble_eq_true rfl, Nat.le_of_ble_eq_true rfl⟩ ⟨Nat.le_of_ble_eq_true rfl, Nat.le_of_ble_eq_true rfl⟩ (Nat.le_of_ble_eq_true rfl) (fun r w hk2 => ?_)
  obtain ⟨q, rfl, rfl⟩ := hk2
  refine j_st (st1 := .ref q :: _) rfl ?_
  exact j_areturn C E (Or.inr ⟨_, rfl⟩) dJx4a65c_grow_d5877_10 (Nat.le_of_ble_eq_true rfl) (Nat.le_of_ble_eq_true rfl) (⟨q, rfl, rfl⟩)
set_option maxRecDepth 100000 in
set_option maxHeartbeats 4000000 in
theorem kJx4a65c_add_72be8_0 (l : Launch) (D : va_G) (ct : Nat → ClassId) (sa : Nat → Nat) (ws : va_W) (k h kl v : Nat) (mc : Int32) (vs : List Value) (hk : ws[k]? = some (h, .inr (0, [.int (mc), .ref (sa 0), .int (nI 0)]))) (hv : ws[kl]? = some (v, .inr (1, vs))) (hne : k ≠ kl) : jM l yJx4a65c_add_72be8 (Cond.code yJx4a65c_add_72be8 cJx4a65c_add_72be8 4 (Option.none : Option Jvm.ClassFile.FieldType) :: GW) (rM 3 1 10 61) D ct sa [.ref h, .ref v, .ref (sa 0), .int (nI 0)] (ws) (fun r w => ∃ q : Nat, r = none ∧ w = (ws.set k (h, .inr (0, [.int (mc), .ref q, .int (nI 1)])) ++ [(q, .inl (ct 2, 10, .inr (.inr (.inr (.inr (va_up (fun _ => none) 0 (some v)))))))])) 1 10 := by
  refine jMX.plain (jBody (own := RJx4a65c) (by decide) rfl rfl (Nat.le_of_ble_eq_true rfl) ?_)
  intro X C E T0
  refine j_lv (lv1 := [(0, .ref _), (1, .ref _), (2, .ref _), (3, .int _)]) rfl ?_
  refine j_iload_n (i := 3) C dJx4a65c_add_72be8_0 rfl 3 rfl ?_
  refine j_aload_n (i := 2) C dJx4a65c_add_72be8_1 rfl 2 rfl ?_
  refine j_tlen C dJx4a65c_add_72be8_2 ?_
  refine j_icmp_ne C 11 dJx4a65c_add_72be8_3 (by decide) (fun c3 => by exact absurd rfl c3) (fun c3 => ?_)
  refine j_aload_n (i := 0) C dJx4a65c_add_72be8_6 rfl 0 rfl ?_
  refine j_callV (nargs := 0) (As := []) (Cn := RJx4a65c) C (k) hk rfl rfl gw554 gw556 gw17 gw24 (kJx4a65c_grow_d5877 l D ct sa ws k h mc hk) gw557 (by decide +kernel) rfl dJx4a65c_add_72be8_7 ⟨Nat.le_of_ble_eq_true rfl, Nat.le_of_ble_eq_true rfl⟩ ⟨Nat.le_of_ble_eq_true rfl, Nat.le_of_ble_eq_true rfl⟩ (Nat.le_of_ble_eq_true rfl) (fun r w hk2 => ?_)
  obtain ⟨q, rfl, rfl⟩ := hk2
  refine j_st (st1 := .ref q :: _) rfl ?_
  refine j_astore_n (lv' := [(2, .ref _), (0, .ref _), (1, .ref _), (3, .int _)]) C dJx4a65c_add_72be8_10 rfl (by decide) rfl ?_
  refine j_aload_n (i := 2) C dJx4a65c_add_72be8_11 rfl 0 rfl ?_
  refine j_iload_n (i := 3) C dJx4a65c_add_72be8_12 rfl 3 rfl ?_
  refine j_aload_n (i := 1) C dJx4a65c_add_72be8_13 rfl 2 rfl ?_
  refine j_astqO (ws2 := (ws.set k (h, .inr (0, [.int (mc), .ref q, .int (nI 0)])) ++ [(q, .inl (ct 2, 10, .inr (.inr (.inr (.inr (va_up (fun _ => none) 0 (some v)))))))])) C nw676 (ws.length) kl (by rw [← len_set (ws := ws) (i := k)]; exact gA) (app_at ((set_ne hne).trans hv)) (0) rfl (by decide) (by decide) (by rw [← len_set (ws := ws) (i := k)]; exact sA) dJx4a65c_add_72be8_14 ?_
  refine j_aload_n (i := 0) C dJx4a65c_add_72be8_15 rfl 1 rfl ?_
  refine j_iload_n (i := 3) C dJx4a65c_add_72be8_16 rfl 3 rfl ?_
  refine j_iconst (v := nI 1) C dJx4a65c_add_72be8_17 (by decide) ?_
  refine j_iadd C dJx4a65c_add_72be8_18 ?_
  refine j_put (Cn := RJx4a65c) (T := TJx4a65c) (N := 3) (ci := 0) (ws2 := (ws.set k (h, .inr (0, [.int (mc), .ref q, .int (nI 1)])) ++ [(q, .inl (ct 2, 10, .inr (.inr (.inr (.inr (va_up (fun _ => none) 0 (some v)))))))])) C iJx4a65c tyJx4a65c tyJx4a65c_ok nmJx4a65c rfl (k) (app_at (set_eq hk)) 2 (by decide) gw65 rfl rfl rfl rfl rfl (Nat.le_of_ble_eq_true rfl) (by rw [app_set (set_eq hk), set_set]; rfl) dJx4a65c_add_72be8_19 ?_
  exact j_return C E dJx4a65c_add_72be8_22 (Nat.le_of_ble_eq_true rfl) (Nat.le_of_ble_eq_true rfl) (⟨q, rfl, rfl⟩)
set_option maxRecDepth 100000 in
set_option maxHeartbeats 4000000 in
theorem kJx4a65c_add_72be8_1 (l : Launch) (D : va_G) (ct : Nat → ClassId) (sa : Nat → Nat) (ws : va_W) (k h kl v ka ar n : Nat) (mc : Int32) (vs : List Value) (g : Nat → Option Nat) (hk : ws[k]? = some (h, .inr (0, [.int (mc), .ref ar, .int (nI n)]))) (hv : ws[kl]? = some (v, .inr (1, vs))) (hne : k ≠ kl) (hka : ws[ka]? = some (ar, .inl (ct 2, 10, .inr (.inr (.inr (.inr (g))))))) (hn : n < 10) (h0 : 0 < n) (hk3 : k ≠ ka) : jM l yJx4a65c_add_72be8 (Cond.code yJx4a65c_add_72be8 cJx4a65c_add_72be8 4 (Option.none : Option Jvm.ClassFile.FieldType) :: GW) (rM 0 0 0 0) D ct sa [.ref h, .ref v, .ref ar, .int (nI n)] (ws) (dK none ((ws.set ka (ar, .inl (ct 2, 10, .inr (.inr (.inr (.inr (va_up g n (some v)))))))).set k (h, .inr (0, [.int (mc), .ref ar, .int (nI (n + 1))])))) 0 0 := by
  refine jMX.plain (jBody (own := RJx4a65c) (by decide) rfl rfl (Nat.le_of_ble_eq_true rfl) ?_)
  intro X C E T0
  refine j_lv (lv1 := [(0, .ref _), (1, .ref _), (2, .ref _), (3, .int _)]) rfl ?_
  refine j_iload_n (i := 3) C dJx4a65c_add_72be8_0 rfl 3 rfl ?_
  refine j_aload_n (i := 2) C dJx4a65c_add_72be8_1 rfl 2 rfl ?_
  refine j_alen (v := nI 10) C (ka) 2 hka rfl rfl dJx4a65c_add_72be8_2 ?_
  refine j_icmp_ne C 11 dJx4a65c_add_72be8_3 (by decide) (fun c3 => ?_) (fun c3 => by exact absurd c3 (nI_ne (by omega) (by omega) (by omega)))
  refine j_aload_n (i := 2) C dJx4a65c_add_72be8_11 rfl 2 rfl ?_
  refine j_iload_n (i := 3) C dJx4a65c_add_72be8_12 rfl 3 rfl ?_
  refine j_aload_n (i := 1) C dJx4a65c_add_72be8_13 rfl 1 rfl ?_
  refine j_astqO (ws2 := ws.set ka (ar, .inl (ct 2, 10, .inr (.inr (.inr (.inr (va_up g n (some v)))))))) C nw676 (ka) kl hka hv (n) rfl hn (by decide) rfl dJx4a65c_add_72be8_14 ?_
  refine j_aload_n (i := 0) C dJx4a65c_add_72be8_15 rfl 0 rfl ?_
  refine j_iload_n (i := 3) C dJx4a65c_add_72be8_16 rfl 3 rfl ?_
  refine j_iconst (v := nI 1) C dJx4a65c_add_72be8_17 (by decide) ?_
  refine j_iadd C dJx4a65c_add_72be8_18 ?_
  refine j_put (Cn := RJx4a65c) (T := TJx4a65c) (N := 3) (ci := 0) (ws2 := ((ws.set ka (ar, .inl (ct 2, 10, .inr (.inr (.inr (.inr (va_up g n (some v)))))))).set k (h, .inr (0, [.int (mc), .ref ar, .int (nI (n + 1))])))) C iJx4a65c tyJx4a65c tyJx4a65c_ok nmJx4a65c rfl (k) ((set_ne (Ne.symm hk3)).trans hk) 2 (by decide) gw65 rfl rfl rfl rfl rfl (Nat.le_of_ble_eq_true rfl) (by rw [← nI_add]; rfl) dJx4a65c_add_72be8_19 ?_
  exact j_return C E dJx4a65c_add_72be8_22 (Nat.le_of_ble_eq_true rfl) (Nat.le_of_ble_eq_true rfl) (⟨rfl, rfl⟩)
set_option maxRecDepth 100000 in
set_option maxHeartbeats 4000000 in
theorem kJx4a65c_add_9ea2d_0 (l : Launch) (D : va_G) (ct : Nat → ClassId) (sa : Nat → Nat) (ws : va_W) (k h kl v : Nat) (mc : Int32) (vs : List Value) (hk : ws[k]? = some (h, .inr (0, [.int (mc), .ref (sa 0), .int (nI 0)]))) (hv : ws[kl]? = some (v, .inr (1, vs))) (hne : k ≠ kl) : jM l yJx4a65c_add_9ea2d (Cond.code yJx4a65c_add_9ea2d cJx4a65c_add_9ea2d 2 (Option.some Jvm.ClassFile.FieldType.boolean) :: GW) (rM 4 1 10 84) D ct sa [.ref h, .ref v] (ws) (fun r w => ∃ q : Nat, r = some (.int (nI 1)) ∧ w = (ws.set k (h, .inr (0, [.int (mc + nI 1), .ref q, .int (nI 1)])) ++ [(q, .inl (ct 2, 10, .inr (.inr (.inr (.inr (va_up (fun _ => none) 0 (some v)))))))])) 1 10 := by
  refine jMX.plain (jBody (own := RJx4a65c) (by decide) rfl rfl (Nat.le_of_ble_eq_true rfl) ?_)
  intro X C E T0
  refine j_lv (lv1 := [(0, .ref _), (1, .ref _)]) rfl ?_
  refine j_aload_n (i := 0) C dJx4a65c_add_9ea2d_0 rfl 0 rfl ?_
  refine j_dup C dJx4a65c_add_9ea2d_1 rfl ?_
  refine j_getS (Cn := RJx4a65c) (T := TJx4a65c) (N := 3) (ci := 0) C iJx4a65c rfl (k) hk 0 (by decide) gw67 gwSF rfl dJx4a65c_add_9ea2d_2 ?_
  refine j_iconst (v := nI 1) C dJx4a65c_add_9ea2d_5 (by decide) ?_
  refine j_iadd C dJx4a65c_add_9ea2d_6 ?_
  refine j_putS (Cn := RJx4a65c) (T := TJx4a65c) (N := 3) (ci := 0) (ws2 := (ws.set k (h, .inr (0, [.int (mc + nI 1), .ref (sa 0), .int (nI 0)])))) C iJx4a65c tyJx4a65c tyJx4a65c_ok nmJx4a65c rfl (k) hk 0 (by decide) gw67 gwSF rfl rfl rfl rfl (Nat.le_of_ble_eq_true rfl) rfl dJx4a65c_add_9ea2d_7 ?_
  refine j_aload_n (i := 0) C dJx4a65c_add_9ea2d_10 rfl 0 rfl ?_
  refine j_aload_n (i := 1) C dJx4a65c_add_9ea2d_11 rfl 1 rfl ?_
  refine j_aload_n (i := 0) C dJx4a65c_add_9ea2d_12 rfl 0 rfl ?_
  refine j_get (Cn := RJx4a65c) (T := TJx4a65c) (N := 3) (ci := 0) C iJx4a65c rfl (k) (set_eq hk) 1 (by decide) gw64 rfl rfl dJx4a65c_add_9ea2d_13 ?_
  refine j_aload_n (i := 0) C dJx4a65c_add_9ea2d_16 rfl 0 rfl ?_
  refine j_get (Cn := RJx4a65c) (T := TJx4a65c) (N := 3) (ci := 0) C iJx4a65c rfl (k) (set_eq hk) 2 (by decide) gw65 rfl rfl dJx4a65c_add_9ea2d_17 ?_
  refine j_callV (nargs := 3) (As := [_, _, _]) (Cn := RJx4a65c) C (k) (set_eq hk) rfl rfl gw550 gw552 gw16 gw24 (kJx4a65c_add_72be8_0 l D ct sa _ k h kl v (mc + nI 1) vs (set_eq hk) ((set_ne hne).trans hv) hne) gw553 (by decide +kernel) rfl dJx4a65c_add_9ea2d_20 ⟨Nat.le_of_ble_eq_true rfl, Nat.le_of_ble_eq_true rfl⟩ ⟨Nat.le_of_ble_eq_true rfl, Nat.le_of_ble_eq_true rfl⟩ (Nat.le_of_ble_eq_true rfl) (fun r w hk2 => ?_)
  obtain ⟨q, rfl, rfl⟩ := hk2
  refine j_st (st1 := []) rfl ?_
  refine j_ws (ws1 := (ws.set k (h, .inr (0, [.int (mc + nI 1), .ref q, .int (nI 1)])) ++ [(q, .inl (ct 2, 10, .inr (.inr (.inr (.inr (va_up (fun _ => none) 0 (some v)))))))])) (by rw [set_set]) ?_
  refine j_iconst (v := nI 1) C dJx4a65c_add_9ea2d_23 (by decide) ?_
  exact j_ireturn C E (by first | exact nr_b | rfl) dJx4a65c_add_9ea2d_24 (Nat.le_of_ble_eq_true rfl) (Nat.le_of_ble_eq_true rfl) (⟨q, rfl, rfl⟩)
set_option maxRecDepth 100000 in
set_option maxHeartbeats 4000000 in
theorem kJx4a65c_add_9ea2d_1 (l : Launch) (D : va_G) (ct : Nat → ClassId) (sa : Nat → Nat) (ws : va_W) (k h kl v ka ar n : Nat) (mc : Int32) (vs : List Value) (g : Nat → Option Nat) (hk : ws[k]? = some (h, .inr (0, [.int (mc), .ref ar, .int (nI n)]))) (hv : ws[kl]? = some (v, .inr (1, vs))) (hne : k ≠ kl) (hka : ws[ka]? = some (ar, .inl (ct 2, 10, .inr (.inr (.inr (.inr (g))))))) (hn : n < 10) (h0 : 0 < n) (hk3 : k ≠ ka) : jM l yJx4a65c_add_9ea2d (Cond.code yJx4a65c_add_9ea2d cJx4a65c_add_9ea2d 2 (Option.some Jvm.ClassFile.FieldType.boolean) :: GW) (rM 4 0 0 84) D ct sa [.ref h, .ref v] (ws) (dK (some (.int (nI 1))) ((ws.set ka (ar, .inl (ct 2, 10, .inr (.inr (.inr (.inr (va_up g n (some v)))))))).set k (h, .inr (0, [.int (mc + nI 1), .ref ar, .int (nI (n + 1))])))) 0 0 := by
  refine jMX.plain (jBody (own := RJx4a65c) (by decide) rfl rfl (Nat.le_of_ble_eq_true rfl) ?_)
  intro X C E T0
  refine j_lv (lv1 := [(0, .ref _), (1, .ref _)]) rfl ?_
  refine j_aload_n (i := 0) C dJx4a65c_add_9ea2d_0 rfl 0 rfl ?_
  refine j_dup C dJx4a65c_add_9ea2d_1 rfl ?_
  refine j_getS (Cn := RJx4a65c) (T := TJx4a65c) (N := 3) (ci := 0) C iJx4a65c rfl (k) hk 0 (by decide) gw67 gwSF rfl dJx4a65c_add_9ea2d_2 ?_
  refine j_iconst (v := nI 1) C dJx4a65c_add_9ea2d_5 (by decide) ?_
  refine j_iadd C dJx4a65c_add_9ea2d_6 ?_
  refine j_putS (Cn := RJx4a65c) (T := TJx4a65c) (N := 3) (ci := 0) (ws2 := (ws.set k (h, .inr (0, [.int (mc + nI 1), .ref ar, .int (nI n)])))) C iJx4a65c tyJx4a65c tyJx4a65c_ok nmJx4a65c rfl (k) hk 0 (by decide) gw67 gwSF rfl rfl rfl rfl (Nat.le_of_ble_eq_true rfl) rfl dJx4a65c_add_9ea2d_7 ?_
  refine j_aload_n (i := 0) C dJx4a65c_add_9ea2d_10 rfl 0 rfl ?_
  refine j_aload_n (i := 1) C dJx4a65c_add_9ea2d_11 rfl 1 rfl ?_
  refine j_aload_n (i := 0) C dJx4a65c_add_9ea2d_12 rfl 0 rfl ?_
  refine j_get (Cn := RJx4a65c) (T := TJx4a65c) (N := 3) (ci := 0) C iJx4a65c rfl (k) (set_eq hk) 1 (by decide) gw64 rfl rfl dJx4a65c_add_9ea2d_13 ?_
  refine j_aload_n (i := 0) C dJx4a65c_add_9ea2d_16 rfl 0 rfl ?_
  refine j_get (Cn := RJx4a65c) (T := TJx4a65c) (N := 3) (ci := 0) C iJx4a65c rfl (k) (set_eq hk) 2 (by decide) gw65 rfl rfl dJx4a65c_add_9ea2d_17 ?_
  refine j_callV (nargs := 3) (As := [_, _, _]) (Cn := RJx4a65c) C (k) (set_eq hk) rfl rfl gw550 gw552 gw16 gw24 (kJx4a65c_add_72be8_1 l D ct sa _ k h kl v ka ar n (mc + nI 1) vs g (set_eq hk) ((set_ne hne).trans hv) hne ((set_ne hk3).trans hka) hn h0 hk3) gw553 (by decide +kernel) rfl dJx4a65c_add_9ea2d_20 ⟨Nat.le_of_ble_eq_true rfl, Nat.le_of_ble_eq_true rfl⟩ ⟨Nat.le_of_ble_eq_true rfl, Nat.le_of_ble_eq_true rfl⟩ (Nat.le_of_ble_eq_true rfl) (dkv ?_)
  refine j_ws (ws1 := ((ws.set ka (ar, .inl (ct 2, 10, .inr (.inr (.inr (.inr (va_up g n (some v)))))))).set k (h, .inr (0, [.int (mc + nI 1), .ref ar, .int (nI (n + 1))])))) (by rw [List.set_comm _ _ hk3, set_set]) ?_
  refine j_iconst (v := nI 1) C dJx4a65c_add_9ea2d_23 (by decide) ?_
  exact j_ireturn C E (by first | exact nr_b | rfl) dJx4a65c_add_9ea2d_24 (Nat.le_of_ble_eq_true rfl) (Nat.le_of_ble_eq_true rfl) (⟨rfl, rfl⟩)
end
section
/-! the thief's sums, as numbers -/
def cntN (P : Nat → Prop) [DecidablePred P] : Nat → Nat
  | 0 => 0
  | t + 1 => cntN P t + (if P t then 1 else 0)
theorem sum_cnt (P : Nat → Prop) [DecidablePred P] : ∀ t, sumF (fun b => b2i (P b)) t = nI (cntN P t)
  | 0 => rfl
  | t + 1 => by
    show sumF (fun b => b2i (P b)) t + b2i (P t) = nI (cntN P t + (if P t then 1 else 0))
    rw [sum_cnt P t]
    by_cases h : P t
    · rw [b2i_y h, if_pos h, nI_add]
    · rw [b2i_n h, if_neg h]; exact i_add0 _
theorem cnt_le (P : Nat → Prop) [DecidablePred P] : ∀ t, cntN P t ≤ t
  | 0 => Nat.le_refl 0
  | t + 1 => by
    show cntN P t + (if P t then 1 else 0) ≤ t + 1
    have := cnt_le P t
    by_cases h : P t
    · rw [if_pos h]; omega
    · rw [if_neg h]; omega
theorem cnt_lt (P : Nat → Prop) [DecidablePred P] {a : Nat} (ha : ¬ P a) : ∀ t, a < t → cntN P t < t
  | 0, h => absurd h (Nat.not_lt_zero _)
  | t + 1, h => by
    show cntN P t + (if P t then 1 else 0) < t + 1
    by_cases e : a = t
    · subst e
      rw [if_neg ha]
      have := cnt_le P a
      omega
    · have := cnt_lt P ha t (by omega)
      by_cases h : P t
      · rw [if_pos h]; omega
      · rw [if_neg h]; omega
abbrev pnN (g : Nat → Int32) (a : Nat) : Nat := cntN (fun b => pxC g a b) 6
theorem px_nn (g : Nat → Int32) (a : Nat) : pxN g a 6 = nI (pnN g a) := sum_cnt (fun b => pxC g a b) 6
theorem px_irr (g : Nat → Int32) (a : Nat) : ¬ pxC g a a := by
  rintro (h | ⟨-, h⟩)
  · exact Int32.lt_irrefl h
  · exact Int32.lt_irrefl h
theorem pn_lt (g : Nat → Int32) {a : Nat} (h : a < 6) : pnN g a < 6 := cnt_lt (fun b => pxC g a b) (px_irr g a) 6 h
abbrev lN6 (v r : Nat) : Nat := v / 6 ^ (3 - r) % 6
theorem lN6_lt (v r : Nat) : lN6 v r < 6 := Nat.mod_lt _ (by decide)
def spN (W : Nat → Int32) (v : Nat) : Nat → Nat
  | 0 => 0
  | r + 1 => spN W v r + pnN (wrw W r) (lN6 v r)
theorem sp_le (W : Nat → Int32) (v : Nat) : ∀ t, spN W v t ≤ 5 * t
  | 0 => Nat.le_refl 0
  | t + 1 => by
    show spN W v t + pnN (wrw W t) (lN6 v t) ≤ 5 * (t + 1)
    have := sp_le W v t
    have := pn_lt (wrw W t) (lN6_lt v t)
    omega
theorem sp_up (W : Nat → Int32) (v i : Nat) : ∀ d, spN W v i ≤ spN W v (i + d)
  | 0 => Nat.le_refl _
  | d + 1 => by
    show _ ≤ spN W v (i + d) + _
    have := sp_up W v i d
    omega
abbrev srN (W : Nat → Int32) (v i : Nat) : Nat := spN W v 4 - spN W v i
theorem sr_20 (W : Nat → Int32) (v i : Nat) : srN W v i ≤ 20 := by
  have := sp_le W v 4
  show spN W v 4 - spN W v i ≤ 20
  omega
theorem sr_s (W : Nat → Int32) (v i : Nat) (h : i < 4) : nI (srN W v i) - nI (pnN (wrw W i) (lN6 v i)) = nI (srN W v (i + 1)) := by
  have h1 : spN W v (i + 1) = spN W v i + pnN (wrw W i) (lN6 v i) := rfl
  have h2 : spN W v (i + 1) ≤ spN W v 4 := by
    have := sp_up W v (i + 1) (3 - i)
    rw [show i + 1 + (3 - i) = 4 by omega] at this
    exact this
  rw [pk_sub (by show _ ≤ spN W v 4 - spN W v i; omega)]
  congr 1
  show spN W v 4 - spN W v i - _ = spN W v 4 - spN W v (i + 1)
  omega
def ccN (r : Nat) : Nat → Nat
  | 0 => 0
  | t + 1 => ccN r t + cwN r t
abbrev wwN (r s p : Nat) : Nat := if p ≤ s then cwN r (s - p) else 0
def liN (W : Nat → Int32) (v i : Nat) : Nat → Nat
  | 0 => 0
  | t + 1 => liN W v i t + wwN (3 - i) (srN W v i) (pnN (wrw W i) t)
def lsN (W : Nat → Int32) (v : Nat) : Nat → Nat
  | 0 => 0
  | i + 1 => lsN W v i + liN W v i (lN6 v i)
abbrev txN (W : Nat → Int32) (v : Nat) : Nat := ccN 4 (spN W v 4) + lsN W v 4 + 1
abbrev wwF (r : Nat) (y : Int32) : Int32 := if okI 21 y then nI (cwN r (ix y)) else nI 0
theorem ww_n (r s p : Nat) (hs : s ≤ 20) (hp : p < 6) : wwF r (nI s - nI p) = nI (wwN r s p) := by
  show (if _ then _ else _) = nI (if _ then _ else _)
  by_cases h : p ≤ s
  · rw [if_pos h, pk_sub h, if_pos (okI_n (by omega) (by decide)), show ix (nI (s - p)) = s - p from nI_clamp (by omega)]
  · rw [if_neg h, if_neg (fun z => inlt z.1 (pk_sneg (by omega) (by omega)))]
/-! the table, as it grows -/
def pwN (r s : Nat) : Nat → Nat
  | 0 => 0
  | p + 1 => pwN r s p + (if p ≤ s then cwN r (s - p) else 0)
theorem pw_6 (r s : Nat) : pwN r s 6 = cwN (r + 1) s := by
  show 0 + _ + _ + _ + _ + _ + _ = _ + _ + _ + _ + _ + _
  rw [Nat.zero_add]
theorem pw_s (r s : Nat) : ∀ d, pwN r s (s + 1 + d) = pwN r s (s + 1)
  | 0 => rfl
  | d + 1 => by
    show pwN r s (s + 1 + d) + (if s + 1 + d ≤ s then _ else 0) = _
    rw [if_neg (by omega), pw_s r s d]
    rfl
abbrev mnP (s : Nat) : Nat := if s < 5 then s + 1 else 6
theorem mnP_le (s : Nat) : mnP s ≤ 6 ∧ mnP s ≤ s + 1 ∧ (mnP s = 6 ∨ mnP s = s + 1) := by
  show (if _ then _ else _) ≤ 6 ∧ (if _ then _ else _) ≤ s + 1 ∧ ((if _ then _ else _) = 6 ∨ (if _ then _ else _) = s + 1)
  by_cases h : s < 5
  · rw [if_pos h]; omega
  · rw [if_neg h]; omega
theorem pw_end (r s : Nat) : pwN r s (mnP s) = cwN (r + 1) s := by
  rw [← pw_6]
  rcases (mnP_le s).2.2 with e | e
  · rw [e]
  · rw [e]
    have h6 := (mnP_le s).1
    rw [e] at h6
    have := pw_s r s (5 - s)
    rw [show s + 1 + (5 - s) = 6 by omega] at this
    exact this.symm
theorem cw_0 : ∀ (r s : Nat), 5 * r < s → cwN r s = 0
  | 0, s, h => if_neg (by omega)
  | r + 1, s, h => by
    rw [← pw_6]
    have a : ∀ p, p < 6 → (if p ≤ s then cwN r (s - p) else 0) = 0 := fun p hp => by rw [if_pos (by omega)]; exact cw_0 r (s - p) (by omega)
    show 0 + _ + _ + _ + _ + _ + _ = 0
    rw [a 0 (by decide), a 1 (by decide), a 2 (by decide), a 3 (by decide), a 4 (by decide), a 5 (by decide)]
def tbl (r s : Nat) : Nat → Nat → Int32 := fun i t => if i < r ∨ (i = r ∧ t < s) then nI (cwN i t) else nI 0
def updT (T : Nat → Nat → Int32) (i : Nat) (g : Nat → Int32) : Nat → Nat → Int32 := fun j => if j = i then g else T j
theorem ut_s {T : Nat → Nat → Int32} {i : Nat} {g : Nat → Int32} : updT T i g i = g := if_pos rfl
theorem ut_n {T : Nat → Nat → Int32} {i j : Nat} {g : Nat → Int32} (h : j ≠ i) : updT T i g j = T j := if_neg h
theorem ut_ut {T : Nat → Nat → Int32} {i : Nat} {g g2 : Nat → Int32} : updT (updT T i g) i g2 = updT T i g2 := by
  funext j
  by_cases e : j = i
  · subst e; rw [ut_s, ut_s]
  · rw [ut_n e, ut_n e, ut_n e]
theorem ut_self (T : Nat → Nat → Int32) (i : Nat) : updT T i (T i) = T := by
  funext j
  by_cases e : j = i
  · subst e; rw [ut_s]
  · rw [ut_n e]
abbrev tbP (r s p : Nat) : Nat → Nat → Int32 := updT (tbl r s) r (upd (tbl r s r) s (nI (pwN (r - 1) s p)))
theorem tb_0 : updT (fun _ _ => nI 0) 0 (upd (fun _ => nI 0) 0 (nI 1)) = tbl 1 0 := by
  funext i t
  show (if i = 0 then upd (fun _ => nI 0) 0 (nI 1) else fun _ => nI 0) t = if _ then _ else _
  by_cases e : i = 0
  · subst e
    rw [if_pos rfl, if_pos (Or.inl (by decide))]
    show (if t = 0 then nI 1 else nI 0) = nI (if t = 0 then 1 else 0)
    by_cases h : t = 0
    · rw [if_pos h, if_pos h]
    · rw [if_neg h, if_neg h]
  · rw [if_neg e, if_neg (by omega)]
theorem tb_p0 (r s : Nat) : tbP r s 0 = tbl r s := by
  show updT (tbl r s) r (upd (tbl r s r) s (nI 0)) = _
  rw [upd_self _ _ _ (show tbl r s r s = nI 0 from if_neg (by omega)), ut_self]
theorem tb_pe (r s : Nat) (h : 0 < r) : tbP r s (mnP s) = tbl r (s + 1) := by
  show updT (tbl r s) r (upd (tbl r s r) s (nI (pwN (r - 1) s (mnP s)))) = _
  rw [pw_end, show r - 1 + 1 = r by omega]
  funext i t
  by_cases e : i = r
  · subst e
    rw [ut_s]
    by_cases e2 : t = s
    · subst e2
      rw [pk_us]
      exact (if_pos (Or.inr ⟨rfl, by omega⟩)).symm
    · rw [pk_un e2]
      show (if _ then _ else _) = if _ then _ else _
      by_cases h2 : t < s
      · rw [if_pos (Or.inr ⟨rfl, h2⟩), if_pos (Or.inr ⟨rfl, by omega⟩)]
      · rw [if_neg (by omega), if_neg (by omega)]
  · rw [ut_n e]
    show (if _ then _ else _) = if _ then _ else _
    by_cases h2 : i < r
    · rw [if_pos (Or.inl h2), if_pos (Or.inl h2)]
    · rw [if_neg (by omega), if_neg (by omega)]
theorem tb_r (r : Nat) (h : r ≤ 4) : tbl r 21 = tbl (r + 1) 0 := by
  funext i t
  show (if _ then _ else _) = if _ then _ else _
  by_cases e : i = r
  · subst e
    rw [if_pos (show i < i + 1 ∨ _ from Or.inl (by omega))]
    by_cases h2 : t < 21
    · rw [if_pos (Or.inr ⟨rfl, h2⟩)]
    · rw [if_neg (by omega), cw_0 i t (by omega)]
  · by_cases h2 : i < r
    · rw [if_pos (Or.inl h2), if_pos (Or.inl (by omega))]
    · rw [if_neg (by omega), if_neg (by omega)]
theorem tb_ps (r s p : Nat) (h : p ≤ s) : updT (tbP r s p) r (upd (tbP r s p r) s (nI (pwN (r - 1) s p) + nI (cwN (r - 1) (s - p)))) = tbP r s (p + 1) := by
  show updT (updT _ _ _) _ (upd (updT _ _ _ r) _ _) = updT _ _ (upd _ _ (nI (pwN (r - 1) s p + (if p ≤ s then cwN (r - 1) (s - p) else 0))))
  rw [ut_ut, ut_s, upd_upd, if_pos h, nI_add]
theorem tb_v (r s p : Nat) : tbP r s p r s = nI (pwN (r - 1) s p) := by
  show updT _ _ _ r s = _
  rw [ut_s, pk_us]
theorem tb_pr (r s p i t : Nat) (h : i < r) : tbP r s p i t = nI (cwN i t) := by
  show updT _ _ _ i t = _
  rw [ut_n (by omega)]
  exact if_pos (Or.inl h)
theorem tb_fin : ∀ i, i < 5 → tbl 5 0 i = fun t => nI (cwN i t) := fun i h => by
  funext t
  exact if_pos (Or.inl h)
abbrev TR (ct : Nat → ClassId) (rw : Nat → Nat) (T : Nat → Nat → Int32) : va_W := (List.range 5).map (fun i => (rw i, .inl (ct 0, 21, .inl (T i))))
theorem TR_at (ct : Nat → ClassId) (rw : Nat → Nat) (T : Nat → Nat → Int32) {i : Nat} (h : i < 5) : (TR ct rw T)[i]? = some (rw i, .inl (ct 0, 21, .inl (T i))) := by
  match i, h with
  | 0, _ => rfl
  | 1, _ => rfl
  | 2, _ => rfl
  | 3, _ => rfl
  | 4, _ => rfl
theorem TR_set (ct : Nat → ClassId) (rw : Nat → Nat) (T : Nat → Nat → Int32) (g : Nat → Int32) {i : Nat} (h : i < 5) : (TR ct rw T).set i (rw i, .inl (ct 0, 21, .inl g)) = TR ct rw (updT T i g) := by
  match i, h with
  | 0, _ => rfl
  | 1, _ => rfl
  | 2, _ => rfl
  | 3, _ => rfl
  | 4, _ => rfl
theorem th_at {A R : va_W} {x y : Nat × va_E} {i : Nat} (h : R[i]? = some y) : (A ++ (x :: R))[A.length + 1 + i]? = some y := by
  rw [List.getElem?_append_right (by omega), show A.length + 1 + i - A.length = i + 1 by omega]
  exact h
theorem th_at0 {A R : va_W} {x : Nat × va_E} : (A ++ (x :: R))[A.length]? = some x := by
  rw [List.getElem?_append_right (by omega), Nat.sub_self]
  rfl
theorem th_set {A R : va_W} {x y : Nat × va_E} {i : Nat} : (A ++ (x :: R)).set (A.length + 1 + i) y = A ++ (x :: R.set i y) := by
  rw [List.set_append_right _ _ (by omega), show A.length + 1 + i - A.length = i + 1 by omega]
  rfl
end
section
set_option maxRecDepth 100000 in
set_option maxHeartbeats 4000000 in
theorem kX2_init (l : Launch) (D : va_G) (ct : Nat → ClassId) (sa : Nat → Nat) (ws : va_W) (k h : Nat) (hk : ws[k]? = some (h, .inr (3, [.null]))) : jM l yX2_init (Cond.code yX2_init cX2_init 4 (Option.none : Option Jvm.ClassFile.FieldType) :: GW) (rM 1 6 110 20) D ct sa [.ref h] (ws) (fun r w => ∃ (tt : Nat) (rw : Nat → Nat), r = none ∧ w = (ws.set k (h, .inr (3, [.ref tt])) ++ ((tt, .inl (ct 3, 5, .inr (.inr (.inr (.inr (fun i => if i < 5 then some (rw i) else none)))))) :: TR ct rw (tbl 5 0)))) 6 110 := by
  refine jMX.plain (jBodyN (own := RX2) (by decide) rfl rfl (Nat.le_of_ble_eq_true rfl) ?_)
  intro X N0 C E T0
  refine j_lv (lv1 := [(0, .ref _)]) rfl ?_
  refine j_aload_n (i := 0) C dX2_init_0 rfl 0 rfl ?_
  refine j_objInit C gw101 gw48 gw49 ⟨Nat.le_of_ble_eq_true rfl, Nat.le_of_ble_eq_true rfl⟩ dX2_init_1 ?_
  refine j_aload_n (i := 0) C dX2_init_4 rfl 0 rfl ?_
  refine j_iconst (v := nI 5) C dX2_init_5 (by decide) ?_
  refine j_bipush (v := nI 21) C dX2_init_6 (by decide) ?_
  refine j_mna C gw102 gw108 (Nat.le_of_ble_eq_true rfl) (Nat.le_of_ble_eq_true rfl) dX2_init_8 (fun tt rw => ?_)
  refine j_ws (ws1 := ws ++ ((tt, .inl (ct 3, 5, .inr (.inr (.inr (.inr (fun i => if i < 5 then some (rw i) else none)))))) :: TR ct rw (fun _ _ => nI 0))) rfl ?_
  refine j_putF (Cn := RX2) (T := TX2) (N := 1) (ci := 3) (ws2 := (ws.set k (h, .inr (3, [.ref tt])) ++ ((tt, .inl (ct 3, 5, .inr (.inr (.inr (.inr (fun i => if i < 5 then some (rw i) else none)))))) :: TR ct rw (fun _ _ => nI 0)))) C N0 iX2 tyX2 tyX2_ok nmX2 rfl (k) (app_at hk) 0 (by decide) gw104 rfl rfl rfl rfl rfl rfl (Nat.le_of_ble_eq_true rfl) (app_set hk) dX2_init_12 ?_
  refine j_aload_n (i := 0) C dX2_init_15 rfl 0 rfl ?_
  refine j_get (Cn := RX2) (T := TX2) (N := 1) (ci := 3) C iX2 rfl (k) (app_at (set_eq hk)) 0 (by decide) gw104 rfl rfl dX2_init_16 ?_
  refine j_iconst (v := nI 0) C dX2_init_19 (by decide) ?_
  refine j_aald C ((ws.set k (h, .inr (3, [.ref tt]))).length) 3 th_at0 rfl rfl (0) rfl (by decide) (by decide) (if_pos (by decide)) dX2_init_20 ?_
  refine j_iconst (v := nI 0) C dX2_init_21 (by decide) ?_
  refine j_iconst (v := nI 1) C dX2_init_22 (by decide) ?_
  refine j_iast (ws2 := (ws.set k (h, .inr (3, [.ref tt])) ++ ((tt, .inl (ct 3, 5, .inr (.inr (.inr (.inr (fun i => if i < 5 then some (rw i) else none)))))) :: TR ct rw (tbl 1 0)))) C ((ws.set k (h, .inr (3, [.ref tt]))).length + 1 + (0)) (th_at (TR_at ct rw _ (i := 0) (by decide))) (0) rfl (by decide) (by decide) (by rw [th_set, TR_set _ _ _ _ (by decide), tb_0]) dX2_init_23 ?_
  refine j_iconst (v := nI 1) C dX2_init_24 (by decide) ?_
  refine j_istore_n (lv' := [(1, .int _), (0, .ref _)]) C dX2_init_25 rfl (by decide) rfl ?_
  have L26 : ∀ (d i : Nat) (x1 : Int32) (w : va_W), i + d = 4 → x1 = nI (i + 1) → w = (ws.set k (h, .inr (3, [.ref tt])) ++ ((tt, .inl (ct 3, 5, .inr (.inr (.inr (.inr (fun i => if i < 5 then some (rw i) else none)))))) :: TR ct rw (tbl (i + 1) 0))) → J X (w) (0 + 6) (0 + 110) 26 [(0, .ref h), (1, .int x1)] [] := by
    intro d
    induction d with
    | zero =>
      intro i x1 w hd e_x1 e_w 
      subst e_x1
      subst e_w
      have hi9 : i = 4 := by omega
      subst hi9
      refine j_iload_n (i := 1) C dX2_init_26 rfl 1 rfl ?_
      refine j_iconst (v := nI 4) C dX2_init_27 (by decide) ?_
      refine j_icmp_gt C 93 dX2_init_28 (by decide) (fun c28 => ?_) (fun c28 => by first | exact absurd c28 (by decide) | exact absurd c28 (nI_ge (by omega) (by omega)) | exact absurd (nI_le (by omega) (by omega)) c28 | exact absurd c28 (nI_nlt (by omega) (by omega)) | exact absurd (nI_lt (by omega) (by omega)) c28 | exact absurd c28 (nI_nle0 (by omega) (by omega)))
      exact j_return C E dX2_init_93 (Nat.le_of_ble_eq_true rfl) (Nat.le_of_ble_eq_true rfl) (⟨tt, rw, rfl, rfl⟩)
    | succ d ih =>
      intro i x1 w hd e_x1 e_w 
      subst e_x1
      subst e_w
      refine j_iload_n (i := 1) C dX2_init_26 rfl 1 rfl ?_
      refine j_iconst (v := nI 4) C dX2_init_27 (by decide) ?_
      refine j_icmp_gt C 93 dX2_init_28 (by decide) (fun c28 => by first | exact absurd c28 (by decide) | exact absurd c28 (nI_ge (by omega) (by omega)) | exact absurd (nI_le (by omega) (by omega)) c28 | exact absurd c28 (nI_nlt (by omega) (by omega)) | exact absurd (nI_lt (by omega) (by omega)) c28 | exact absurd c28 (nI_nle0 (by omega) (by omega))) (fun c28 => ?_)
      refine j_iconst (v := nI 0) C dX2_init_31 (by decide) ?_
      refine j_istore_n (lv' := [(2, .int _), (0, .ref _), (1, .int _)]) C dX2_init_32 rfl (by decide) rfl ?_
      have L33 : ∀ (d t : Nat) (x2 : Int32) (w : va_W), t + d = 21 → x2 = nI t → w = (ws.set k (h, .inr (3, [.ref tt])) ++ ((tt, .inl (ct 3, 5, .inr (.inr (.inr (.inr (fun i => if i < 5 then some (rw i) else none)))))) :: TR ct rw (tbl (i + 1) t))) → J X (w) (0 + 6) (0 + 110) 33 [(0, .ref h), (1, .int (nI (i + 1))), (2, .int x2)] [] := by
        intro d
        induction d with
        | zero =>
          intro t x2 w hd e_x2 e_w 
          subst e_x2
          subst e_w
          have ht : t = 21 := by omega
          subst ht
          refine j_iload_n (i := 2) C dX2_init_33 rfl 2 rfl ?_
          refine j_bipush (v := nI 20) C dX2_init_34 (by decide) ?_
          refine j_icmp_gt C 87 dX2_init_36 (by decide) (fun c36 => ?_) (fun c36 => by first | exact absurd c36 (by decide) | exact absurd c36 (nI_ge (by omega) (by omega)) | exact absurd (nI_le (by omega) (by omega)) c36 | exact absurd c36 (nI_nlt (by omega) (by omega)) | exact absurd (nI_lt (by omega) (by omega)) c36 | exact absurd c36 (nI_nle0 (by omega) (by omega)))
          refine j_iinc (z := 1) (lv' := [(1, .int _), (0, .ref _), (2, .int _)]) C dX2_init_87 rfl rfl (by decide) rfl ?_
          refine j_goto C 26 dX2_init_90 (by decide) ?_
          exact j_lvs [1, 0] rfl (ih (i + 1) _ _ (by omega) (nI_1 (i + 1)) (by rw [tb_r _ (by omega)]))
        | succ d ih =>
          intro t x2 w hd e_x2 e_w 
          subst e_x2
          subst e_w
          refine j_iload_n (i := 2) C dX2_init_33 rfl 2 rfl ?_
          refine j_bipush (v := nI 20) C dX2_init_34 (by decide) ?_
          refine j_icmp_gt C 87 dX2_init_36 (by decide) (fun c36 => by first | exact absurd c36 (by decide) | exact absurd c36 (nI_ge (by omega) (by omega)) | exact absurd (nI_le (by omega) (by omega)) c36 | exact absurd c36 (nI_nlt (by omega) (by omega)) | exact absurd (nI_lt (by omega) (by omega)) c36 | exact absurd c36 (nI_nle0 (by omega) (by omega))) (fun c36 => ?_)
          refine j_iconst (v := nI 0) C dX2_init_39 (by decide) ?_
          refine j_istore_n (lv' := [(3, .int _), (0, .ref _), (1, .int _), (2, .int _)]) C dX2_init_40 rfl (by decide) rfl ?_
          have L41 : ∀ (d p : Nat) (x3 : Int32) (w : va_W), p + d = mnP t → x3 = nI p → w = (ws.set k (h, .inr (3, [.ref tt])) ++ ((tt, .inl (ct 3, 5, .inr (.inr (.inr (.inr (fun i => if i < 5 then some (rw i) else none)))))) :: TR ct rw (tbP (i + 1) t p))) → J X (w) (0 + 6) (0 + 110) 41 [(0, .ref h), (1, .int (nI (i + 1))), (2, .int (nI t)), (3, .int x3)] [] := by
            intro d
            induction d with
            | zero =>
              intro p x3 w hd e_x3 e_w 
              subst e_x3
              subst e_w
              have hm := mnP_le t
              have hp : p = mnP t := by omega
              rw [hp, tb_pe _ _ (Nat.succ_pos i)]
              have hm2 : mnP t ≤ 6 := hm.1
              refine j_iload_n (i := 3) C dX2_init_41 rfl 3 rfl ?_
              refine j_bipush (v := nI 6) C dX2_init_42 (by decide) ?_
              refine j_icmp_ge C 81 dX2_init_44 (by decide) (fun c44 => ?_) (fun c44 => ?_)
              · refine j_iinc (z := 2) (lv' := [(2, .int _), (0, .ref _), (1, .int _), (3, .int _)]) C dX2_init_81 rfl rfl (by decide) rfl ?_
                refine j_goto C 33 dX2_init_84 (by decide) ?_
                exact j_lvs [1, 2, 0] rfl (ih (t + 1) _ _ (by omega) (nI_1 t) (rfl))
              · refine j_iload_n (i := 3) C dX2_init_47 rfl 3 rfl ?_
                refine j_iload_n (i := 2) C dX2_init_48 rfl 2 rfl ?_
                refine j_icmp_gt C 81 dX2_init_49 (by decide) (fun c49 => ?_) (fun c49 => by first | exact absurd (nI_lt (by omega) (by omega)) c49 | (exfalso; rcases hm.2.2 with e | e <;> first | exact c44 (nI_le (by omega) (by omega)) | exact c49 (nI_lt (by omega) (by omega))))
                refine j_iinc (z := 2) (lv' := [(2, .int _), (0, .ref _), (1, .int _), (3, .int _)]) C dX2_init_81 rfl rfl (by decide) rfl ?_
                refine j_goto C 33 dX2_init_84 (by decide) ?_
                exact j_lvs [1, 2, 0] rfl (ih (t + 1) _ _ (by omega) (nI_1 t) (rfl))
            | succ d ih =>
              intro p x3 w hd e_x3 e_w 
              subst e_x3
              subst e_w
              have hm := mnP_le t
              refine j_iload_n (i := 3) C dX2_init_41 rfl 3 rfl ?_
              refine j_bipush (v := nI 6) C dX2_init_42 (by decide) ?_
              refine j_icmp_ge C 81 dX2_init_44 (by decide) (fun c44 => by first | exact absurd c44 (by decide) | exact absurd c44 (nI_ge (by omega) (by omega)) | exact absurd (nI_le (by omega) (by omega)) c44) (fun c44 => ?_)
              refine j_iload_n (i := 3) C dX2_init_47 rfl 3 rfl ?_
              refine j_iload_n (i := 2) C dX2_init_48 rfl 2 rfl ?_
              refine j_icmp_gt C 81 dX2_init_49 (by decide) (fun c49 => by first | exact absurd c49 (nI_nlt (by omega) (by omega))) (fun c49 => ?_)
              refine j_aload_n (i := 0) C dX2_init_52 rfl 0 rfl ?_
              refine j_get (Cn := RX2) (T := TX2) (N := 1) (ci := 3) C iX2 rfl (k) (app_at (set_eq hk)) 0 (by decide) gw104 rfl rfl dX2_init_53 ?_
              refine j_iload_n (i := 1) C dX2_init_56 rfl 1 rfl ?_
              refine j_aald C ((ws.set k (h, .inr (3, [.ref tt]))).length) 3 th_at0 rfl rfl (i + 1) rfl (by omega) (by decide) (if_pos (by omega)) dX2_init_57 ?_
              refine j_iload_n (i := 2) C dX2_init_58 rfl 2 rfl ?_
              refine j_dup2 C dX2_init_59 rfl rfl ?_
              refine j_iald C ((ws.set k (h, .inr (3, [.ref tt]))).length + 1 + (i + 1)) (th_at (TR_at ct rw _ (i := i + 1) (by omega))) (t) rfl (by omega) (by decide) dX2_init_60 ?_
              refine j_aload_n (i := 0) C dX2_init_61 rfl 0 rfl ?_
              refine j_get (Cn := RX2) (T := TX2) (N := 1) (ci := 3) C iX2 rfl (k) (app_at (set_eq hk)) 0 (by decide) gw104 rfl rfl dX2_init_62 ?_
              refine j_iload_n (i := 1) C dX2_init_65 rfl 1 rfl ?_
              refine j_iconst (v := nI 1) C dX2_init_66 (by decide) ?_
              refine j_isub C dX2_init_67 ?_
              refine j_st (st1 := .int (nI i) :: _) (by rw [← nI_add]; exact congrArg (fun z => Value.int z :: _) (Int32.add_sub_cancel _ _)) ?_
              refine j_aald C ((ws.set k (h, .inr (3, [.ref tt]))).length) 3 th_at0 rfl rfl (i) rfl (by omega) (by decide) (if_pos (by omega)) dX2_init_68 ?_
              refine j_iload_n (i := 2) C dX2_init_69 rfl 2 rfl ?_
              refine j_iload_n (i := 3) C dX2_init_70 rfl 3 rfl ?_
              refine j_isub C dX2_init_71 ?_
              refine j_st (st1 := .int (nI (t - p)) :: _) (by rw [pk_sub (by omega)]) ?_
              refine j_iald C ((ws.set k (h, .inr (3, [.ref tt]))).length + 1 + (i)) (th_at (TR_at ct rw _ (i := i) (by omega))) (t - p) rfl (by omega) (by decide) dX2_init_72 ?_
              refine j_iadd C dX2_init_73 ?_
              refine j_iast (ws2 := (ws.set k (h, .inr (3, [.ref tt])) ++ ((tt, .inl (ct 3, 5, .inr (.inr (.inr (.inr (fun i => if i < 5 then some (rw i) else none)))))) :: TR ct rw (tbP (i + 1) t (p + 1))))) C ((ws.set k (h, .inr (3, [.ref tt]))).length + 1 + (i + 1)) (th_at (TR_at ct rw _ (i := i + 1) (by omega))) (t) rfl (by omega) (by decide) (by rw [th_set, TR_set _ _ _ _ (by omega), tb_v, tb_pr _ _ _ _ _ (Nat.lt_succ_self i)]; exact congrArg (fun T => _ ++ (_ :: TR ct rw T)) (tb_ps (i + 1) t p (by omega))) dX2_init_74 ?_
              refine j_iinc (z := 3) (lv' := [(3, .int _), (0, .ref _), (1, .int _), (2, .int _)]) C dX2_init_75 rfl rfl (by decide) rfl ?_
              refine j_goto C 41 dX2_init_78 (by decide) ?_
              exact j_lvs [1, 2, 3, 0] rfl (ih (p + 1) _ _ (by omega) (nI_1 p) (rfl))
          exact j_lvs [1, 2, 3, 0] rfl (L41 (mnP t) (0) _ _ (by omega) (rfl) (by rw [tb_p0]))
      exact j_lvs [1, 2, 0] rfl (L33 (21) (0) _ _ (by omega) (rfl) (rfl))
  exact j_lvs [1, 0] rfl (L26 (4) (0) _ _ (by omega) (rfl) (rfl))
set_option maxRecDepth 100000 in
set_option maxHeartbeats 4000000 in
theorem kX2_wordsWith (l : Launch) (D : va_G) (ct : Nat → ClassId) (sa : Nat → Nat) (ws : va_W) (kt ht tt : Nat) (rw : Nat → Nat) (x y : Int32) (r : Nat) (hT : Tk ct ws kt ht tt rw (fun i s => nI (cwN i s))) (hx : x = nI r) (hr : r < 5) : jM l yX2_wordsWith (Cond.code yX2_wordsWith cX2_wordsWith 3 (Option.some Jvm.ClassFile.FieldType.int) :: GW) (rM 0 0 0 0) D ct sa [.ref ht, .int x, .int y] (ws) (dK (some (.int (wwF r y))) ws) 0 0 := by
  refine jMX.plain (jBody (own := RX2) (by decide) rfl rfl (Nat.le_of_ble_eq_true rfl) ?_)
  intro X C E T0
  refine j_lv (lv1 := [(0, .ref _), (1, .int _), (2, .int _)]) rfl ?_
  subst hx
  refine j_iload_n (i := 1) C dX2_wordsWith_0 rfl 1 rfl ?_
  refine j_if_lt C 19 dX2_wordsWith_1 (by decide) (fun c1 => by exact absurd c1 (nI_pos (by omega))) (fun c1 => ?_)
  refine j_iload_n (i := 1) C dX2_wordsWith_4 rfl 1 rfl ?_
  refine j_iconst (v := nI 4) C dX2_wordsWith_5 (by decide) ?_
  refine j_icmp_gt C 19 dX2_wordsWith_6 (by decide) (fun c6 => by exact absurd c6 (nI_nlt (by omega) (by omega))) (fun c6 => ?_)
  refine j_iload_n (i := 2) C dX2_wordsWith_9 rfl 2 rfl ?_
  refine j_if_lt C 19 dX2_wordsWith_10 (by decide) (fun c10 => ?_) (fun c10 => ?_)
  · refine j_iconst (v := nI 0) C dX2_wordsWith_19 (by decide) ?_
    exact j_ireturn C E rfl dX2_wordsWith_20 (Nat.le_of_ble_eq_true rfl) (Nat.le_of_ble_eq_true rfl) (⟨congrArg (fun z => some (Value.int z)) (by first | exact (if_neg (fun z => inlt z.1 c10)).symm | exact (if_neg (fun z => c16 ((in_ok (M := 20) (by decide)).mpr z).2)).symm), rfl⟩)
  · refine j_iload_n (i := 2) C dX2_wordsWith_13 rfl 2 rfl ?_
    refine j_bipush (v := nI 20) C dX2_wordsWith_14 (by decide) ?_
    refine j_icmp_le C 21 dX2_wordsWith_16 (by decide) (fun c16 => ?_) (fun c16 => ?_)
    · have hs : okI 21 y := (in_ok (M := 20) (by decide)).mp ⟨ile_of c10, c16⟩
      obtain ⟨hs1, hs2⟩ := okI_ix hs (by decide)
      refine j_aload_n (i := 0) C dX2_wordsWith_21 rfl 0 rfl ?_
      refine j_get (Cn := RX2) (T := TX2) (N := 1) (ci := 3) C iX2 rfl (kt) hT.1 0 (by decide) gw104 rfl rfl dX2_wordsWith_22 ?_
      refine j_iload_n (i := 1) C dX2_wordsWith_25 rfl 1 rfl ?_
      refine j_aald C (kt + 1) 3 hT.2.1 rfl rfl (r) rfl (by omega) (by decide) (if_pos (by omega)) dX2_wordsWith_26 ?_
      refine j_iload_n (i := 2) C dX2_wordsWith_27 rfl 2 rfl ?_
      refine j_iald C (kt + 2 + r) (hT.2.2 r hr) (ix y) hs2 hs1 (by decide) dX2_wordsWith_28 ?_
      exact j_ireturn C E rfl dX2_wordsWith_29 (Nat.le_of_ble_eq_true rfl) (Nat.le_of_ble_eq_true rfl) (⟨congrArg (fun z => some (Value.int z)) ((if_pos hs).symm), rfl⟩)
    · refine j_iconst (v := nI 0) C dX2_wordsWith_19 (by decide) ?_
      exact j_ireturn C E rfl dX2_wordsWith_20 (Nat.le_of_ble_eq_true rfl) (Nat.le_of_ble_eq_true rfl) (⟨congrArg (fun z => some (Value.int z)) (by first | exact (if_neg (fun z => inlt z.1 c10)).symm | exact (if_neg (fun z => c16 ((in_ok (M := 20) (by decide)).mpr z).2)).symm), rfl⟩)
set_option maxRecDepth 100000 in
set_option maxHeartbeats 4000000 in
theorem kX2_sumOfPlaces (l : Launch) (D : va_G) (ct : Nat → ClassId) (sa : Nat → Nat) (ws : va_W) (k h a b : Nat) (lt wr : Nat → Int32) (w rk op lo : Int32) (x : Int32) (v : Nat) (hk : Lk ct ws k h a b lt wr w rk op lo) (hx : x = nI v) (hv : v < 1296) : jM l yX2_sumOfPlaces (Cond.code yX2_sumOfPlaces cX2_sumOfPlaces 4 (Option.some Jvm.ClassFile.FieldType.int) :: GW) (rM 3 0 0 68) D ct sa [.ref h, .int x] (ws) (dK (some (.int (nI (spN wr v 4)))) ws) 0 0 := by
  refine jMX.plain (jBody (own := RX2) (by decide) rfl rfl (Nat.le_of_ble_eq_true rfl) ?_)
  intro X C E T0
  refine j_lv (lv1 := [(0, .ref _), (1, .int _)]) rfl ?_
  subst hx
  refine j_iconst (v := nI 0) C dX2_sumOfPlaces_0 (by decide) ?_
  refine j_istore_n (lv' := [(2, .int _), (0, .ref _), (1, .int _)]) C dX2_sumOfPlaces_1 rfl (by decide) rfl ?_
  refine j_iconst (v := nI 0) C dX2_sumOfPlaces_2 (by decide) ?_
  refine j_istore_n (lv' := [(3, .int _), (2, .int _), (0, .ref _), (1, .int _)]) C dX2_sumOfPlaces_3 rfl (by decide) rfl ?_
  have L4 : ∀ (d i : Nat) (x2 : Int32) (x3 : Int32), i + d = 4 → x2 = nI (spN wr v i) → x3 = nI i → J X (ws) (0) (0) 4 [(0, .ref h), (1, .int (nI v)), (2, .int x2), (3, .int x3)] [] := by
    intro d
    induction d with
    | zero =>
      intro i x2 x3 hd e_x2 e_x3 
      subst e_x2
      subst e_x3
      have hi9 : i = 4 := by omega
      subst hi9
      refine j_iload_n (i := 3) C dX2_sumOfPlaces_4 rfl 3 rfl ?_
      refine j_iconst (v := nI 4) C dX2_sumOfPlaces_5 (by decide) ?_
      refine j_icmp_ge C 28 dX2_sumOfPlaces_6 (by decide) (fun c6 => ?_) (fun c6 => by first | exact absurd c6 (by decide) | exact absurd c6 (nI_ge (by omega) (by omega)) | exact absurd (nI_le (by omega) (by omega)) c6 | exact absurd c6 (nI_nlt (by omega) (by omega)) | exact absurd (nI_lt (by omega) (by omega)) c6 | exact absurd c6 (nI_nle0 (by omega) (by omega)))
      refine j_iload_n (i := 2) C dX2_sumOfPlaces_28 rfl 2 rfl ?_
      exact j_ireturn C E rfl dX2_sumOfPlaces_29 (Nat.le_of_ble_eq_true rfl) (Nat.le_of_ble_eq_true rfl) (⟨rfl, rfl⟩)
    | succ d ih =>
      intro i x2 x3 hd e_x2 e_x3 
      subst e_x2
      subst e_x3
      refine j_iload_n (i := 3) C dX2_sumOfPlaces_4 rfl 3 rfl ?_
      refine j_iconst (v := nI 4) C dX2_sumOfPlaces_5 (by decide) ?_
      refine j_icmp_ge C 28 dX2_sumOfPlaces_6 (by decide) (fun c6 => by first | exact absurd c6 (by decide) | exact absurd c6 (nI_ge (by omega) (by omega)) | exact absurd (nI_le (by omega) (by omega)) c6 | exact absurd c6 (nI_nlt (by omega) (by omega)) | exact absurd (nI_lt (by omega) (by omega)) c6 | exact absurd c6 (nI_nle0 (by omega) (by omega))) (fun c6 => ?_)
      refine j_iload_n (i := 2) C dX2_sumOfPlaces_9 rfl 2 rfl ?_
      refine j_aload_n (i := 0) C dX2_sumOfPlaces_10 rfl 0 rfl ?_
      refine j_iload_n (i := 3) C dX2_sumOfPlaces_11 rfl 3 rfl ?_
      refine j_iload_n (i := 1) C dX2_sumOfPlaces_12 rfl 1 rfl ?_
      refine j_iload_n (i := 3) C dX2_sumOfPlaces_13 rfl 3 rfl ?_
      refine j_callSN (nargs := 2) (As := [_, _]) C nw391 gw392 gw21 (kX3_letterOf l D ct sa _ _ _ i rfl (by omega)) gw393 (by decide +kernel) rfl dX2_sumOfPlaces_14 ⟨Nat.le_of_ble_eq_true rfl, Nat.le_of_ble_eq_true rfl⟩ ⟨Nat.le_of_ble_eq_true rfl, Nat.le_of_ble_eq_true rfl⟩ (Nat.le_of_ble_eq_true rfl) (dki ?_)
      refine j_st (st1 := .int (nI (lN6 v i)) :: _) (by rw [lt_n (by omega)]) ?_
      refine j_callV (nargs := 2) (As := [_, _]) (Cn := RX0) C (k) hk.1 rfl rfl gw394 gw395 gw396 gw27 (kX0_placeInOrder l D ct sa _ k h a b lt wr w rk op lo _ _ i (lN6 v i) hk rfl rfl (by omega) (lN6_lt v i)) gw397 (by decide +kernel) rfl dX2_sumOfPlaces_17 ⟨Nat.le_of_ble_eq_true rfl, Nat.le_of_ble_eq_true rfl⟩ ⟨Nat.le_of_ble_eq_true rfl, Nat.le_of_ble_eq_true rfl⟩ (Nat.le_of_ble_eq_true rfl) (dki ?_)
      refine j_iadd C dX2_sumOfPlaces_20 ?_
      refine j_istore_n (lv' := [(2, .int _), (0, .ref _), (1, .int _), (3, .int _)]) C dX2_sumOfPlaces_21 rfl (by decide) rfl ?_
      refine j_iinc (z := 3) (lv' := [(3, .int _), (2, .int _), (0, .ref _), (1, .int _)]) C dX2_sumOfPlaces_22 rfl rfl (by decide) rfl ?_
      refine j_goto C 4 dX2_sumOfPlaces_25 (by decide) ?_
      exact j_lvs [2, 3, 1, 0] rfl (ih (i + 1) _ _ (by omega) (by rw [px_nn]; exact nI_add _ _) (nI_1 i))
  exact j_lvs [2, 3, 1, 0] rfl (L4 (4) (0) _ _ (by omega) (rfl) (rfl))
set_option maxRecDepth 100000 in
set_option maxHeartbeats 4000000 in
theorem kX2_lesserWordsOfSum (l : Launch) (D : va_G) (ct : Nat → ClassId) (sa : Nat → Nat) (ws : va_W) (kt ht tt : Nat) (rw : Nat → Nat) (k h a b : Nat) (lt wr : Nat → Int32) (w rk op lo : Int32) (x y : Int32) (v : Nat) (hT : Tk ct ws kt ht tt rw (fun i s => nI (cwN i s))) (hk : Lk ct ws k h a b lt wr w rk op lo) (hx : x = nI v) (hv : v < 1296) (hy : y = nI (spN wr v 4)) : jM l yX2_lesserWordsOfSum (Cond.code yX2_lesserWordsOfSum cX2_lesserWordsOfSum 10 (Option.some Jvm.ClassFile.FieldType.int) :: GW) (rM 3 0 0 68) D ct sa [.ref ht, .ref h, .int x, .int y] (ws) (dK (some (.int (nI (lsN wr v 4)))) ws) 0 0 := by
  refine jMX.plain (jBody (own := RX2) (by decide) rfl rfl (Nat.le_of_ble_eq_true rfl) ?_)
  intro X C E T0
  refine j_lv (lv1 := [(0, .ref _), (1, .ref _), (2, .int _), (3, .int _)]) rfl ?_
  subst hx
  subst hy
  refine j_iconst (v := nI 0) C dX2_lesserWordsOfSum_0 (by decide) ?_
  refine j_istore (lv' := [(4, .int _), (0, .ref _), (1, .ref _), (2, .int _), (3, .int _)]) C dX2_lesserWordsOfSum_1 (by decide) rfl ?_
  refine j_iload_n (i := 3) C dX2_lesserWordsOfSum_3 rfl 4 rfl ?_
  refine j_istore (lv' := [(5, .int _), (4, .int _), (0, .ref _), (1, .ref _), (2, .int _), (3, .int _)]) C dX2_lesserWordsOfSum_4 (by decide) rfl ?_
  refine j_iconst (v := nI 0) C dX2_lesserWordsOfSum_6 (by decide) ?_
  refine j_istore (lv' := [(6, .int _), (5, .int _), (4, .int _), (0, .ref _), (1, .ref _), (2, .int _), (3, .int _)]) C dX2_lesserWordsOfSum_7 (by decide) rfl ?_
  have L9 : ∀ (d i : Nat) (x4 : Int32) (x5 : Int32) (x6 : Int32), i + d = 4 → x4 = nI (lsN wr v i) → x5 = nI (srN wr v i) → x6 = nI i → J X (ws) (0) (0) 9 [(0, .ref ht), (1, .ref h), (2, .int (nI v)), (4, .int x4), (5, .int x5), (6, .int x6)] [] := by
    intro d
    induction d with
    | zero =>
      intro i x4 x5 x6 hd e_x4 e_x5 e_x6 
      subst e_x4
      subst e_x5
      subst e_x6
      have hi9 : i = 4 := by omega
      subst hi9
      refine j_iload C dX2_lesserWordsOfSum_9 5 rfl ?_
      refine j_iconst (v := nI 4) C dX2_lesserWordsOfSum_11 (by decide) ?_
      refine j_icmp_ge C 86 dX2_lesserWordsOfSum_12 (by decide) (fun c12 => ?_) (fun c12 => by first | exact absurd c12 (by decide) | exact absurd c12 (nI_ge (by omega) (by omega)) | exact absurd (nI_le (by omega) (by omega)) c12 | exact absurd c12 (nI_nlt (by omega) (by omega)) | exact absurd (nI_lt (by omega) (by omega)) c12 | exact absurd c12 (nI_nle0 (by omega) (by omega)))
      refine j_iload C dX2_lesserWordsOfSum_86 3 rfl ?_
      exact j_ireturn C E rfl dX2_lesserWordsOfSum_88 (Nat.le_of_ble_eq_true rfl) (Nat.le_of_ble_eq_true rfl) (⟨rfl, rfl⟩)
    | succ d ih =>
      intro i x4 x5 x6 hd e_x4 e_x5 e_x6 
      subst e_x4
      subst e_x5
      subst e_x6
      have hl6 := lN6_lt v i
      refine j_iload C dX2_lesserWordsOfSum_9 5 rfl ?_
      refine j_iconst (v := nI 4) C dX2_lesserWordsOfSum_11 (by decide) ?_
      refine j_icmp_ge C 86 dX2_lesserWordsOfSum_12 (by decide) (fun c12 => by first | exact absurd c12 (by decide) | exact absurd c12 (nI_ge (by omega) (by omega)) | exact absurd (nI_le (by omega) (by omega)) c12 | exact absurd c12 (nI_nlt (by omega) (by omega)) | exact absurd (nI_lt (by omega) (by omega)) c12 | exact absurd c12 (nI_nle0 (by omega) (by omega))) (fun c12 => ?_)
      refine j_iload_n (i := 2) C dX2_lesserWordsOfSum_15 rfl 2 rfl ?_
      refine j_iload C dX2_lesserWordsOfSum_16 5 rfl ?_
      refine j_callSN (nargs := 2) (As := [_, _]) C nw391 gw392 gw21 (kX3_letterOf l D ct sa _ _ _ i rfl (by omega)) gw393 (by decide +kernel) rfl dX2_lesserWordsOfSum_18 ⟨Nat.le_of_ble_eq_true rfl, Nat.le_of_ble_eq_true rfl⟩ ⟨Nat.le_of_ble_eq_true rfl, Nat.le_of_ble_eq_true rfl⟩ (Nat.le_of_ble_eq_true rfl) (dki ?_)
      refine j_st (st1 := .int (nI (lN6 v i)) :: _) (by rw [lt_n (by omega)]) ?_
      refine j_istore (lv' := [(7, .int _), (0, .ref _), (1, .ref _), (2, .int _), (4, .int _), (5, .int _), (6, .int _)]) C dX2_lesserWordsOfSum_21 (by decide) rfl ?_
      refine j_iconst (v := nI 3) C dX2_lesserWordsOfSum_23 (by decide) ?_
      refine j_iload C dX2_lesserWordsOfSum_24 6 rfl ?_
      refine j_isub C dX2_lesserWordsOfSum_26 ?_
      refine j_st (st1 := .int (nI (3 - i)) :: _) (by rw [← pk_sub (by omega)]) ?_
      refine j_istore (lv' := [(8, .int _), (7, .int _), (0, .ref _), (1, .ref _), (2, .int _), (4, .int _), (5, .int _), (6, .int _)]) C dX2_lesserWordsOfSum_27 (by decide) rfl ?_
      refine j_iconst (v := nI 0) C dX2_lesserWordsOfSum_29 (by decide) ?_
      refine j_istore (lv' := [(9, .int _), (8, .int _), (7, .int _), (0, .ref _), (1, .ref _), (2, .int _), (4, .int _), (5, .int _), (6, .int _)]) C dX2_lesserWordsOfSum_30 (by decide) rfl ?_
      have L32 : ∀ (d t : Nat) (x4 : Int32) (x9 : Int32), t + d = lN6 v i → x4 = nI (lsN wr v i + liN wr v i t) → x9 = nI t → J X (ws) (0) (0) 32 [(0, .ref ht), (1, .ref h), (2, .int (nI v)), (4, .int x4), (5, .int (nI (srN wr v i))), (6, .int (nI i)), (7, .int (nI (lN6 v i))), (8, .int (nI (3 - i))), (9, .int x9)] [] := by
        intro d
        induction d with
        | zero =>
          intro t x4 x9 hd e_x4 e_x9 
          subst e_x4
          subst e_x9
          have ht9 : t = lN6 v i := by omega
          subst ht9
          refine j_iload C dX2_lesserWordsOfSum_32 8 rfl ?_
          refine j_iload C dX2_lesserWordsOfSum_34 6 rfl ?_
          refine j_icmp_ge C 67 dX2_lesserWordsOfSum_36 (by decide) (fun c36 => ?_) (fun c36 => by first | exact absurd c36 (by decide) | exact absurd c36 (nI_ge (by omega) (by omega)) | exact absurd (nI_le (by omega) (by omega)) c36 | exact absurd c36 (nI_nlt (by omega) (by omega)) | exact absurd (nI_lt (by omega) (by omega)) c36 | exact absurd c36 (nI_nle0 (by omega) (by omega)))
          refine j_iload C dX2_lesserWordsOfSum_67 4 rfl ?_
          refine j_aload_n (i := 1) C dX2_lesserWordsOfSum_69 rfl 1 rfl ?_
          refine j_iload C dX2_lesserWordsOfSum_70 5 rfl ?_
          refine j_iload C dX2_lesserWordsOfSum_72 6 rfl ?_
          refine j_callV (nargs := 2) (As := [_, _]) (Cn := RX0) C (k) hk.1 rfl rfl gw394 gw395 gw396 gw27 (kX0_placeInOrder l D ct sa _ k h a b lt wr w rk op lo _ _ i (lN6 v i) hk rfl rfl (by omega) hl6) gw397 (by decide +kernel) rfl dX2_lesserWordsOfSum_74 ⟨Nat.le_of_ble_eq_true rfl, Nat.le_of_ble_eq_true rfl⟩ ⟨Nat.le_of_ble_eq_true rfl, Nat.le_of_ble_eq_true rfl⟩ (Nat.le_of_ble_eq_true rfl) (dki ?_)
          refine j_isub C dX2_lesserWordsOfSum_77 ?_
          refine j_istore (lv' := [(5, .int _), (0, .ref _), (1, .ref _), (2, .int _), (4, .int _), (6, .int _), (7, .int _), (8, .int _), (9, .int _)]) C dX2_lesserWordsOfSum_78 (by decide) rfl ?_
          refine j_iinc (z := 5) (lv' := [(6, .int _), (5, .int _), (0, .ref _), (1, .ref _), (2, .int _), (4, .int _), (7, .int _), (8, .int _), (9, .int _)]) C dX2_lesserWordsOfSum_80 rfl rfl (by decide) rfl ?_
          refine j_goto C 9 dX2_lesserWordsOfSum_83 (by decide) ?_
          exact j_lvs [2, 3, 4, 5, 1, 0] rfl (ih (i + 1) _ _ _ (by omega) (rfl) (by rw [px_nn]; exact sr_s wr v i (by omega)) (nI_1 i))
        | succ d ih =>
          intro t x4 x9 hd e_x4 e_x9 
          subst e_x4
          subst e_x9
          refine j_iload C dX2_lesserWordsOfSum_32 8 rfl ?_
          refine j_iload C dX2_lesserWordsOfSum_34 6 rfl ?_
          refine j_icmp_ge C 67 dX2_lesserWordsOfSum_36 (by decide) (fun c36 => by first | exact absurd c36 (by decide) | exact absurd c36 (nI_ge (by omega) (by omega)) | exact absurd (nI_le (by omega) (by omega)) c36 | exact absurd c36 (nI_nlt (by omega) (by omega)) | exact absurd (nI_lt (by omega) (by omega)) c36 | exact absurd c36 (nI_nle0 (by omega) (by omega))) (fun c36 => ?_)
          refine j_iload C dX2_lesserWordsOfSum_39 3 rfl ?_
          refine j_aload_n (i := 0) C dX2_lesserWordsOfSum_41 rfl 0 rfl ?_
          refine j_iload C dX2_lesserWordsOfSum_42 7 rfl ?_
          refine j_iload C dX2_lesserWordsOfSum_44 4 rfl ?_
          refine j_aload_n (i := 1) C dX2_lesserWordsOfSum_46 rfl 1 rfl ?_
          refine j_iload C dX2_lesserWordsOfSum_47 5 rfl ?_
          refine j_iload C dX2_lesserWordsOfSum_49 8 rfl ?_
          refine j_callV (nargs := 2) (As := [_, _]) (Cn := RX0) C (k) hk.1 rfl rfl gw394 gw395 gw396 gw27 (kX0_placeInOrder l D ct sa _ k h a b lt wr w rk op lo _ _ i t hk rfl rfl (by omega) (by omega)) gw397 (by decide +kernel) rfl dX2_lesserWordsOfSum_51 ⟨Nat.le_of_ble_eq_true rfl, Nat.le_of_ble_eq_true rfl⟩ ⟨Nat.le_of_ble_eq_true rfl, Nat.le_of_ble_eq_true rfl⟩ (Nat.le_of_ble_eq_true rfl) (dki ?_)
          refine j_isub C dX2_lesserWordsOfSum_54 ?_
          refine j_callV (nargs := 2) (As := [_, _]) (Cn := RX2) C (kt) hT.1 rfl rfl gw398 gw400 gw11 gw26 (kX2_wordsWith l D ct sa _ kt ht tt rw _ _ (3 - i) hT rfl (by omega)) gw401 (by decide +kernel) rfl dX2_lesserWordsOfSum_55 ⟨Nat.le_of_ble_eq_true rfl, Nat.le_of_ble_eq_true rfl⟩ ⟨Nat.le_of_ble_eq_true rfl, Nat.le_of_ble_eq_true rfl⟩ (Nat.le_of_ble_eq_true rfl) (dki ?_)
          refine j_iadd C dX2_lesserWordsOfSum_58 ?_
          refine j_istore (lv' := [(4, .int _), (0, .ref _), (1, .ref _), (2, .int _), (5, .int _), (6, .int _), (7, .int _), (8, .int _), (9, .int _)]) C dX2_lesserWordsOfSum_59 (by decide) rfl ?_
          refine j_iinc (z := 8) (lv' := [(9, .int _), (4, .int _), (0, .ref _), (1, .ref _), (2, .int _), (5, .int _), (6, .int _), (7, .int _), (8, .int _)]) C dX2_lesserWordsOfSum_61 rfl rfl (by decide) rfl ?_
          refine j_goto C 32 dX2_lesserWordsOfSum_64 (by decide) ?_
          exact j_lvs [2, 3, 4, 1, 5, 6, 7, 8, 0] rfl (ih (t + 1) _ _ (by omega) (by rw [px_nn, ww_n _ _ _ (sr_20 wr v i) (pn_lt _ (by omega))]; exact (nI_add _ _).trans (congrArg nI (Nat.add_assoc _ _ _))) (nI_1 t))
      exact j_lvs [3, 4, 5, 6, 7, 8, 2, 1, 0] rfl (L32 (lN6 v i) (0) _ _ (by omega) (rfl) (rfl))
  exact j_lvs [3, 4, 5, 2, 1, 0] rfl (L9 (4) (0) _ _ _ (by omega) (rfl) (rfl) (rfl))
set_option maxRecDepth 100000 in
set_option maxHeartbeats 4000000 in
theorem kX2_trialOf (l : Launch) (D : va_G) (ct : Nat → ClassId) (sa : Nat → Nat) (ws : va_W) (kt ht tt : Nat) (rw : Nat → Nat) (k h a b : Nat) (lt wr : Nat → Int32) (w rk op lo : Int32) (x : Int32) (v : Nat) (hT : Tk ct ws kt ht tt rw (fun i s => nI (cwN i s))) (hk : Lk ct ws k h a b lt wr w rk op lo) (hx : x = nI v) (hv : v < 1296) : jM l yX2_trialOf (Cond.code yX2_trialOf cX2_trialOf 6 (Option.some Jvm.ClassFile.FieldType.int) :: GW) (rM 4 0 0 97) D ct sa [.ref ht, .ref h, .int x] (ws) (dK (some (.int (nI (txN wr v)))) ws) 0 0 := by
  refine jMX.plain (jBody (own := RX2) (by decide) rfl rfl (Nat.le_of_ble_eq_true rfl) ?_)
  intro X C E T0
  refine j_lv (lv1 := [(0, .ref _), (1, .ref _), (2, .int _)]) rfl ?_
  subst hx
  refine j_aload_n (i := 1) C dX2_trialOf_0 rfl 1 rfl ?_
  refine j_iload_n (i := 2) C dX2_trialOf_1 rfl 2 rfl ?_
  refine j_callS (nargs := 2) (As := [_, _]) C gw388 gw389 gw26 (kX2_sumOfPlaces l D ct sa _ k h a b lt wr w rk op lo _ v hk rfl hv) gw390 (by decide +kernel) rfl dX2_trialOf_2 ⟨Nat.le_of_ble_eq_true rfl, Nat.le_of_ble_eq_true rfl⟩ ⟨Nat.le_of_ble_eq_true rfl, Nat.le_of_ble_eq_true rfl⟩ (Nat.le_of_ble_eq_true rfl) (dki ?_)
  refine j_istore_n (lv' := [(3, .int _), (0, .ref _), (1, .ref _), (2, .int _)]) C dX2_trialOf_5 rfl (by decide) rfl ?_
  refine j_iconst (v := nI 0) C dX2_trialOf_6 (by decide) ?_
  refine j_istore (lv' := [(4, .int _), (3, .int _), (0, .ref _), (1, .ref _), (2, .int _)]) C dX2_trialOf_7 (by decide) rfl ?_
  refine j_iconst (v := nI 0) C dX2_trialOf_9 (by decide) ?_
  refine j_istore (lv' := [(5, .int _), (4, .int _), (3, .int _), (0, .ref _), (1, .ref _), (2, .int _)]) C dX2_trialOf_10 (by decide) rfl ?_
  have L12 : ∀ (d i : Nat) (x4 : Int32) (x5 : Int32), i + d = spN wr v 4 → x4 = nI (ccN 4 i) → x5 = nI i → J X (ws) (0) (0) 12 [(0, .ref ht), (1, .ref h), (2, .int (nI v)), (3, .int (nI (spN wr v 4))), (4, .int x4), (5, .int x5)] [] := by
    intro d
    induction d with
    | zero =>
      intro i x4 x5 hd e_x4 e_x5 
      subst e_x4
      subst e_x5
      have hi9 : i = spN wr v 4 := by omega
      subst hi9
      have hs20 := sp_le wr v 4
      refine j_iload C dX2_trialOf_12 5 rfl ?_
      refine j_iload_n (i := 3) C dX2_trialOf_14 rfl 3 rfl ?_
      refine j_icmp_ge C 36 dX2_trialOf_15 (by decide) (fun c15 => ?_) (fun c15 => by first | exact absurd c15 (by decide) | exact absurd c15 (nI_ge (by omega) (by omega)) | exact absurd (nI_le (by omega) (by omega)) c15 | exact absurd c15 (nI_nlt (by omega) (by omega)) | exact absurd (nI_lt (by omega) (by omega)) c15 | exact absurd c15 (nI_nle0 (by omega) (by omega)))
      refine j_iload C dX2_trialOf_36 4 rfl ?_
      refine j_aload_n (i := 0) C dX2_trialOf_38 rfl 0 rfl ?_
      refine j_aload_n (i := 1) C dX2_trialOf_39 rfl 1 rfl ?_
      refine j_iload_n (i := 2) C dX2_trialOf_40 rfl 2 rfl ?_
      refine j_iload_n (i := 3) C dX2_trialOf_41 rfl 3 rfl ?_
      refine j_callV (nargs := 3) (As := [_, _, _]) (Cn := RX2) C (kt) hT.1 rfl rfl gw402 gw404 gw12 gw26 (kX2_lesserWordsOfSum l D ct sa _ kt ht tt rw k h a b lt wr w rk op lo _ _ v hT hk rfl hv rfl) gw405 (by decide +kernel) rfl dX2_trialOf_42 ⟨Nat.le_of_ble_eq_true rfl, Nat.le_of_ble_eq_true rfl⟩ ⟨Nat.le_of_ble_eq_true rfl, Nat.le_of_ble_eq_true rfl⟩ (Nat.le_of_ble_eq_true rfl) (dki ?_)
      refine j_iadd C dX2_trialOf_45 ?_
      refine j_iconst (v := nI 1) C dX2_trialOf_46 (by decide) ?_
      refine j_iadd C dX2_trialOf_47 ?_
      exact j_ireturn C E rfl dX2_trialOf_48 (Nat.le_of_ble_eq_true rfl) (Nat.le_of_ble_eq_true rfl) (⟨congrArg (fun z => some (Value.int z)) (by rw [nI_add, nI_add]), rfl⟩)
    | succ d ih =>
      intro i x4 x5 hd e_x4 e_x5 
      subst e_x4
      subst e_x5
      have hs20 := sp_le wr v 4
      refine j_iload C dX2_trialOf_12 5 rfl ?_
      refine j_iload_n (i := 3) C dX2_trialOf_14 rfl 3 rfl ?_
      refine j_icmp_ge C 36 dX2_trialOf_15 (by decide) (fun c15 => by first | exact absurd c15 (by decide) | exact absurd c15 (nI_ge (by omega) (by omega)) | exact absurd (nI_le (by omega) (by omega)) c15 | exact absurd c15 (nI_nlt (by omega) (by omega)) | exact absurd (nI_lt (by omega) (by omega)) c15 | exact absurd c15 (nI_nle0 (by omega) (by omega))) (fun c15 => ?_)
      refine j_iload C dX2_trialOf_18 4 rfl ?_
      refine j_aload_n (i := 0) C dX2_trialOf_20 rfl 0 rfl ?_
      refine j_iconst (v := nI 4) C dX2_trialOf_21 (by decide) ?_
      refine j_iload C dX2_trialOf_22 5 rfl ?_
      refine j_callV (nargs := 2) (As := [_, _]) (Cn := RX2) C (kt) hT.1 rfl rfl gw398 gw400 gw11 gw26 (kX2_wordsWith l D ct sa _ kt ht tt rw _ _ 4 hT rfl (by decide)) gw401 (by decide +kernel) rfl dX2_trialOf_24 ⟨Nat.le_of_ble_eq_true rfl, Nat.le_of_ble_eq_true rfl⟩ ⟨Nat.le_of_ble_eq_true rfl, Nat.le_of_ble_eq_true rfl⟩ (Nat.le_of_ble_eq_true rfl) (dki ?_)
      refine j_iadd C dX2_trialOf_27 ?_
      refine j_istore (lv' := [(4, .int _), (0, .ref _), (1, .ref _), (2, .int _), (3, .int _), (5, .int _)]) C dX2_trialOf_28 (by decide) rfl ?_
      refine j_iinc (z := 5) (lv' := [(5, .int _), (4, .int _), (0, .ref _), (1, .ref _), (2, .int _), (3, .int _)]) C dX2_trialOf_30 rfl rfl (by decide) rfl ?_
      refine j_goto C 12 dX2_trialOf_33 (by decide) ?_
      exact j_lvs [2, 3, 4, 5, 1, 0] rfl (ih (i + 1) _ _ (by omega) (by rw [show wwF 4 (nI i) = nI (cwN 4 i) from (if_pos (okI_n (by omega) (by decide))).trans (by rw [show ix (nI i) = i from nI_clamp (by omega)])]; exact nI_add _ _) (nI_1 i))
  exact j_lvs [3, 4, 5, 2, 1, 0] rfl (L12 (spN wr v 4) (0) _ _ (by omega) (rfl) (rfl))
end
section
/-! the class's world -/
abbrev cut (N : Nat) (f : Nat → Int32) : Nat → Int32 := fun i => if i < N then f i else nI 0
theorem cut_in {N : Nat} {f : Nat → Int32} {i : Nat} (h : i < N) : cut N f i = f i := if_pos h
theorem cut_ext {N : Nat} {f g : Nat → Int32} (h : ∀ i, i < N → f i = g i) : cut N f = cut N g := by
  funext i
  show (if _ then _ else _) = if _ then _ else _
  by_cases e : i < N
  · rw [if_pos e, if_pos e, h i e]
  · rw [if_neg e, if_neg e]
theorem cut_upd {N : Nat} {f : Nat → Int32} {k : Nat} {v : Int32} (hk : k < N) : upd (cut N f) k v = cut N (upd f k v) := by
  funext i
  by_cases e : i = k
  · subst e; rw [pk_us, cut_in hk, pk_us]
  · rw [pk_un e]
    show (if _ then _ else _) = if _ then _ else _
    rw [pk_un e]
/-- a lock: its letters, their wear, the word, the rack, open, lost -/
abbrev LD : Type := (Nat → Int32) × (Nat → Int32) × Int32 × Int32 × Int32 × Int32
abbrev lc (ct : Nat → ClassId) (a b c : Nat) (d : LD) : va_W := [(a, .inr (1, [.ref b, .ref c, .int d.2.2.1, .int d.2.2.2.1, .int d.2.2.2.2.1, .int d.2.2.2.2.2])), (b, .inl (ct 0, 4, .inl d.1)), (c, .inl (ct 0, 24, .inl d.2.1))]
def LX (ct : Nat → ClassId) (ad : Nat → Nat) (dat : Nat → LD) : Nat → va_W
  | 0 => []
  | n + 1 => LX ct ad dat n ++ lc ct (ad (20 + 3 * n)) (ad (21 + 3 * n)) (ad (22 + 3 * n)) (dat n)
theorem LX_len (ct : Nat → ClassId) (ad : Nat → Nat) (dat : Nat → LD) : ∀ n, (LX ct ad dat n).length = 3 * n
  | 0 => rfl
  | n + 1 => by
    show (LX ct ad dat n ++ _).length = _
    rw [List.length_append, LX_len ct ad dat n]
    rfl
theorem LX_at (ct : Nat → ClassId) (ad : Nat → Nat) (dat : Nat → LD) {j i : Nat} (hi : i < 3) : ∀ n, j < n → (LX ct ad dat n)[3 * j + i]? = (lc ct (ad (20 + 3 * j)) (ad (21 + 3 * j)) (ad (22 + 3 * j)) (dat j))[i]?
  | 0, h => absurd h (Nat.not_lt_zero _)
  | n + 1, h => by
    show (LX ct ad dat n ++ _)[3 * j + i]? = _
    by_cases e : j = n
    · subst e
      rw [List.getElem?_append_right (by rw [LX_len]; omega), LX_len, show 3 * j + i - 3 * j = i by omega]
    · rw [List.getElem?_append_left (by rw [LX_len]; omega)]
      exact LX_at ct ad dat hi n (by omega)
theorem LX_congr (ct : Nat → ClassId) (ad : Nat → Nat) {dat dat' : Nat → LD} : ∀ n, (∀ i, i < n → dat' i = dat i) → LX ct ad dat n = LX ct ad dat' n
  | 0, _ => rfl
  | n + 1, h => by
    show LX ct ad dat n ++ _ = LX ct ad dat' n ++ _
    rw [LX_congr ct ad n (fun i hi => h i (by omega)), h n (by omega)]
theorem LX_set (ct : Nat → ClassId) (ad : Nat → Nat) {dat dat' : Nat → LD} {j i : Nat} {y : Nat × va_E} (hi : i < 3) (hc : (lc ct (ad (20 + 3 * j)) (ad (21 + 3 * j)) (ad (22 + 3 * j)) (dat j)).set i y = lc ct (ad (20 + 3 * j)) (ad (21 + 3 * j)) (ad (22 + 3 * j)) (dat' j)) : ∀ n, j < n → (∀ i, i < n → i ≠ j → dat' i = dat i) → (LX ct ad dat n).set (3 * j + i) y = LX ct ad dat' n
  | 0, h, _ => absurd h (Nat.not_lt_zero _)
  | n + 1, h, ho => by
    show (LX ct ad dat n ++ _).set (3 * j + i) y = LX ct ad dat' n ++ _
    by_cases e : j = n
    · subst e
      rw [List.set_append_right _ _ (by rw [LX_len]; omega), LX_len, show 3 * j + i - 3 * j = i by omega, hc, LX_congr ct ad j (fun i h2 => ho i (by omega) (by omega))]
    · rw [List.set_append_left _ _ (by rw [LX_len]; omega), LX_set ct ad hi hc n (by omega) (fun i h2 h3 => ho i (by omega) h3), ho n (by omega) (fun z => e z.symm)]
def ldS (σ : St) (j : Nat) : LD := (cut 4 (fun r => sR σ (8 * j + (4 + r))), cut 24 (fun q => sW σ (24 * j + q)), sR σ (8 * j + 0), sR σ (8 * j + 2), sR σ (8 * j + 1), sR σ (8 * j + 3))
abbrev arX (sa ad : Nat → Nat) (n : Nat) : Nat := if n = 0 then sa 0 else ad 2
def FX (ct : Nat → ClassId) (sa ad : Nat → Nat) (mcn : Int32) (φ : LD) (σ : St) : va_W :=
  [(ad 0, .inr (4, [.ref (ad 1), .ref (ad 3), .ref (ad 7), .ref (ad 14), .int (sH σ), .int (sT σ)])),
   (ad 1, .inr (0, [.int mcn, .ref (arX sa ad (sN σ)), .int (nI (sN σ))])),
   (ad 3, .inl (ct 1, 3, .inr (.inr (.inr (.inr (fun i => if i < 3 then some (ad (4 + i)) else none)))))),
   (ad 4, .inr (2, [.int (sK σ (3 * 0 + 0)), .int (sK σ (3 * 0 + 1)), .int (sK σ (3 * 0 + 2))])),
   (ad 5, .inr (2, [.int (sK σ (3 * 1 + 0)), .int (sK σ (3 * 1 + 1)), .int (sK σ (3 * 1 + 2))])),
   (ad 6, .inr (2, [.int (sK σ (3 * 2 + 0)), .int (sK σ (3 * 2 + 1)), .int (sK σ (3 * 2 + 2))])),
   (ad 7, .inr (3, [.ref (ad 8)])),
   (ad 8, .inl (ct 3, 5, .inr (.inr (.inr (.inr (fun i => if i < 5 then some (ad (9 + i)) else none)))))),
   (ad 9, .inl (ct 0, 21, .inl (fun s => nI (cwN 0 s)))), (ad 10, .inl (ct 0, 21, .inl (fun s => nI (cwN 1 s)))), (ad 11, .inl (ct 0, 21, .inl (fun s => nI (cwN 2 s)))), (ad 12, .inl (ct 0, 21, .inl (fun s => nI (cwN 3 s)))), (ad 13, .inl (ct 0, 21, .inl (fun s => nI (cwN 4 s)))),
   (ad 14, .inr (1, [.ref (ad 15), .ref (ad 16), .int φ.2.2.1, .int φ.2.2.2.1, .int φ.2.2.2.2.1, .int φ.2.2.2.2.2])), (ad 15, .inl (ct 0, 4, .inl φ.1)), (ad 16, .inl (ct 0, 24, .inl φ.2.1))]
def AX (ct : Nat → ClassId) (ad : Nat → Nat) (n : Nat) : va_W := if n = 0 then [] else [(ad 2, .inl (ct 2, 10, .inr (.inr (.inr (.inr (fun i => if i < n then some (ad (20 + 3 * i)) else none))))))]
def WX (ct : Nat → ClassId) (sa ad : Nat → Nat) (mcn : Int32) (φ : LD) (σ : St) : va_W := FX ct sa ad mcn φ σ ++ (LX ct ad (ldS σ) (sN σ) ++ AX ct ad (sN σ))
section WXs
variable {ct : Nat → ClassId} {sa ad : Nat → Nat} {mcn : Int32} {φ : LD} {σ σ' : St} {wr : va_W}
theorem FX_len : (FX ct sa ad mcn φ σ).length = 16 := rfl
theorem wx_r {i : Nat} {y : Nat × va_E} (h : (LX ct ad (ldS σ) (sN σ) ++ AX ct ad (sN σ))[i]? = some y) : (WX ct sa ad mcn φ σ ++ wr)[16 + i]? = some y := by
  refine app_at ?_
  show (FX ct sa ad mcn φ σ ++ _)[16 + i]? = _
  rw [List.getElem?_append_right (by rw [FX_len]; omega), FX_len, show 16 + i - 16 = i by omega]
  exact h
theorem wx_c {j i : Nat} {y : Nat × va_E} (hj : j < sN σ) (hi : i < 3) (h : (lc ct (ad (20 + 3 * j)) (ad (21 + 3 * j)) (ad (22 + 3 * j)) (ldS σ j))[i]? = some y) : (WX ct sa ad mcn φ σ ++ wr)[16 + (3 * j + i)]? = some y := by
  refine wx_r ?_
  rw [List.getElem?_append_left (by rw [LX_len]; omega), LX_at ct ad (ldS σ) hi _ hj]
  exact h
theorem wx_lk {j : Nat} (hj : j < sN σ) : Lk ct (WX ct sa ad mcn φ σ ++ wr) (16 + 3 * j) (ad (20 + 3 * j)) (ad (21 + 3 * j)) (ad (22 + 3 * j)) (ldS σ j).1 (ldS σ j).2.1 (ldS σ j).2.2.1 (ldS σ j).2.2.2.1 (ldS σ j).2.2.2.2.1 (ldS σ j).2.2.2.2.2 := ⟨wx_c hj (i := 0) (by decide) rfl, wx_c hj (i := 1) (by decide) rfl, wx_c hj (i := 2) (by decide) rfl⟩
theorem wx_fl : Lk ct (WX ct sa ad mcn φ σ ++ wr) 13 (ad 14) (ad 15) (ad 16) φ.1 φ.2.1 φ.2.2.1 φ.2.2.2.1 φ.2.2.2.2.1 φ.2.2.2.2.2 := ⟨rfl, rfl, rfl⟩
theorem wx_tk : Tk ct (WX ct sa ad mcn φ σ ++ wr) 6 (ad 7) (ad 8) (fun i => ad (9 + i)) (fun i s => nI (cwN i s)) := by
  refine ⟨rfl, rfl, fun i hi => ?_⟩
  match i, hi with
  | 0, _ => rfl
  | 1, _ => rfl
  | 2, _ => rfl
  | 3, _ => rfl
  | 4, _ => rfl
theorem wx_ar (hn : 0 < sN σ) : (WX ct sa ad mcn φ σ ++ wr)[16 + 3 * sN σ]? = some (ad 2, .inl (ct 2, 10, .inr (.inr (.inr (.inr (fun i => if i < sN σ then some (ad (20 + 3 * i)) else none)))))) := by
  refine wx_r ?_
  rw [List.getElem?_append_right (by rw [LX_len]; omega), LX_len, Nat.sub_self]
  show (if _ then _ else _ : va_W)[0]? = _
  rw [if_neg (by omega)]
  rfl
theorem wx_rk {r : Nat} (hr : r < 3) : (WX ct sa ad mcn φ σ ++ wr)[3 + r]? = some (ad (4 + r), .inr (2, [.int (sK σ (3 * r + 0)), .int (sK σ (3 * r + 1)), .int (sK σ (3 * r + 2))])) := by
  match r, hr with
  | 0, _ => rfl
  | 1, _ => rfl
  | 2, _ => rfl
theorem wx_set {j i : Nat} {y : Nat × va_E} (hj : j < sN σ) (hi : i < 3) (hF : FX ct sa ad mcn φ σ' = FX ct sa ad mcn φ σ) (hn : sN σ' = sN σ) (ho : ∀ i, i < sN σ → i ≠ j → ldS σ' i = ldS σ i) (hc : (lc ct (ad (20 + 3 * j)) (ad (21 + 3 * j)) (ad (22 + 3 * j)) (ldS σ j)).set i y = lc ct (ad (20 + 3 * j)) (ad (21 + 3 * j)) (ad (22 + 3 * j)) (ldS σ' j)) : (WX ct sa ad mcn φ σ ++ wr).set (16 + (3 * j + i)) y = WX ct sa ad mcn φ σ' ++ wr := by
  have e1 := LX_set ct ad hi hc (sN σ) hj ho
  have hl : (16 + (3 * j + i)) < (WX ct sa ad mcn φ σ).length := by
    show _ < (FX ct sa ad mcn φ σ ++ (LX ct ad (ldS σ) (sN σ) ++ AX ct ad (sN σ))).length
    rw [List.length_append, List.length_append, FX_len, LX_len]
    omega
  rw [List.set_append_left _ _ hl]
  congr 1
  show (FX ct sa ad mcn φ σ ++ (LX ct ad (ldS σ) (sN σ) ++ AX ct ad (sN σ))).set _ _ = FX ct sa ad mcn φ σ' ++ (LX ct ad (ldS σ') (sN σ') ++ AX ct ad (sN σ'))
  rw [List.set_append_right _ _ (by rw [FX_len]; omega), FX_len, show 16 + (3 * j + i) - 16 = 3 * j + i by omega, List.set_append_left _ _ (by rw [LX_len]; omega), e1, hF, hn]
/-! what an entry of the state is to the locks -/
theorem ld_o {j i c : Nat} {v : Int32} (h : i ≠ j) (hc : c < 8) : ldS (uR σ (upd (sR σ) (8 * j + c) v)) i = ldS σ i := by
  have n1 : ∀ d, d < 8 → upd (sR σ) (8 * j + c) v (8 * i + d) = sR σ (8 * i + d) := fun d hd => pk_un (by omega)
  show (cut 4 (fun r => upd (sR σ) (8 * j + c) v (8 * i + (4 + r))), _, upd (sR σ) (8 * j + c) v (8 * i + 0), upd (sR σ) (8 * j + c) v (8 * i + 2), upd (sR σ) (8 * j + c) v (8 * i + 1), upd (sR σ) (8 * j + c) v (8 * i + 3)) = _
  rw [n1 0 (by decide), n1 1 (by decide), n1 2 (by decide), n1 3 (by decide), cut_ext (fun r hr => n1 (4 + r) (by omega))]
  rfl
theorem ld_h {j c : Nat} {v : Int32} (hc : c < 4) : ldS (uR σ (upd (sR σ) (8 * j + c) v)) j = ((ldS σ j).1, (ldS σ j).2.1, if c = 0 then v else sR σ (8 * j + 0), if c = 2 then v else sR σ (8 * j + 2), if c = 1 then v else sR σ (8 * j + 1), if c = 3 then v else sR σ (8 * j + 3)) := by
  have n1 : ∀ d, upd (sR σ) (8 * j + c) v (8 * j + d) = if c = d then v else sR σ (8 * j + d) := fun d => by
    by_cases e : c = d
    · subst e; rw [pk_us, if_pos rfl]
    · rw [pk_un (by omega), if_neg e]
  show (cut 4 (fun r => upd (sR σ) (8 * j + c) v (8 * j + (4 + r))), _, upd (sR σ) (8 * j + c) v (8 * j + 0), upd (sR σ) (8 * j + c) v (8 * j + 2), upd (sR σ) (8 * j + c) v (8 * j + 1), upd (sR σ) (8 * j + c) v (8 * j + 3)) = _
  rw [n1 0, n1 1, n1 2, n1 3, cut_ext (g := fun r => sR σ (8 * j + (4 + r))) (fun r hr => pk_un (by omega))]
  rfl
theorem ld_l {j r : Nat} {v : Int32} (hr : r < 4) : ldS (uR σ (upd (sR σ) (8 * j + (4 + r)) v)) j = (upd (ldS σ j).1 r v, (ldS σ j).2) := by
  have n1 : ∀ d, d < 4 → upd (sR σ) (8 * j + (4 + r)) v (8 * j + d) = sR σ (8 * j + d) := fun d hd => pk_un (by omega)
  show (cut 4 (fun q => upd (sR σ) (8 * j + (4 + r)) v (8 * j + (4 + q))), _, upd (sR σ) (8 * j + (4 + r)) v (8 * j + 0), upd (sR σ) (8 * j + (4 + r)) v (8 * j + 2), upd (sR σ) (8 * j + (4 + r)) v (8 * j + 1), upd (sR σ) (8 * j + (4 + r)) v (8 * j + 3)) = (upd (cut 4 _) r v, _)
  rw [n1 0 (by decide), n1 1 (by decide), n1 2 (by decide), n1 3 (by decide), cut_upd hr, cut_ext (g := upd (fun q => sR σ (8 * j + (4 + q))) r v) (fun q hq => by
    by_cases e : q = r
    · subst e; rw [pk_us, pk_us]
    · rw [pk_un e, pk_un (by omega)])]
  rfl
theorem ld_wo {j i q : Nat} {v : Int32} (h : i ≠ j) (hq : q < 24) : ldS (uW σ (upd (sW σ) (24 * j + q) v)) i = ldS σ i := by
  show (_, cut 24 (fun t => upd (sW σ) (24 * j + q) v (24 * i + t)), _) = _
  rw [cut_ext (g := fun t => sW σ (24 * i + t)) (fun t ht => pk_un (by omega))]
  rfl
theorem ld_w {j q : Nat} {v : Int32} (hq : q < 24) : ldS (uW σ (upd (sW σ) (24 * j + q) v)) j = ((ldS σ j).1, upd (ldS σ j).2.1 q v, (ldS σ j).2.2) := by
  show (_, cut 24 (fun t => upd (sW σ) (24 * j + q) v (24 * j + t)), _) = (_, upd (cut 24 _) q v, _)
  rw [cut_upd hq, cut_ext (N := 24) (f := fun t => upd (sW σ) (24 * j + q) v (24 * j + t)) (g := upd (fun t => sW σ (24 * j + t)) q v) (fun t ht => by
    by_cases e : t = q
    · subst e; rw [pk_us, pk_us]
    · rw [pk_un e, pk_un (by omega)])]
  rfl
end WXs
end
