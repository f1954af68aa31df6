section
-- ===== PART A: goes FIRST, ahead of the names: the tables' words, and 'selects' of the private methods out of them =====
/-- a private method of a class that the tables say can be made, by its rows of tables_1 -/
def lw_okq (q : MethodName × Nat) : Prop := (q.1.cls ≠ "java/lang/invoke/MethodHandle" ∧ q.1.cls ≠ "java/lang/invoke/VarHandle") ∧ Cond.instantiable q.1.cls q.2 ∈ tables_1 ∧ Cond.privateMethod q.1 ∈ tables_1 ∧ Cond.instanceMethod q.1 ∈ tables_1
theorem lw_p0 : lw_okq (⟨"LetterLocks", "lockAt", "(I)LLetterLocks$Lock;"⟩, 6) := ⟨⟨by decide +kernel, by decide +kernel⟩, List.mem_of_getElem? (i := 23) (by decide +kernel), List.mem_of_getElem? (i := 142) (by decide +kernel), List.mem_of_getElem? (i := 143) (by decide +kernel)⟩
theorem lw_p1 : lw_okq (⟨"java/lang/Throwable", "fillInStackTrace", "(I)Ljava/lang/Throwable;"⟩, 6) := ⟨⟨by decide +kernel, by decide +kernel⟩, List.mem_of_getElem? (i := 188) (by decide +kernel), List.mem_of_getElem? (i := 186) (by decide +kernel), List.mem_of_getElem? (i := 187) (by decide +kernel)⟩
theorem lw_p2 : lw_okq (⟨"LetterLocks$Lock", "mostWorn", "(I)I"⟩, 6) := ⟨⟨by decide +kernel, by decide +kernel⟩, List.mem_of_getElem? (i := 90) (by decide +kernel), List.mem_of_getElem? (i := 292) (by decide +kernel), List.mem_of_getElem? (i := 293) (by decide +kernel)⟩
theorem lw_p3 : lw_okq (⟨"LetterLocks", "rackAt", "(I)LLetterLocks$Rack;"⟩, 6) := ⟨⟨by decide +kernel, by decide +kernel⟩, List.mem_of_getElem? (i := 23) (by decide +kernel), List.mem_of_getElem? (i := 311) (by decide +kernel), List.mem_of_getElem? (i := 312) (by decide +kernel)⟩
theorem lw_p4 : lw_okq (⟨"LetterLocks", "isRack", "(I)Z"⟩, 6) := ⟨⟨by decide +kernel, by decide +kernel⟩, List.mem_of_getElem? (i := 23) (by decide +kernel), List.mem_of_getElem? (i := 315) (by decide +kernel), List.mem_of_getElem? (i := 316) (by decide +kernel)⟩
theorem lw_p5 : lw_okq (⟨"LetterLocks", "locksIn", "(I)I"⟩, 6) := ⟨⟨by decide +kernel, by decide +kernel⟩, List.mem_of_getElem? (i := 23) (by decide +kernel), List.mem_of_getElem? (i := 320) (by decide +kernel), List.mem_of_getElem? (i := 321) (by decide +kernel)⟩
theorem lw_p6 : lw_okq (⟨"LetterLocks", "openLocksIn", "(I)I"⟩, 6) := ⟨⟨by decide +kernel, by decide +kernel⟩, List.mem_of_getElem? (i := 23) (by decide +kernel), List.mem_of_getElem? (i := 328) (by decide +kernel), List.mem_of_getElem? (i := 329) (by decide +kernel)⟩
theorem lw_p7 : lw_okq (⟨"LetterLocks", "openLocks", "()I"⟩, 6) := ⟨⟨by decide +kernel, by decide +kernel⟩, List.mem_of_getElem? (i := 23) (by decide +kernel), List.mem_of_getElem? (i := 336) (by decide +kernel), List.mem_of_getElem? (i := 337) (by decide +kernel)⟩
theorem lw_p8 : lw_okq (⟨"LetterLocks", "lostWords", "()I"⟩, 6) := ⟨⟨by decide +kernel, by decide +kernel⟩, List.mem_of_getElem? (i := 23) (by decide +kernel), List.mem_of_getElem? (i := 340) (by decide +kernel), List.mem_of_getElem? (i := 341) (by decide +kernel)⟩
theorem lw_p9 : lw_okq (⟨"LetterLocks", "allWear", "()I"⟩, 6) := ⟨⟨by decide +kernel, by decide +kernel⟩, List.mem_of_getElem? (i := 23) (by decide +kernel), List.mem_of_getElem? (i := 344) (by decide +kernel), List.mem_of_getElem? (i := 345) (by decide +kernel)⟩
theorem lw_p10 : lw_okq (⟨"LetterLocks", "locksInRacks", "()I"⟩, 6) := ⟨⟨by decide +kernel, by decide +kernel⟩, List.mem_of_getElem? (i := 23) (by decide +kernel), List.mem_of_getElem? (i := 352) (by decide +kernel), List.mem_of_getElem? (i := 353) (by decide +kernel)⟩
theorem lw_p11 : lw_okq (⟨"LetterLocks$Thief", "wordsWith", "(II)I"⟩, 1) := ⟨⟨by decide +kernel, by decide +kernel⟩, List.mem_of_getElem? (i := 77) (by decide +kernel), List.mem_of_getElem? (i := 379) (by decide +kernel), List.mem_of_getElem? (i := 380) (by decide +kernel)⟩
theorem lw_p12 : lw_okq (⟨"LetterLocks$Thief", "lesserWordsOfSum", "(LLetterLocks$Lock;II)I"⟩, 1) := ⟨⟨by decide +kernel, by decide +kernel⟩, List.mem_of_getElem? (i := 77) (by decide +kernel), List.mem_of_getElem? (i := 383) (by decide +kernel), List.mem_of_getElem? (i := 384) (by decide +kernel)⟩
theorem lw_p13 : lw_okq (⟨"LetterLocks", "letHourGoBy", "(LLetterLocks$Lock;I)Z"⟩, 6) := ⟨⟨by decide +kernel, by decide +kernel⟩, List.mem_of_getElem? (i := 23) (by decide +kernel), List.mem_of_getElem? (i := 399) (by decide +kernel), List.mem_of_getElem? (i := 400) (by decide +kernel)⟩
theorem lw_p14 : lw_okq (⟨"LetterLocks$Lock", "wearMore", "(III)V"⟩, 6) := ⟨⟨by decide +kernel, by decide +kernel⟩, List.mem_of_getElem? (i := 90) (by decide +kernel), List.mem_of_getElem? (i := 407) (by decide +kernel), List.mem_of_getElem? (i := 408) (by decide +kernel)⟩
theorem lw_p15 : lw_okq (⟨"LetterLocks", "isInClosedRack", "(LLetterLocks$Lock;I)Z"⟩, 6) := ⟨⟨by decide +kernel, by decide +kernel⟩, List.mem_of_getElem? (i := 23) (by decide +kernel), List.mem_of_getElem? (i := 413) (by decide +kernel), List.mem_of_getElem? (i := 414) (by decide +kernel)⟩
def lw_privs_1 : List (MethodName × Nat) := [(⟨"LetterLocks", "lockAt", "(I)LLetterLocks$Lock;"⟩, 6), (⟨"java/lang/Throwable", "fillInStackTrace", "(I)Ljava/lang/Throwable;"⟩, 6), (⟨"LetterLocks$Lock", "mostWorn", "(I)I"⟩, 6), (⟨"LetterLocks", "rackAt", "(I)LLetterLocks$Rack;"⟩, 6), (⟨"LetterLocks", "isRack", "(I)Z"⟩, 6), (⟨"LetterLocks", "locksIn", "(I)I"⟩, 6), (⟨"LetterLocks", "openLocksIn", "(I)I"⟩, 6), (⟨"LetterLocks", "openLocks", "()I"⟩, 6), (⟨"LetterLocks", "lostWords", "()I"⟩, 6), (⟨"LetterLocks", "allWear", "()I"⟩, 6), (⟨"LetterLocks", "locksInRacks", "()I"⟩, 6), (⟨"LetterLocks$Thief", "wordsWith", "(II)I"⟩, 1), (⟨"LetterLocks$Thief", "lesserWordsOfSum", "(LLetterLocks$Lock;II)I"⟩, 1), (⟨"LetterLocks", "letHourGoBy", "(LLetterLocks$Lock;I)Z"⟩, 6), (⟨"LetterLocks$Lock", "wearMore", "(III)V"⟩, 6), (⟨"LetterLocks", "isInClosedRack", "(LLetterLocks$Lock;I)Z"⟩, 6)]
theorem lw_r1 : ∀ q ∈ lw_privs_1, lw_okq q := List.forall_mem_cons.mpr ⟨lw_p0, List.forall_mem_cons.mpr ⟨lw_p1, List.forall_mem_cons.mpr ⟨lw_p2, List.forall_mem_cons.mpr ⟨lw_p3, List.forall_mem_cons.mpr ⟨lw_p4, List.forall_mem_cons.mpr ⟨lw_p5, List.forall_mem_cons.mpr ⟨lw_p6, List.forall_mem_cons.mpr ⟨lw_p7, List.forall_mem_cons.mpr ⟨lw_p8, List.forall_mem_cons.mpr ⟨lw_p9, List.forall_mem_cons.mpr ⟨lw_p10, List.forall_mem_cons.mpr ⟨lw_p11, List.forall_mem_cons.mpr ⟨lw_p12, List.forall_mem_cons.mpr ⟨lw_p13, List.forall_mem_cons.mpr ⟨lw_p14, List.forall_mem_cons.mpr ⟨lw_p15, fun _ h => absurd h List.not_mem_nil⟩⟩⟩⟩⟩⟩⟩⟩⟩⟩⟩⟩⟩⟩⟩⟩
theorem lw_p16 : lw_okq (⟨"java/util/ArrayList", "add", "(Ljava/lang/Object;[Ljava/lang/Object;I)V"⟩, 3) := ⟨⟨by decide +kernel, by decide +kernel⟩, List.mem_of_getElem? (i := 31) (by decide +kernel), List.mem_of_getElem? (i := 531) (by decide +kernel), List.mem_of_getElem? (i := 532) (by decide +kernel)⟩
theorem lw_p17 : lw_okq (⟨"java/util/ArrayList", "grow", "()[Ljava/lang/Object;"⟩, 3) := ⟨⟨by decide +kernel, by decide +kernel⟩, List.mem_of_getElem? (i := 31) (by decide +kernel), List.mem_of_getElem? (i := 535) (by decide +kernel), List.mem_of_getElem? (i := 536) (by decide +kernel)⟩
theorem lw_p18 : lw_okq (⟨"java/util/ArrayList", "grow", "(I)[Ljava/lang/Object;"⟩, 3) := ⟨⟨by decide +kernel, by decide +kernel⟩, List.mem_of_getElem? (i := 31) (by decide +kernel), List.mem_of_getElem? (i := 539) (by decide +kernel), List.mem_of_getElem? (i := 540) (by decide +kernel)⟩
theorem lw_p19 : lw_okq (⟨"LetterLocks", "takesAnother", "(I)Z"⟩, 6) := ⟨⟨by decide +kernel, by decide +kernel⟩, List.mem_of_getElem? (i := 23) (by decide +kernel), List.mem_of_getElem? (i := 619) (by decide +kernel), List.mem_of_getElem? (i := 620) (by decide +kernel)⟩
def lw_privs_2 : List (MethodName × Nat) := [(⟨"java/util/ArrayList", "add", "(Ljava/lang/Object;[Ljava/lang/Object;I)V"⟩, 3), (⟨"java/util/ArrayList", "grow", "()[Ljava/lang/Object;"⟩, 3), (⟨"java/util/ArrayList", "grow", "(I)[Ljava/lang/Object;"⟩, 3), (⟨"LetterLocks", "takesAnother", "(I)Z"⟩, 6)]
theorem lw_r2 : ∀ q ∈ lw_privs_2, lw_okq q := List.forall_mem_cons.mpr ⟨lw_p16, List.forall_mem_cons.mpr ⟨lw_p17, List.forall_mem_cons.mpr ⟨lw_p18, List.forall_mem_cons.mpr ⟨lw_p19, fun _ h => absurd h List.not_mem_nil⟩⟩⟩⟩
def lw_privs : List (MethodName × Nat) := lw_privs_1 ++ (lw_privs_2)
def lw_tbl : List Cond := k2_sels lw_privs ++ tables_1
theorem lw_privs_ok : ∀ q ∈ lw_privs, lw_okq q := by
  show ∀ q ∈ lw_privs_1 ++ (lw_privs_2), lw_okq q
  exact List.forall_mem_append.mpr ⟨lw_r1, lw_r2⟩
/-- the streams that the claim lets the run draw from -/
abbrev lw_cs : List Choice := [Jvm.Choice.named "NaN.bits"]
theorem lw_bits : nanBits ∈ lw_cs := by first | decide | exact List.mem_cons_self | simp [lw_cs, nanBits]
/-- an array of arrays may be made: the tables' word -/
def va_AOA (ty : FieldType) (U : State) : Prop := (Cond.arrayOver (.array ty)).before #[] U = true
theorem va_AOA.use {ty : FieldType} {A : Array Value} {U : State} (h : va_AOA ty U) : (Cond.arrayOver (.array ty)).before A U = true := h
end
section
/-! ===== BEGIN words of one list among another's, by their places ===== -/
theorem goodIn_r {big : List Cond} (ws : List Cond) (ps : List Nat) (hp : ws = ps.filterMap (fun i => big[i]?)) (h : ws.all goodWord = true) : GoodIn big ws := by
  intro w hw
  have h1 := List.all_eq_true.mp h w hw
  rw [hp] at hw
  obtain ⟨i, -, hi⟩ := List.mem_filterMap.mp hw
  have hm : w ∈ big := by first | exact List.mem_of_getElem? hi | exact List.getElem?_mem hi
  exact ⟨hm, good_of_word h1⟩
theorem goodIn_app {big a b : List Cond} (ha : GoodIn big a) (hb : GoodIn big b) : GoodIn big (a ++ b) := fun w h => (List.mem_append.mp h).elim (ha w) (hb w)
theorem goodIn_ca {big a b : List Cond} {c : Cond} (ha : GoodIn big (c :: a)) (hb : GoodIn big b) : GoodIn big (c :: (a ++ b)) := fun w h => (List.mem_cons.mp h).elim (fun e => ha w (List.mem_cons.mpr (Or.inl e))) (fun h => (List.mem_append.mp h).elim (fun h => ha w (List.mem_cons.mpr (Or.inr h))) (hb w))
theorem goodIn_sub {big ws : List Cond} (hm : ∀ w ∈ ws, w ∈ big) (h : ws.all goodWord = true) : GoodIn big ws := fun w hw => ⟨hm w hw, good_of_word (List.all_eq_true.mp h w hw)⟩
/-! ===== END ===== -/

/-! ===== BEGIN new T[n][m]: the outer array a place, the inner ones among the pooled ===== -/
/-- f, but v at every address of l -/
def vr_up {α : Type} (f : Nat → α) (l : List Nat) (v : α) : Nat → α := fun a => if a ∈ l then v else f a
theorem vr_up_in {α : Type} {f : Nat → α} {l : List Nat} {v : α} {a : Nat} (h : a ∈ l) : vr_up f l v a = v := if_pos h
theorem vr_up_ne {α : Type} {f : Nat → α} {l : List Nat} {v : α} {a : Nat} (h : a ∉ l) : vr_up f l v a = f a := if_neg h
theorem vr_rows {L l : List Nat} {f : Nat → va_E} {e : va_E} (h : ∀ a, a ∈ l → a ∉ L) : va_pl L f ++ l.map (fun a => (a, e)) = va_pl (L ++ l) (vr_up f l e) := by
  unfold va_pl
  rw [List.map_append]
  congr 1
  · apply List.map_congr_left
    intro a ha
    rw [vr_up_ne (fun q => h a q ha)]
  · apply List.map_congr_left
    intro a ha
    rw [vr_up_in ha]
theorem vr_lay {X rows : va_W} {x : Nat × va_E} {pl : va_W} {D : va_G} {cl : List vw_C} {H : Heap} (hP : va_P D cl (((X ++ pl) ++ [x]) ++ rows) H) : va_P D cl ((X ++ [x]) ++ (pl ++ rows)) H := by
  rw [List.append_assoc (X ++ pl)] at hP
  have h := va_P.swap hP
  rw [← List.append_assoc X] at h
  have h2 := va_P.swap h
  rw [List.append_assoc (X ++ [x])] at h2
  exact h2
theorem vr_layD {X rows : va_W} {x : Nat × va_E} {pl : va_W} {A : Nat → Prop} (hD : va_D A (((X ++ pl) ++ [x]) ++ rows)) : va_D A ((X ++ [x]) ++ (pl ++ rows)) := by
  rw [List.append_assoc (X ++ pl)] at hD
  have h := va_D.swap hD
  rw [← List.append_assoc X] at h
  have h2 := va_D.swap h
  rw [List.append_assoc (X ++ [x])] at h2
  exact h2
theorem vr_outer (c : ClassId) (N h0 : Nat) : ∀ i : Nat, Jvm.Free.Multi.outerC c N h0 i = arrV c N (fun j => va_rf (if j < i then some (h0 + 1 + j) else none))
  | 0 => by
    show ({ cls := c, slots := Array.replicate N .null, vm := .none } : Cell) = _
    rw [arrV_new]
    refine congrArg (arrV c N) (funext fun j => ?_)
    simp [va_rf]
  | i + 1 => by
    show (Jvm.Free.Multi.outerC c N h0 i).setSlot i (.ref (h0 + 1 + i)) = _
    rw [vr_outer c N h0 i, arrV_store]
    refine congrArg (arrV c N) (funext fun j => ?_)
    by_cases e : j = i
    · subst e
      simp [updV, va_rf]
    · by_cases h : j < i
      · simp [updV, e, h, Nat.lt_succ_of_lt h]
      · simp [updV, e, h, show ¬ j < i + 1 by omega]
section VGM
variable {p : Program} {l : Launch} {e : Env} {R : Room} {s : State} {m : MethodId} {args : Array Value} {below : List Frame} {meth : Method} {c : Code} {H : Heap} {locs : List Loc} {cells slots : Nat} {Q : State → Prop}
variable {cc : ByteArray} {pc : Nat} {ls : Array Slot} {rest : List Value} {D : va_G} {cl : List vw_C} {A : Nat → Prop} {a : Nat} {tys : List (ClassId × FieldType)} {ws : va_W} {H0 : Heap}
theorem va_mna {X : va_W} {L : List Nat} {f : Nat → va_E} {cc : ByteArray} (hexec : p.tables.exec = Jvm.exec) (hb : c.code = cc) {own : String} {index : Nat} {ty : FieldType} {cy : ClassId} (hown : s.vm.findClass own = some m.cls) (hclink : (Cond.classLink own index ("[" ++ (FieldType.array ty).toString)).before args s = true) (hover : va_AOA ty s) (harr : (Cond.arrayClass ty).before args s = true) (hcy : s.vm.findClass (FieldType.array ty).toString = some cy)
    (hK : va_K D cl tys s) (hP : va_P D cl (X ++ va_pl L f) H) (hD : va_D A (X ++ va_pl L f)) (hS : va_S A H0 H locs) (hA : ∀ q, H0.size ≤ q → A q) {n k : Int32} {N' K' : Nat} {z : vp_A} (hn : ¬ n < 0) (hk : ¬ k < 0) (hN : n.toNatClampNeg = N') (hM : k.toNatClampNeg = K')
    (hb1 : N' * 4 ≤ 536870912) (hb2 : K' * componentBytes ty ≤ 536870912) (hb3 : K' ≤ 536870912) (hdf : fits ty (defaultValue ty) = true) (hdd : (defaultValue ty).isDefault = true) (hcells : cells + (1 + N') ≤ R.cells) (hslots : slots + (N' + N' * K') ≤ R.slots) (hz : ∀ c : ClassId, Jvm.Free.Multi.innerC c K' (defaultValue ty) = vp_cell c z) (hdg : decode cc pc = .ok (.multianewarray index 2, 4))
    (kk : ∀ (q : Nat) (r : Nat → Nat) (cA : ClassId) (H1 : Heap), (∀ i j : Nat, i < N' → j < N' → r i = r j → i = j) → (∀ i : Nat, i < N' → r i ∉ L) → va_K D cl (tys ++ [(cA, .array ty)]) s →
      va_P D cl ((X ++ [(q, .inl (cA, N', .inr (.inr (.inr (.inr (fun i => if i < N' then some (r i) else none))))))]) ++ va_pl (L ++ (List.range N').map r) (vr_up f ((List.range N').map r) (.inl (cy, z)))) H1 → va_D A ((X ++ [(q, .inl (cA, N', .inr (.inr (.inr (.inr (fun i => if i < N' then some (r i) else none))))))]) ++ va_pl (L ++ (List.range N').map r) (vr_up f ((List.range N').map r) (.inl (cy, z)))) → va_S A H0 H1 locs →
      W p l e R s m args below meth c H1 locs (cells + 1 + N') (slots + N' + N' * K') Q (F0 m (pc + 4) ls (.ref q :: rest))) : W p l e R s m args below meth c H locs cells slots Q (F0 m pc ls (.int k :: .int n :: rest)) := by
  subst hN
  subst hM
  intro T hT Xs
  obtain ⟨vm₁, cA, comp, -, fA, fC, hO, -, X', step⟩ := Xs.multianewarray2F hexec hown hclink (va_AOA.use hover) harr (g := F0 m pc ls (.int k :: .int n :: rest)) rfl (by rw [hb]; exact hdg) rfl hn hk hb1 hb2 hb3 hdf hdd hcells hslots
  have ec : some cy = some comp := hcy.symm.trans fC
  cases ec
  generalize hF : Jvm.Free.Multi.fill (T.setVm vm₁) cA cy n.toNatClampNeg k.toNatClampNeg (defaultValue ty) n.toNatClampNeg = F at X' step
  have hTh : (T.setVm vm₁).heap = H := hT
  obtain ⟨f1, f2, -, -⟩ := Jvm.Free.Multi.fill_facts (T.setVm vm₁) cA cy n.toNatClampNeg k.toNatClampNeg (defaultValue ty) n.toNatClampNeg
  rw [hF, hTh] at f1 f2
  have hold : ∀ x : Nat, x < H.size → F.heap[x]? = H[x]? := fun x hx => by
    have := Jvm.Free.Multi.fill_old (T.setVm vm₁) cA cy n.toNatClampNeg k.toNatClampNeg (defaultValue ty) (a := x) (by rw [hTh]; exact hx) n.toNatClampNeg
    rw [hF, hTh] at this
    exact this
  have hrow : ∀ j : Nat, j < n.toNatClampNeg → F.heap[H.size + 1 + j]? = some (vp_cell cy z) := fun j hj => by
    have := Jvm.Free.Multi.fill_inner (T.setVm vm₁) cA cy n.toNatClampNeg k.toNatClampNeg (defaultValue ty) n.toNatClampNeg j hj
    rw [hF, hTh, hz] at this
    exact this
  have hout : Jvm.Free.Multi.outerC cA n.toNatClampNeg H.size n.toNatClampNeg = vp_cell cA (n.toNatClampNeg, .inr (.inr (.inr (.inr (fun i => if i < n.toNatClampNeg then some (H.size + 1 + i) else none))))) := by
    rw [vp_cell_q]
    exact vr_outer cA n.toNatClampNeg H.size n.toNatClampNeg
  rw [hout] at f2
  have hlt : ∀ a, a ∈ L → a < H.size := fun a ha => by
    obtain ⟨k9, hk9⟩ := va_pl_get (X := X) (f := f) ha
    exact (hP k9 _ hk9).lt
  have hnl : ∀ i : Nat, i < n.toNatClampNeg → H.size + 1 + i ∉ L := fun i _ h => by
    have := hlt _ h
    omega
  have hnm : ∀ a, a ∈ (List.range n.toNatClampNeg).map (fun i => H.size + 1 + i) → a ∉ L := fun a ha h => by
    obtain ⟨i, -, rfl⟩ := List.mem_map.mp ha
    have := hlt _ h
    omega
  have hP0 : va_P D cl (X ++ va_pl L f) F.heap := hP.kept (fun k9 x hx => hold x.1 ((hP k9 x hx).lt))
  have hP1 : va_P D cl ((X ++ va_pl L f) ++ [(H.size, .inl (cA, n.toNatClampNeg, .inr (.inr (.inr (.inr (fun i => if i < n.toNatClampNeg then some (H.size + 1 + i) else none))))))]) F.heap := hP0.app (fun k9 x hx => by
    have h0 : k9 < 1 := (List.getElem?_eq_some_iff.mp hx).1
    rw [show k9 = 0 by omega] at hx
    cases hx
    exact f2)
  have hP2 : va_P D cl (((X ++ va_pl L f) ++ [(H.size, .inl (cA, n.toNatClampNeg, .inr (.inr (.inr (.inr (fun i => if i < n.toNatClampNeg then some (H.size + 1 + i) else none))))))]) ++ ((List.range n.toNatClampNeg).map (fun i => H.size + 1 + i)).map (fun a => (a, .inl (cy, z)))) F.heap := hP1.app (fun k9 x hx => by
    obtain ⟨a, ha, rfl⟩ := List.mem_map.mp (List.mem_of_getElem? hx)
    obtain ⟨i, hi, rfl⟩ := List.mem_map.mp ha
    exact hrow i (List.mem_range.mp hi))
  have hD2 : va_D A (((X ++ va_pl L f) ++ [(H.size, .inl (cA, n.toNatClampNeg, .inr (.inr (.inr (.inr (fun i => if i < n.toNatClampNeg then some (H.size + 1 + i) else none))))))]) ++ ((List.range n.toNatClampNeg).map (fun i => H.size + 1 + i)).map (fun a => (a, .inl (cy, z)))) := by
    have hD1 := hD.push (e := .inl (cA, n.toNatClampNeg, .inr (.inr (.inr (.inr (fun i => if i < n.toNatClampNeg then some (H.size + 1 + i) else none)))))) hP rfl (hA _ hS.1)
    generalize hW1 : (X ++ va_pl L f) ++ [(H.size, .inl (cA, n.toNatClampNeg, .inr (.inr (.inr (.inr (fun i => if i < n.toNatClampNeg then some (H.size + 1 + i) else none))))))] = W1 at hD1 hP1 ⊢
    have hle : ∀ (k9 : Nat) (x : Nat × va_E), W1[k9]? = some x → x.1 ≤ H.size := fun k9 x hx => by
      rw [← hW1] at hx
      by_cases hl : k9 < (X ++ va_pl L f).length
      · rw [List.getElem?_append_left hl] at hx
        exact Nat.le_of_lt ((hP k9 x hx).lt)
      · rw [List.getElem?_append_right (by omega)] at hx
        have h0 : k9 - (X ++ va_pl L f).length < 1 := (List.getElem?_eq_some_iff.mp hx).1
        rw [show k9 - (X ++ va_pl L f).length = 0 by omega] at hx
        cases hx
        exact Nat.le_refl _
    have hr : ∀ (k9 : Nat) (x : Nat × va_E), (((List.range n.toNatClampNeg).map (fun i => H.size + 1 + i)).map (fun a => ((a, .inl (cy, z)) : Nat × va_E)))[k9]? = some x → x.1 = H.size + 1 + k9 := fun k9 x hx => by
      rw [List.getElem?_map, List.getElem?_map] at hx
      by_cases h9 : k9 < n.toNatClampNeg
      · rw [List.getElem?_range h9] at hx
        cases hx
        rfl
      · have hn0 : (List.range n.toNatClampNeg)[k9]? = none := List.getElem?_eq_none (by rw [List.length_range]; omega)
        rw [hn0] at hx
        cases hx
    refine ⟨fun i j x y hi hj hxy => ?_, fun k9 x hx => ?_⟩
    · by_cases h1 : i < W1.length <;> by_cases h2 : j < W1.length
      · rw [List.getElem?_append_left h1] at hi
        rw [List.getElem?_append_left h2] at hj
        exact hD1.1 i j x y hi hj hxy
      · rw [List.getElem?_append_left h1] at hi
        rw [List.getElem?_append_right (by omega)] at hj
        have := hle _ _ hi
        have := hr _ _ hj
        omega
      · rw [List.getElem?_append_right (by omega)] at hi
        rw [List.getElem?_append_left h2] at hj
        have := hle _ _ hj
        have := hr _ _ hi
        omega
      · rw [List.getElem?_append_right (by omega)] at hi hj
        have := hr _ _ hi
        have := hr _ _ hj
        omega
    · by_cases h1 : k9 < W1.length
      · rw [List.getElem?_append_left h1] at hx
        exact hD1.2 k9 x hx
      · rw [List.getElem?_append_right (by omega)] at hx
        have := hr _ _ hx
        exact hA _ (by have := hS.1; omega)
  have hAr : ArrOfT s cA (.array ty) := fun N9 z9 => by
    obtain ⟨-, k9, hk9, cm9, hkk9⟩ := (hO 0 0 0).1
    exact ⟨(fun q hq => by cases hq), k9, hk9, cm9, hkk9⟩
  have hK2 : va_K D cl (tys ++ [(cA, .array ty)]) s := ⟨hK.1, fun k9 x hx => by
    by_cases hl : k9 < tys.length
    · rw [List.getElem?_append_left hl] at hx
      exact hK.2 k9 x hx
    · rw [List.getElem?_append_right (by omega)] at hx
      have h0 : k9 - tys.length < 1 := (List.getElem?_eq_some_iff.mp hx).1
      rw [show k9 - tys.length = 0 by omega] at hx
      cases hx
      exact ⟨hAr, fA⟩⟩
  obtain ⟨t, a1, b1⟩ := kk H.size (fun i => H.size + 1 + i) cA F.heap (fun i j _ _ h => by have h9 : H.size + 1 + i = H.size + 1 + j := h; omega) hnl hK2 (by rw [← vr_rows hnm]; exact vr_lay hP2) (by rw [← vr_rows hnm]; exact vr_layD hD2) ⟨by rw [f1]; have := hS.1; omega, fun x h1 h2 => (hold x (Nat.lt_of_lt_of_le h1 hS.1)).trans (hS.2.1 x h1 h2), hS.2.2⟩ F rfl X'
  refine ⟨t, step t ?_, b1⟩
  have e : T.heap.size = H.size := by rw [hT]
  rw [e]
  exact a1
end VGM
/-! ===== END ===== -/

/-! ===== BEGIN exceptions that leave a method, and their catching by the caller (launches without stack traces) ===== -/
section VXA
/-! The laws vx_back, vx_callV, vx_callS, vx_callSW, vx_throw0, vx_throwS follow proofs of the library, with one case more: JvmDerived/Free/Laws.lean (Back.of_free), Shelf42/LK1.lean (callV, callS), Shelf/KitTraced.lean (throwNew0V, throwNewS). -/
/-- where a method has thrown q: the class by its name, the cell, what was written, the world -/
def vx_T (XC : String → State → State → Prop) (st : State) (q : Addr) (t : State) (mc ms : Nat) (free : Addr → Prop) : Prop :=
  ∃ (E : String) (ce : Cell) (L : List Loc), XC E st t ∧ t.heap[q]? = some ce ∧ ce.vm = .none ∧ st.vm.findClass E = some ce.cls ∧ st.WarmedH t.vm ∧ st.sameButNew ({ t with vm := st.vm } : State) L mc ms ∧ ∀ z ∈ L, free z.base
def vx_Q (Qc : Array Value → State → Outcome → State → Prop) (XC : String → State → State → Prop) (mc ms : Nat) (free : Addr → Prop) : Array Value → State → Outcome → State → Prop := fun a st o t =>
  (Qc a st o t ∧ ∃ L, FrameEnd st o t L mc ms ∧ ∀ q ∈ L, free q.base) ∨ ∃ q, o = .threw q ∧ vx_T XC st q t mc ms free
/-- a callee that returns or throws -/
def vx_Met (l : Launch) (y : MethodName) (ws : List Cond) (rm : Room) (Pc : Array Value → State → Prop) (Qc : Array Value → State → Outcome → State → Prop) (XC : String → State → State → Prop) (mc ms : Nat) (free : Addr → Prop) : Prop :=
  MetFree l y (headSpec ws rm) Pc (fun _ _ _ _ _ => True) (vx_Q Qc XC mc ms free)
def vx_Post (XC : String → State → State → Prop) (mc ms : Nat) (free : Addr → Prop) : Pt → Array Value → Addr → Pt → Prop := fun A a q B =>
  ∃ (g : JFrame) (mk : MethodId) (t : State) (L : List Loc) (E : String) (ce : Cell), B.U.heap = t.heap ∧ B.U.vm = t.vm ∧ XC E (A.U.calling g mk a) t ∧ t.heap[q]? = some ce ∧ ce.vm = .none ∧ A.U.vm.findClass E = some ce.cls ∧ B.locs = A.locs ++ L ∧ (∀ z ∈ L, free z.base) ∧ B.cells = A.cells + mc ∧ B.slots = A.slots + ms
def vx_Back (l : Launch) (R : Room) (p : Program) (e : Env) (below : List Frame) (s : State) (sargs : Array Value) (y : MethodName) (len W9 : Nat)
    (Pre : Pt → Array Value → Prop) (Post : Pt → Array Value → Option Value → Pt → Prop) (PostX : Pt → Array Value → Addr → Pt → Prop) : Prop :=
  ∀ (m : MethodId) (meth : Method) (c : Code) (A : Pt) (g : JFrame) (ig : Instr) (mk : MethodId) (a : Array Value),
    Stand p l e R s m sargs below meth c A.U A.locs A.cells A.slots → g.method = m → g.locals.size = c.maxLocals → decode c.code g.pc = .ok (ig, len) →
    2 * g.monitorRoom + (g.stack.map fun v => v.category).sum ≤ W9 → A.U.methodNamed? y = some mk → Pre A a →
    (∃ (v : Option Value) (B : Pt), Stand p l e R s m sargs below meth c B.U B.locs B.cells B.slots ∧ Post A a v B ∧
      Steps p.tables e below (doInvoke e (A.U.setTop g) [] mk a).1 (B.U.setTop { g with pc := g.pc + len, stack := v.toList ++ g.stack })) ∨
    (∃ (q : Addr) (B : Pt), Stand p l e R s m sargs below meth c B.U B.locs B.cells B.slots ∧ PostX A a q B ∧
      Steps p.tables e below (doInvoke e (A.U.setTop g) [] mk a).1 ((B.U.setTop g).pushFrame (.throwing q)))
section Payer
variable {l : Launch} {R : Room} {p : Program} {e : Env} {below : List Frame} {s : State} {sargs : Array Value} {y : MethodName} {len W9 : Nat}
theorem vx_back {ws : List Cond} {rm : Room} {Pc : Array Value → State → Prop} {Qc : Array Value → State → Outcome → State → Prop} {XC : String → State → State → Prop} {mc ms : Nat} {free : Addr → Prop} {bytes : ByteArray} {maxL : Nat} {ret : Option FieldType}
    (hM : vx_Met l y ws rm Pc Qc XC mc ms free) (hblind : FrameBlind Pc) (hrc : rm.cells = mc) (hrs : rm.slots = ms)
    (hframes : rm.frames + 1 ≤ R.frames) (hlocals : W9 + (maxL + 11) + rm.locals ≤ R.locals)
    (hws : ∀ w ∈ ws, ∀ a' U, s.WarmedH U.vm → w.before a' U = true) (hcode : Cond.code y bytes maxL ret ∈ ws) (hinit : ∀ a' U, s.WarmedH U.vm → (Cond.initialized y.cls).before a' U = true) :
    vx_Back l R p e below s sargs y len W9 (PreOf R mc ms Pc) (PostOf Qc mc ms free) (vx_Post XC mc ms free) := by
  intro m meth c A g ig mk a X hg hsize hdg hW hn hp
  have h1 : (headSpec ws rm).pre.before a A.U = true := atoms_intro fun w hw => hws w hw _ _ X.warmed
  have h2 : (Cond.code y bytes maxL ret).before a A.U = true := hws _ hcode _ _ X.warmed
  have h3 : (Cond.initialized y.cls).before a A.U = true := hinit _ _ X.warmed
  have h4 : A.cells + (headSpec ws rm).room.cells ≤ R.cells := by rw [show (headSpec ws rm).room.cells = mc from hrc]; exact hp.1
  have h5 : A.slots + (headSpec ws rm).room.slots ≤ R.slots := by rw [show (headSpec ws rm).room.slots = ms from hrs]; exact hp.2.1
  have hPc : Pc a (A.U.calling g mk a) := hblind _ _ _ _ hp.2.2
  obtain ⟨U, Ls, c0, s0⟩ := A
  dsimp only [Pt.U, Pt.locs, Pt.cells, Pt.slots] at h1 h2 h3 h4 h5 X hn hPc ⊢
  obtain ⟨methY, cY, hmY, hcY, -, hlY, -, -, -, -⟩ := Cond.code_spec hn h2
  obtain ⟨kY, hkY, -⟩ := className_of_methodNamed hn
  have hinitY : kY.init = .initialized := Cond.initialized_spec (findClass_of_methodNamed hn) hkY h3
  have h : At U g.method c below := by rw [hg]; exact X.here
  have hlocals9 : W9 + (maxL + 11) + (headSpec ws rm).room.locals ≤ R.locals := hlocals
  have happ : (headSpec ws rm).appliesLoose y e.platform (U.calling g mk a) = true :=
    Spec.appliesLoose_calling (g := g) h hdg hn hkY hinitY
      (X.room_calling (g := g) (R' := (headSpec ws rm).room) hsize hmY hcY hframes (by rw [hlY]; omega) h4 h5) h1
  obtain ⟨mid, hmid⟩ := h.above
  have hfr : (U.setTop g).frames = (.java g :: mid) ++ below := by rw [State.frames_setTop' g h.top, hmid]; rfl
  obtain ⟨o, s₂, hsteps, -, hend, hq⟩ := Steps.callFree hM p X.admits X.cas X.clock (acts := []) hfr happ hPc trivial
  have hq' : vx_Q Qc XC mc ms free a (U.calling g mk a) o s₂ := hq
  rw [State.frames_setTop' g h.top] at hend
  obtain ⟨g₀, hg0⟩ := Option.isSome_iff_exists.mp h.top
  obtain ⟨r, hr⟩ := State.topJava?_eq_some.mp hg0
  have hr' : (({ U with heap := s₂.heap, slotsUsed := s₂.slotsUsed } : State).setVm s₂.vm).frames = .java g₀ :: r := hr
  rcases hq' with ⟨hqc, L, hfe, hL⟩ | ⟨q, rfl, E, ce, L, hx, hce, hcv, hcl, hW₂, hsm, hL⟩
  · obtain ⟨⟨v, rfl⟩, hW₂, e2, q2, q3, q4, q5, q6⟩ := id hfe
    have e3 : s₂ = ({ (U.calling g mk a).setFrames s₂.frames with heap := s₂.heap, slotsUsed := s₂.slotsUsed } : State).setVm s₂.vm := by
      have : s₂ = ({ s₂ with vm := (U.calling g mk a).vm } : State).setVm s₂.vm := rfl
      rw [e2] at this
      exact this
    obtain ⟨c₂, i₂, len₂, hc₂, hd₂, hf₂⟩ := hend
    have hW' : U.WarmedH s₂.vm := hW₂
    have hcc : c₂ = c := by
      have h1 : s₂.code? g.method = U.code? g.method := by
        rw [State.code?_eq, State.code?_eq, hW'.alike.method?]
      exact Option.some.inj (hc₂.symm.trans (h1.trans h.code))
    subst hcc
    have hlen : len₂ = len := by rw [hdg] at hd₂; cases hd₂; rfl
    subst hlen
    have hs₂ : s₂ = (({ U with heap := s₂.heap, slotsUsed := s₂.slotsUsed } : State).setVm s₂.vm).setTop { g with pc := g.pc + len₂, stack := v.toList ++ g.stack } := by
      refine e3.trans ?_
      rw [hf₂, State.calling_eq h.top, State.setFrames_setFrames, State.setTop_of_frames _ hr', hr]
      rfl
    have hsame : U.sameButNew ({ U with heap := s₂.heap, slotsUsed := s₂.slotsUsed } : State) L mc ms := by
      refine ⟨?_, q2, q3, q4, q5, q6⟩
      obtain ⟨t, ht, -⟩ := State.frames_cons hr
      show ({ U with heap := s₂.heap, slotsUsed := s₂.slotsUsed } : State) = { U.setFrames U.frames with heap := s₂.heap, slotsUsed := s₂.slotsUsed }
      rw [State.setFrames_self ht]
    subst hg
    refine Or.inl ⟨v, ⟨(({ U with heap := s₂.heap, slotsUsed := s₂.slotsUsed } : State).setVm s₂.vm), Ls ++ L, c0 + mc, s0 + ms⟩,
      ⟨X.admits, X.cas, X.clock, X.frames, X.room, X.hears, X.method, X.code, (X.here.setHeapUsed s₂.heap s₂.slotsUsed).setVm hW'.alike, X.tail, State.WarmedH.trans X.warmed hW', X.limits, X.bytes, X.same.trans (hsame.setVm s.vm)⟩,
      ⟨g, mk, s₂, L, rfl, rfl, hqc, rfl, hL, rfl, rfl⟩, ?_⟩
    show Steps p.tables e below _ ((({ U with heap := s₂.heap, slotsUsed := s₂.slotsUsed } : State).setVm s₂.vm).setTop { g with pc := g.pc + len₂, stack := v.toList ++ g.stack })
    rw [← hs₂]
    exact hsteps
  · obtain ⟨e2, q2, q3, q4, q5, q6⟩ := id hsm
    have e3 : s₂ = ({ (U.calling g mk a).setFrames s₂.frames with heap := s₂.heap, slotsUsed := s₂.slotsUsed } : State).setVm s₂.vm := by
      have : s₂ = ({ s₂ with vm := (U.calling g mk a).vm } : State).setVm s₂.vm := rfl
      rw [e2] at this
      exact this
    have hf₂ : s₂.frames = .throwing q :: .java g :: U.frames.tail := hend
    have hW' : U.WarmedH s₂.vm := hW₂
    have hs₂ : s₂ = ((({ U with heap := s₂.heap, slotsUsed := s₂.slotsUsed } : State).setVm s₂.vm).setTop g).pushFrame (.throwing q) := by
      refine e3.trans ?_
      rw [hf₂, State.calling_eq h.top, State.setFrames_setFrames, State.pushFrame, State.frames_setTop _ hr', State.setTop_of_frames _ hr', State.setFrames_setFrames, hr]
      rfl
    have hsame : U.sameButNew ({ U with heap := s₂.heap, slotsUsed := s₂.slotsUsed } : State) L mc ms := by
      refine ⟨?_, q2, q3, q4, q5, q6⟩
      obtain ⟨t, ht, -⟩ := State.frames_cons hr
      show ({ U with heap := s₂.heap, slotsUsed := s₂.slotsUsed } : State) = { U.setFrames U.frames with heap := s₂.heap, slotsUsed := s₂.slotsUsed }
      rw [State.setFrames_self ht]
    subst hg
    refine Or.inr ⟨q, ⟨(({ U with heap := s₂.heap, slotsUsed := s₂.slotsUsed } : State).setVm s₂.vm), Ls ++ L, c0 + mc, s0 + ms⟩,
      ⟨X.admits, X.cas, X.clock, X.frames, X.room, X.hears, X.method, X.code, (X.here.setHeapUsed s₂.heap s₂.slotsUsed).setVm hW'.alike, X.tail, State.WarmedH.trans X.warmed hW', X.limits, X.bytes, X.same.trans (hsame.setVm s.vm)⟩,
      ⟨g, mk, s₂, L, E, ce, rfl, rfl, hx, hce, hcv, hcl, rfl, hL, rfl, rfl⟩, ?_⟩
    show Steps p.tables e below _ (((({ U with heap := s₂.heap, slotsUsed := s₂.slotsUsed } : State).setVm s₂.vm).setTop g).pushFrame (.throwing q))
    rw [← hs₂]
    exact hsteps
end Payer
section Calls
variable {p : Program} {l : Launch} {e : Env} {R : Room} {s : State} {m : MethodId} {args : Array Value} {below : List Frame} {meth : Method} {c : Code} {T : State} {locs : List Loc} {cells slots : Nat}
theorem vx_callV (X : Stand p l e R s m args below meth c T locs cells slots) (hexec : p.tables.exec = Jvm.exec) {own C : String} {index : Nat} {y : MethodName} {bytes : ByteArray} {maxL : Nat} {ret : Option FieldType}
    (hown : s.vm.findClass own = some m.cls) (hlink : (Cond.methodLink own index y).before args s = true) (hinst : (Cond.instanceMethod y).before args s = true) (hsel : (Cond.selects C y y).before args s = true)
    (hcode : (Cond.code y bytes maxL ret).before args s = true) (hy : y.cls ≠ "java/lang/invoke/MethodHandle" ∧ y.cls ≠ "java/lang/invoke/VarHandle")
    {W9 : Nat} {Pre : Pt → Array Value → Prop} {Post : Pt → Array Value → Option Value → Pt → Prop} {PostX : Pt → Array Value → Addr → Pt → Prop} (hK : vx_Back l R p e below s args y 3 W9 Pre Post PostX)
    {b : Addr} {cellB : Cell} (hcell : T.heap[b]? = some cellB) (hobj : cellB.vm.isStatics = false) (hcls : s.vm.findClass C = some cellB.cls)
    {g : JFrame} (hg : g.method = m) (hsize : g.locals.size = c.maxLocals) {argsL rest : List Value} (hlen : ∀ sig, parseMethodDescriptor y.desc = some sig → argsL.length = sig.parameters.length)
    (hstack : g.stack = argsL.reverse ++ .ref b :: rest) (hW : 2 * g.monitorRoom + (rest.map fun v => v.category).sum ≤ W9) (hdg : decode c.code g.pc = .ok (.invokevirtual index, 3))
    (hpre : ∀ vm₁, s.WarmedH vm₁ → Pre ⟨T.setVm vm₁, locs, cells, slots⟩ (Value.ref b :: argsL).toArray) :
    (∃ (v : Option Value) (vm₁ : Vm) (B : Pt), s.WarmedH vm₁ ∧ Stand p l e R s m args below meth c B.U B.locs B.cells B.slots ∧ Post ⟨T.setVm vm₁, locs, cells, slots⟩ (Value.ref b :: argsL).toArray v B ∧
      ∀ target, Steps p.tables e below (B.U.setTop { g with pc := g.pc + 3, stack := v.toList ++ rest }) target → Steps p.tables e below (T.setTop g) target) ∨
    (∃ (q : Addr) (vm₁ : Vm) (B : Pt), s.WarmedH vm₁ ∧ Stand p l e R s m args below meth c B.U B.locs B.cells B.slots ∧ PostX ⟨T.setVm vm₁, locs, cells, slots⟩ (Value.ref b :: argsL).toArray q B ∧
      Steps p.tables e below (T.setTop g) ((B.U.setTop { g with stack := rest }).pushFrame (.throwing q))) := by
  obtain ⟨mk, methM, hnamed, hmethM, hstM, habM⟩ := Cond.instanceMethod_spec hinst
  obtain ⟨methM', cM, hmethM', -, -, -, -, -, -, hsigM⟩ := Cond.code_spec hnamed hcode
  cases hmethM.symm.trans hmethM'
  obtain ⟨c2, r2, m2, q1, q2, q3, q4, kP, hkP, hkPi⟩ := Cond.selects_spec hsel
  cases hcls.symm.trans q1
  cases (State.methodFound?_of_named hnamed hy).symm.trans q2
  cases hnamed.symm.trans q3
  have hselP : selectMethod e.platform s.vm cellB.cls mk = .method mk := by rw [Launch.admits_selectMethod X.admits]; exact q4
  obtain ⟨vm₁, X₁, hstep₁⟩ := X.invokevirtual hexec hown hlink hnamed hmethM hstM hkP hkPi hy (a := b) (cell := cellB) hcell
    (fun z h => by rw [h] at hobj; cases hobj) hselP hmethM habM hkP hkPi (g := g) hg (argsL := argsL) (rest := rest) (hlen _ hsigM) hstack hdg
  rcases hK m meth c ⟨T.setVm vm₁, locs, cells, slots⟩ { g with stack := rest } (.invokevirtual index) mk (Value.ref b :: argsL).toArray X₁ hg hsize hdg hW (X₁.named hnamed) (hpre vm₁ X₁.warmed) with ⟨v, B, X', hpost, hsteps⟩ | ⟨q, B, X', hpost, hsteps⟩
  · exact Or.inl ⟨v, vm₁, B, X₁.warmed, X', hpost, fun target h => hstep₁ _ fun acts => by rw [doInvoke_state]; exact hsteps.trans h⟩
  · exact Or.inr ⟨q, vm₁, B, X₁.warmed, X', hpost, hstep₁ _ fun acts => by rw [doInvoke_state]; exact hsteps⟩
theorem vx_callS (X : Stand p l e R s m args below meth c T locs cells slots) (hexec : p.tables.exec = Jvm.exec) {own : String} {index : Nat} {y : MethodName} {bytes : ByteArray} {maxL : Nat} {ret : Option FieldType}
    (hown : s.vm.findClass own = some m.cls) (hlink : (Cond.methodLink own index y).before args s = true) (hstat : (Cond.static y).before args s = true) (hinit : (Cond.initialized y.cls).before args s = true)
    (hcode : (Cond.code y bytes maxL ret).before args s = true) (hy : y.cls ≠ "java/lang/invoke/MethodHandle" ∧ y.cls ≠ "java/lang/invoke/VarHandle")
    {W9 : Nat} {Pre : Pt → Array Value → Prop} {Post : Pt → Array Value → Option Value → Pt → Prop} {PostX : Pt → Array Value → Addr → Pt → Prop} (hK : vx_Back l R p e below s args y 3 W9 Pre Post PostX)
    {g : JFrame} (hg : g.method = m) (hsize : g.locals.size = c.maxLocals) {argsL rest : List Value} (hlen : ∀ sig, parseMethodDescriptor y.desc = some sig → argsL.length = sig.parameters.length)
    (hstack : g.stack = argsL.reverse ++ rest) (hW : 2 * g.monitorRoom + (rest.map fun v => v.category).sum ≤ W9) (hdg : decode c.code g.pc = .ok (.invokestatic index, 3))
    (hpre : ∀ vm₁, s.WarmedH vm₁ → Pre ⟨T.setVm vm₁, locs, cells, slots⟩ argsL.toArray) :
    (∃ (v : Option Value) (vm₁ : Vm) (B : Pt), s.WarmedH vm₁ ∧ Stand p l e R s m args below meth c B.U B.locs B.cells B.slots ∧ Post ⟨T.setVm vm₁, locs, cells, slots⟩ argsL.toArray v B ∧
      ∀ target, Steps p.tables e below (B.U.setTop { g with pc := g.pc + 3, stack := v.toList ++ rest }) target → Steps p.tables e below (T.setTop g) target) ∨
    (∃ (q : Addr) (vm₁ : Vm) (B : Pt), s.WarmedH vm₁ ∧ Stand p l e R s m args below meth c B.U B.locs B.cells B.slots ∧ PostX ⟨T.setVm vm₁, locs, cells, slots⟩ argsL.toArray q B ∧
      Steps p.tables e below (T.setTop g) ((B.U.setTop { g with stack := rest }).pushFrame (.throwing q))) := by
  obtain ⟨mk, hnamed⟩ := Cond.code_named hcode
  obtain ⟨methM, cM, hmethM, -, -, -, -, -, -, hsigM⟩ := Cond.code_spec hnamed hcode
  have hstatic : methM.isStatic = true := Cond.static_spec hnamed hmethM hstat
  obtain ⟨kP, hkP, -⟩ := className_of_methodNamed hnamed
  have hinitP : kP.init = .initialized := Cond.initialized_spec (findClass_of_methodNamed hnamed) hkP hinit
  obtain ⟨vm₁, X₁, hstep₁⟩ := X.invokestatic hexec hown hlink hnamed hmethM hstatic hkP hinitP hy (g := g) hg (argsL := argsL) (rest := rest) (hlen _ hsigM) hstack hdg
  rcases hK m meth c ⟨T.setVm vm₁, locs, cells, slots⟩ { g with stack := rest } (.invokestatic index) mk argsL.toArray X₁ hg hsize hdg hW (X₁.named hnamed) (hpre vm₁ X₁.warmed) with ⟨v, B, X', hpost, hsteps⟩ | ⟨q, B, X', hpost, hsteps⟩
  · exact Or.inl ⟨v, vm₁, B, X₁.warmed, X', hpost, fun target h => hstep₁ _ fun acts => by rw [doInvoke_state]; exact hsteps.trans h⟩
  · exact Or.inr ⟨q, vm₁, B, X₁.warmed, X', hpost, hstep₁ _ fun acts => by rw [doInvoke_state]; exact hsteps⟩
end Calls
theorem vx_cls {s : State} {T : State} {vm₁ : Vm} {E : String} {k : ClassId} (hW : s.WarmedH vm₁) (h : (T.setVm vm₁).vm.findClass E = some k) : s.vm.findClass E = some k := by
  have h1 : vm₁.findClass E = some k := h
  rw [hW.alike.findClass] at h1
  exact h1
/-- the method's frame g, with q thrown over it -/
def vx_W (p : Program) (l : Launch) (e : Env) (R : Room) (s : State) (m : MethodId) (args : Array Value) (below : List Frame) (meth : Method) (c : Code) (H : Heap) (locs : List Loc) (cells slots : Nat) (Q : State → Prop) (g : JFrame) (q : Addr) : Prop :=
  ∀ T : State, T.heap = H → Stand p l e R s m args below meth c T locs cells slots → ∃ t, Steps p.tables e below ((T.setTop g).pushFrame (.throwing q)) t ∧ Q t
def vx_Run (p : Program) (l : Launch) (e : Env) (R : Room) (s : State) (m : MethodId) (args : Array Value) (below : List Frame) (meth : Method) (c : Code) (H : Heap) (locs : List Loc) (cells slots mc ms : Nat) (g : JFrame) (rest : List Value) (Qa : State → Outcome → State → Prop) (XC : String → State → State → Prop) (free : Addr → Prop) : Prop :=
  ∀ T : State, T.heap = H → Stand p l e R s m args below meth c T locs cells slots →
    (∃ (v : Option Value) (st₀ t T' : State) (L : List Loc), st₀.heap = H ∧ Stand p l e R s m args below meth c T' (locs ++ L) (cells + mc) (slots + ms) ∧ (∀ q ∈ L, free q.base) ∧ T'.heap = t.heap ∧ T'.vm = t.vm ∧ Qa st₀ (.returned v) t ∧
      Goes p e below T g T' { g with pc := g.pc + 3, stack := v.toList ++ rest }) ∨
    (∃ (q : Addr) (st₀ t T' : State) (L : List Loc) (E : String) (ce : Cell), st₀.heap = H ∧ Stand p l e R s m args below meth c T' (locs ++ L) (cells + mc) (slots + ms) ∧ (∀ z ∈ L, free z.base) ∧ T'.heap = t.heap ∧ T'.vm = t.vm ∧ XC E st₀ t ∧ t.heap[q]? = some ce ∧ ce.vm = .none ∧ s.vm.findClass E = some ce.cls ∧
      Steps p.tables e below (T.setTop g) ((T'.setTop { g with stack := rest }).pushFrame (.throwing q)))
def vx_X {S : Type} (px : S → Prop) (B : String → S → State → Prop) (A : Nat → Prop) : String → State → State → Prop := fun E st t => ∃ u : S, px u ∧ B E u t ∧ va_F A st t
section Runs
variable {p : Program} {l : Launch} {e : Env} {R : Room} {s : State} {m : MethodId} {args : Array Value} {below : List Frame} {meth : Method} {c : Code} {H : Heap} {locs : List Loc} {cells slots : Nat}
variable {y : MethodName} {bytes cc : ByteArray} {maxL nL mc ms n index : Nat} {ret : Option FieldType} {ws : List Cond} {rm : Room} {Pc : Array Value → State → Prop} {Qc : Array Value → State → Outcome → State → Prop} {XC : String → State → State → Prop} {free : Addr → Prop} {Ts : List Cond} {own C : String} {b : Addr} {As rest : List Value} {g : JFrame}
theorem vx_callBack (cb : CallB R s args own index y bytes maxL ret ws rm mc ms n) (hM : vx_Met l y ws rm Pc Qc XC mc ms free) (hbl : FrameBlind Pc) : vx_Back l R p e below s args y 3 8 (PreOf R mc ms Pc) (PostOf Qc mc ms free) (vx_Post XC mc ms free) := by
  obtain ⟨hrc, hrs, hfr, hlo, hws, hcw, -, hini, -⟩ := cb
  exact vx_back (bytes := bytes) (maxL := maxL) (ret := ret) hM hbl hrc hrs hfr hlo hws hcw (fun a' U hW => word_at hW (Or.inl (by first | rfl | simp [Cond.onTables, Cond.keeps, Cond.steady])) hini)
theorem vx_runV (S : CallFix p m c cc nL s args Ts own) (hM : vx_Met l y ws rm Pc Qc XC mc ms free) (cw : CallW R s args own C index y bytes maxL ret ws rm mc ms n) (hp : PreV s H C b Pc As)
    (hg : g.method = m) (hn : As.length = n) (hsize : g.locals.size = nL) (hstack : g.stack = As.reverse ++ .ref b :: rest) (hW : 2 * g.monitorRoom + (rest.map fun v => v.category).sum ≤ 8) (hdg : decode cc g.pc = .ok (.invokevirtual index, 3)) (hf : cells + mc ≤ R.cells ∧ slots + ms ≤ R.slots) :
    vx_Run p l e R s m args below meth c H locs cells slots mc ms g rest (Qc (Value.ref b :: As).toArray) XC free := by
  have hK : vx_Back l R p e below s args y 3 8 (PreOf R mc ms Pc) (PostOf Qc mc ms free) (vx_Post XC mc ms free) := vx_callBack cw.1 hM hp.1
  obtain ⟨⟨-, -, -, -, -, -, hcode, -, hy, hlen, hl⟩, hin, hse⟩ := cw
  obtain ⟨hx, hb, hml, ho, -⟩ := S
  obtain ⟨-, ⟨cellB, hcB, hoB, hclB⟩, hPc⟩ := hp
  intro T hT X
  rcases vx_callV X hx (C := C) (bytes := bytes) (maxL := maxL) (ret := ret) ho hl hin hse hcode hy hK (by rw [hT]; exact hcB) hoB hclB hg (hsize.trans hml.symm) (argsL := As) (rest := rest) (fun sig h => hn.trans (hlen sig h)) hstack hW (by rw [hb]; exact hdg)
    (fun vm₁ hW₁ => ⟨hf.1, hf.2, hPc (T.setVm vm₁) hT hW₁⟩) with ⟨v, vm₁, ⟨U', l2, c2, s2⟩, hW₁, X', ⟨g', mk, t, L, e1, e2, hq, h1, hL, h2, h3⟩, st⟩ | ⟨q, vm₁, ⟨U', l2, c2, s2⟩, hW₁, X', ⟨g', mk, t, L, E, ce, e1, e2, hq, hce, hcv, hcl, h1, hL, h2, h3⟩, st⟩
  · dsimp only [Pt.U, Pt.locs, Pt.cells, Pt.slots] at X' e1 e2 h1 h2 h3 st
    subst h1; subst h2; subst h3
    exact Or.inl ⟨v, (T.setVm vm₁).calling g' mk (Value.ref b :: As).toArray, t, U', L, hT, X', hL, e1, e2, hq, st⟩
  · dsimp only [Pt.U, Pt.locs, Pt.cells, Pt.slots] at X' e1 e2 h1 h2 h3 st hcl
    subst h1; subst h2; subst h3
    exact Or.inr ⟨q, (T.setVm vm₁).calling g' mk (Value.ref b :: As).toArray, t, U', L, E, ce, hT, X', hL, e1, e2, hq, hce, hcv, vx_cls hW₁ hcl, st⟩
theorem vx_runS (S : CallFix p m c cc nL s args Ts own) (hM : vx_Met l y ws rm Pc Qc XC mc ms free) (cw : CallB R s args own index y bytes maxL ret ws rm mc ms n ∧ (Cond.static y).before args s = true) (hp : PreS s H Pc As)
    (hg : g.method = m) (hn : As.length = n) (hsize : g.locals.size = nL) (hstack : g.stack = As.reverse ++ rest) (hW : 2 * g.monitorRoom + (rest.map fun v => v.category).sum ≤ 8) (hdg : decode cc g.pc = .ok (.invokestatic index, 3)) (hf : cells + mc ≤ R.cells ∧ slots + ms ≤ R.slots) :
    vx_Run p l e R s m args below meth c H locs cells slots mc ms g rest (Qc As.toArray) XC free := by
  have hK : vx_Back l R p e below s args y 3 8 (PreOf R mc ms Pc) (PostOf Qc mc ms free) (vx_Post XC mc ms free) := vx_callBack cw.1 hM hp.1
  obtain ⟨⟨-, -, -, -, -, -, hcode, hini, hy, hlen, hl⟩, hstt⟩ := cw
  obtain ⟨hx, hb, hml, ho, -⟩ := S
  intro T hT X
  rcases vx_callS X hx (bytes := bytes) (maxL := maxL) (ret := ret) ho hl hstt hini hcode hy hK hg (hsize.trans hml.symm) (argsL := As) (rest := rest) (fun sig h => hn.trans (hlen sig h)) hstack hW (by rw [hb]; exact hdg)
    (fun vm₁ hW₁ => ⟨hf.1, hf.2, hp.2 (T.setVm vm₁) hT hW₁⟩) with ⟨v, vm₁, ⟨U', l2, c2, s2⟩, hW₁, X', ⟨g', mk, t, L, e1, e2, hq, h1, hL, h2, h3⟩, st⟩ | ⟨q, vm₁, ⟨U', l2, c2, s2⟩, hW₁, X', ⟨g', mk, t, L, E, ce, e1, e2, hq, hce, hcv, hcl, h1, hL, h2, h3⟩, st⟩
  · dsimp only [Pt.U, Pt.locs, Pt.cells, Pt.slots] at X' e1 e2 h1 h2 h3 st
    subst h1; subst h2; subst h3
    exact Or.inl ⟨v, (T.setVm vm₁).calling g' mk As.toArray, t, U', L, hT, X', hL, e1, e2, hq, st⟩
  · dsimp only [Pt.U, Pt.locs, Pt.cells, Pt.slots] at X' e1 e2 h1 h2 h3 st hcl
    subst h1; subst h2; subst h3
    exact Or.inr ⟨q, (T.setVm vm₁).calling g' mk As.toArray, t, U', L, E, ce, hT, X', hL, e1, e2, hq, hce, hcv, vx_cls hW₁ hcl, st⟩
end Runs
section Rows
variable {p : Program} {l : Launch} {e : Env} {R : Room} {s : State} {m : MethodId} {args : Array Value} {below : List Frame} {meth : Method} {c : Code} {H : Heap} {locs : List Loc} {cells slots : Nat} {Q : State → Prop}
variable {mc ms : Nat} {free : Addr → Prop} {A0 A1 : Nat → Prop} {H0 : Heap} {a : Array Value} {pc : Nat} {ls : Array Slot} {st0 rest : List Value}
theorem vx_keep {st₀ t T' : State} {L : List Loc} (h0 : st₀.heap = H) (e1 : T'.heap = t.heap) (hS : va_S A0 H0 H locs) (hA : ∀ q, q < H.size → A1 q → A0 q) (hf : ∀ q, free q → A0 q) (hL : ∀ q ∈ L, free q.base) (hF : va_F A1 st₀ t) :
    H.size ≤ T'.heap.size ∧ (∀ q : Nat, q < H.size → ¬ A1 q → T'.heap[q]? = H[q]?) ∧ va_S A0 H0 T'.heap (locs ++ L) := by
  obtain ⟨hz, hk⟩ := hF
  rw [h0] at hz hk
  exact ⟨by rw [e1]; exact hz, fun q h1 h2 => by rw [e1]; exact hk q h1 h2,
    ⟨Nat.le_trans hS.1 (by rw [e1]; exact hz), fun q h1 h2 => by rw [e1, hk q (Nat.lt_of_lt_of_le h1 hS.1) (fun z => h2 (hA q (Nat.lt_of_lt_of_le h1 hS.1) z))]; exact hS.2.1 q h1 h2, fun q hq => by
      rcases List.mem_append.mp hq with h | h
      · exact hS.2.2 q h
      · exact hf _ (hL q h)⟩⟩
theorem vx_calli {S SX : Type} {post : Int32 → S → Prop} {px : SX → Prop} {B : S → State → Prop} {BX : String → SX → State → Prop} {AX : Nat → Prop} (hr : vx_Run p l e R s m args below meth c H locs cells slots mc ms (F0 m pc ls st0) rest (va_Qi post B A1 a) (vx_X px BX AX) free) (hS : va_S A0 H0 H locs) (hA : ∀ q, q < H.size → A1 q → A0 q) (hf : ∀ q, free q → A0 q) (hAX : ∀ q, q < H.size → AX q → A0 q)
    (kx : ∀ (E : String) (ce : Cell) (q9 : Addr) (u : SX) (t : State) (H1 : Heap) (locs1 : List Loc), t.heap = H1 → s.vm.Alike t.vm → px u → BX E u t → H.size ≤ H1.size → (∀ q : Nat, q < H.size → ¬ AX q → H1[q]? = H[q]?) → va_S A0 H0 H1 locs1 → H1[q9]? = some ce → ce.vm = .none → s.vm.findClass E = some ce.cls → vx_W p l e R s m args below meth c H1 locs1 (cells + mc) (slots + ms) Q (F0 m pc ls rest) q9)
    (kk : ∀ (r : Int32) (u : S) (t : State) (H1 : Heap) (locs1 : List Loc), t.heap = H1 → s.vm.Alike t.vm → post r u → B u t → H.size ≤ H1.size → (∀ q : Nat, q < H.size → ¬ A1 q → H1[q]? = H[q]?) → va_S A0 H0 H1 locs1 → W p l e R s m args below meth c H1 locs1 (cells + mc) (slots + ms) Q (F0 m (pc + 3) ls (.int r :: rest))) : W p l e R s m args below meth c H locs cells slots Q (F0 m pc ls st0) := by
  intro T hT X
  rcases hr T hT X with ⟨v, st₀, t, T', L, h0, X', hL, e1, e2, ⟨⟨r, u, hv, hp, hb⟩, hF⟩, st⟩ | ⟨q, st₀, t, T', L, E, ce, h0, X', hL, e1, e2, ⟨u, hp, hb, hF⟩, hce, hcv, hcl, st⟩
  · cases hv
    obtain ⟨k1, k2, k3⟩ := vx_keep h0 e1 hS hA hf hL hF
    obtain ⟨t2, a1, b1⟩ := kk r u t T'.heap (locs ++ L) e1.symm (by rw [← e2]; exact X'.warmed.alike) hp hb k1 k2 k3 T' rfl X'
    exact ⟨t2, st t2 a1, b1⟩
  · obtain ⟨k1, k2, k3⟩ := vx_keep h0 e1 hS hAX hf hL hF
    obtain ⟨t2, a1, b1⟩ := kx E ce q u t T'.heap (locs ++ L) e1.symm (by rw [← e2]; exact X'.warmed.alike) hp hb k1 k2 k3 (by rw [e1]; exact hce) hcv hcl T' rfl X'
    exact ⟨t2, st.trans a1, b1⟩
theorem vx_calll {S SX : Type} {post : Int64 → S → Prop} {px : SX → Prop} {B : S → State → Prop} {BX : String → SX → State → Prop} {AX : Nat → Prop} (hr : vx_Run p l e R s m args below meth c H locs cells slots mc ms (F0 m pc ls st0) rest (va_Ql post B A1 a) (vx_X px BX AX) free) (hS : va_S A0 H0 H locs) (hA : ∀ q, q < H.size → A1 q → A0 q) (hf : ∀ q, free q → A0 q) (hAX : ∀ q, q < H.size → AX q → A0 q)
    (kx : ∀ (E : String) (ce : Cell) (q9 : Addr) (u : SX) (t : State) (H1 : Heap) (locs1 : List Loc), t.heap = H1 → s.vm.Alike t.vm → px u → BX E u t → H.size ≤ H1.size → (∀ q : Nat, q < H.size → ¬ AX q → H1[q]? = H[q]?) → va_S A0 H0 H1 locs1 → H1[q9]? = some ce → ce.vm = .none → s.vm.findClass E = some ce.cls → vx_W p l e R s m args below meth c H1 locs1 (cells + mc) (slots + ms) Q (F0 m pc ls rest) q9)
    (kk : ∀ (r : Int64) (u : S) (t : State) (H1 : Heap) (locs1 : List Loc), t.heap = H1 → s.vm.Alike t.vm → post r u → B u t → H.size ≤ H1.size → (∀ q : Nat, q < H.size → ¬ A1 q → H1[q]? = H[q]?) → va_S A0 H0 H1 locs1 → W p l e R s m args below meth c H1 locs1 (cells + mc) (slots + ms) Q (F0 m (pc + 3) ls (.long r :: rest))) : W p l e R s m args below meth c H locs cells slots Q (F0 m pc ls st0) := by
  intro T hT X
  rcases hr T hT X with ⟨v, st₀, t, T', L, h0, X', hL, e1, e2, ⟨⟨r, u, hv, hp, hb⟩, hF⟩, st⟩ | ⟨q, st₀, t, T', L, E, ce, h0, X', hL, e1, e2, ⟨u, hp, hb, hF⟩, hce, hcv, hcl, st⟩
  · cases hv
    obtain ⟨k1, k2, k3⟩ := vx_keep h0 e1 hS hA hf hL hF
    obtain ⟨t2, a1, b1⟩ := kk r u t T'.heap (locs ++ L) e1.symm (by rw [← e2]; exact X'.warmed.alike) hp hb k1 k2 k3 T' rfl X'
    exact ⟨t2, st t2 a1, b1⟩
  · obtain ⟨k1, k2, k3⟩ := vx_keep h0 e1 hS hAX hf hL hF
    obtain ⟨t2, a1, b1⟩ := kx E ce q u t T'.heap (locs ++ L) e1.symm (by rw [← e2]; exact X'.warmed.alike) hp hb k1 k2 k3 (by rw [e1]; exact hce) hcv hcl T' rfl X'
    exact ⟨t2, st.trans a1, b1⟩
theorem vx_callf {S SX : Type} {post : UInt32 → S → Prop} {px : SX → Prop} {B : S → State → Prop} {BX : String → SX → State → Prop} {AX : Nat → Prop} (hr : vx_Run p l e R s m args below meth c H locs cells slots mc ms (F0 m pc ls st0) rest (va_Qf post B A1 a) (vx_X px BX AX) free) (hS : va_S A0 H0 H locs) (hA : ∀ q, q < H.size → A1 q → A0 q) (hf : ∀ q, free q → A0 q) (hAX : ∀ q, q < H.size → AX q → A0 q)
    (kx : ∀ (E : String) (ce : Cell) (q9 : Addr) (u : SX) (t : State) (H1 : Heap) (locs1 : List Loc), t.heap = H1 → s.vm.Alike t.vm → px u → BX E u t → H.size ≤ H1.size → (∀ q : Nat, q < H.size → ¬ AX q → H1[q]? = H[q]?) → va_S A0 H0 H1 locs1 → H1[q9]? = some ce → ce.vm = .none → s.vm.findClass E = some ce.cls → vx_W p l e R s m args below meth c H1 locs1 (cells + mc) (slots + ms) Q (F0 m pc ls rest) q9)
    (kk : ∀ (r : UInt32) (u : S) (t : State) (H1 : Heap) (locs1 : List Loc), t.heap = H1 → s.vm.Alike t.vm → post r u → B u t → H.size ≤ H1.size → (∀ q : Nat, q < H.size → ¬ A1 q → H1[q]? = H[q]?) → va_S A0 H0 H1 locs1 → W p l e R s m args below meth c H1 locs1 (cells + mc) (slots + ms) Q (F0 m (pc + 3) ls (.float r :: rest))) : W p l e R s m args below meth c H locs cells slots Q (F0 m pc ls st0) := by
  intro T hT X
  rcases hr T hT X with ⟨v, st₀, t, T', L, h0, X', hL, e1, e2, ⟨⟨r, u, hv, hp, hb⟩, hF⟩, st⟩ | ⟨q, st₀, t, T', L, E, ce, h0, X', hL, e1, e2, ⟨u, hp, hb, hF⟩, hce, hcv, hcl, st⟩
  · cases hv
    obtain ⟨k1, k2, k3⟩ := vx_keep h0 e1 hS hA hf hL hF
    obtain ⟨t2, a1, b1⟩ := kk r u t T'.heap (locs ++ L) e1.symm (by rw [← e2]; exact X'.warmed.alike) hp hb k1 k2 k3 T' rfl X'
    exact ⟨t2, st t2 a1, b1⟩
  · obtain ⟨k1, k2, k3⟩ := vx_keep h0 e1 hS hAX hf hL hF
    obtain ⟨t2, a1, b1⟩ := kx E ce q u t T'.heap (locs ++ L) e1.symm (by rw [← e2]; exact X'.warmed.alike) hp hb k1 k2 k3 (by rw [e1]; exact hce) hcv hcl T' rfl X'
    exact ⟨t2, st.trans a1, b1⟩
theorem vx_calld {S SX : Type} {post : UInt64 → S → Prop} {px : SX → Prop} {B : S → State → Prop} {BX : String → SX → State → Prop} {AX : Nat → Prop} (hr : vx_Run p l e R s m args below meth c H locs cells slots mc ms (F0 m pc ls st0) rest (va_Qd post B A1 a) (vx_X px BX AX) free) (hS : va_S A0 H0 H locs) (hA : ∀ q, q < H.size → A1 q → A0 q) (hf : ∀ q, free q → A0 q) (hAX : ∀ q, q < H.size → AX q → A0 q)
    (kx : ∀ (E : String) (ce : Cell) (q9 : Addr) (u : SX) (t : State) (H1 : Heap) (locs1 : List Loc), t.heap = H1 → s.vm.Alike t.vm → px u → BX E u t → H.size ≤ H1.size → (∀ q : Nat, q < H.size → ¬ AX q → H1[q]? = H[q]?) → va_S A0 H0 H1 locs1 → H1[q9]? = some ce → ce.vm = .none → s.vm.findClass E = some ce.cls → vx_W p l e R s m args below meth c H1 locs1 (cells + mc) (slots + ms) Q (F0 m pc ls rest) q9)
    (kk : ∀ (r : UInt64) (u : S) (t : State) (H1 : Heap) (locs1 : List Loc), t.heap = H1 → s.vm.Alike t.vm → post r u → B u t → H.size ≤ H1.size → (∀ q : Nat, q < H.size → ¬ A1 q → H1[q]? = H[q]?) → va_S A0 H0 H1 locs1 → W p l e R s m args below meth c H1 locs1 (cells + mc) (slots + ms) Q (F0 m (pc + 3) ls (.double r :: rest))) : W p l e R s m args below meth c H locs cells slots Q (F0 m pc ls st0) := by
  intro T hT X
  rcases hr T hT X with ⟨v, st₀, t, T', L, h0, X', hL, e1, e2, ⟨⟨r, u, hv, hp, hb⟩, hF⟩, st⟩ | ⟨q, st₀, t, T', L, E, ce, h0, X', hL, e1, e2, ⟨u, hp, hb, hF⟩, hce, hcv, hcl, st⟩
  · cases hv
    obtain ⟨k1, k2, k3⟩ := vx_keep h0 e1 hS hA hf hL hF
    obtain ⟨t2, a1, b1⟩ := kk r u t T'.heap (locs ++ L) e1.symm (by rw [← e2]; exact X'.warmed.alike) hp hb k1 k2 k3 T' rfl X'
    exact ⟨t2, st t2 a1, b1⟩
  · obtain ⟨k1, k2, k3⟩ := vx_keep h0 e1 hS hAX hf hL hF
    obtain ⟨t2, a1, b1⟩ := kx E ce q u t T'.heap (locs ++ L) e1.symm (by rw [← e2]; exact X'.warmed.alike) hp hb k1 k2 k3 (by rw [e1]; exact hce) hcv hcl T' rfl X'
    exact ⟨t2, st.trans a1, b1⟩
theorem vx_callv {S SX : Type} {post : S → Prop} {px : SX → Prop} {B : S → State → Prop} {BX : String → SX → State → Prop} {AX : Nat → Prop} (hr : vx_Run p l e R s m args below meth c H locs cells slots mc ms (F0 m pc ls st0) rest (va_Qv post B A1 a) (vx_X px BX AX) free) (hS : va_S A0 H0 H locs) (hA : ∀ q, q < H.size → A1 q → A0 q) (hf : ∀ q, free q → A0 q) (hAX : ∀ q, q < H.size → AX q → A0 q)
    (kx : ∀ (E : String) (ce : Cell) (q9 : Addr) (u : SX) (t : State) (H1 : Heap) (locs1 : List Loc), t.heap = H1 → s.vm.Alike t.vm → px u → BX E u t → H.size ≤ H1.size → (∀ q : Nat, q < H.size → ¬ AX q → H1[q]? = H[q]?) → va_S A0 H0 H1 locs1 → H1[q9]? = some ce → ce.vm = .none → s.vm.findClass E = some ce.cls → vx_W p l e R s m args below meth c H1 locs1 (cells + mc) (slots + ms) Q (F0 m pc ls rest) q9)
    (kk : ∀ (u : S) (t : State) (H1 : Heap) (locs1 : List Loc), t.heap = H1 → s.vm.Alike t.vm → post u → B u t → H.size ≤ H1.size → (∀ q : Nat, q < H.size → ¬ A1 q → H1[q]? = H[q]?) → va_S A0 H0 H1 locs1 → W p l e R s m args below meth c H1 locs1 (cells + mc) (slots + ms) Q (F0 m (pc + 3) ls (rest))) : W p l e R s m args below meth c H locs cells slots Q (F0 m pc ls st0) := by
  intro T hT X
  rcases hr T hT X with ⟨v, st₀, t, T', L, h0, X', hL, e1, e2, ⟨⟨u, hv, hp, hb⟩, hF⟩, st⟩ | ⟨q, st₀, t, T', L, E, ce, h0, X', hL, e1, e2, ⟨u, hp, hb, hF⟩, hce, hcv, hcl, st⟩
  · cases hv
    obtain ⟨k1, k2, k3⟩ := vx_keep h0 e1 hS hA hf hL hF
    obtain ⟨t2, a1, b1⟩ := kk u t T'.heap (locs ++ L) e1.symm (by rw [← e2]; exact X'.warmed.alike) hp hb k1 k2 k3 T' rfl X'
    exact ⟨t2, st t2 a1, b1⟩
  · obtain ⟨k1, k2, k3⟩ := vx_keep h0 e1 hS hAX hf hL hF
    obtain ⟨t2, a1, b1⟩ := kx E ce q u t T'.heap (locs ++ L) e1.symm (by rw [← e2]; exact X'.warmed.alike) hp hb k1 k2 k3 (by rw [e1]; exact hce) hcv hcl T' rfl X'
    exact ⟨t2, st.trans a1, b1⟩
/-- caught by the row x of this method's table; the rows ahead don't take it -/
theorem vx_catch {own name : String} {E : String} {ce : Cell} {q : Addr} (hown : s.vm.findClass own = some m.cls) (pre : List ExceptionTableEntry) (x : ExceptionTableEntry) (suf : List ExceptionTableEntry) (hsplit : c.exceptionTable.toList = pre ++ x :: suf)
    (hpass : ∀ z ∈ pre, covers z pc = false ∨ (z.catchType ≠ 0 ∧ ∃ nm : String, (Cond.classLink own z.catchType nm).before args s = true ∧ va_Nc E nm s)) (hx : covers x pc = true) (h0 : x.catchType ≠ 0)
    (hlink : (Cond.classLink own x.catchType name).before args s = true) (hcast : (Cond.castable E name).before args s = true) (hcell : H[q]? = some ce) (hv : ce.vm = .none) (hcl : s.vm.findClass E = some ce.cls)
    (kk : W p l e R s m args below meth c H locs cells slots Q (F0 m x.handlerPc ls [.ref q])) : vx_W p l e R s m args below meth c H locs cells slots Q (F0 m pc ls rest) q := by
  intro T hT X
  have hpl : e.platform.magicAccessors = ({} : Platform).magicAccessors := by rw [X.admits.platform]
  obtain ⟨c3, c4, hc3, hc4, hasg⟩ := Cond.castable_spec hcast
  cases Option.some.inj (hc3.symm.trans hcl)
  obtain ⟨c5, hc5, hcl5⟩ := Cond.classLink_spec hown hlink e.platform hpl
  cases Option.some.inj (hc4.symm.trans hc5)
  obtain ⟨vm', X', st⟩ := X.thenCaughtThrough q (g := F0 m pc ls rest) rfl (Steps.refl _) (by rw [hT]; exact hcell) (by rw [hv]; rfl) (by obtain ⟨k9, h9, -⟩ := Vm.findClass_spec hcl; exact ⟨k9, h9⟩) pre x suf hsplit
    (fun z hz => by
      rcases hpass z hz with h | ⟨hz0, nm, hl1, hn1⟩
      · exact Or.inl h
      · obtain ⟨c6, hc6, hcl6⟩ := Cond.classLink_spec hown hl1 e.platform hpl
        obtain ⟨a8, b8, h1, h2, h3⟩ := hn1
        cases Option.some.inj (h1.symm.trans hcl)
        cases Option.some.inj (h2.symm.trans hc6)
        exact Or.inr ⟨hz0, _, hcl6, h3⟩) hx (Or.inr ⟨h0, c4, hcl5, hasg⟩)
  obtain ⟨t, a1, b1⟩ := kk (T.setVm vm') hT X'
  exact ⟨t, st.trans a1, b1⟩
end Rows
section Ends
variable {p : Program} {l : Launch} {e : Env} {R : Room} {s : State} {m : MethodId} {args : Array Value} {below : List Frame} {meth : Method} {c : Code} {H : Heap} {locs : List Loc} {cells slots : Nat} {Q : State → Prop}
variable {mc ms : Nat} {free : Addr → Prop} {A0 A1 : Nat → Prop} {H0 : Heap} {a : Array Value} {ls : Array Slot} {st0 rest : List Value}
variable {Qc : Array Value → State → Outcome → State → Prop} {XC : String → State → State → Prop}
/-- what a body that may throw owes at its end -/
def vx_MQ (below : List Frame) (Qc : Array Value → State → Outcome → State → Prop) (XC : String → State → State → Prop) (a : Array Value) (s : State) (mc ms : Nat) (free : Addr → Prop) : State → Prop := fun t =>
  ∃ o, t.status = .running ∧ Ended t below o ∧ vx_Q Qc XC mc ms free a s o t
theorem vx_ret {g : JFrame} {mc ms : Nat} (k : W p l e R s m args below meth c H locs cells slots (MQ below Qc args s mc ms free) g) : W p l e R s m args below meth c H locs cells slots (vx_MQ below Qc XC args s mc ms free) g := by
  intro T hT X
  obtain ⟨t, a1, o, b1, b2, b3, b4⟩ := k T hT X
  exact ⟨t, a1, o, b1, b2, Or.inl ⟨b3, b4⟩⟩
/-- not caught here: it goes on to the caller -/
theorem vx_widen {g : JFrame} {q : Addr} {k n : Nat} (h1 : cells ≤ k) (h2 : slots ≤ n) (kk : vx_W p l e R s m args below meth c H locs k n Q g q) : vx_W p l e R s m args below meth c H locs cells slots Q g q := fun T hT X => kk T hT (stand_widen X h1 h2)
theorem vx_out {pc : Nat} {E : String} {ce : Cell} {q : Addr} {mc ms : Nat} (hout : ∀ x ∈ c.exceptionTable.toList, covers x pc = false) (hlocks : meth.locks = false) (hcell : H[q]? = some ce) (hv : ce.vm = .none) (hcl : s.vm.findClass E = some ce.cls)
    (hx : ∀ t : State, t.heap = H → s.vm.Alike t.vm → XC E s t) (hf : ∀ z ∈ locs, free z.base) (hc : cells ≤ mc) (hs : slots ≤ ms) :
    vx_W p l e R s m args below meth c H locs cells slots (vx_MQ below Qc XC args s mc ms free) (F0 m pc ls rest) q := by
  intro T hT X
  obtain ⟨st1, hrun, hend, hW, hsm⟩ := X.leaveThrown q (g := F0 m pc ls rest) rfl rfl rfl hout hlocks
  have hcell9 : (T.setFrames (.throwing q :: below)).heap[q]? = some ce := by
    show T.heap[q]? = some ce
    rw [hT]; exact hcell
  exact ⟨_, st1, .threw q, hrun, hend, Or.inr ⟨q, rfl, E, ce, locs, hx _ hT hW.alike, hcell9, hv, hcl, hW, hsm.mono hc hs, hf⟩⟩
theorem vx_frame {U : State} {k n : Nat} (h : s.sameButNew ({ U with vm := s.vm } : State) locs k n) : s.heap.size ≤ U.heap.size ∧ ∀ q : Nat, q < s.heap.size → (∀ z ∈ locs, z.base ≠ q) → U.heap[q]? = s.heap[q]? := by
  obtain ⟨-, h2, -, -, -, h6⟩ := h
  refine ⟨h2, fun q hq hz => ?_⟩
  obtain ⟨c9, e1, e2, e3, e4⟩ := h6 q _ (Array.getElem?_eq_getElem hq)
  have hs : c9.slots = (s.heap[q]).slots := Array.ext_getElem? fun i => e4 i fun hm => hz _ hm rfl
  have h9 : c9 = s.heap[q] := by
    rw [hs] at e2
    exact e2
  have e5 : U.heap[q]? = some c9 := e1
  rw [e5, h9, Array.getElem?_eq_getElem hq]
/-- the words of a throw but the four that speak of the heap -/
def vx_no (w : Cond) : Bool := decide (w ≠ .isRef (.static Bundle.tN "UNASSIGNED_STACK" Bundle.steD)) && decide (w ≠ .isRef (.static Bundle.tN "SUPPRESSED_SENTINEL" Bundle.listD)) && decide (w ≠ .laysStatic Bundle.tN "UNASSIGNED_STACK" Bundle.steD) && decide (w ≠ .laysStatic Bundle.tN "SUPPRESSED_SENTINEL" Bundle.listD)
def vx_at0 (own : String) (ic : Nat) (X : String) (names : List String) : List Cond := (Bundle.ownAtoms0 own ic X names).filter vx_no
def vx_atS (own : String) (ic : Nat) (X : String) (names : List String) : List Cond := (Bundle.ownAtoms own ic X names).filter vx_no
/-- a word that the tables alone decide, or a good one -/
def vx_ot (w : Cond) : Bool := w.onTables || goodWord w
theorem vx_ot_at {args a' : Array Value} {s U : State} {w : Cond} (hW : s.WarmedH U.vm) (hvm : s.vm = U.vm) (hg : vx_ot w = true) (h : w.before args s = true) : w.before a' U = true := by
  simp only [vx_ot, Bool.or_eq_true] at hg
  rcases hg with hg | hg
  · exact va_tabs hg hvm h
  · exact word_at hW (good_of_word hg) h
/-- a list's words: the good ones out of the method's own list, the others by premises of their own -/
theorem vx_hat {args : Array Value} {s : State} {L B : List Cond} (h1 : ∀ w ∈ L.filter goodWord, w.before args s = true) (h2 : ∀ w ∈ L.filter (fun w => !goodWord w), w ∈ B) (h3 : ∀ w ∈ B, w.before args s = true) : ∀ w ∈ L, w.before args s = true := by
  intro w hw
  by_cases g : goodWord w = true
  · exact h1 w (List.mem_filter.mpr ⟨hw, g⟩)
  · refine h3 w (h2 w (List.mem_filter.mpr ⟨hw, ?_⟩))
    show (!goodWord w) = true
    cases hgw : goodWord w
    · rfl
    · exact absurd hgw g
theorem vx_c {args : Array Value} {s : State} {w : Cond} {B : List Cond} (h : w.before args s = true) (t : ∀ w ∈ B, w.before args s = true) : ∀ w' ∈ w :: B, w'.before args s = true := fun w' h' => (List.mem_cons.mp h').elim (fun e => by rw [e]; exact h) (t w')
theorem vx_n {args : Array Value} {s : State} : ∀ w ∈ ([] : List Cond), w.before args s = true := fun _ h => nomatch h
theorem vx_own {args : Array Value} {s : State} {L : List Cond} (h1 : ∀ w ∈ L.filter vx_no, w.before args s = true)
    (hU : (Cond.isRef (.static Bundle.tN "UNASSIGNED_STACK" Bundle.steD)).before args s = true) (hN : (Cond.isRef (.static Bundle.tN "SUPPRESSED_SENTINEL" Bundle.listD)).before args s = true)
    (lU : (Cond.laysStatic Bundle.tN "UNASSIGNED_STACK" Bundle.steD).before args s = true) (lN : (Cond.laysStatic Bundle.tN "SUPPRESSED_SENTINEL" Bundle.listD).before args s = true) : ∀ w ∈ L, w.before args s = true := by
  intro w hw
  by_cases e1 : w = .isRef (.static Bundle.tN "UNASSIGNED_STACK" Bundle.steD)
  · rw [e1]; exact hU
  · by_cases e2 : w = .isRef (.static Bundle.tN "SUPPRESSED_SENTINEL" Bundle.listD)
    · rw [e2]; exact hN
    · by_cases e3 : w = .laysStatic Bundle.tN "UNASSIGNED_STACK" Bundle.steD
      · rw [e3]; exact lU
      · by_cases e4 : w = .laysStatic Bundle.tN "SUPPRESSED_SENTINEL" Bundle.listD
        · rw [e4]; exact lN
        · exact h1 w (List.mem_filter.mpr ⟨hw, by unfold vx_no; rw [decide_eq_true e1, decide_eq_true e2, decide_eq_true e3, decide_eq_true e4]; rfl⟩)
/-- where a static field lies, its class's statics cell in H -/
def vx_L (C n d : String) (A : Nat → Prop) (U : State) (H : Heap) : Prop := ∃ (c : ClassId) (k : Class) (i : Nat) (f : Field) (a : Nat) (cell : Cell), U.vm.findClass C = some c ∧ U.fieldFound? C n d = some (c, k, i, f) ∧ f.isStatic = true ∧ k.statics = some a ∧ H[a]? = some cell ∧ cell.vm.isStatics = true ∧ cell.cls = c ∧ f.slot < cell.slots.size ∧ k.staticTypes[f.slot]? = some f.type ∧ ¬ A a
theorem vx_L.moved {C n d : String} {A : Nat → Prop} {u U : State} {H : Heap} (hvm : u.vm.Alike U.vm) (h : vx_L C n d A u H) : vx_L C n d A U H := by
  obtain ⟨c, k, i, f, a, cell, h1, h2, h3, h4, h5, h6, h7, h8, h9, h10⟩ := h
  obtain ⟨k', hi', he⟩ := State.fieldFound?_setVm hvm h2
  exact ⟨c, k', i, f, a, cell, by rw [hvm.findClass]; exact h1, hi', h3, by rw [he]; exact h4, h5, h6, h7, h8, by rw [he]; exact h9, h10⟩
theorem vx_L.kept {C n d : String} {A : Nat → Prop} {U : State} {H H1 : Heap} (h : vx_L C n d A U H) (hq : ∀ a : Nat, a < H.size → ¬ A a → H1[a]? = H[a]?) : vx_L C n d A U H1 := by
  obtain ⟨c, k, i, f, a, cell, h1, h2, h3, h4, h5, h6, h7, h8, h9, h10⟩ := h
  exact ⟨c, k, i, f, a, cell, h1, h2, h3, h4, by rw [hq a (Array.getElem?_eq_some_iff.mp h5).1 h10]; exact h5, h6, h7, h8, h9, h10⟩
theorem vx_L.narrow {C n d : String} {A B : Nat → Prop} {U : State} {H : Heap} (h : vx_L C n d A U H) (hAB : ∀ q, B q → A q) : vx_L C n d B U H := by
  obtain ⟨c, k, i, f, a, cell, h1, h2, h3, h4, h5, h6, h7, h8, h9, h10⟩ := h
  exact ⟨c, k, i, f, a, cell, h1, h2, h3, h4, h5, h6, h7, h8, h9, fun z => h10 (hAB _ z)⟩
theorem vx_L.word {C n d : String} {A : Nat → Prop} {s : State} {args : Array Value} (h : vx_L C n d A s s.heap) : (Cond.laysStatic C n d).before args s = true := by
  obtain ⟨c, k, i, f, a, cell, h1, h2, h3, h4, h5, h6, h7, h8, h9, -⟩ := h
  show (Cond.laysStatic C n d).holds args s none s [] = true
  exact Cond.laysStatic_of h1 h2 h3 h4 h5 h6 h7 h8 h9
/-- .. and what it holds: null or some reference -/
def vx_Zq (C n d : String) (A : Nat → Prop) (U : State) (H : Heap) : Prop := va_Zq C n d A U H ∧ vx_L C n d A U H
theorem vx_Zq.moved {C n d : String} {A : Nat → Prop} {u U : State} {H : Heap} (hvm : u.vm.Alike U.vm) (h : vx_Zq C n d A u H) : vx_Zq C n d A U H := ⟨va_Zq.moved hvm h.1, vx_L.moved hvm h.2⟩
theorem vx_Zq.kept {C n d : String} {A : Nat → Prop} {U : State} {H H1 : Heap} (h : vx_Zq C n d A U H) (hq : ∀ a : Nat, a < H.size → ¬ A a → H1[a]? = H[a]?) : vx_Zq C n d A U H1 := ⟨va_Zq.kept h.1 hq, vx_L.kept h.2 hq⟩
theorem vx_Zq.narrow {C n d : String} {A B : Nat → Prop} {U : State} {H : Heap} (h : vx_Zq C n d A U H) (hAB : ∀ q, B q → A q) : vx_Zq C n d B U H := ⟨va_Zq.narrow h.1 hAB, vx_L.narrow h.2 hAB⟩
theorem vx_Zqof {args : Array Value} {s : State} {C n d : String} {A : Nat → Prop} (hl : (Cond.laysStatic C n d).before args s = true) (hini : (Cond.initialized C).before args s = true) (h : (Cond.isRef (.static C n d)).before args s = true) (hA : ∀ a : Nat, a < s.heap.size → ¬ A a) : vx_Zq C n d A s s.heap := by
  refine ⟨va_Zqof hl hini h hA, ?_⟩
  obtain ⟨c, k, i, f, a, cell, h1, h2, h3, h4, h5, h6, h7, h8, h9⟩ := Cond.laysStatic_spec hl
  exact ⟨c, k, i, f, a, cell, h1, h2, h3, h4, h5, h6, h7, h8, h9, hA a (Array.getElem?_eq_some_iff.mp h5).1⟩
theorem vx_isRef {C n d : String} {v : Value} {A : Nat → Prop} {s : State} {args : Array Value} (h : va_Z C n d v A s s.heap) (hv : v.isRef = true) : (Cond.isRef (.static C n d)).before args s = true := by
  obtain ⟨cf, kf, fi, f, a, cell, h1, h2, h3, h4, h5, h6, h7, -⟩ := h
  have he : (Term.static C n d).eval args s none [] s = some v := by
    simp [Term.eval, State.fieldNamed?, h1, h2, h4, h5, h6, h7]
  simp only [Cond.before, Cond.holds, Cond.value, he]
  cases v <;> simp_all [Value.isRef]
theorem vx_isRefq {C n d : String} {A : Nat → Prop} {s : State} {args : Array Value} (h : va_Zq C n d A s s.heap) : (Cond.isRef (.static C n d)).before args s = true := by
  rcases h with h | ⟨t, h⟩
  · exact vx_isRef h rfl
  · exact vx_isRef h rfl
/-- the same frame, seen from here: as if the method were called anew in this heap -/
theorem vx_rebase {T : State} (X : Stand p l e R s m args below meth c T locs cells slots) {R' : Room} (hf : R'.frames ≤ R.frames) (hl : R'.locals ≤ R.locals) (hc : cells + R'.cells ≤ R.cells) (hs : slots + R'.slots ≤ R.slots) :
    Stand p l e R' ((T.setVm s.vm).setFrames (.invoking m args :: below)) m args below meth c T [] 0 0 := by
  have htop : (T.setVm s.vm).topJava?.isSome := X.here.top
  have hF : ((T.setVm s.vm).setFrames (.invoking m args :: below)).frames = .invoking m args :: below := State.frames_setFrames _ (State.cur_lt_of_top htop)
  obtain ⟨g₀, hg0⟩ := Option.isSome_iff_exists.mp htop
  obtain ⟨r, hr⟩ := State.topJava?_eq_some.mp hg0
  have hl9 : e.platform.stackLimits (T.setVm s.vm).me = e.platform.stackLimits s.me := X.limits
  have hb9 : (T.setVm s.vm).me.stackBytes = s.me.stackBytes := X.bytes
  refine ⟨X.admits, X.cas, X.clock, hF, ?_, X.hears, X.method, X.code, X.here, X.tail, X.warmed, ?_, ?_, ?_⟩
  · have h := X.room
    have hU : ((T.setVm s.vm).setFrames (.invoking m args :: below)).localsInUse = s.localsInUse := by
      rw [State.localsInUse_invoking hF (meth := meth) (c := c) X.method X.code, State.localsInUse_invoking X.frames X.method X.code]
    simp only [State.hasRoom, Bool.and_eq_true, decide_eq_true_eq] at h ⊢
    obtain ⟨⟨⟨⟨h1, h2, h3, h4, h5, h6⟩, h7⟩, h8⟩, h9⟩ := h
    rw [X.frames, List.length_cons] at h2 h3
    have q1 := X.heapSize
    have q2 := X.used
    simp only [hF, hU, List.length_cons, State.stackLimits_setFrames, State.stackBytes_setFrames, hl9, hb9]
    refine ⟨⟨⟨⟨by omega, by omega, by omega, by omega, by omega, h6⟩, ?_⟩, ?_⟩, X.book⟩
    · show T.heap.size + R'.cells ≤ e.platform.maxCells
      omega
    · show T.slotsUsed + R'.slots ≤ e.platform.maxSlots
      omega
  · rw [State.stackLimits_setFrames]; rfl
  · rw [State.stackBytes_setFrames]; rfl
  · refine ⟨?_, Nat.le_refl _, Nat.le_refl _, ?_, ?_, fun a c9 h9 => ⟨c9, h9, rfl, rfl, fun _ _ => rfl⟩⟩
    · obtain ⟨t, ht, -⟩ := State.frames_cons hr
      show T.setVm s.vm = { ((T.setVm s.vm).setFrames (.invoking m args :: below)).setFrames (T.setVm s.vm).frames with heap := T.heap, slotsUsed := T.slotsUsed }
      rw [State.setFrames_setFrames, State.setFrames_self ht]
      rfl
    · show T.slotsUsed = T.slotsUsed + ((T.heap.toList.drop T.heap.size).map (·.slots.size)).sum
      rw [List.drop_eq_nil_of_le (Nat.le_of_eq Array.length_toList)]
      rfl
    · show ((T.heap.toList.drop T.heap.size).map (·.slots.size)).sum ≤ 0
      rw [List.drop_eq_nil_of_le (Nat.le_of_eq Array.length_toList)]
      exact Nat.le_refl _
/-- 'throw new E()': new; dup; invokespecial; athrow -/
theorem vx_throw0 {cc : ByteArray} {pc : Nat} (hexec : p.tables.exec = Jvm.exec) (hb : c.code = cc) (hl : l.stackTraces = false) {own cls : String} {names : List String} {ik ic mc ms : Nat} {A : Nat → Prop}
    (hown : s.vm.findClass own = some m.cls) (hcls : Bundle.fit cls = true) (hnames : ∀ n ∈ names, Bundle.fit n = true)
    (hk : (Cond.classLink own ik cls).before args s = true) (hini : (Cond.initialized cls).before args s = true) (hat : ∀ w ∈ vx_at0 own ic cls names, w.before args s = true)
    (hgood : ∀ w ∈ Cond.classLink own ik cls :: Cond.initialized cls :: vx_at0 own ic cls names, vx_ot w = true)
    (hU : vx_Zq Bundle.tN "UNASSIGNED_STACK" Bundle.steD A s s.heap) (hN : vx_Zq Bundle.tN "SUPPRESSED_SENTINEL" Bundle.listD A s s.heap) (hS : va_S A s.heap H locs) (hsize : ls.size = c.maxLocals)
    (d0 : decode cc pc = .ok (.new ik, 3)) (d3 : decode cc (pc + 3) = .ok (.dup, 1)) (d4 : decode cc (pc + 4) = .ok (.invokespecial ic, 3)) (d7 : decode cc (pc + 7) = .ok (.athrow, 1))
    (hout : ∀ x ∈ c.exceptionTable.toList, covers x (pc + 7) = false)
    (hRframes : names.length + 3 < R.frames) (hRlocals : (rest.map fun v => v.category).sum + (13 * (names.length + 1) + 42) ≤ R.locals) (hRcells : cells + 1 ≤ R.cells) (hRslots : slots + 6 ≤ R.slots) (hlocks : meth.locks = false)
    (hx : ∀ t : State, s.vm.Alike t.vm → H.size ≤ t.heap.size → (∀ q : Nat, q < H.size → t.heap[q]? = H[q]?) → XC cls s t)
    (hf : ∀ z ∈ locs, free z.base) (hc : cells + 1 ≤ mc) (hs : slots + 6 ≤ ms) :
    W p l e R s m args below meth c H locs cells slots (vx_MQ below Qc XC args s mc ms free) (F0 m pc ls rest) := by
  intro T hT X
  have htr : e.platform.stackTraces = false := (show e.platform.stackTraces = l.stackTraces by rw [X.admits.platform]).trans hl
  have Y := vx_rebase X (R' := { frames := R.frames, locals := R.locals, cells := 1, slots := 6 }) (Nat.le_refl _) (Nat.le_refl _) hRcells hRslots
  obtain ⟨s', hA⟩ : ∃ z, z = (T.setVm s.vm).setFrames (.invoking m args :: below) := ⟨_, rfl⟩
  rw [← hA] at Y
  have hvm : s'.vm = s.vm := by rw [hA]; rfl
  have hhp : s'.heap = H := by rw [hA]; exact hT
  have hW0 : s.WarmedH s'.vm := by rw [hvm]; exact State.WarmedH.refl s
  have hat' : ∀ w ∈ vx_at0 own ic cls names, w.before args s' = true := fun w hw => vx_ot_at hW0 hvm.symm (hgood w (List.mem_cons_of_mem _ (List.mem_cons_of_mem _ hw))) (hat w hw)
  have hk' : (Cond.classLink own ik cls).before args s' = true := vx_ot_at hW0 hvm.symm (hgood _ List.mem_cons_self) hk
  have hini' : (Cond.initialized cls).before args s' = true := vx_ot_at hW0 hvm.symm (hgood _ (List.mem_cons_of_mem _ List.mem_cons_self)) hini
  have hU' : vx_Zq Bundle.tN "UNASSIGNED_STACK" Bundle.steD A s' s'.heap := by rw [hhp]; exact vx_Zq.moved hW0.alike (hU.kept hS.2.1)
  have hN' : vx_Zq Bundle.tN "SUPPRESSED_SENTINEL" Bundle.listD A s' s'.heap := by rw [hhp]; exact vx_Zq.moved hW0.alike (hN.kept hS.2.1)
  have h : ∀ w ∈ Bundle.ownAtoms0 own ic cls names, w.before args s' = true := vx_own hat' (vx_isRefq hU'.1) (vx_isRefq hN'.1) hU'.2.word hN'.2.word
  have hown' : s'.vm.findClass own = some m.cls := by rw [hvm]; exact hown
  have hins : (Cond.instantiable cls 6).before args s' = true := h _ (by simp [Bundle.ownAtoms0])
  obtain ⟨vm₁, cX, kX, hfX, hkX, -, -, X₁, st1⟩ := Y.newCold hexec (own := own) (C := cls) (index := ik) (n := 6) hown' hk' hins hini'
    (g := F0 m pc ls rest) rfl (by rw [hb]; exact d0) (Nat.le_refl _) (Nat.le_refl _)
  generalize hT1 : (T.setVm vm₁).pushCell { cls := cX, slots := kX.instanceTypes.map defaultValue, vm := .none } = T1 at X₁ st1
  have hcat : (Value.ref T.heap.size).category = 1 := rfl
  have hcellA : T1.heap[T.heap.size]? = some (freshCell cX kX) := by rw [← hT1]; exact State.heap_pushCell_size _ _
  have d3' : decode c.code (pc + 3) = .ok (.dup, 1) := by rw [hb]; exact d3
  obtain ⟨U, hsteps, hrun, hend, hW, hsame, ce, hce, hO⟩ := X₁.ctorThrow0 hexec htr (own := own) (cls := cls) (names := names) (ic := ic) hown' hcls hnames h (fun x hx => nomatch hx) hfX hkX hcellA (by rw [hhp, hT]; exact Nat.le_refl _)
    (g := { method := m, pc := pc + 4, locals := ls, stack := .ref T.heap.size :: .ref T.heap.size :: rest, locked := none }) rfl hsize rfl rfl (rest := rest) rfl
    (by rw [hb]; exact d4) (by rw [hb]; exact d7) hout hRframes (by simp only [List.map_cons, List.sum_cons, hcat]; omega) hlocks
  obtain ⟨f1, f2⟩ := vx_frame hsame
  rw [hhp] at f1 f2
  have hWs : s.WarmedH U.vm := State.WarmedH.trans hW0 hW
  have hcl : s.vm.findClass cls = some ce.cls := by
    have h9 := hO.cls
    rw [hvm] at h9
    exact h9
  have hall : s.sameButNew ({ U with vm := s.vm } : State) locs mc ms := by
    subst hA
    obtain ⟨e1, e2⟩ := hsame
    rw [State.setFrames_setFrames] at e1
    have h2 : (T.setVm s.vm).sameButNew ({ U with vm := s.vm } : State) [] (0 + 1) (0 + 6) := ⟨e1, e2⟩
    have h3 := X.same.trans h2
    rw [List.append_nil] at h3
    exact h3.mono hc hs
  refine ⟨U, ?_, .threw T.heap.size, hrun, hend, Or.inr ⟨T.heap.size, rfl, cls, ce, locs, hx U hWs.alike f1 (fun q hq => f2 q hq (fun z hz => nomatch hz)), hce, hO.vm, hcl, hWs, hall, hf⟩⟩
  refine st1 _ ?_
  show Steps p.tables e below (T1.setTop { method := m, pc := pc + 3, locals := ls, stack := .ref T.heap.size :: rest, locked := none }) _
  jvm_step X₁.here [X₁.here.top, hexec, d3', Value.category]
  exact hsteps
/-- 'throw new E("text")': new; dup; ldc; invokespecial; athrow -/
theorem vx_throwS {cc : ByteArray} {pc : Nat} (hexec : p.tables.exec = Jvm.exec) (hb : c.code = cc) (hl : l.stackTraces = false) {own cls text : String} {names : List String} {ik is ic mc ms sa : Nat} {A : Nat → Prop}
    (hown : s.vm.findClass own = some m.cls) (hcls : Bundle.fit cls = true) (hnames : ∀ n ∈ names, Bundle.fit n = true)
    (hk : (Cond.classLink own ik cls).before args s = true) (hini : (Cond.initialized cls).before args s = true) (hstr : vk_R own is text sa s) (hat : ∀ w ∈ vx_atS own ic cls names, w.before args s = true)
    (hgood : ∀ w ∈ Cond.classLink own ik cls :: Cond.initialized cls :: vx_atS own ic cls names, vx_ot w = true)
    (hU : vx_Zq Bundle.tN "UNASSIGNED_STACK" Bundle.steD A s s.heap) (hN : vx_Zq Bundle.tN "SUPPRESSED_SENTINEL" Bundle.listD A s s.heap) (hS : va_S A s.heap H locs) (hsize : ls.size = c.maxLocals)
    (d0 : decode cc pc = .ok (.new ik, 3)) (d3 : decode cc (pc + 3) = .ok (.dup, 1)) (d4 : decode cc (pc + 4) = .ok (.ldc is, 2)) (d6 : decode cc (pc + 6) = .ok (.invokespecial ic, 3)) (d9 : decode cc (pc + 9) = .ok (.athrow, 1))
    (hout : ∀ x ∈ c.exceptionTable.toList, covers x (pc + 9) = false)
    (hRframes : names.length + 3 < R.frames) (hRlocals : (rest.map fun v => v.category).sum + (13 * (names.length + 1) + 43) ≤ R.locals) (hRcells : cells + 1 ≤ R.cells) (hRslots : slots + 6 ≤ R.slots) (hlocks : meth.locks = false)
    (hx : ∀ t : State, s.vm.Alike t.vm → H.size ≤ t.heap.size → (∀ q : Nat, q < H.size → t.heap[q]? = H[q]?) → XC cls s t)
    (hf : ∀ z ∈ locs, free z.base) (hc : cells + 1 ≤ mc) (hs : slots + 6 ≤ ms) :
    W p l e R s m args below meth c H locs cells slots (vx_MQ below Qc XC args s mc ms free) (F0 m pc ls rest) := by
  intro T hT X
  have htr : e.platform.stackTraces = false := (show e.platform.stackTraces = l.stackTraces by rw [X.admits.platform]).trans hl
  have Y := vx_rebase X (R' := { frames := R.frames, locals := R.locals, cells := 1, slots := 6 }) (Nat.le_refl _) (Nat.le_refl _) hRcells hRslots
  obtain ⟨s', hA⟩ : ∃ z, z = (T.setVm s.vm).setFrames (.invoking m args :: below) := ⟨_, rfl⟩
  rw [← hA] at Y
  have hvm : s'.vm = s.vm := by rw [hA]; rfl
  have hhp : s'.heap = H := by rw [hA]; exact hT
  have hW0 : s.WarmedH s'.vm := by rw [hvm]; exact State.WarmedH.refl s
  have hat' : ∀ w ∈ vx_atS own ic cls names, w.before args s' = true := fun w hw => vx_ot_at hW0 hvm.symm (hgood w (List.mem_cons_of_mem _ (List.mem_cons_of_mem _ hw))) (hat w hw)
  have hk' : (Cond.classLink own ik cls).before args s' = true := vx_ot_at hW0 hvm.symm (hgood _ List.mem_cons_self) hk
  have hini' : (Cond.initialized cls).before args s' = true := vx_ot_at hW0 hvm.symm (hgood _ (List.mem_cons_of_mem _ List.mem_cons_self)) hini
  have hU' : vx_Zq Bundle.tN "UNASSIGNED_STACK" Bundle.steD A s' s'.heap := by rw [hhp]; exact vx_Zq.moved hW0.alike (hU.kept hS.2.1)
  have hN' : vx_Zq Bundle.tN "SUPPRESSED_SENTINEL" Bundle.listD A s' s'.heap := by rw [hhp]; exact vx_Zq.moved hW0.alike (hN.kept hS.2.1)
  have h : ∀ w ∈ Bundle.ownAtoms own ic cls names, w.before args s' = true := vx_own hat' (vx_isRefq hU'.1) (vx_isRefq hN'.1) hU'.2.word hN'.2.word
  have hown' : s'.vm.findClass own = some m.cls := by rw [hvm]; exact hown
  have hins : (Cond.instantiable cls 6).before args s' = true := h _ (by simp [Bundle.ownAtoms])
  obtain ⟨vm₁, cX, kX, hfX, hkX, -, -, X₁, st1⟩ := Y.newCold hexec (own := own) (C := cls) (index := ik) (n := 6) hown' hk' hins hini'
    (g := F0 m pc ls rest) rfl (by rw [hb]; exact d0) (Nat.le_refl _) (Nat.le_refl _)
  generalize hT1 : (T.setVm vm₁).pushCell { cls := cX, slots := kX.instanceTypes.map defaultValue, vm := .none } = T1 at X₁ st1
  have hcat : (Value.ref T.heap.size).category = 1 := rfl
  have hcellA : T1.heap[T.heap.size]? = some (freshCell cX kX) := by rw [← hT1]; exact State.heap_pushCell_size _ _
  have d3' : decode c.code (pc + 3) = .ok (.dup, 1) := by rw [hb]; exact d3
  have d4' : decode c.code (pc + 4) = .ok (.ldc is, 2) := by rw [hb]; exact d4
  have hstr' : vk_R own is text sa s' := vk_R.warm hW0 hstr
  obtain ⟨U, hsteps, hrun, hend, hW, hsame, ce, hce, hO⟩ := X₁.ctorThrowS hexec htr (own := own) (cls := cls) (names := names) (ic := ic) hown' hcls hnames h (fun x hx => nomatch hx) hfX hkX hcellA (by rw [hhp, hT]; exact Nat.le_refl _) (msg := .ref sa) rfl
    (g := { method := m, pc := pc + 6, locals := ls, stack := .ref sa :: .ref T.heap.size :: .ref T.heap.size :: rest, locked := none }) rfl hsize rfl rfl (rest := rest) rfl
    (by rw [hb]; exact d6) (by rw [hb]; exact d9) hout hRframes (by simp only [List.map_cons, List.sum_cons, hcat]; omega) hlocks
  obtain ⟨f1, f2⟩ := vx_frame hsame
  rw [hhp] at f1 f2
  have hWs : s.WarmedH U.vm := State.WarmedH.trans hW0 hW
  have hcl : s.vm.findClass cls = some ce.cls := by
    have h9 := hO.cls
    rw [hvm] at h9
    exact h9
  have hall : s.sameButNew ({ U with vm := s.vm } : State) locs mc ms := by
    subst hA
    obtain ⟨e1, e2⟩ := hsame
    rw [State.setFrames_setFrames] at e1
    have h2 : (T.setVm s.vm).sameButNew ({ U with vm := s.vm } : State) [] (0 + 1) (0 + 6) := ⟨e1, e2⟩
    have h3 := X.same.trans h2
    rw [List.append_nil] at h3
    exact h3.mono hc hs
  refine ⟨U, ?_, .threw T.heap.size, hrun, hend, Or.inr ⟨T.heap.size, rfl, cls, ce, locs, hx U hWs.alike f1 (fun q hq => f2 q hq (fun z hz => nomatch hz)), hce, hO.vm, hcl, hWs, hall, hf⟩⟩
  refine st1 _ ?_
  show Steps p.tables e below (T1.setTop { method := m, pc := pc + 3, locals := ls, stack := .ref T.heap.size :: rest, locked := none }) _
  jvm_step X₁.here [X₁.here.top, hexec, d3', Value.category]
  exact X₁.ldcString hexec (own := own) (text := text) (index := is) (a := sa) hown' hstr'.1 hstr'.2
    (g := { method := m, pc := pc + 4, locals := ls, stack := .ref T.heap.size :: .ref T.heap.size :: rest, locked := none }) rfl d4' _ hsteps
/-- 'throw new E("text")', the text by a wide index -/
theorem vx_throwSW {cc : ByteArray} {pc : Nat} (hexec : p.tables.exec = Jvm.exec) (hb : c.code = cc) (hl : l.stackTraces = false) {own cls text : String} {names : List String} {ik is ic mc ms sa : Nat} {A : Nat → Prop}
    (hown : s.vm.findClass own = some m.cls) (hcls : Bundle.fit cls = true) (hnames : ∀ n ∈ names, Bundle.fit n = true)
    (hk : (Cond.classLink own ik cls).before args s = true) (hini : (Cond.initialized cls).before args s = true) (hstr : vk_R own is text sa s) (hat : ∀ w ∈ vx_atS own ic cls names, w.before args s = true)
    (hgood : ∀ w ∈ Cond.classLink own ik cls :: Cond.initialized cls :: vx_atS own ic cls names, vx_ot w = true)
    (hU : vx_Zq Bundle.tN "UNASSIGNED_STACK" Bundle.steD A s s.heap) (hN : vx_Zq Bundle.tN "SUPPRESSED_SENTINEL" Bundle.listD A s s.heap) (hS : va_S A s.heap H locs) (hsize : ls.size = c.maxLocals)
    (d0 : decode cc pc = .ok (.new ik, 3)) (d3 : decode cc (pc + 3) = .ok (.dup, 1)) (d4 : decode cc (pc + 4) = .ok (.ldc_w is, 3)) (d7 : decode cc (pc + 7) = .ok (.invokespecial ic, 3)) (d10 : decode cc (pc + 10) = .ok (.athrow, 1))
    (hout : ∀ x ∈ c.exceptionTable.toList, covers x (pc + 10) = false)
    (hRframes : names.length + 3 < R.frames) (hRlocals : (rest.map fun v => v.category).sum + (13 * (names.length + 1) + 43) ≤ R.locals) (hRcells : cells + 1 ≤ R.cells) (hRslots : slots + 6 ≤ R.slots) (hlocks : meth.locks = false)
    (hx : ∀ t : State, s.vm.Alike t.vm → H.size ≤ t.heap.size → (∀ q : Nat, q < H.size → t.heap[q]? = H[q]?) → XC cls s t)
    (hf : ∀ z ∈ locs, free z.base) (hc : cells + 1 ≤ mc) (hs : slots + 6 ≤ ms) :
    W p l e R s m args below meth c H locs cells slots (vx_MQ below Qc XC args s mc ms free) (F0 m pc ls rest) := by
  intro T hT X
  have htr : e.platform.stackTraces = false := (show e.platform.stackTraces = l.stackTraces by rw [X.admits.platform]).trans hl
  have Y := vx_rebase X (R' := { frames := R.frames, locals := R.locals, cells := 1, slots := 6 }) (Nat.le_refl _) (Nat.le_refl _) hRcells hRslots
  obtain ⟨s', hA⟩ : ∃ z, z = (T.setVm s.vm).setFrames (.invoking m args :: below) := ⟨_, rfl⟩
  rw [← hA] at Y
  have hvm : s'.vm = s.vm := by rw [hA]; rfl
  have hhp : s'.heap = H := by rw [hA]; exact hT
  have hW0 : s.WarmedH s'.vm := by rw [hvm]; exact State.WarmedH.refl s
  have hat' : ∀ w ∈ vx_atS own ic cls names, w.before args s' = true := fun w hw => vx_ot_at hW0 hvm.symm (hgood w (List.mem_cons_of_mem _ (List.mem_cons_of_mem _ hw))) (hat w hw)
  have hk' : (Cond.classLink own ik cls).before args s' = true := vx_ot_at hW0 hvm.symm (hgood _ List.mem_cons_self) hk
  have hini' : (Cond.initialized cls).before args s' = true := vx_ot_at hW0 hvm.symm (hgood _ (List.mem_cons_of_mem _ List.mem_cons_self)) hini
  have hU' : vx_Zq Bundle.tN "UNASSIGNED_STACK" Bundle.steD A s' s'.heap := by rw [hhp]; exact vx_Zq.moved hW0.alike (hU.kept hS.2.1)
  have hN' : vx_Zq Bundle.tN "SUPPRESSED_SENTINEL" Bundle.listD A s' s'.heap := by rw [hhp]; exact vx_Zq.moved hW0.alike (hN.kept hS.2.1)
  have h : ∀ w ∈ Bundle.ownAtoms own ic cls names, w.before args s' = true := vx_own hat' (vx_isRefq hU'.1) (vx_isRefq hN'.1) hU'.2.word hN'.2.word
  have hown' : s'.vm.findClass own = some m.cls := by rw [hvm]; exact hown
  have hins : (Cond.instantiable cls 6).before args s' = true := h _ (by simp [Bundle.ownAtoms])
  obtain ⟨vm₁, cX, kX, hfX, hkX, -, -, X₁, st1⟩ := Y.newCold hexec (own := own) (C := cls) (index := ik) (n := 6) hown' hk' hins hini'
    (g := F0 m pc ls rest) rfl (by rw [hb]; exact d0) (Nat.le_refl _) (Nat.le_refl _)
  generalize hT1 : (T.setVm vm₁).pushCell { cls := cX, slots := kX.instanceTypes.map defaultValue, vm := .none } = T1 at X₁ st1
  have hcat : (Value.ref T.heap.size).category = 1 := rfl
  have hcellA : T1.heap[T.heap.size]? = some (freshCell cX kX) := by rw [← hT1]; exact State.heap_pushCell_size _ _
  have d3' : decode c.code (pc + 3) = .ok (.dup, 1) := by rw [hb]; exact d3
  have d4' : decode c.code (pc + 4) = .ok (.ldc_w is, 3) := by rw [hb]; exact d4
  have hstr' : vk_R own is text sa s' := vk_R.warm hW0 hstr
  obtain ⟨U, hsteps, hrun, hend, hW, hsame, ce, hce, hO⟩ := X₁.ctorThrowS hexec htr (own := own) (cls := cls) (names := names) (ic := ic) hown' hcls hnames h (fun x hx => nomatch hx) hfX hkX hcellA (by rw [hhp, hT]; exact Nat.le_refl _) (msg := .ref sa) rfl
    (g := { method := m, pc := pc + 7, locals := ls, stack := .ref sa :: .ref T.heap.size :: .ref T.heap.size :: rest, locked := none }) rfl hsize rfl rfl (rest := rest) rfl
    (by rw [hb]; exact d7) (by rw [hb]; exact d10) hout hRframes (by simp only [List.map_cons, List.sum_cons, hcat]; omega) hlocks
  obtain ⟨f1, f2⟩ := vx_frame hsame
  rw [hhp] at f1 f2
  have hWs : s.WarmedH U.vm := State.WarmedH.trans hW0 hW
  have hcl : s.vm.findClass cls = some ce.cls := by
    have h9 := hO.cls
    rw [hvm] at h9
    exact h9
  have hall : s.sameButNew ({ U with vm := s.vm } : State) locs mc ms := by
    subst hA
    obtain ⟨e1, e2⟩ := hsame
    rw [State.setFrames_setFrames] at e1
    have h2 : (T.setVm s.vm).sameButNew ({ U with vm := s.vm } : State) [] (0 + 1) (0 + 6) := ⟨e1, e2⟩
    have h3 := X.same.trans h2
    rw [List.append_nil] at h3
    exact h3.mono hc hs
  refine ⟨U, ?_, .threw T.heap.size, hrun, hend, Or.inr ⟨T.heap.size, rfl, cls, ce, locs, hx U hWs.alike f1 (fun q hq => f2 q hq (fun z hz => nomatch hz)), hce, hO.vm, hcl, hWs, hall, hf⟩⟩
  refine st1 _ ?_
  show Steps p.tables e below (T1.setTop { method := m, pc := pc + 3, locals := ls, stack := .ref T.heap.size :: rest, locked := none }) _
  jvm_step X₁.here [X₁.here.top, hexec, d3', Value.category]
  exact X₁.ldcStringW hexec (own := own) (text := text) (index := is) (a := sa) hown' hstr'.1 hstr'.2
    (g := { method := m, pc := pc + 4, locals := ls, stack := .ref T.heap.size :: .ref T.heap.size :: rest, locked := none }) rfl d4' _ hsteps
end Ends
section Bodies
variable {l : Launch}
theorem vx_ofW {y : MethodName} {ws ws' : List Cond} {rm : Room} {Pc : Array Value → State → Prop} {Qc : Array Value → State → Outcome → State → Prop} {XC : String → State → State → Prop} {mc ms : Nat} {free : Addr → Prop} {cc : ByteArray} {maxL : Nat} {ret : Option FieldType}
    (hy : plainName y.cls = true) (hw : ws = Cond.code y cc maxL ret :: ws')
    (body : ∀ p e s m args below meth c s₁, BodyLoose p l y (headSpec ws rm) cc maxL ret e s m args below meth c s₁ → c.maxLocals = maxL → (∀ x ∈ c.exceptionTable.toList, False) → Pc args s →
      W p l e (headSpec ws rm).room s m args below meth c s.heap [] 0 0 (vx_MQ below Qc XC args s mc ms free) (entryFrame m args maxL)) : vx_Met l y ws rm Pc Qc XC mc ms free := by
  refine MetFree.of_bodyS (code := cc) (maxLocals := maxL) (ret := ret) hy ?_ ?_
  · intro args s m h hn
    obtain ⟨meth, c, h1, h2, h3, h4, h5, h6, -, -⟩ := Cond.code_spec hn (atoms_spec (ws := ws) h _ (by rw [hw]; exact List.mem_cons_self))
    exact ⟨meth, c, h1, h2, h3, h4, h5, h6⟩
  · intro p e s m args below meth c s₁ B hml hP _
    have hh0 : s₁.heap = s.heap := by rw [B.state]; rfl
    have ht : ∀ x ∈ c.exceptionTable.toList, False := by
      obtain ⟨meth9, c9, h1, h2, -, -, -, -, h7, -⟩ := Cond.code_spec B.named (atoms_spec (ws := ws) B.pre _ (by rw [hw]; exact List.mem_cons_self))
      cases Option.some.inj (h1.symm.trans B.method)
      cases Option.some.inj (h2.symm.trans (Stand.of_body B).code)
      intro x hx
      rw [Array.isEmpty_iff.mp h7] at hx
      cases hx
    obtain ⟨t, a1, o, b1, b2, b3⟩ := body p e s m args below meth c s₁ B hml ht hP s₁ hh0 (Stand.of_body B)
    exact ⟨t, o, a1, b1, b2, b3⟩
/-- the table of a body with handlers -/
theorem vx_table {p : Program} {x y : MethodName} {S : Spec} {cc bytes : ByteArray} {maxL maxL' : Nat} {ret ret' : Option FieldType} {e : Env} {s s₁ : State} {m : MethodId} {args : Array Value} {below : List Frame} {meth : Method} {c : Code} {hh : List (Nat × Nat × Nat × Nat)}
    (B : BodyLoose p l y S cc maxL ret e s m args below meth c s₁) (h : (Cond.codeWith y bytes maxL' ret' hh).before args s = true) : c.exceptionTable.toList = tableOf hh := by
  obtain ⟨m9, meth9, c9, hn9, h1, h2, -, -, h6, -⟩ := Cond.codeWith_spec h
  cases Option.some.inj (hn9.symm.trans B.named)
  cases Option.some.inj (h1.symm.trans B.method)
  cases Option.some.inj (h2.symm.trans (Stand.of_body B).code)
  rw [← h6, table_eq]
end Bodies
end VXA
/-! ===== END ===== -/
/-! ===== BEGIN a static call of a method with an exception table ===== -/
section VXS
variable {p : Program} {l : Launch} {e : Env} {R : Room} {s : State} {m : MethodId} {args : Array Value} {below : List Frame} {meth : Method} {c : Code} {T : State} {H : Heap} {locs : List Loc} {cells slots : Nat}
abbrev vx_CSW (R : Room) (s : State) (args : Array Value) (own : String) (index : Nat) (y : MethodName) (bytes : ByteArray) (maxL : Nat) (ret : Option FieldType) (hh : List (Nat × Nat × Nat × Nat)) (ws : List Cond) (rm : Room) (mc ms n : Nat) : Prop :=
  (rm.cells = mc ∧ rm.slots = ms ∧ rm.frames + 1 ≤ R.frames ∧ 8 + (maxL + 11) + rm.locals ≤ R.locals ∧ (∀ w ∈ ws, ∀ (a' : Array Value) (U : State), s.WarmedH U.vm → w.before a' U = true) ∧ Cond.codeWith y bytes maxL ret hh ∈ ws) ∧
  (Cond.codeWith y bytes maxL ret hh).before args s = true ∧ (Cond.initialized y.cls).before args s = true ∧ (y.cls ≠ "java/lang/invoke/MethodHandle" ∧ y.cls ≠ "java/lang/invoke/VarHandle") ∧
  (∀ sig, parseMethodDescriptor y.desc = some sig → n = sig.parameters.length) ∧ (Cond.methodLink own index y).before args s = true ∧ (Cond.static y).before args s = true
theorem vx_cwSW {own : String} {index maxL mc ms : Nat} {y : MethodName} {bytes : ByteArray} {ret : Option FieldType} {hh : List (Nat × Nat × Nat × Nat)} {Ts ws ws' : List Cond} {rm : Room} (n : Nat) (ht : ∀ w ∈ Ts, w.before args s = true) (hT : GoodIn Ts (va_wsS own index y ws)) (hw : ws = Cond.codeWith y bytes maxL ret hh :: ws') (hrc : rm.cells = mc) (hrs : rm.slots = ms)
    (hd : y.cls ≠ "java/lang/invoke/MethodHandle" ∧ y.cls ≠ "java/lang/invoke/VarHandle" ∧ (parseMethodDescriptor y.desc).map (fun d => d.parameters.length) = some n) (hR : rm.frames + 1 ≤ R.frames ∧ 8 + (maxL + 11) + rm.locals ≤ R.locals) :
    vx_CSW R s args own index y bytes maxL ret hh ws rm mc ms n := by
  have ok : ∀ w ∈ va_wsS own index y ws, w.before args s = true := fun w h => ht w (hT w h).1
  have hG : GoodIn Ts ws := fun w h => hT w (by unfold va_wsS; exact List.mem_append_right _ h)
  have hc : Cond.codeWith y bytes maxL ret hh ∈ ws := by rw [hw]; exact List.mem_cons_self
  refine ⟨⟨hrc, hrs, hR.1, hR.2, pay_in ht hG, hc⟩, ht _ (hG _ hc).1, ok _ (by simp [va_wsS]), ⟨hd.1, hd.2.1⟩, fun sig h => ?_, ok _ (by simp [va_wsS]), ok _ (by simp [va_wsS])⟩
  have h2 := hd.2.2
  rw [h] at h2
  exact (Option.some.inj h2).symm
theorem vx_callSW (X : Stand p l e R s m args below meth c T locs cells slots) (hexec : p.tables.exec = Jvm.exec) {own : String} {index : Nat} {y : MethodName} {bytes : ByteArray} {maxL : Nat} {ret : Option FieldType} {hh : List (Nat × Nat × Nat × Nat)}
    (hown : s.vm.findClass own = some m.cls) (hlink : (Cond.methodLink own index y).before args s = true) (hstat : (Cond.static y).before args s = true) (hinit : (Cond.initialized y.cls).before args s = true)
    (hcode : (Cond.codeWith y bytes maxL ret hh).before args s = true) (hy : y.cls ≠ "java/lang/invoke/MethodHandle" ∧ y.cls ≠ "java/lang/invoke/VarHandle")
    {W9 : Nat} {Pre : Pt → Array Value → Prop} {Post : Pt → Array Value → Option Value → Pt → Prop} (hK : Back l R p e below s args y 3 W9 Pre Post)
    {g : JFrame} (hg : g.method = m) (hsize : g.locals.size = c.maxLocals) {argsL rest : List Value} (hlen : ∀ sig, parseMethodDescriptor y.desc = some sig → argsL.length = sig.parameters.length)
    (hstack : g.stack = argsL.reverse ++ rest) (hW : 2 * g.monitorRoom + (rest.map fun v => v.category).sum ≤ W9) (hdg : decode c.code g.pc = .ok (.invokestatic index, 3))
    (hpre : ∀ vm₁, s.WarmedH vm₁ → Pre ⟨T.setVm vm₁, locs, cells, slots⟩ argsL.toArray) :
    ∃ (v : Option Value) (vm₁ : Vm) (B : Pt), s.WarmedH vm₁ ∧ Stand p l e R s m args below meth c B.U B.locs B.cells B.slots ∧ Post ⟨T.setVm vm₁, locs, cells, slots⟩ argsL.toArray v B ∧
      ∀ target, Steps p.tables e below (B.U.setTop { g with pc := g.pc + 3, stack := v.toList ++ rest }) target → Steps p.tables e below (T.setTop g) target := by
  obtain ⟨mk, methM, cM, hnamed, hmethM, -, -, -, -, -, -, hsigM⟩ := Cond.codeWith_spec hcode
  have hstatic : methM.isStatic = true := Cond.static_spec hnamed hmethM hstat
  obtain ⟨kP, hkP, -⟩ := className_of_methodNamed hnamed
  have hinitP : kP.init = .initialized := Cond.initialized_spec (findClass_of_methodNamed hnamed) hkP hinit
  obtain ⟨vm₁, X₁, hstep₁⟩ := X.invokestatic hexec hown hlink hnamed hmethM hstatic hkP hinitP hy (g := g) hg (argsL := argsL) (rest := rest) (hlen _ hsigM) hstack hdg
  obtain ⟨v, B, X', hpost, hsteps⟩ := hK m meth c ⟨T.setVm vm₁, locs, cells, slots⟩ { g with stack := rest } (.invokestatic index) mk argsL.toArray X₁ hg hsize hdg hW (X₁.named hnamed) (hpre vm₁ X₁.warmed)
  exact ⟨v, vm₁, B, X₁.warmed, X', hpost, fun target h => hstep₁ _ fun acts => by rw [doInvoke_state]; exact hsteps.trans h⟩
theorem vx_runSW {y : MethodName} {bytes cc : ByteArray} {maxL nL mc ms n index : Nat} {ret : Option FieldType} {hh : List (Nat × Nat × Nat × Nat)} {ws : List Cond} {rm : Room} {Pc : Array Value → State → Prop} {Qc : Array Value → State → Outcome → State → Prop} {free : Addr → Prop} {Ts : List Cond} {own : String} {As rest : List Value} {g : JFrame}
    (S : CallFix p m c cc nL s args Ts own) (hM : Met l y ws rm Pc Qc mc ms free) (cw : vx_CSW R s args own index y bytes maxL ret hh ws rm mc ms n) (hp : PreS s H Pc As)
    (hg : g.method = m) (hn : As.length = n) (hsize : g.locals.size = nL) (hstack : g.stack = As.reverse ++ rest) (hW : 2 * g.monitorRoom + (rest.map fun v => v.category).sum ≤ 8) (hdg : decode cc g.pc = .ok (.invokestatic index, 3)) (hf : cells + mc ≤ R.cells ∧ slots + ms ≤ R.slots) :
    va_Run p l e R s m args below meth c H locs cells slots mc ms g rest (Qc As.toArray) (free) := by
  obtain ⟨⟨hrc, hrs, hfr, hlo, hws, hcw⟩, hcode, hini, hy, hlen, hl, hstt⟩ := cw
  have hK : Back l R p e below s args y 3 8 (PreOf R mc ms Pc) (PostOf Qc mc ms free) := va_backW (hh := hh) (bytes := bytes) (maxL := maxL) (ret := ret) hM hp.1 hrc hrs hfr hlo hws hcw (fun a' U hW => word_at hW (Or.inl (by first | rfl | simp [Cond.onTables, Cond.keeps, Cond.steady])) hini)
  obtain ⟨hx, hb, hml, ho, -⟩ := S
  intro T hT X
  obtain ⟨v, vm₁, ⟨U', l2, c2, s2⟩, hW₁, X', ⟨g', mk, t, L, e1, e2, hq, h1, hL, h2, h3⟩, st⟩ := vx_callSW X hx (hh := hh) (bytes := bytes) (maxL := maxL) (ret := ret) ho hl hstt hini hcode hy hK hg (hsize.trans hml.symm) (argsL := As) (rest := rest) (fun sig h => hn.trans (hlen sig h)) hstack hW (by rw [hb]; exact hdg)
    (fun vm₁ hW₁ => ⟨hf.1, hf.2, hp.2 (T.setVm vm₁) hT hW₁⟩)
  dsimp only [Pt.U, Pt.locs, Pt.cells, Pt.slots] at X' e1 e2 h1 h2 h3 st
  subst h1; subst h2; subst h3
  exact ⟨v, (T.setVm vm₁).calling g' mk As.toArray, t, U', L, hT, X', hL, e1, e2, hq, st⟩
/-- not caught here, past rows that name other classes: it goes on to the caller -/
theorem vx_outP {p : Program} {l : Launch} {e : Env} {R : Room} {s : State} {m : MethodId} {args : Array Value} {below : List Frame} {meth : Method} {c : Code} {H : Heap} {locs : List Loc} {cells slots : Nat} {free : Addr → Prop} {ls : Array Slot} {rest : List Value} {Qc : Array Value → State → Outcome → State → Prop} {XC : String → State → State → Prop}
    {pc : Nat} {own E : String} {ce : Cell} {q : Addr} {mc ms : Nat} (hown : s.vm.findClass own = some m.cls) (hlocks : meth.locks = false)
    (hpass : ∀ z ∈ c.exceptionTable.toList, covers z pc = false ∨ (z.catchType ≠ 0 ∧ ∃ nm : String, (Cond.classLink own z.catchType nm).before args s = true ∧ va_Nc E nm s)) (hcell : H[q]? = some ce) (hv : ce.vm = .none) (hcl : s.vm.findClass E = some ce.cls)
    (hx : ∀ t : State, t.heap = H → s.vm.Alike t.vm → XC E s t) (hf : ∀ z ∈ locs, free z.base) (hc : cells ≤ mc) (hs : slots ≤ ms) :
    vx_W p l e R s m args below meth c H locs cells slots (vx_MQ below Qc XC args s mc ms free) (F0 m pc ls rest) q := by
  intro T hT X
  have hpl : e.platform.magicAccessors = ({} : Platform).magicAccessors := by rw [X.admits.platform]
  obtain ⟨vm', hW', X', st⟩ := X.outThrough hlocks q (g := F0 m pc ls rest) rfl rfl rfl (cell := ce) (by rw [hT]; exact hcell) (by rw [hv]; rfl)
    (by obtain ⟨k9, h9, -⟩ := Vm.findClass_spec hcl; exact ⟨k9, h9⟩) (fun z hz => by
      rcases hpass z hz with h | ⟨hz0, nm, hl1, hn1⟩
      · exact Or.inl h
      · obtain ⟨c6, hc6, hcl6⟩ := Cond.classLink_spec hown hl1 e.platform hpl
        obtain ⟨a8, b8, h1, h2, h3⟩ := hn1
        cases Option.some.inj (h1.symm.trans hcl)
        cases Option.some.inj (h2.symm.trans hc6)
        exact Or.inr ⟨hz0, _, hcl6, h3⟩)
  obtain ⟨g₀, hfr⟩ := X'.frames_eq
  have hcell9 : ((T.setVm vm').setFrames (.throwing q :: below)).heap[q]? = some ce := by
    show T.heap[q]? = some ce
    rw [hT]; exact hcell
  have hend : Ended ((T.setVm vm').setFrames (.throwing q :: below)) below (.threw q) := State.frames_setFrames _ (State.cur_lt_of_frames hfr)
  refine ⟨(T.setVm vm').setFrames (.throwing q :: below), ?_, .threw q, X'.here.running, hend, Or.inr ⟨q, rfl, E, ce, locs, hx _ hT (X'.ends _).1.alike, hcell9, hv, hcl, (X'.ends _).1, (X'.ends _).2.mono hc hs, hf⟩⟩
  rw [X.pushThrowing_eq]
  exact st
/-- a thing of a world lies in the heap -/
theorem vx_lt {D : va_G} {cl : List vw_C} {ws : va_W} {H1 : Heap} (h : va_P D cl ws H1) {k : Nat} {q : Nat × va_E} (hk : ws[k]? = some q) : q.1 < H1.size := (h k q hk).lt
end VXS
/-! ===== END ===== -/
/-! ===== BEGIN methods with a table of their own: called by a name, returning or throwing ===== -/
section VXH
/-! vx_backW, vx_callVX, vx_callSX, vx_callVW, vx_runVW, vx_runVX, vx_runSX, vx_ofWH follow the same proofs as their sisters above (Free/Laws.lean, Shelf42/LK1.lean); vx_outP calls Shelf42/NT130.lean (outThrough). -/
section
variable {l : Launch} {R : Room} {p : Program} {e : Env} {below : List Frame} {s : State} {sargs : Array Value} {y : MethodName} {len W9 : Nat}
theorem vx_backW {ws : List Cond} {rm : Room} {Pc : Array Value → State → Prop} {Qc : Array Value → State → Outcome → State → Prop} {XC : String → State → State → Prop} {mc ms : Nat} {free : Addr → Prop} {bytes : ByteArray} {maxL : Nat} {ret : Option FieldType} {hh : List (Nat × Nat × Nat × Nat)}
    (hM : vx_Met l y ws rm Pc Qc XC mc ms free) (hblind : FrameBlind Pc) (hrc : rm.cells = mc) (hrs : rm.slots = ms)
    (hframes : rm.frames + 1 ≤ R.frames) (hlocals : W9 + (maxL + 11) + rm.locals ≤ R.locals)
    (hws : ∀ w ∈ ws, ∀ a' U, s.WarmedH U.vm → w.before a' U = true) (hcode : Cond.codeWith y bytes maxL ret hh ∈ ws) (hinit : ∀ a' U, s.WarmedH U.vm → (Cond.initialized y.cls).before a' U = true) :
    vx_Back l R p e below s sargs y len W9 (PreOf R mc ms Pc) (PostOf Qc mc ms free) (vx_Post XC mc ms free) := by
  intro m meth c A g ig mk a X hg hsize hdg hW hn hp
  have h1 : (headSpec ws rm).pre.before a A.U = true := atoms_intro fun w hw => hws w hw _ _ X.warmed
  have h2 : (Cond.codeWith y bytes maxL ret hh).before a A.U = true := hws _ hcode _ _ X.warmed
  have h3 : (Cond.initialized y.cls).before a A.U = true := hinit _ _ X.warmed
  have h4 : A.cells + (headSpec ws rm).room.cells ≤ R.cells := by rw [show (headSpec ws rm).room.cells = mc from hrc]; exact hp.1
  have h5 : A.slots + (headSpec ws rm).room.slots ≤ R.slots := by rw [show (headSpec ws rm).room.slots = ms from hrs]; exact hp.2.1
  have hPc : Pc a (A.U.calling g mk a) := hblind _ _ _ _ hp.2.2
  obtain ⟨U, Ls, c0, s0⟩ := A
  dsimp only [Pt.U, Pt.locs, Pt.cells, Pt.slots] at h1 h2 h3 h4 h5 X hn hPc ⊢
  obtain ⟨m9, methY, cY, hn9, hmY, hcY, -, hlY, -⟩ := Cond.codeWith_spec h2
  cases Option.some.inj (hn9.symm.trans hn)
  obtain ⟨kY, hkY, -⟩ := className_of_methodNamed hn
  have hinitY : kY.init = .initialized := Cond.initialized_spec (findClass_of_methodNamed hn) hkY h3
  have h : At U g.method c below := by rw [hg]; exact X.here
  have hlocals9 : W9 + (maxL + 11) + (headSpec ws rm).room.locals ≤ R.locals := hlocals
  have happ : (headSpec ws rm).appliesLoose y e.platform (U.calling g mk a) = true :=
    Spec.appliesLoose_calling (g := g) h hdg hn hkY hinitY
      (X.room_calling (g := g) (R' := (headSpec ws rm).room) hsize hmY hcY hframes (by rw [hlY]; omega) h4 h5) h1
  obtain ⟨mid, hmid⟩ := h.above
  have hfr : (U.setTop g).frames = (.java g :: mid) ++ below := by rw [State.frames_setTop' g h.top, hmid]; rfl
  obtain ⟨o, s₂, hsteps, -, hend, hq⟩ := Steps.callFree hM p X.admits X.cas X.clock (acts := []) hfr happ hPc trivial
  have hq' : vx_Q Qc XC mc ms free a (U.calling g mk a) o s₂ := hq
  rw [State.frames_setTop' g h.top] at hend
  obtain ⟨g₀, hg0⟩ := Option.isSome_iff_exists.mp h.top
  obtain ⟨r, hr⟩ := State.topJava?_eq_some.mp hg0
  have hr' : (({ U with heap := s₂.heap, slotsUsed := s₂.slotsUsed } : State).setVm s₂.vm).frames = .java g₀ :: r := hr
  rcases hq' with ⟨hqc, L, hfe, hL⟩ | ⟨q, rfl, E, ce, L, hx, hce, hcv, hcl, hW₂, hsm, hL⟩
  · obtain ⟨⟨v, rfl⟩, hW₂, e2, q2, q3, q4, q5, q6⟩ := id hfe
    have e3 : s₂ = ({ (U.calling g mk a).setFrames s₂.frames with heap := s₂.heap, slotsUsed := s₂.slotsUsed } : State).setVm s₂.vm := by
      have : s₂ = ({ s₂ with vm := (U.calling g mk a).vm } : State).setVm s₂.vm := rfl
      rw [e2] at this
      exact this
    obtain ⟨c₂, i₂, len₂, hc₂, hd₂, hf₂⟩ := hend
    have hW' : U.WarmedH s₂.vm := hW₂
    have hcc : c₂ = c := by
      have h1 : s₂.code? g.method = U.code? g.method := by
        rw [State.code?_eq, State.code?_eq, hW'.alike.method?]
      exact Option.some.inj (hc₂.symm.trans (h1.trans h.code))
    subst hcc
    have hlen : len₂ = len := by rw [hdg] at hd₂; cases hd₂; rfl
    subst hlen
    have hs₂ : s₂ = (({ U with heap := s₂.heap, slotsUsed := s₂.slotsUsed } : State).setVm s₂.vm).setTop { g with pc := g.pc + len₂, stack := v.toList ++ g.stack } := by
      refine e3.trans ?_
      rw [hf₂, State.calling_eq h.top, State.setFrames_setFrames, State.setTop_of_frames _ hr', hr]
      rfl
    have hsame : U.sameButNew ({ U with heap := s₂.heap, slotsUsed := s₂.slotsUsed } : State) L mc ms := by
      refine ⟨?_, q2, q3, q4, q5, q6⟩
      obtain ⟨t, ht, -⟩ := State.frames_cons hr
      show ({ U with heap := s₂.heap, slotsUsed := s₂.slotsUsed } : State) = { U.setFrames U.frames with heap := s₂.heap, slotsUsed := s₂.slotsUsed }
      rw [State.setFrames_self ht]
    subst hg
    refine Or.inl ⟨v, ⟨(({ U with heap := s₂.heap, slotsUsed := s₂.slotsUsed } : State).setVm s₂.vm), Ls ++ L, c0 + mc, s0 + ms⟩,
      ⟨X.admits, X.cas, X.clock, X.frames, X.room, X.hears, X.method, X.code, (X.here.setHeapUsed s₂.heap s₂.slotsUsed).setVm hW'.alike, X.tail, State.WarmedH.trans X.warmed hW', X.limits, X.bytes, X.same.trans (hsame.setVm s.vm)⟩,
      ⟨g, mk, s₂, L, rfl, rfl, hqc, rfl, hL, rfl, rfl⟩, ?_⟩
    show Steps p.tables e below _ ((({ U with heap := s₂.heap, slotsUsed := s₂.slotsUsed } : State).setVm s₂.vm).setTop { g with pc := g.pc + len₂, stack := v.toList ++ g.stack })
    rw [← hs₂]
    exact hsteps
  · obtain ⟨e2, q2, q3, q4, q5, q6⟩ := id hsm
    have e3 : s₂ = ({ (U.calling g mk a).setFrames s₂.frames with heap := s₂.heap, slotsUsed := s₂.slotsUsed } : State).setVm s₂.vm := by
      have : s₂ = ({ s₂ with vm := (U.calling g mk a).vm } : State).setVm s₂.vm := rfl
      rw [e2] at this
      exact this
    have hf₂ : s₂.frames = .throwing q :: .java g :: U.frames.tail := hend
    have hW' : U.WarmedH s₂.vm := hW₂
    have hs₂ : s₂ = ((({ U with heap := s₂.heap, slotsUsed := s₂.slotsUsed } : State).setVm s₂.vm).setTop g).pushFrame (.throwing q) := by
      refine e3.trans ?_
      rw [hf₂, State.calling_eq h.top, State.setFrames_setFrames, State.pushFrame, State.frames_setTop _ hr', State.setTop_of_frames _ hr', State.setFrames_setFrames, hr]
      rfl
    have hsame : U.sameButNew ({ U with heap := s₂.heap, slotsUsed := s₂.slotsUsed } : State) L mc ms := by
      refine ⟨?_, q2, q3, q4, q5, q6⟩
      obtain ⟨t, ht, -⟩ := State.frames_cons hr
      show ({ U with heap := s₂.heap, slotsUsed := s₂.slotsUsed } : State) = { U.setFrames U.frames with heap := s₂.heap, slotsUsed := s₂.slotsUsed }
      rw [State.setFrames_self ht]
    subst hg
    refine Or.inr ⟨q, ⟨(({ U with heap := s₂.heap, slotsUsed := s₂.slotsUsed } : State).setVm s₂.vm), Ls ++ L, c0 + mc, s0 + ms⟩,
      ⟨X.admits, X.cas, X.clock, X.frames, X.room, X.hears, X.method, X.code, (X.here.setHeapUsed s₂.heap s₂.slotsUsed).setVm hW'.alike, X.tail, State.WarmedH.trans X.warmed hW', X.limits, X.bytes, X.same.trans (hsame.setVm s.vm)⟩,
      ⟨g, mk, s₂, L, E, ce, rfl, rfl, hx, hce, hcv, hcl, rfl, hL, rfl, rfl⟩, ?_⟩
    show Steps p.tables e below _ (((({ U with heap := s₂.heap, slotsUsed := s₂.slotsUsed } : State).setVm s₂.vm).setTop g).pushFrame (.throwing q))
    rw [← hs₂]
    exact hsteps
end
variable {p : Program} {l : Launch} {e : Env} {R : Room} {s : State} {m : MethodId} {args : Array Value} {below : List Frame} {meth : Method} {c : Code} {T : State} {H : Heap} {locs : List Loc} {cells slots : Nat}
theorem vx_callVX (X : Stand p l e R s m args below meth c T locs cells slots) (hexec : p.tables.exec = Jvm.exec) {own C : String} {index : Nat} {y : MethodName} {bytes : ByteArray} {maxL : Nat} {ret : Option FieldType} {hh : List (Nat × Nat × Nat × Nat)}
    (hown : s.vm.findClass own = some m.cls) (hlink : (Cond.methodLink own index y).before args s = true) (hinst : (Cond.instanceMethod y).before args s = true) (hsel : (Cond.selects C y y).before args s = true)
    (hcode : (Cond.codeWith y bytes maxL ret hh).before args s = true) (hy : y.cls ≠ "java/lang/invoke/MethodHandle" ∧ y.cls ≠ "java/lang/invoke/VarHandle")
    {W9 : Nat} {Pre : Pt → Array Value → Prop} {Post : Pt → Array Value → Option Value → Pt → Prop} {PostX : Pt → Array Value → Addr → Pt → Prop} (hK : vx_Back l R p e below s args y 3 W9 Pre Post PostX)
    {b : Addr} {cellB : Cell} (hcell : T.heap[b]? = some cellB) (hobj : cellB.vm.isStatics = false) (hcls : s.vm.findClass C = some cellB.cls)
    {g : JFrame} (hg : g.method = m) (hsize : g.locals.size = c.maxLocals) {argsL rest : List Value} (hlen : ∀ sig, parseMethodDescriptor y.desc = some sig → argsL.length = sig.parameters.length)
    (hstack : g.stack = argsL.reverse ++ .ref b :: rest) (hW : 2 * g.monitorRoom + (rest.map fun v => v.category).sum ≤ W9) (hdg : decode c.code g.pc = .ok (.invokevirtual index, 3))
    (hpre : ∀ vm₁, s.WarmedH vm₁ → Pre ⟨T.setVm vm₁, locs, cells, slots⟩ (Value.ref b :: argsL).toArray) :
    (∃ (v : Option Value) (vm₁ : Vm) (B : Pt), s.WarmedH vm₁ ∧ Stand p l e R s m args below meth c B.U B.locs B.cells B.slots ∧ Post ⟨T.setVm vm₁, locs, cells, slots⟩ (Value.ref b :: argsL).toArray v B ∧
      ∀ target, Steps p.tables e below (B.U.setTop { g with pc := g.pc + 3, stack := v.toList ++ rest }) target → Steps p.tables e below (T.setTop g) target) ∨
    (∃ (q : Addr) (vm₁ : Vm) (B : Pt), s.WarmedH vm₁ ∧ Stand p l e R s m args below meth c B.U B.locs B.cells B.slots ∧ PostX ⟨T.setVm vm₁, locs, cells, slots⟩ (Value.ref b :: argsL).toArray q B ∧
      Steps p.tables e below (T.setTop g) ((B.U.setTop { g with stack := rest }).pushFrame (.throwing q))) := by
  obtain ⟨mk, methM, hnamed, hmethM, hstM, habM⟩ := Cond.instanceMethod_spec hinst
  obtain ⟨m8, methM', cM, hn8, hmethM', -, -, -, -, -, -, hsigM⟩ := Cond.codeWith_spec hcode
  cases Option.some.inj (hn8.symm.trans hnamed)
  cases hmethM.symm.trans hmethM'
  obtain ⟨c2, r2, m2, q1, q2, q3, q4, kP, hkP, hkPi⟩ := Cond.selects_spec hsel
  cases hcls.symm.trans q1
  cases (State.methodFound?_of_named hnamed hy).symm.trans q2
  cases hnamed.symm.trans q3
  have hselP : selectMethod e.platform s.vm cellB.cls mk = .method mk := by rw [Launch.admits_selectMethod X.admits]; exact q4
  obtain ⟨vm₁, X₁, hstep₁⟩ := X.invokevirtual hexec hown hlink hnamed hmethM hstM hkP hkPi hy (a := b) (cell := cellB) hcell
    (fun z h => by rw [h] at hobj; cases hobj) hselP hmethM habM hkP hkPi (g := g) hg (argsL := argsL) (rest := rest) (hlen _ hsigM) hstack hdg
  rcases hK m meth c ⟨T.setVm vm₁, locs, cells, slots⟩ { g with stack := rest } (.invokevirtual index) mk (Value.ref b :: argsL).toArray X₁ hg hsize hdg hW (X₁.named hnamed) (hpre vm₁ X₁.warmed) with ⟨v, B, X', hpost, hsteps⟩ | ⟨q, B, X', hpost, hsteps⟩
  · exact Or.inl ⟨v, vm₁, B, X₁.warmed, X', hpost, fun target h => hstep₁ _ fun acts => by rw [doInvoke_state]; exact hsteps.trans h⟩
  · exact Or.inr ⟨q, vm₁, B, X₁.warmed, X', hpost, hstep₁ _ fun acts => by rw [doInvoke_state]; exact hsteps⟩
theorem vx_callSX (X : Stand p l e R s m args below meth c T locs cells slots) (hexec : p.tables.exec = Jvm.exec) {own : String} {index : Nat} {y : MethodName} {bytes : ByteArray} {maxL : Nat} {ret : Option FieldType} {hh : List (Nat × Nat × Nat × Nat)}
    (hown : s.vm.findClass own = some m.cls) (hlink : (Cond.methodLink own index y).before args s = true) (hstat : (Cond.static y).before args s = true) (hinit : (Cond.initialized y.cls).before args s = true)
    (hcode : (Cond.codeWith y bytes maxL ret hh).before args s = true) (hy : y.cls ≠ "java/lang/invoke/MethodHandle" ∧ y.cls ≠ "java/lang/invoke/VarHandle")
    {W9 : Nat} {Pre : Pt → Array Value → Prop} {Post : Pt → Array Value → Option Value → Pt → Prop} {PostX : Pt → Array Value → Addr → Pt → Prop} (hK : vx_Back l R p e below s args y 3 W9 Pre Post PostX)
    {g : JFrame} (hg : g.method = m) (hsize : g.locals.size = c.maxLocals) {argsL rest : List Value} (hlen : ∀ sig, parseMethodDescriptor y.desc = some sig → argsL.length = sig.parameters.length)
    (hstack : g.stack = argsL.reverse ++ rest) (hW : 2 * g.monitorRoom + (rest.map fun v => v.category).sum ≤ W9) (hdg : decode c.code g.pc = .ok (.invokestatic index, 3))
    (hpre : ∀ vm₁, s.WarmedH vm₁ → Pre ⟨T.setVm vm₁, locs, cells, slots⟩ argsL.toArray) :
    (∃ (v : Option Value) (vm₁ : Vm) (B : Pt), s.WarmedH vm₁ ∧ Stand p l e R s m args below meth c B.U B.locs B.cells B.slots ∧ Post ⟨T.setVm vm₁, locs, cells, slots⟩ argsL.toArray v B ∧
      ∀ target, Steps p.tables e below (B.U.setTop { g with pc := g.pc + 3, stack := v.toList ++ rest }) target → Steps p.tables e below (T.setTop g) target) ∨
    (∃ (q : Addr) (vm₁ : Vm) (B : Pt), s.WarmedH vm₁ ∧ Stand p l e R s m args below meth c B.U B.locs B.cells B.slots ∧ PostX ⟨T.setVm vm₁, locs, cells, slots⟩ argsL.toArray q B ∧
      Steps p.tables e below (T.setTop g) ((B.U.setTop { g with stack := rest }).pushFrame (.throwing q))) := by
  obtain ⟨mk, methM, cM, hnamed, hmethM, -, -, -, -, -, -, hsigM⟩ := Cond.codeWith_spec hcode
  have hstatic : methM.isStatic = true := Cond.static_spec hnamed hmethM hstat
  obtain ⟨kP, hkP, -⟩ := className_of_methodNamed hnamed
  have hinitP : kP.init = .initialized := Cond.initialized_spec (findClass_of_methodNamed hnamed) hkP hinit
  obtain ⟨vm₁, X₁, hstep₁⟩ := X.invokestatic hexec hown hlink hnamed hmethM hstatic hkP hinitP hy (g := g) hg (argsL := argsL) (rest := rest) (hlen _ hsigM) hstack hdg
  rcases hK m meth c ⟨T.setVm vm₁, locs, cells, slots⟩ { g with stack := rest } (.invokestatic index) mk argsL.toArray X₁ hg hsize hdg hW (X₁.named hnamed) (hpre vm₁ X₁.warmed) with ⟨v, B, X', hpost, hsteps⟩ | ⟨q, B, X', hpost, hsteps⟩
  · exact Or.inl ⟨v, vm₁, B, X₁.warmed, X', hpost, fun target h => hstep₁ _ fun acts => by rw [doInvoke_state]; exact hsteps.trans h⟩
  · exact Or.inr ⟨q, vm₁, B, X₁.warmed, X', hpost, hstep₁ _ fun acts => by rw [doInvoke_state]; exact hsteps⟩
theorem vx_callVW (X : Stand p l e R s m args below meth c T locs cells slots) (hexec : p.tables.exec = Jvm.exec) {own C : String} {index : Nat} {y : MethodName} {bytes : ByteArray} {maxL : Nat} {ret : Option FieldType} {hh : List (Nat × Nat × Nat × Nat)}
    (hown : s.vm.findClass own = some m.cls) (hlink : (Cond.methodLink own index y).before args s = true) (hinst : (Cond.instanceMethod y).before args s = true) (hsel : (Cond.selects C y y).before args s = true)
    (hcode : (Cond.codeWith y bytes maxL ret hh).before args s = true) (hy : y.cls ≠ "java/lang/invoke/MethodHandle" ∧ y.cls ≠ "java/lang/invoke/VarHandle")
    {W9 : Nat} {Pre : Pt → Array Value → Prop} {Post : Pt → Array Value → Option Value → Pt → Prop} (hK : Back l R p e below s args y 3 W9 Pre Post)
    {b : Addr} {cellB : Cell} (hcell : T.heap[b]? = some cellB) (hobj : cellB.vm.isStatics = false) (hcls : s.vm.findClass C = some cellB.cls)
    {g : JFrame} (hg : g.method = m) (hsize : g.locals.size = c.maxLocals) {argsL rest : List Value} (hlen : ∀ sig, parseMethodDescriptor y.desc = some sig → argsL.length = sig.parameters.length)
    (hstack : g.stack = argsL.reverse ++ .ref b :: rest) (hW : 2 * g.monitorRoom + (rest.map fun v => v.category).sum ≤ W9) (hdg : decode c.code g.pc = .ok (.invokevirtual index, 3))
    (hpre : ∀ vm₁, s.WarmedH vm₁ → Pre ⟨T.setVm vm₁, locs, cells, slots⟩ (Value.ref b :: argsL).toArray) :
    ∃ (v : Option Value) (vm₁ : Vm) (B : Pt), s.WarmedH vm₁ ∧ Stand p l e R s m args below meth c B.U B.locs B.cells B.slots ∧ Post ⟨T.setVm vm₁, locs, cells, slots⟩ (Value.ref b :: argsL).toArray v B ∧
      ∀ target, Steps p.tables e below (B.U.setTop { g with pc := g.pc + 3, stack := v.toList ++ rest }) target → Steps p.tables e below (T.setTop g) target := by
  obtain ⟨mk, methM, hnamed, hmethM, hstM, habM⟩ := Cond.instanceMethod_spec hinst
  obtain ⟨m8, methM', cM, hn8, hmethM', -, -, -, -, -, -, hsigM⟩ := Cond.codeWith_spec hcode
  cases Option.some.inj (hn8.symm.trans hnamed)
  cases hmethM.symm.trans hmethM'
  obtain ⟨c2, r2, m2, q1, q2, q3, q4, kP, hkP, hkPi⟩ := Cond.selects_spec hsel
  cases hcls.symm.trans q1
  cases (State.methodFound?_of_named hnamed hy).symm.trans q2
  cases hnamed.symm.trans q3
  have hselP : selectMethod e.platform s.vm cellB.cls mk = .method mk := by rw [Launch.admits_selectMethod X.admits]; exact q4
  obtain ⟨vm₁, X₁, hstep₁⟩ := X.invokevirtual hexec hown hlink hnamed hmethM hstM hkP hkPi hy (a := b) (cell := cellB) hcell
    (fun z h => by rw [h] at hobj; cases hobj) hselP hmethM habM hkP hkPi (g := g) hg (argsL := argsL) (rest := rest) (hlen _ hsigM) hstack hdg
  obtain ⟨v, B, X', hpost, hsteps⟩ := hK m meth c ⟨T.setVm vm₁, locs, cells, slots⟩ { g with stack := rest } (.invokevirtual index) mk (Value.ref b :: argsL).toArray X₁ hg hsize hdg hW (X₁.named hnamed) (hpre vm₁ X₁.warmed)
  exact ⟨v, vm₁, B, X₁.warmed, X', hpost, fun target h => hstep₁ _ fun acts => by rw [doInvoke_state]; exact hsteps.trans h⟩
abbrev vx_CVW (R : Room) (s : State) (args : Array Value) (own C : String) (index : Nat) (y : MethodName) (bytes : ByteArray) (maxL : Nat) (ret : Option FieldType) (hh : List (Nat × Nat × Nat × Nat)) (ws : List Cond) (rm : Room) (mc ms n : Nat) : Prop :=
  (rm.cells = mc ∧ rm.slots = ms ∧ rm.frames + 1 ≤ R.frames ∧ 8 + (maxL + 11) + rm.locals ≤ R.locals ∧ (∀ w ∈ ws, ∀ (a' : Array Value) (U : State), s.WarmedH U.vm → w.before a' U = true) ∧ Cond.codeWith y bytes maxL ret hh ∈ ws) ∧
  (Cond.codeWith y bytes maxL ret hh).before args s = true ∧ (Cond.initialized y.cls).before args s = true ∧ (y.cls ≠ "java/lang/invoke/MethodHandle" ∧ y.cls ≠ "java/lang/invoke/VarHandle") ∧
  (∀ sig, parseMethodDescriptor y.desc = some sig → n = sig.parameters.length) ∧ (Cond.methodLink own index y).before args s = true ∧ (Cond.instanceMethod y).before args s = true ∧ (Cond.selects C y y).before args s = true
theorem vx_cwVW {own C : String} {index maxL mc ms : Nat} {y : MethodName} {bytes : ByteArray} {ret : Option FieldType} {hh : List (Nat × Nat × Nat × Nat)} {Ts ws ws' : List Cond} {rm : Room} (n : Nat) (ht : ∀ w ∈ Ts, w.before args s = true) (hT : GoodIn Ts (wsV own index C y ws)) (hw : ws = Cond.codeWith y bytes maxL ret hh :: ws') (hrc : rm.cells = mc) (hrs : rm.slots = ms)
    (hd : y.cls = C ∧ y.cls ≠ "java/lang/invoke/MethodHandle" ∧ y.cls ≠ "java/lang/invoke/VarHandle" ∧ (parseMethodDescriptor y.desc).map (fun d => d.parameters.length) = some n) (hR : rm.frames + 1 ≤ R.frames ∧ 8 + (maxL + 11) + rm.locals ≤ R.locals) :
    vx_CVW R s args own C index y bytes maxL ret hh ws rm mc ms n := by
  obtain ⟨hC, hd⟩ := hd
  subst hC
  have ok : ∀ w ∈ wsV own index y.cls y ws, w.before args s = true := fun w h => ht w (hT w h).1
  have hG : GoodIn Ts ws := fun w h => hT w (by unfold wsV; exact List.mem_append_right _ h)
  have hc : Cond.codeWith y bytes maxL ret hh ∈ ws := by rw [hw]; exact List.mem_cons_self
  refine ⟨⟨hrc, hrs, hR.1, hR.2, pay_in ht hG, hc⟩, ht _ (hG _ hc).1, ok _ (by simp [wsV]), ⟨hd.1, hd.2.1⟩, fun sig h => ?_, ok _ (by simp [wsV]), ok _ (by simp [wsV]), ok _ (by simp [wsV])⟩
  have h2 := hd.2.2
  rw [h] at h2
  exact (Option.some.inj h2).symm
theorem vx_runVW {y : MethodName} {bytes cc : ByteArray} {maxL nL mc ms n index : Nat} {ret : Option FieldType} {hh : List (Nat × Nat × Nat × Nat)} {ws : List Cond} {rm : Room} {Pc : Array Value → State → Prop} {Qc : Array Value → State → Outcome → State → Prop} {free : Addr → Prop} {Ts : List Cond} {own C : String} {b : Addr} {As rest : List Value} {g : JFrame}
    (S : CallFix p m c cc nL s args Ts own) (hM : Met l y ws rm Pc Qc mc ms free) (cw : vx_CVW R s args own C index y bytes maxL ret hh ws rm mc ms n) (hp : PreV s H C b Pc As)
    (hg : g.method = m) (hn : As.length = n) (hsize : g.locals.size = nL) (hstack : g.stack = As.reverse ++ .ref b :: rest) (hW : 2 * g.monitorRoom + (rest.map fun v => v.category).sum ≤ 8) (hdg : decode cc g.pc = .ok (.invokevirtual index, 3)) (hf : cells + mc ≤ R.cells ∧ slots + ms ≤ R.slots) :
    va_Run p l e R s m args below meth c H locs cells slots mc ms g rest (Qc (Value.ref b :: As).toArray) free := by
  obtain ⟨⟨hrc, hrs, hfr, hlo, hws, hcw⟩, hcode, hini, hy, hlen, hl, hin, hse⟩ := cw
  have hK : Back l R p e below s args y 3 8 (PreOf R mc ms Pc) (PostOf Qc mc ms free) := va_backW (hh := hh) (bytes := bytes) (maxL := maxL) (ret := ret) hM hp.1 hrc hrs hfr hlo hws hcw (fun a' U hW => word_at hW (Or.inl (by first | rfl | simp [Cond.onTables, Cond.keeps, Cond.steady])) hini)
  obtain ⟨hx, hb, hml, ho, -⟩ := S
  obtain ⟨-, ⟨cellB, hcB, hoB, hclB⟩, hPc⟩ := hp
  intro T hT X
  obtain ⟨v, vm₁, ⟨U', l2, c2, s2⟩, hW₁, X', ⟨g', mk, t, L, e1, e2, hq, h1, hL, h2, h3⟩, st⟩ := vx_callVW X hx (C := C) (hh := hh) (bytes := bytes) (maxL := maxL) (ret := ret) ho hl hin hse hcode hy hK (by rw [hT]; exact hcB) hoB hclB hg (hsize.trans hml.symm) (argsL := As) (rest := rest) (fun sig h => hn.trans (hlen sig h)) hstack hW (by rw [hb]; exact hdg)
    (fun vm₁ hW₁ => ⟨hf.1, hf.2, hPc (T.setVm vm₁) hT hW₁⟩)
  dsimp only [Pt.U, Pt.locs, Pt.cells, Pt.slots] at X' e1 e2 h1 h2 h3 st
  subst h1; subst h2; subst h3
  exact ⟨v, (T.setVm vm₁).calling g' mk (Value.ref b :: As).toArray, t, U', L, hT, X', hL, e1, e2, hq, st⟩
section
variable {y : MethodName} {bytes cc : ByteArray} {maxL nL mc ms n index : Nat} {ret : Option FieldType} {ws : List Cond} {rm : Room} {Pc : Array Value → State → Prop} {Qc : Array Value → State → Outcome → State → Prop} {XC : String → State → State → Prop} {free : Addr → Prop} {Ts : List Cond} {own C : String} {b : Addr} {As rest : List Value} {g : JFrame}
theorem vx_runVX {hh : List (Nat × Nat × Nat × Nat)} (S : CallFix p m c cc nL s args Ts own) (hM : vx_Met l y ws rm Pc Qc XC mc ms free) (cw : vx_CVW R s args own C index y bytes maxL ret hh ws rm mc ms n) (hp : PreV s H C b Pc As)
    (hg : g.method = m) (hn : As.length = n) (hsize : g.locals.size = nL) (hstack : g.stack = As.reverse ++ .ref b :: rest) (hW : 2 * g.monitorRoom + (rest.map fun v => v.category).sum ≤ 8) (hdg : decode cc g.pc = .ok (.invokevirtual index, 3)) (hf : cells + mc ≤ R.cells ∧ slots + ms ≤ R.slots) :
    vx_Run p l e R s m args below meth c H locs cells slots mc ms g rest (Qc (Value.ref b :: As).toArray) XC free := by
  obtain ⟨⟨hrc, hrs, hfr, hlo, hws, hcw⟩, hcode, hini, hy, hlen, hl, hin, hse⟩ := cw
  have hK : vx_Back l R p e below s args y 3 8 (PreOf R mc ms Pc) (PostOf Qc mc ms free) (vx_Post XC mc ms free) := vx_backW (hh := hh) (bytes := bytes) (maxL := maxL) (ret := ret) hM hp.1 hrc hrs hfr hlo hws hcw (fun a' U hW => word_at hW (Or.inl (by first | rfl | simp [Cond.onTables, Cond.keeps, Cond.steady])) hini)
  obtain ⟨hx, hb, hml, ho, -⟩ := S
  obtain ⟨-, ⟨cellB, hcB, hoB, hclB⟩, hPc⟩ := hp
  intro T hT X
  rcases vx_callVX X hx (C := C) (hh := hh) (bytes := bytes) (maxL := maxL) (ret := ret) ho hl hin hse hcode hy hK (by rw [hT]; exact hcB) hoB hclB hg (hsize.trans hml.symm) (argsL := As) (rest := rest) (fun sig h => hn.trans (hlen sig h)) hstack hW (by rw [hb]; exact hdg)
    (fun vm₁ hW₁ => ⟨hf.1, hf.2, hPc (T.setVm vm₁) hT hW₁⟩) with ⟨v, vm₁, ⟨U', l2, c2, s2⟩, hW₁, X', ⟨g', mk, t, L, e1, e2, hq, h1, hL, h2, h3⟩, st⟩ | ⟨q, vm₁, ⟨U', l2, c2, s2⟩, hW₁, X', ⟨g', mk, t, L, E, ce, e1, e2, hq, hce, hcv, hcl, h1, hL, h2, h3⟩, st⟩
  · dsimp only [Pt.U, Pt.locs, Pt.cells, Pt.slots] at X' e1 e2 h1 h2 h3 st
    subst h1; subst h2; subst h3
    exact Or.inl ⟨v, (T.setVm vm₁).calling g' mk (Value.ref b :: As).toArray, t, U', L, hT, X', hL, e1, e2, hq, st⟩
  · dsimp only [Pt.U, Pt.locs, Pt.cells, Pt.slots] at X' e1 e2 h1 h2 h3 st hcl
    subst h1; subst h2; subst h3
    exact Or.inr ⟨q, (T.setVm vm₁).calling g' mk (Value.ref b :: As).toArray, t, U', L, E, ce, hT, X', hL, e1, e2, hq, hce, hcv, vx_cls hW₁ hcl, st⟩
theorem vx_runSX {hh : List (Nat × Nat × Nat × Nat)} (S : CallFix p m c cc nL s args Ts own) (hM : vx_Met l y ws rm Pc Qc XC mc ms free) (cw : vx_CSW R s args own index y bytes maxL ret hh ws rm mc ms n) (hp : PreS s H Pc As)
    (hg : g.method = m) (hn : As.length = n) (hsize : g.locals.size = nL) (hstack : g.stack = As.reverse ++ rest) (hW : 2 * g.monitorRoom + (rest.map fun v => v.category).sum ≤ 8) (hdg : decode cc g.pc = .ok (.invokestatic index, 3)) (hf : cells + mc ≤ R.cells ∧ slots + ms ≤ R.slots) :
    vx_Run p l e R s m args below meth c H locs cells slots mc ms g rest (Qc As.toArray) XC free := by
  obtain ⟨⟨hrc, hrs, hfr, hlo, hws, hcw⟩, hcode, hini, hy, hlen, hl, hstt⟩ := cw
  have hK : vx_Back l R p e below s args y 3 8 (PreOf R mc ms Pc) (PostOf Qc mc ms free) (vx_Post XC mc ms free) := vx_backW (hh := hh) (bytes := bytes) (maxL := maxL) (ret := ret) hM hp.1 hrc hrs hfr hlo hws hcw (fun a' U hW => word_at hW (Or.inl (by first | rfl | simp [Cond.onTables, Cond.keeps, Cond.steady])) hini)
  obtain ⟨hx, hb, hml, ho, -⟩ := S
  intro T hT X
  rcases vx_callSX X hx (hh := hh) (bytes := bytes) (maxL := maxL) (ret := ret) ho hl hstt hini hcode hy hK hg (hsize.trans hml.symm) (argsL := As) (rest := rest) (fun sig h => hn.trans (hlen sig h)) hstack hW (by rw [hb]; exact hdg)
    (fun vm₁ hW₁ => ⟨hf.1, hf.2, hp.2 (T.setVm vm₁) hT hW₁⟩) with ⟨v, vm₁, ⟨U', l2, c2, s2⟩, hW₁, X', ⟨g', mk, t, L, e1, e2, hq, h1, hL, h2, h3⟩, st⟩ | ⟨q, vm₁, ⟨U', l2, c2, s2⟩, hW₁, X', ⟨g', mk, t, L, E, ce, e1, e2, hq, hce, hcv, hcl, h1, hL, h2, h3⟩, st⟩
  · dsimp only [Pt.U, Pt.locs, Pt.cells, Pt.slots] at X' e1 e2 h1 h2 h3 st
    subst h1; subst h2; subst h3
    exact Or.inl ⟨v, (T.setVm vm₁).calling g' mk As.toArray, t, U', L, hT, X', hL, e1, e2, hq, st⟩
  · dsimp only [Pt.U, Pt.locs, Pt.cells, Pt.slots] at X' e1 e2 h1 h2 h3 st hcl
    subst h1; subst h2; subst h3
    exact Or.inr ⟨q, (T.setVm vm₁).calling g' mk As.toArray, t, U', L, E, ce, hT, X', hL, e1, e2, hq, hce, hcv, vx_cls hW₁ hcl, st⟩
end
end VXH
theorem vx_ofWH {l : Launch} {y : MethodName} {ws ws' : List Cond} {rm : Room} {Pc : Array Value → State → Prop} {Qc : Array Value → State → Outcome → State → Prop} {XC : String → State → State → Prop} {mc ms : Nat} {free : Addr → Prop} {cc : ByteArray} {maxL : Nat} {ret : Option FieldType} {hh : List (Nat × Nat × Nat × Nat)}
    (hy : plainName y.cls = true) (hw : ws = Cond.codeWith y cc maxL ret hh :: ws')
    (body : ∀ p e s m args below meth c s₁, BodyLoose p l y (headSpec ws rm) cc maxL ret e s m args below meth c s₁ → c.maxLocals = maxL → Pc args s →
      W p l e (headSpec ws rm).room s m args below meth c s.heap [] 0 0 (vx_MQ below Qc XC args s mc ms free) (entryFrame m args maxL)) : vx_Met l y ws rm Pc Qc XC mc ms free := by
  refine MetFree.of_bodyS (code := cc) (maxLocals := maxL) (ret := ret) hy ?_ ?_
  · intro args s m h hn
    obtain ⟨m9, meth, c, hn9, h1, h2, h3, h4, -, h5, h6, -⟩ := Cond.codeWith_spec (atoms_spec (ws := ws) h _ (by rw [hw]; exact List.mem_cons_self))
    cases hn.symm.trans hn9
    exact ⟨meth, c, h1, h2, h3, h4, h5, h6⟩
  · intro p e s m args below meth c s₁ B hml hP _
    have hh0 : s₁.heap = s.heap := by rw [B.state]; rfl
    obtain ⟨t, a1, o, b1, b2, b3⟩ := body p e s m args below meth c s₁ B hml hP s₁ hh0 (Stand.of_body B)
    exact ⟨t, o, a1, b1, b2, b3⟩
/-! ===== END ===== -/
end
section
def RX0 : String := "LetterLocks$Lock"
def TX0 : u_T := fun k => match k with
  | 0 => ("LetterLocks$Lock", "letters", "[I", true)
  | 1 => ("LetterLocks$Lock", "wears", "[I", true)
  | 2 => ("LetterLocks$Lock", "word", "I", false)
  | 3 => ("LetterLocks$Lock", "inRack", "I", false)
  | 4 => ("LetterLocks$Lock", "isOpen", "Z", false)
  | _ => ("LetterLocks$Lock", "isLost", "Z", false)
def tyX0 : Nat → FieldType := fun k => match k with
  | 0 => .array .int
  | 1 => .array .int
  | 2 => .int
  | 3 => .int
  | 4 => .boolean
  | _ => .boolean
abbrev wsX00 : List Cond := u_ws RX0 TX0 6
theorem nmX0 : ∀ a, a < 6 → ∀ b, b < 6 → a ≠ b → (TX0 a).2.1 ≠ (TX0 b).2.1 := by decide +kernel
theorem tyX0_ok : ∀ k, k < 6 → parseFieldDescriptor (TX0 k).2.2.1 = some (tyX0 k) := by decide +kernel
abbrev cX0_init : ByteArray := prog_2_method_1_code
def yX0_init : MethodName := ⟨RX0, "<init>", "(I)V"⟩
abbrev cX0_letterAt : ByteArray := prog_2_method_3_code
def yX0_letterAt : MethodName := ⟨RX0, "letterAt", "(I)I"⟩
abbrev cX0_turnTo : ByteArray := prog_2_method_4_code
def yX0_turnTo : MethodName := ⟨RX0, "turnTo", "(II)V"⟩
abbrev cX0_standing : ByteArray := prog_2_method_5_code
def yX0_standing : MethodName := ⟨RX0, "standing", "()I"⟩
abbrev cX0_close : ByteArray := prog_2_method_6_code
def yX0_close : MethodName := ⟨RX0, "close", "()V"⟩
abbrev cX0_wearAt : ByteArray := prog_2_method_7_code
def yX0_wearAt : MethodName := ⟨RX0, "wearAt", "(II)I"⟩
abbrev cX0_wearByAnHour : ByteArray := prog_2_method_8_code
def yX0_wearByAnHour : MethodName := ⟨RX0, "wearByAnHour", "()V"⟩
abbrev cX0_wearMore : ByteArray := prog_2_method_9_code
def yX0_wearMore : MethodName := ⟨RX0, "wearMore", "(III)V"⟩
abbrev cX0_allWears : ByteArray := prog_2_method_10_code
def yX0_allWears : MethodName := ⟨RX0, "allWears", "()I"⟩
abbrev cX0_showing : ByteArray := prog_2_method_11_code
def yX0_showing : MethodName := ⟨RX0, "showing", "()I"⟩
abbrev cX0_mostWorn : ByteArray := prog_2_method_12_code
def yX0_mostWorn : MethodName := ⟨RX0, "mostWorn", "(I)I"⟩
abbrev cX0_placeInOrder : ByteArray := prog_2_method_13_code
def yX0_placeInOrder : MethodName := ⟨RX0, "placeInOrder", "(II)I"⟩
def RX1 : String := "LetterLocks$Rack"
def TX1 : u_T := fun k => match k with
  | 0 => ("LetterLocks$Rack", "places", "I", false)
  | 1 => ("LetterLocks$Rack", "from", "I", false)
  | _ => ("LetterLocks$Rack", "to", "I", false)
def tyX1 : Nat → FieldType := fun k => match k with
  | 0 => .int
  | 1 => .int
  | _ => .int
abbrev wsX10 : List Cond := u_ws RX1 TX1 3
theorem nmX1 : ∀ a, a < 3 → ∀ b, b < 3 → a ≠ b → (TX1 a).2.1 ≠ (TX1 b).2.1 := by decide +kernel
theorem tyX1_ok : ∀ k, k < 3 → parseFieldDescriptor (TX1 k).2.2.1 = some (tyX1 k) := by decide +kernel
abbrev cX1_init : ByteArray := prog_3_method_1_code
def yX1_init : MethodName := ⟨RX1, "<init>", "()V"⟩
abbrev cX1_isOpenIn : ByteArray := prog_3_method_2_code
def yX1_isOpenIn : MethodName := ⟨RX1, "isOpenIn", "(I)Z"⟩
def RX2 : String := "LetterLocks$Thief"
def TX2 : u_T := fun k => match k with
  | _ => ("LetterLocks$Thief", "wordsOfRingsAndSum", "[[I", true)
def tyX2 : Nat → FieldType := fun k => match k with
  | _ => .array (.array .int)
abbrev wsX20 : List Cond := u_ws RX2 TX2 1
theorem nmX2 : ∀ a, a < 1 → ∀ b, b < 1 → a ≠ b → (TX2 a).2.1 ≠ (TX2 b).2.1 := by decide +kernel
theorem tyX2_ok : ∀ k, k < 1 → parseFieldDescriptor (TX2 k).2.2.1 = some (tyX2 k) := by decide +kernel
abbrev cX2_init : ByteArray := prog_4_method_1_code
def yX2_init : MethodName := ⟨RX2, "<init>", "()V"⟩
abbrev cX2_trialOf : ByteArray := prog_4_method_2_code
def yX2_trialOf : MethodName := ⟨RX2, "trialOf", "(LLetterLocks$Lock;I)I"⟩
abbrev cX2_sumOfPlaces : ByteArray := prog_4_method_3_code
def yX2_sumOfPlaces : MethodName := ⟨RX2, "sumOfPlaces", "(LLetterLocks$Lock;I)I"⟩
abbrev cX2_lesserWordsOfSum : ByteArray := prog_4_method_4_code
def yX2_lesserWordsOfSum : MethodName := ⟨RX2, "lesserWordsOfSum", "(LLetterLocks$Lock;II)I"⟩
abbrev cX2_wordsWith : ByteArray := prog_4_method_5_code
def yX2_wordsWith : MethodName := ⟨RX2, "wordsWith", "(II)I"⟩
def RX3 : String := "LetterLocks"
def TX3 : u_T := fun k => match k with
  | 0 => ("LetterLocks", "locks", "Ljava/util/ArrayList;", true)
  | 1 => ("LetterLocks", "racks", "[LLetterLocks$Rack;", true)
  | 2 => ("LetterLocks", "thief", "LLetterLocks$Thief;", true)
  | 3 => ("LetterLocks", "foreseen", "LLetterLocks$Lock;", true)
  | 4 => ("LetterLocks", "hour", "I", false)
  | _ => ("LetterLocks", "turns", "I", false)
def tyX3 : Nat → FieldType := fun k => match k with
  | 0 => .object "java/util/ArrayList"
  | 1 => .array (.object "LetterLocks$Rack")
  | 2 => .object "LetterLocks$Thief"
  | 3 => .object "LetterLocks$Lock"
  | 4 => .int
  | _ => .int
abbrev wsX30 : List Cond := u_ws RX3 TX3 6
theorem nmX3 : ∀ a, a < 6 → ∀ b, b < 6 → a ≠ b → (TX3 a).2.1 ≠ (TX3 b).2.1 := by decide +kernel
theorem tyX3_ok : ∀ k, k < 6 → parseFieldDescriptor (TX3 k).2.2.1 = some (tyX3 k) := by decide +kernel
abbrev cX3_init : ByteArray := prog_1_method_1_code
def yX3_init : MethodName := ⟨RX3, "<init>", "()V"⟩
abbrev cX3_lock : ByteArray := prog_1_method_2_code
def yX3_lock : MethodName := ⟨RX3, "lock", "(I)I"⟩
abbrev cX3_turn : ByteArray := prog_1_method_3_code
def yX3_turn : MethodName := ⟨RX3, "turn", "(III)I"⟩
abbrev cX3_open : ByteArray := prog_1_method_4_code
def yX3_open : MethodName := ⟨RX3, "open", "(I)Z"⟩
abbrev cX3_shut : ByteArray := prog_1_method_5_code
def yX3_shut : MethodName := ⟨RX3, "shut", "(I)I"⟩
abbrev cX3_rename : ByteArray := prog_1_method_6_code
def yX3_rename : MethodName := ⟨RX3, "rename", "(II)I"⟩
abbrev cX3_lose : ByteArray := prog_1_method_7_code
def yX3_lose : MethodName := ⟨RX3, "lose", "(IZ)Z"⟩
abbrev cX3_setPlaces : ByteArray := prog_1_method_8_code
def yX3_setPlaces : MethodName := ⟨RX3, "setPlaces", "(II)I"⟩
abbrev cX3_setHours : ByteArray := prog_1_method_9_code
def yX3_setHours : MethodName := ⟨RX3, "setHours", "(III)I"⟩
abbrev cX3_put : ByteArray := prog_1_method_10_code
def yX3_put : MethodName := ⟨RX3, "put", "(II)I"⟩
abbrev cX3_told : ByteArray := prog_1_method_11_code
def yX3_told : MethodName := ⟨RX3, "told", "(II)I"⟩
abbrev cX3_wear : ByteArray := prog_1_method_12_code
def yX3_wear : MethodName := ⟨RX3, "wear", "(III)I"⟩
abbrev cX3_rack : ByteArray := prog_1_method_13_code
def yX3_rack : MethodName := ⟨RX3, "rack", "(II)I"⟩
abbrev cX3_count : ByteArray := prog_1_method_14_code
def yX3_count : MethodName := ⟨RX3, "count", "(I)I"⟩
abbrev cX3_trial : ByteArray := prog_1_method_16_code
def yX3_trial : MethodName := ⟨RX3, "trial", "(II)I"⟩
abbrev cX3_safe : ByteArray := prog_1_method_17_code
def yX3_safe : MethodName := ⟨RX3, "safe", "(I)I"⟩
abbrev cX3_pass : ByteArray := prog_1_method_18_code
def yX3_pass : MethodName := ⟨RX3, "pass", "(I)I"⟩
abbrev cX3_mean : ByteArray := prog_1_method_22_code
def yX3_mean : MethodName := ⟨RX3, "mean", "()D"⟩
abbrev cX3_lockAt : ByteArray := prog_1_method_25_code
def yX3_lockAt : MethodName := ⟨RX3, "lockAt", "(I)LLetterLocks$Lock;"⟩
abbrev cX3_rackAt : ByteArray := prog_1_method_26_code
def yX3_rackAt : MethodName := ⟨RX3, "rackAt", "(I)LLetterLocks$Rack;"⟩
abbrev cX3_requireRing : ByteArray := prog_1_method_27_code
def yX3_requireRing : MethodName := ⟨RX3, "requireRing", "(I)V"⟩
abbrev cX3_requireWord : ByteArray := prog_1_method_28_code
def yX3_requireWord : MethodName := ⟨RX3, "requireWord", "(I)V"⟩
abbrev cX3_requireHours : ByteArray := prog_1_method_29_code
def yX3_requireHours : MethodName := ⟨RX3, "requireHours", "(I)V"⟩
abbrev cX3_requireOpen : ByteArray := prog_1_method_30_code
def yX3_requireOpen : MethodName := ⟨RX3, "requireOpen", "(LLetterLocks$Lock;)V"⟩
abbrev cX3_isRack : ByteArray := prog_1_method_31_code
def yX3_isRack : MethodName := ⟨RX3, "isRack", "(I)Z"⟩
abbrev cX3_isRing : ByteArray := prog_1_method_32_code
def yX3_isRing : MethodName := ⟨RX3, "isRing", "(I)Z"⟩
abbrev cX3_isLetter : ByteArray := prog_1_method_33_code
def yX3_isLetter : MethodName := ⟨RX3, "isLetter", "(I)Z"⟩
abbrev cX3_letterOf : ByteArray := prog_1_method_34_code
def yX3_letterOf : MethodName := ⟨RX3, "letterOf", "(II)I"⟩
abbrev cX3_turnsBetween : ByteArray := prog_1_method_35_code
def yX3_turnsBetween : MethodName := ⟨RX3, "turnsBetween", "(II)I"⟩
abbrev cX3_locksIn : ByteArray := prog_1_method_36_code
def yX3_locksIn : MethodName := ⟨RX3, "locksIn", "(I)I"⟩
abbrev cX3_openLocksIn : ByteArray := prog_1_method_37_code
def yX3_openLocksIn : MethodName := ⟨RX3, "openLocksIn", "(I)I"⟩
abbrev cX3_takesAnother : ByteArray := prog_1_method_38_code
def yX3_takesAnother : MethodName := ⟨RX3, "takesAnother", "(I)Z"⟩
abbrev cX3_isInClosedRack : ByteArray := prog_1_method_39_code
def yX3_isInClosedRack : MethodName := ⟨RX3, "isInClosedRack", "(LLetterLocks$Lock;I)Z"⟩
abbrev cX3_letHourGoBy : ByteArray := prog_1_method_40_code
def yX3_letHourGoBy : MethodName := ⟨RX3, "letHourGoBy", "(LLetterLocks$Lock;I)Z"⟩
abbrev cX3_openLocks : ByteArray := prog_1_method_41_code
def yX3_openLocks : MethodName := ⟨RX3, "openLocks", "()I"⟩
abbrev cX3_lostWords : ByteArray := prog_1_method_42_code
def yX3_lostWords : MethodName := ⟨RX3, "lostWords", "()I"⟩
abbrev cX3_allWear : ByteArray := prog_1_method_43_code
def yX3_allWear : MethodName := ⟨RX3, "allWear", "()I"⟩
abbrev cX3_locksInRacks : ByteArray := prog_1_method_44_code
def yX3_locksInRacks : MethodName := ⟨RX3, "locksInRacks", "()I"⟩
def RX4 : String := "LetterLocksLaw$Lock"
def TX4 : u_T := fun k => match k with
  | 0 => ("LetterLocksLaw$Lock", "word", "[I", false)
  | 1 => ("LetterLocksLaw$Lock", "rings", "[I", false)
  | 2 => ("LetterLocksLaw$Lock", "wear", "[[I", false)
  | 3 => ("LetterLocksLaw$Lock", "isOpen", "Z", false)
  | 4 => ("LetterLocksLaw$Lock", "isLost", "Z", false)
  | _ => ("LetterLocksLaw$Lock", "rack", "I", false)
def tyX4 : Nat → FieldType := fun k => match k with
  | 0 => .array .int
  | 1 => .array .int
  | 2 => .array (.array .int)
  | 3 => .boolean
  | 4 => .boolean
  | _ => .int
abbrev wsX40 : List Cond := u_ws RX4 TX4 6
theorem nmX4 : ∀ a, a < 6 → ∀ b, b < 6 → a ≠ b → (TX4 a).2.1 ≠ (TX4 b).2.1 := by decide +kernel
theorem tyX4_ok : ∀ k, k < 6 → parseFieldDescriptor (TX4 k).2.2.1 = some (tyX4 k) := by decide +kernel
abbrev cX4_init : ByteArray := prog_6_method_1_code
def yX4_init : MethodName := ⟨RX4, "<init>", "()V"⟩
abbrev cX4_shut : ByteArray := prog_6_method_3_code
def yX4_shut : MethodName := ⟨RX4, "shut", "()V"⟩
def RX5 : String := "LetterLocksLaw$Sim"
def TX5 : u_T := fun k => match k with
  | 0 => ("LetterLocksLaw$Sim", "hour", "I", false)
  | 1 => ("LetterLocksLaw$Sim", "turns", "I", false)
  | 2 => ("LetterLocksLaw$Sim", "locks", "[LLetterLocksLaw$Lock;", false)
  | _ => ("LetterLocksLaw$Sim", "racks", "[[I", false)
def tyX5 : Nat → FieldType := fun k => match k with
  | 0 => .int
  | 1 => .int
  | 2 => .array (.object "LetterLocksLaw$Lock")
  | _ => .array (.array .int)
abbrev wsX50 : List Cond := u_ws RX5 TX5 4
theorem nmX5 : ∀ a, a < 4 → ∀ b, b < 4 → a ≠ b → (TX5 a).2.1 ≠ (TX5 b).2.1 := by decide +kernel
theorem tyX5_ok : ∀ k, k < 4 → parseFieldDescriptor (TX5 k).2.2.1 = some (tyX5 k) := by decide +kernel
abbrev cX5_init : ByteArray := prog_7_method_1_code
def yX5_init : MethodName := ⟨RX5, "<init>", "()V"⟩
abbrev cX5_isOpen : ByteArray := prog_7_method_3_code
def yX5_isOpen : MethodName := ⟨RX5, "isOpen", "(I)Z"⟩
abbrev cX5_in : ByteArray := prog_7_method_4_code
def yX5_in : MethodName := ⟨RX5, "in", "(I)I"⟩
abbrev cX5_pass : ByteArray := prog_7_method_5_code
def yX5_pass : MethodName := ⟨RX5, "pass", "()I"⟩
abbrev cX5_best : ByteArray := prog_7_method_6_code
def yX5_best : MethodName := ⟨RX5, "best", "([I)I"⟩
abbrev cX5_isSame : ByteArray := prog_7_method_10_code
def yX5_isSame : MethodName := ⟨RX5, "isSame", "(LLetterLocks;)Z"⟩
def RX6 : String := "LetterLocksModel"
def TX6 : u_T := fun k => match k with
  | _ => ("", "", "", false)
def tyX6 : Nat → FieldType := fun k => match k with
  | _ => .int
abbrev wsX60 : List Cond := u_ws RX6 TX6 0
theorem nmX6 : ∀ a, a < 0 → ∀ b, b < 0 → a ≠ b → (TX6 a).2.1 ≠ (TX6 b).2.1 := by decide +kernel
theorem tyX6_ok : ∀ k, k < 0 → parseFieldDescriptor (TX6 k).2.2.1 = some (tyX6 k) := by decide +kernel
def RJx145de : String := "java/io/Serializable"
def TJx145de : u_T := fun k => match k with
  | _ => ("", "", "", false)
def tyJx145de : Nat → FieldType := fun k => match k with
  | _ => .int
abbrev wsJx145de0 : List Cond := u_ws RJx145de TJx145de 0
theorem nmJx145de : ∀ a, a < 0 → ∀ b, b < 0 → a ≠ b → (TJx145de a).2.1 ≠ (TJx145de b).2.1 := by decide +kernel
theorem tyJx145de_ok : ∀ k, k < 0 → parseFieldDescriptor (TJx145de k).2.2.1 = some (tyJx145de k) := by decide +kernel
def RJx8e188 : String := "java/lang/Cloneable"
def TJx8e188 : u_T := fun k => match k with
  | _ => ("", "", "", false)
def tyJx8e188 : Nat → FieldType := fun k => match k with
  | _ => .int
abbrev wsJx8e1880 : List Cond := u_ws RJx8e188 TJx8e188 0
theorem nmJx8e188 : ∀ a, a < 0 → ∀ b, b < 0 → a ≠ b → (TJx8e188 a).2.1 ≠ (TJx8e188 b).2.1 := by decide +kernel
theorem tyJx8e188_ok : ∀ k, k < 0 → parseFieldDescriptor (TJx8e188 k).2.2.1 = some (tyJx8e188 k) := by decide +kernel
def RJxab1ab : String := "java/lang/Iterable"
def TJxab1ab : u_T := fun k => match k with
  | _ => ("", "", "", false)
def tyJxab1ab : Nat → FieldType := fun k => match k with
  | _ => .int
abbrev wsJxab1ab0 : List Cond := u_ws RJxab1ab TJxab1ab 0
theorem nmJxab1ab : ∀ a, a < 0 → ∀ b, b < 0 → a ≠ b → (TJxab1ab a).2.1 ≠ (TJxab1ab b).2.1 := by decide +kernel
theorem tyJxab1ab_ok : ∀ k, k < 0 → parseFieldDescriptor (TJxab1ab k).2.2.1 = some (tyJxab1ab k) := by decide +kernel
def RJ9 : String := "java/lang/Math"
def TJ9 : u_T := fun k => match k with
  | _ => ("", "", "", false)
def tyJ9 : Nat → FieldType := fun k => match k with
  | _ => .int
abbrev wsJ90 : List Cond := u_ws RJ9 TJ9 0
theorem nmJ9 : ∀ a, a < 0 → ∀ b, b < 0 → a ≠ b → (TJ9 a).2.1 ≠ (TJ9 b).2.1 := by decide +kernel
theorem tyJ9_ok : ∀ k, k < 0 → parseFieldDescriptor (TJ9 k).2.2.1 = some (tyJ9 k) := by decide +kernel
abbrev cJ9_abs_0f7a4 : ByteArray := prog_16_method_59_code
def yJ9_abs_0f7a4 : MethodName := ⟨RJ9, "abs", "(I)I"⟩
abbrev cJ9_max_7cf53 : ByteArray := prog_16_method_65_code
def yJ9_max_7cf53 : MethodName := ⟨RJ9, "max", "(II)I"⟩
abbrev cJ9_min_7cf53 : ByteArray := prog_16_method_69_code
def yJ9_min_7cf53 : MethodName := ⟨RJ9, "min", "(II)I"⟩
def RJ0 : String := "java/lang/String"
def TJ0 : u_T := fun k => match k with
  | _ => ("", "", "", false)
def tyJ0 : Nat → FieldType := fun k => match k with
  | _ => .int
abbrev wsJ00 : List Cond := u_ws RJ0 TJ0 0
theorem nmJ0 : ∀ a, a < 0 → ∀ b, b < 0 → a ≠ b → (TJ0 a).2.1 ≠ (TJ0 b).2.1 := by decide +kernel
theorem tyJ0_ok : ∀ k, k < 0 → parseFieldDescriptor (TJ0 k).2.2.1 = some (tyJ0 k) := by decide +kernel
def RJ10 : String := "java/lang/System"
def TJ10 : u_T := fun k => match k with
  | _ => ("", "", "", false)
def tyJ10 : Nat → FieldType := fun k => match k with
  | _ => .int
abbrev wsJ100 : List Cond := u_ws RJ10 TJ10 0
theorem nmJ10 : ∀ a, a < 0 → ∀ b, b < 0 → a ≠ b → (TJ10 a).2.1 ≠ (TJ10 b).2.1 := by decide +kernel
theorem tyJ10_ok : ∀ k, k < 0 → parseFieldDescriptor (TJ10 k).2.2.1 = some (tyJ10 k) := by decide +kernel
def RJxa1e45 : String := "java/util/AbstractCollection"
def TJxa1e45 : u_T := fun k => match k with
  | _ => ("", "", "", false)
def tyJxa1e45 : Nat → FieldType := fun k => match k with
  | _ => .int
abbrev wsJxa1e450 : List Cond := u_ws RJxa1e45 TJxa1e45 0
theorem nmJxa1e45 : ∀ a, a < 0 → ∀ b, b < 0 → a ≠ b → (TJxa1e45 a).2.1 ≠ (TJxa1e45 b).2.1 := by decide +kernel
theorem tyJxa1e45_ok : ∀ k, k < 0 → parseFieldDescriptor (TJxa1e45 k).2.2.1 = some (tyJxa1e45 k) := by decide +kernel
abbrev cJxa1e45_init_da8c8 : ByteArray := prog_21_method_1_code
def yJxa1e45_init_da8c8 : MethodName := ⟨RJxa1e45, "<init>", "()V"⟩
def RJxc12de : String := "java/util/AbstractList"
def TJxc12de : u_T := fun k => match k with
  | _ => ("", "", "", false)
def tyJxc12de : Nat → FieldType := fun k => match k with
  | _ => .int
abbrev wsJxc12de0 : List Cond := u_ws RJxc12de TJxc12de 0
theorem nmJxc12de : ∀ a, a < 0 → ∀ b, b < 0 → a ≠ b → (TJxc12de a).2.1 ≠ (TJxc12de b).2.1 := by decide +kernel
theorem tyJxc12de_ok : ∀ k, k < 0 → parseFieldDescriptor (TJxc12de k).2.2.1 = some (tyJxc12de k) := by decide +kernel
abbrev cJxc12de_init_da8c8 : ByteArray := prog_22_method_1_code
def yJxc12de_init_da8c8 : MethodName := ⟨RJxc12de, "<init>", "()V"⟩
def RJx4a65c : String := "java/util/ArrayList"
def TJx4a65c : u_T := fun k => match k with
  | 0 => ("java/util/AbstractList", "modCount", "I", false)
  | 1 => ("java/util/ArrayList", "elementData", "[Ljava/lang/Object;", false)
  | _ => ("java/util/ArrayList", "size", "I", false)
def tyJx4a65c : Nat → FieldType := fun k => match k with
  | 0 => .int
  | 1 => .array (.object "java/lang/Object")
  | _ => .int
abbrev wsJx4a65c0 : List Cond := u_ws RJx4a65c TJx4a65c 3
theorem nmJx4a65c : ∀ a, a < 3 → ∀ b, b < 3 → a ≠ b → (TJx4a65c a).2.1 ≠ (TJx4a65c b).2.1 := by decide +kernel
theorem tyJx4a65c_ok : ∀ k, k < 3 → parseFieldDescriptor (TJx4a65c k).2.2.1 = some (tyJx4a65c k) := by decide +kernel
abbrev cJx4a65c_init_da8c8 : ByteArray := prog_23_method_2_code
def yJx4a65c_init_da8c8 : MethodName := ⟨RJx4a65c, "<init>", "()V"⟩
abbrev cJx4a65c_grow_92f84 : ByteArray := prog_23_method_6_code
def yJx4a65c_grow_92f84 : MethodName := ⟨RJx4a65c, "grow", "(I)[Ljava/lang/Object;"⟩
abbrev cJx4a65c_grow_d5877 : ByteArray := prog_23_method_7_code
def yJx4a65c_grow_d5877 : MethodName := ⟨RJx4a65c, "grow", "()[Ljava/lang/Object;"⟩
abbrev cJx4a65c_size_8abf5 : ByteArray := prog_23_method_8_code
def yJx4a65c_size_8abf5 : MethodName := ⟨RJx4a65c, "size", "()I"⟩
abbrev cJx4a65c_elementData_915e3 : ByteArray := prog_23_method_18_code
def yJx4a65c_elementData_915e3 : MethodName := ⟨RJx4a65c, "elementData", "(I)Ljava/lang/Object;"⟩
abbrev cJx4a65c_get_915e3 : ByteArray := prog_23_method_20_code
def yJx4a65c_get_915e3 : MethodName := ⟨RJx4a65c, "get", "(I)Ljava/lang/Object;"⟩
abbrev cJx4a65c_add_72be8 : ByteArray := prog_23_method_24_code
def yJx4a65c_add_72be8 : MethodName := ⟨RJx4a65c, "add", "(Ljava/lang/Object;[Ljava/lang/Object;I)V"⟩
abbrev cJx4a65c_add_9ea2d : ByteArray := prog_23_method_25_code
def yJx4a65c_add_9ea2d : MethodName := ⟨RJx4a65c, "add", "(Ljava/lang/Object;)Z"⟩
def RJ7 : String := "java/util/Arrays"
def TJ7 : u_T := fun k => match k with
  | _ => ("", "", "", false)
def tyJ7 : Nat → FieldType := fun k => match k with
  | _ => .int
abbrev wsJ70 : List Cond := u_ws RJ7 TJ7 0
theorem nmJ7 : ∀ a, a < 0 → ∀ b, b < 0 → a ≠ b → (TJ7 a).2.1 ≠ (TJ7 b).2.1 := by decide +kernel
theorem tyJ7_ok : ∀ k, k < 0 → parseFieldDescriptor (TJ7 k).2.2.1 = some (tyJ7 k) := by decide +kernel
abbrev cJ7_copyOf_1904c : ByteArray := prog_24_method_119_code
def yJ7_copyOf_1904c : MethodName := ⟨RJ7, "copyOf", "([Ljava/lang/Object;I)[Ljava/lang/Object;"⟩
abbrev cJ7_copyOf_6403c : ByteArray := prog_24_method_120_code
def yJ7_copyOf_6403c : MethodName := ⟨RJ7, "copyOf", "([Ljava/lang/Object;ILjava/lang/Class;)[Ljava/lang/Object;"⟩
def RJx5ef63 : String := "java/util/Collection"
def TJx5ef63 : u_T := fun k => match k with
  | _ => ("", "", "", false)
def tyJx5ef63 : Nat → FieldType := fun k => match k with
  | _ => .int
abbrev wsJx5ef630 : List Cond := u_ws RJx5ef63 TJx5ef63 0
theorem nmJx5ef63 : ∀ a, a < 0 → ∀ b, b < 0 → a ≠ b → (TJx5ef63 a).2.1 ≠ (TJx5ef63 b).2.1 := by decide +kernel
theorem tyJx5ef63_ok : ∀ k, k < 0 → parseFieldDescriptor (TJx5ef63 k).2.2.1 = some (tyJx5ef63 k) := by decide +kernel
def RJxbd725 : String := "java/util/List"
def TJxbd725 : u_T := fun k => match k with
  | _ => ("", "", "", false)
def tyJxbd725 : Nat → FieldType := fun k => match k with
  | _ => .int
abbrev wsJxbd7250 : List Cond := u_ws RJxbd725 TJxbd725 0
theorem nmJxbd725 : ∀ a, a < 0 → ∀ b, b < 0 → a ≠ b → (TJxbd725 a).2.1 ≠ (TJxbd725 b).2.1 := by decide +kernel
theorem tyJxbd725_ok : ∀ k, k < 0 → parseFieldDescriptor (TJxbd725 k).2.2.1 = some (tyJxbd725 k) := by decide +kernel
def RJ15 : String := "java/util/Objects"
def TJ15 : u_T := fun k => match k with
  | _ => ("", "", "", false)
def tyJ15 : Nat → FieldType := fun k => match k with
  | _ => .int
abbrev wsJ150 : List Cond := u_ws RJ15 TJ15 0
theorem nmJ15 : ∀ a, a < 0 → ∀ b, b < 0 → a ≠ b → (TJ15 a).2.1 ≠ (TJ15 b).2.1 := by decide +kernel
theorem tyJ15_ok : ∀ k, k < 0 → parseFieldDescriptor (TJ15 k).2.2.1 = some (tyJ15 k) := by decide +kernel
abbrev cJ15_checkIndex_7cf53 : ByteArray := prog_27_method_17_code
def yJ15_checkIndex_7cf53 : MethodName := ⟨RJ15, "checkIndex", "(II)I"⟩
def RJxf0a74 : String := "java/util/RandomAccess"
def TJxf0a74 : u_T := fun k => match k with
  | _ => ("", "", "", false)
def tyJxf0a74 : Nat → FieldType := fun k => match k with
  | _ => .int
abbrev wsJxf0a740 : List Cond := u_ws RJxf0a74 TJxf0a74 0
theorem nmJxf0a74 : ∀ a, a < 0 → ∀ b, b < 0 → a ≠ b → (TJxf0a74 a).2.1 ≠ (TJxf0a74 b).2.1 := by decide +kernel
theorem tyJxf0a74_ok : ∀ k, k < 0 → parseFieldDescriptor (TJxf0a74 k).2.2.1 = some (tyJxf0a74 k) := by decide +kernel
def RJxa66e6 : String := "java/util/SequencedCollection"
def TJxa66e6 : u_T := fun k => match k with
  | _ => ("", "", "", false)
def tyJxa66e6 : Nat → FieldType := fun k => match k with
  | _ => .int
abbrev wsJxa66e60 : List Cond := u_ws RJxa66e6 TJxa66e6 0
theorem nmJxa66e6 : ∀ a, a < 0 → ∀ b, b < 0 → a ≠ b → (TJxa66e6 a).2.1 ≠ (TJxa66e6 b).2.1 := by decide +kernel
theorem tyJxa66e6_ok : ∀ k, k < 0 → parseFieldDescriptor (TJxa66e6 k).2.2.1 = some (tyJxa66e6 k) := by decide +kernel
def RJ8 : String := "jdk/internal/util/ArraysSupport"
def TJ8 : u_T := fun k => match k with
  | _ => ("", "", "", false)
def tyJ8 : Nat → FieldType := fun k => match k with
  | _ => .int
abbrev wsJ80 : List Cond := u_ws RJ8 TJ8 0
theorem nmJ8 : ∀ a, a < 0 → ∀ b, b < 0 → a ≠ b → (TJ8 a).2.1 ≠ (TJ8 b).2.1 := by decide +kernel
theorem tyJ8_ok : ∀ k, k < 0 → parseFieldDescriptor (TJ8 k).2.2.1 = some (tyJ8 k) := by decide +kernel
abbrev cJ8_newLength_cabcc : ByteArray := prog_30_method_27_code
def yJ8_newLength_cabcc : MethodName := ⟨RJ8, "newLength", "(III)I"⟩
abbrev cJ8_hugeLength_7cf53 : ByteArray := prog_30_method_28_code
def yJ8_hugeLength_7cf53 : MethodName := ⟨RJ8, "hugeLength", "(II)I"⟩
def RJ3 : String := "jdk/internal/util/Preconditions"
def TJ3 : u_T := fun k => match k with
  | _ => ("", "", "", false)
def tyJ3 : Nat → FieldType := fun k => match k with
  | _ => .int
abbrev wsJ30 : List Cond := u_ws RJ3 TJ3 0
theorem nmJ3 : ∀ a, a < 0 → ∀ b, b < 0 → a ≠ b → (TJ3 a).2.1 ≠ (TJ3 b).2.1 := by decide +kernel
theorem tyJ3_ok : ∀ k, k < 0 → parseFieldDescriptor (TJ3 k).2.2.1 = some (tyJ3 k) := by decide +kernel
abbrev cJ3_checkIndex_8e157 : ByteArray := prog_31_method_11_code
def yJ3_checkIndex_8e157 : MethodName := ⟨RJ3, "checkIndex", "(IILjava/util/function/BiFunction;)I"⟩
def RL : String := "LetterLocksLaw"
abbrev cL_below : ByteArray := method_2_code
def yL_below : MethodName := ⟨RL, "below", "(II)I"⟩
abbrev cL_cell : ByteArray := method_3_code
def yL_cell : MethodName := ⟨RL, "cell", "([II)I"⟩
abbrev cL_letters : ByteArray := method_4_code
def yL_letters : MethodName := ⟨RL, "letters", "(I)[I"⟩
abbrev cL_word : ByteArray := method_5_code
def yL_word : MethodName := ⟨RL, "word", "([I)I"⟩
abbrev cL_far : ByteArray := method_6_code
def yL_far : MethodName := ⟨RL, "far", "(II)I"⟩
abbrev cL_act : ByteArray := method_7_code
def yL_act : MethodName := ⟨RL, "act", "(LLetterLocks;LLetterLocksLaw$Sim;I)Z"⟩
abbrev cL_build : ByteArray := method_8_code
def yL_build : MethodName := ⟨RL, "build", "(LLetterLocks;[I)LLetterLocksLaw$Sim;"⟩
abbrev cL_law : ByteArray := code
def yL_law : MethodName := ⟨RL, "law", "([I)Z"⟩
abbrev vwCl : List vw_C := [(RJx4a65c, TJx4a65c, 3), (RX0, TX0, 6), (RX1, TX1, 3), (RX2, TX2, 1), (RX3, TX3, 6), (RX4, TX4, 6), (RX5, TX5, 4)]
end
section
theorem dX0_init_0 : decode cX0_init 0 = .ok (.aload_n 0, 1) := by decide +kernel
theorem dX0_init_1 : decode cX0_init 1 = .ok (.invokespecial 3, 3) := by decide +kernel
theorem dX0_init_4 : decode cX0_init 4 = .ok (.aload_n 0, 1) := by decide +kernel
theorem dX0_init_5 : decode cX0_init 5 = .ok (.iconst 4, 1) := by decide +kernel
theorem dX0_init_6 : decode cX0_init 6 = .ok (.newarray .int, 2) := by decide +kernel
theorem dX0_init_8 : decode cX0_init 8 = .ok (.putfield 9, 3) := by decide +kernel
theorem dX0_init_11 : decode cX0_init 11 = .ok (.aload_n 0, 1) := by decide +kernel
theorem dX0_init_12 : decode cX0_init 12 = .ok (.bipush 24, 2) := by decide +kernel
theorem dX0_init_14 : decode cX0_init 14 = .ok (.newarray .int, 2) := by decide +kernel
theorem dX0_init_16 : decode cX0_init 16 = .ok (.putfield 15, 3) := by decide +kernel
theorem dX0_init_19 : decode cX0_init 19 = .ok (.aload_n 0, 1) := by decide +kernel
theorem dX0_init_20 : decode cX0_init 20 = .ok (.iconst (-1), 1) := by decide +kernel
theorem dX0_init_21 : decode cX0_init 21 = .ok (.putfield 18, 3) := by decide +kernel
theorem dX0_init_24 : decode cX0_init 24 = .ok (.aload_n 0, 1) := by decide +kernel
theorem dX0_init_25 : decode cX0_init 25 = .ok (.iconst 1, 1) := by decide +kernel
theorem dX0_init_26 : decode cX0_init 26 = .ok (.putfield 22, 3) := by decide +kernel
theorem dX0_init_29 : decode cX0_init 29 = .ok (.aload_n 0, 1) := by decide +kernel
theorem dX0_init_30 : decode cX0_init 30 = .ok (.iconst 0, 1) := by decide +kernel
theorem dX0_init_31 : decode cX0_init 31 = .ok (.putfield 26, 3) := by decide +kernel
theorem dX0_init_34 : decode cX0_init 34 = .ok (.aload_n 0, 1) := by decide +kernel
theorem dX0_init_35 : decode cX0_init 35 = .ok (.iload_n 1, 1) := by decide +kernel
theorem dX0_init_36 : decode cX0_init 36 = .ok (.putfield 29, 3) := by decide +kernel
theorem dX0_init_39 : decode cX0_init 39 = .ok (.return_, 1) := by decide +kernel
theorem dX0_letterAt_0 : decode cX0_letterAt 0 = .ok (.iload_n 1, 1) := by decide +kernel
theorem dX0_letterAt_1 : decode cX0_letterAt 1 = .ok (.invokestatic 38, 3) := by decide +kernel
theorem dX0_letterAt_4 : decode cX0_letterAt 4 = .ok (.ifCond .eq 12, 3) := by decide +kernel
theorem dX0_letterAt_7 : decode cX0_letterAt 7 = .ok (.aload_n 0, 1) := by decide +kernel
theorem dX0_letterAt_8 : decode cX0_letterAt 8 = .ok (.getfield 9, 3) := by decide +kernel
theorem dX0_letterAt_11 : decode cX0_letterAt 11 = .ok (.iload_n 1, 1) := by decide +kernel
theorem dX0_letterAt_12 : decode cX0_letterAt 12 = .ok (.iaload, 1) := by decide +kernel
theorem dX0_letterAt_13 : decode cX0_letterAt 13 = .ok (.goto 4, 3) := by decide +kernel
theorem dX0_letterAt_16 : decode cX0_letterAt 16 = .ok (.iconst 0, 1) := by decide +kernel
theorem dX0_letterAt_17 : decode cX0_letterAt 17 = .ok (.ireturn, 1) := by decide +kernel
theorem dX0_turnTo_0 : decode cX0_turnTo 0 = .ok (.iload_n 1, 1) := by decide +kernel
theorem dX0_turnTo_1 : decode cX0_turnTo 1 = .ok (.invokestatic 38, 3) := by decide +kernel
theorem dX0_turnTo_4 : decode cX0_turnTo 4 = .ok (.ifCond .eq 10, 3) := by decide +kernel
theorem dX0_turnTo_7 : decode cX0_turnTo 7 = .ok (.aload_n 0, 1) := by decide +kernel
theorem dX0_turnTo_8 : decode cX0_turnTo 8 = .ok (.getfield 9, 3) := by decide +kernel
theorem dX0_turnTo_11 : decode cX0_turnTo 11 = .ok (.iload_n 1, 1) := by decide +kernel
theorem dX0_turnTo_12 : decode cX0_turnTo 12 = .ok (.iload_n 2, 1) := by decide +kernel
theorem dX0_turnTo_13 : decode cX0_turnTo 13 = .ok (.iastore, 1) := by decide +kernel
theorem dX0_turnTo_14 : decode cX0_turnTo 14 = .ok (.return_, 1) := by decide +kernel
theorem dX0_standing_0 : decode cX0_standing 0 = .ok (.iconst 0, 1) := by decide +kernel
theorem dX0_standing_1 : decode cX0_standing 1 = .ok (.istore_n 1, 1) := by decide +kernel
theorem dX0_standing_2 : decode cX0_standing 2 = .ok (.iconst 0, 1) := by decide +kernel
theorem dX0_standing_3 : decode cX0_standing 3 = .ok (.istore_n 2, 1) := by decide +kernel
theorem dX0_standing_4 : decode cX0_standing 4 = .ok (.iload_n 2, 1) := by decide +kernel
theorem dX0_standing_5 : decode cX0_standing 5 = .ok (.iconst 4, 1) := by decide +kernel
theorem dX0_standing_6 : decode cX0_standing 6 = .ok (.if_icmp .ge 21, 3) := by decide +kernel
theorem dX0_standing_9 : decode cX0_standing 9 = .ok (.iload_n 1, 1) := by decide +kernel
theorem dX0_standing_10 : decode cX0_standing 10 = .ok (.bipush 6, 2) := by decide +kernel
theorem dX0_standing_12 : decode cX0_standing 12 = .ok (.imul, 1) := by decide +kernel
theorem dX0_standing_13 : decode cX0_standing 13 = .ok (.aload_n 0, 1) := by decide +kernel
theorem dX0_standing_14 : decode cX0_standing 14 = .ok (.getfield 9, 3) := by decide +kernel
theorem dX0_standing_17 : decode cX0_standing 17 = .ok (.iload_n 2, 1) := by decide +kernel
theorem dX0_standing_18 : decode cX0_standing 18 = .ok (.iaload, 1) := by decide +kernel
theorem dX0_standing_19 : decode cX0_standing 19 = .ok (.iadd, 1) := by decide +kernel
theorem dX0_standing_20 : decode cX0_standing 20 = .ok (.istore_n 1, 1) := by decide +kernel
theorem dX0_standing_21 : decode cX0_standing 21 = .ok (.iinc 2 1, 3) := by decide +kernel
theorem dX0_standing_24 : decode cX0_standing 24 = .ok (.goto (-20), 3) := by decide +kernel
theorem dX0_standing_27 : decode cX0_standing 27 = .ok (.iload_n 1, 1) := by decide +kernel
theorem dX0_standing_28 : decode cX0_standing 28 = .ok (.ireturn, 1) := by decide +kernel
theorem dX0_close_0 : decode cX0_close 0 = .ok (.iconst 0, 1) := by decide +kernel
theorem dX0_close_1 : decode cX0_close 1 = .ok (.istore_n 1, 1) := by decide +kernel
theorem dX0_close_2 : decode cX0_close 2 = .ok (.iload_n 1, 1) := by decide +kernel
theorem dX0_close_3 : decode cX0_close 3 = .ok (.iconst 4, 1) := by decide +kernel
theorem dX0_close_4 : decode cX0_close 4 = .ok (.if_icmp .ge 28, 3) := by decide +kernel
theorem dX0_close_7 : decode cX0_close 7 = .ok (.aload_n 0, 1) := by decide +kernel
theorem dX0_close_8 : decode cX0_close 8 = .ok (.getfield 9, 3) := by decide +kernel
theorem dX0_close_11 : decode cX0_close 11 = .ok (.iload_n 1, 1) := by decide +kernel
theorem dX0_close_12 : decode cX0_close 12 = .ok (.aload_n 0, 1) := by decide +kernel
theorem dX0_close_13 : decode cX0_close 13 = .ok (.getfield 9, 3) := by decide +kernel
theorem dX0_close_16 : decode cX0_close 16 = .ok (.iload_n 1, 1) := by decide +kernel
theorem dX0_close_17 : decode cX0_close 17 = .ok (.iaload, 1) := by decide +kernel
theorem dX0_close_18 : decode cX0_close 18 = .ok (.iload_n 1, 1) := by decide +kernel
theorem dX0_close_19 : decode cX0_close 19 = .ok (.iadd, 1) := by decide +kernel
theorem dX0_close_20 : decode cX0_close 20 = .ok (.iconst 1, 1) := by decide +kernel
theorem dX0_close_21 : decode cX0_close 21 = .ok (.iadd, 1) := by decide +kernel
theorem dX0_close_22 : decode cX0_close 22 = .ok (.bipush 6, 2) := by decide +kernel
theorem dX0_close_24 : decode cX0_close 24 = .ok (.irem, 1) := by decide +kernel
theorem dX0_close_25 : decode cX0_close 25 = .ok (.iastore, 1) := by decide +kernel
theorem dX0_close_26 : decode cX0_close 26 = .ok (.iinc 1 1, 3) := by decide +kernel
theorem dX0_close_29 : decode cX0_close 29 = .ok (.goto (-27), 3) := by decide +kernel
theorem dX0_close_32 : decode cX0_close 32 = .ok (.aload_n 0, 1) := by decide +kernel
theorem dX0_close_33 : decode cX0_close 33 = .ok (.iconst 0, 1) := by decide +kernel
theorem dX0_close_34 : decode cX0_close 34 = .ok (.putfield 22, 3) := by decide +kernel
theorem dX0_close_37 : decode cX0_close 37 = .ok (.return_, 1) := by decide +kernel
theorem dX0_wearAt_0 : decode cX0_wearAt 0 = .ok (.iload_n 1, 1) := by decide +kernel
theorem dX0_wearAt_1 : decode cX0_wearAt 1 = .ok (.invokestatic 38, 3) := by decide +kernel
theorem dX0_wearAt_4 : decode cX0_wearAt 4 = .ok (.ifCond .eq 24, 3) := by decide +kernel
theorem dX0_wearAt_7 : decode cX0_wearAt 7 = .ok (.iload_n 2, 1) := by decide +kernel
theorem dX0_wearAt_8 : decode cX0_wearAt 8 = .ok (.invokestatic 42, 3) := by decide +kernel
theorem dX0_wearAt_11 : decode cX0_wearAt 11 = .ok (.ifCond .eq 17, 3) := by decide +kernel
theorem dX0_wearAt_14 : decode cX0_wearAt 14 = .ok (.aload_n 0, 1) := by decide +kernel
theorem dX0_wearAt_15 : decode cX0_wearAt 15 = .ok (.getfield 15, 3) := by decide +kernel
theorem dX0_wearAt_18 : decode cX0_wearAt 18 = .ok (.iload_n 1, 1) := by decide +kernel
theorem dX0_wearAt_19 : decode cX0_wearAt 19 = .ok (.bipush 6, 2) := by decide +kernel
theorem dX0_wearAt_21 : decode cX0_wearAt 21 = .ok (.imul, 1) := by decide +kernel
theorem dX0_wearAt_22 : decode cX0_wearAt 22 = .ok (.iload_n 2, 1) := by decide +kernel
theorem dX0_wearAt_23 : decode cX0_wearAt 23 = .ok (.iadd, 1) := by decide +kernel
theorem dX0_wearAt_24 : decode cX0_wearAt 24 = .ok (.iaload, 1) := by decide +kernel
theorem dX0_wearAt_25 : decode cX0_wearAt 25 = .ok (.goto 4, 3) := by decide +kernel
theorem dX0_wearAt_28 : decode cX0_wearAt 28 = .ok (.iconst 0, 1) := by decide +kernel
theorem dX0_wearAt_29 : decode cX0_wearAt 29 = .ok (.ireturn, 1) := by decide +kernel
theorem dX0_wearByAnHour_0 : decode cX0_wearByAnHour 0 = .ok (.iconst 0, 1) := by decide +kernel
theorem dX0_wearByAnHour_1 : decode cX0_wearByAnHour 1 = .ok (.istore_n 1, 1) := by decide +kernel
theorem dX0_wearByAnHour_2 : decode cX0_wearByAnHour 2 = .ok (.iload_n 1, 1) := by decide +kernel
theorem dX0_wearByAnHour_3 : decode cX0_wearByAnHour 3 = .ok (.iconst 4, 1) := by decide +kernel
theorem dX0_wearByAnHour_4 : decode cX0_wearByAnHour 4 = .ok (.if_icmp .ge 53, 3) := by decide +kernel
theorem dX0_wearByAnHour_7 : decode cX0_wearByAnHour 7 = .ok (.aload_n 0, 1) := by decide +kernel
theorem dX0_wearByAnHour_8 : decode cX0_wearByAnHour 8 = .ok (.getfield 22, 3) := by decide +kernel
theorem dX0_wearByAnHour_11 : decode cX0_wearByAnHour 11 = .ok (.ifCond .ne 18, 3) := by decide +kernel
theorem dX0_wearByAnHour_14 : decode cX0_wearByAnHour 14 = .ok (.aload_n 0, 1) := by decide +kernel
theorem dX0_wearByAnHour_15 : decode cX0_wearByAnHour 15 = .ok (.iload_n 1, 1) := by decide +kernel
theorem dX0_wearByAnHour_16 : decode cX0_wearByAnHour 16 = .ok (.aload_n 0, 1) := by decide +kernel
theorem dX0_wearByAnHour_17 : decode cX0_wearByAnHour 17 = .ok (.getfield 9, 3) := by decide +kernel
theorem dX0_wearByAnHour_20 : decode cX0_wearByAnHour 20 = .ok (.iload_n 1, 1) := by decide +kernel
theorem dX0_wearByAnHour_21 : decode cX0_wearByAnHour 21 = .ok (.iaload, 1) := by decide +kernel
theorem dX0_wearByAnHour_22 : decode cX0_wearByAnHour 22 = .ok (.iconst 1, 1) := by decide +kernel
theorem dX0_wearByAnHour_23 : decode cX0_wearByAnHour 23 = .ok (.invokevirtual 45, 3) := by decide +kernel
theorem dX0_wearByAnHour_26 : decode cX0_wearByAnHour 26 = .ok (.goto 25, 3) := by decide +kernel
theorem dX0_wearByAnHour_29 : decode cX0_wearByAnHour 29 = .ok (.aload_n 0, 1) := by decide +kernel
theorem dX0_wearByAnHour_30 : decode cX0_wearByAnHour 30 = .ok (.getfield 18, 3) := by decide +kernel
theorem dX0_wearByAnHour_33 : decode cX0_wearByAnHour 33 = .ok (.iconst (-1), 1) := by decide +kernel
theorem dX0_wearByAnHour_34 : decode cX0_wearByAnHour 34 = .ok (.if_icmp .eq 17, 3) := by decide +kernel
theorem dX0_wearByAnHour_37 : decode cX0_wearByAnHour 37 = .ok (.aload_n 0, 1) := by decide +kernel
theorem dX0_wearByAnHour_38 : decode cX0_wearByAnHour 38 = .ok (.iload_n 1, 1) := by decide +kernel
theorem dX0_wearByAnHour_39 : decode cX0_wearByAnHour 39 = .ok (.aload_n 0, 1) := by decide +kernel
theorem dX0_wearByAnHour_40 : decode cX0_wearByAnHour 40 = .ok (.getfield 29, 3) := by decide +kernel
theorem dX0_wearByAnHour_43 : decode cX0_wearByAnHour 43 = .ok (.iload_n 1, 1) := by decide +kernel
theorem dX0_wearByAnHour_44 : decode cX0_wearByAnHour 44 = .ok (.invokestatic 49, 3) := by decide +kernel
theorem dX0_wearByAnHour_47 : decode cX0_wearByAnHour 47 = .ok (.iconst 2, 1) := by decide +kernel
theorem dX0_wearByAnHour_48 : decode cX0_wearByAnHour 48 = .ok (.invokevirtual 45, 3) := by decide +kernel
theorem dX0_wearByAnHour_51 : decode cX0_wearByAnHour 51 = .ok (.iinc 1 1, 3) := by decide +kernel
theorem dX0_wearByAnHour_54 : decode cX0_wearByAnHour 54 = .ok (.goto (-52), 3) := by decide +kernel
theorem dX0_wearByAnHour_57 : decode cX0_wearByAnHour 57 = .ok (.return_, 1) := by decide +kernel
theorem dX0_wearMore_0 : decode cX0_wearMore 0 = .ok (.iload_n 1, 1) := by decide +kernel
theorem dX0_wearMore_1 : decode cX0_wearMore 1 = .ok (.invokestatic 38, 3) := by decide +kernel
theorem dX0_wearMore_4 : decode cX0_wearMore 4 = .ok (.ifCond .eq 39, 3) := by decide +kernel
theorem dX0_wearMore_7 : decode cX0_wearMore 7 = .ok (.iload_n 2, 1) := by decide +kernel
theorem dX0_wearMore_8 : decode cX0_wearMore 8 = .ok (.invokestatic 42, 3) := by decide +kernel
theorem dX0_wearMore_11 : decode cX0_wearMore 11 = .ok (.ifCond .eq 32, 3) := by decide +kernel
theorem dX0_wearMore_14 : decode cX0_wearMore 14 = .ok (.iload_n 1, 1) := by decide +kernel
theorem dX0_wearMore_15 : decode cX0_wearMore 15 = .ok (.bipush 6, 2) := by decide +kernel
theorem dX0_wearMore_17 : decode cX0_wearMore 17 = .ok (.imul, 1) := by decide +kernel
theorem dX0_wearMore_18 : decode cX0_wearMore 18 = .ok (.iload_n 2, 1) := by decide +kernel
theorem dX0_wearMore_19 : decode cX0_wearMore 19 = .ok (.iadd, 1) := by decide +kernel
theorem dX0_wearMore_20 : decode cX0_wearMore 20 = .ok (.istore 4, 2) := by decide +kernel
theorem dX0_wearMore_22 : decode cX0_wearMore 22 = .ok (.aload_n 0, 1) := by decide +kernel
theorem dX0_wearMore_23 : decode cX0_wearMore 23 = .ok (.getfield 15, 3) := by decide +kernel
theorem dX0_wearMore_26 : decode cX0_wearMore 26 = .ok (.iload 4, 2) := by decide +kernel
theorem dX0_wearMore_28 : decode cX0_wearMore 28 = .ok (.bipush 99, 2) := by decide +kernel
theorem dX0_wearMore_30 : decode cX0_wearMore 30 = .ok (.aload_n 0, 1) := by decide +kernel
theorem dX0_wearMore_31 : decode cX0_wearMore 31 = .ok (.getfield 15, 3) := by decide +kernel
theorem dX0_wearMore_34 : decode cX0_wearMore 34 = .ok (.iload 4, 2) := by decide +kernel
theorem dX0_wearMore_36 : decode cX0_wearMore 36 = .ok (.iaload, 1) := by decide +kernel
theorem dX0_wearMore_37 : decode cX0_wearMore 37 = .ok (.iload_n 3, 1) := by decide +kernel
theorem dX0_wearMore_38 : decode cX0_wearMore 38 = .ok (.iadd, 1) := by decide +kernel
theorem dX0_wearMore_39 : decode cX0_wearMore 39 = .ok (.invokestatic 53, 3) := by decide +kernel
theorem dX0_wearMore_42 : decode cX0_wearMore 42 = .ok (.iastore, 1) := by decide +kernel
theorem dX0_wearMore_43 : decode cX0_wearMore 43 = .ok (.return_, 1) := by decide +kernel
theorem dX0_allWears_0 : decode cX0_allWears 0 = .ok (.iconst 0, 1) := by decide +kernel
theorem dX0_allWears_1 : decode cX0_allWears 1 = .ok (.istore_n 1, 1) := by decide +kernel
theorem dX0_allWears_2 : decode cX0_allWears 2 = .ok (.iconst 0, 1) := by decide +kernel
theorem dX0_allWears_3 : decode cX0_allWears 3 = .ok (.istore_n 2, 1) := by decide +kernel
theorem dX0_allWears_4 : decode cX0_allWears 4 = .ok (.iload_n 2, 1) := by decide +kernel
theorem dX0_allWears_5 : decode cX0_allWears 5 = .ok (.aload_n 0, 1) := by decide +kernel
theorem dX0_allWears_6 : decode cX0_allWears 6 = .ok (.getfield 15, 3) := by decide +kernel
theorem dX0_allWears_9 : decode cX0_allWears 9 = .ok (.arraylength, 1) := by decide +kernel
theorem dX0_allWears_10 : decode cX0_allWears 10 = .ok (.if_icmp .ge 18, 3) := by decide +kernel
theorem dX0_allWears_13 : decode cX0_allWears 13 = .ok (.iload_n 1, 1) := by decide +kernel
theorem dX0_allWears_14 : decode cX0_allWears 14 = .ok (.aload_n 0, 1) := by decide +kernel
theorem dX0_allWears_15 : decode cX0_allWears 15 = .ok (.getfield 15, 3) := by decide +kernel
theorem dX0_allWears_18 : decode cX0_allWears 18 = .ok (.iload_n 2, 1) := by decide +kernel
theorem dX0_allWears_19 : decode cX0_allWears 19 = .ok (.iaload, 1) := by decide +kernel
theorem dX0_allWears_20 : decode cX0_allWears 20 = .ok (.iadd, 1) := by decide +kernel
theorem dX0_allWears_21 : decode cX0_allWears 21 = .ok (.istore_n 1, 1) := by decide +kernel
theorem dX0_allWears_22 : decode cX0_allWears 22 = .ok (.iinc 2 1, 3) := by decide +kernel
theorem dX0_allWears_25 : decode cX0_allWears 25 = .ok (.goto (-21), 3) := by decide +kernel
theorem dX0_allWears_28 : decode cX0_allWears 28 = .ok (.iload_n 1, 1) := by decide +kernel
theorem dX0_allWears_29 : decode cX0_allWears 29 = .ok (.ireturn, 1) := by decide +kernel
theorem dX0_showing_0 : decode cX0_showing 0 = .ok (.iconst 0, 1) := by decide +kernel
theorem dX0_showing_1 : decode cX0_showing 1 = .ok (.istore_n 1, 1) := by decide +kernel
theorem dX0_showing_2 : decode cX0_showing 2 = .ok (.iconst 0, 1) := by decide +kernel
theorem dX0_showing_3 : decode cX0_showing 3 = .ok (.istore_n 2, 1) := by decide +kernel
theorem dX0_showing_4 : decode cX0_showing 4 = .ok (.iload_n 2, 1) := by decide +kernel
theorem dX0_showing_5 : decode cX0_showing 5 = .ok (.iconst 4, 1) := by decide +kernel
theorem dX0_showing_6 : decode cX0_showing 6 = .ok (.if_icmp .ge 20, 3) := by decide +kernel
theorem dX0_showing_9 : decode cX0_showing 9 = .ok (.iload_n 1, 1) := by decide +kernel
theorem dX0_showing_10 : decode cX0_showing 10 = .ok (.bipush 6, 2) := by decide +kernel
theorem dX0_showing_12 : decode cX0_showing 12 = .ok (.imul, 1) := by decide +kernel
theorem dX0_showing_13 : decode cX0_showing 13 = .ok (.aload_n 0, 1) := by decide +kernel
theorem dX0_showing_14 : decode cX0_showing 14 = .ok (.iload_n 2, 1) := by decide +kernel
theorem dX0_showing_15 : decode cX0_showing 15 = .ok (.invokevirtual 58, 3) := by decide +kernel
theorem dX0_showing_18 : decode cX0_showing 18 = .ok (.iadd, 1) := by decide +kernel
theorem dX0_showing_19 : decode cX0_showing 19 = .ok (.istore_n 1, 1) := by decide +kernel
theorem dX0_showing_20 : decode cX0_showing 20 = .ok (.iinc 2 1, 3) := by decide +kernel
theorem dX0_showing_23 : decode cX0_showing 23 = .ok (.goto (-19), 3) := by decide +kernel
theorem dX0_showing_26 : decode cX0_showing 26 = .ok (.iload_n 1, 1) := by decide +kernel
theorem dX0_showing_27 : decode cX0_showing 27 = .ok (.ireturn, 1) := by decide +kernel
theorem dX0_mostWorn_0 : decode cX0_mostWorn 0 = .ok (.iconst 0, 1) := by decide +kernel
theorem dX0_mostWorn_1 : decode cX0_mostWorn 1 = .ok (.istore_n 2, 1) := by decide +kernel
theorem dX0_mostWorn_2 : decode cX0_mostWorn 2 = .ok (.iconst 1, 1) := by decide +kernel
theorem dX0_mostWorn_3 : decode cX0_mostWorn 3 = .ok (.istore_n 3, 1) := by decide +kernel
theorem dX0_mostWorn_4 : decode cX0_mostWorn 4 = .ok (.iload_n 3, 1) := by decide +kernel
theorem dX0_mostWorn_5 : decode cX0_mostWorn 5 = .ok (.bipush 6, 2) := by decide +kernel
theorem dX0_mostWorn_7 : decode cX0_mostWorn 7 = .ok (.if_icmp .ge 26, 3) := by decide +kernel
theorem dX0_mostWorn_10 : decode cX0_mostWorn 10 = .ok (.aload_n 0, 1) := by decide +kernel
theorem dX0_mostWorn_11 : decode cX0_mostWorn 11 = .ok (.iload_n 1, 1) := by decide +kernel
theorem dX0_mostWorn_12 : decode cX0_mostWorn 12 = .ok (.iload_n 3, 1) := by decide +kernel
theorem dX0_mostWorn_13 : decode cX0_mostWorn 13 = .ok (.invokevirtual 62, 3) := by decide +kernel
theorem dX0_mostWorn_16 : decode cX0_mostWorn 16 = .ok (.aload_n 0, 1) := by decide +kernel
theorem dX0_mostWorn_17 : decode cX0_mostWorn 17 = .ok (.iload_n 1, 1) := by decide +kernel
theorem dX0_mostWorn_18 : decode cX0_mostWorn 18 = .ok (.iload_n 2, 1) := by decide +kernel
theorem dX0_mostWorn_19 : decode cX0_mostWorn 19 = .ok (.invokevirtual 62, 3) := by decide +kernel
theorem dX0_mostWorn_22 : decode cX0_mostWorn 22 = .ok (.if_icmp .le 5, 3) := by decide +kernel
theorem dX0_mostWorn_25 : decode cX0_mostWorn 25 = .ok (.iload_n 3, 1) := by decide +kernel
theorem dX0_mostWorn_26 : decode cX0_mostWorn 26 = .ok (.istore_n 2, 1) := by decide +kernel
theorem dX0_mostWorn_27 : decode cX0_mostWorn 27 = .ok (.iinc 3 1, 3) := by decide +kernel
theorem dX0_mostWorn_30 : decode cX0_mostWorn 30 = .ok (.goto (-26), 3) := by decide +kernel
theorem dX0_mostWorn_33 : decode cX0_mostWorn 33 = .ok (.iload_n 2, 1) := by decide +kernel
theorem dX0_mostWorn_34 : decode cX0_mostWorn 34 = .ok (.ireturn, 1) := by decide +kernel
theorem dX0_placeInOrder_0 : decode cX0_placeInOrder 0 = .ok (.iconst 0, 1) := by decide +kernel
theorem dX0_placeInOrder_1 : decode cX0_placeInOrder 1 = .ok (.istore_n 3, 1) := by decide +kernel
theorem dX0_placeInOrder_2 : decode cX0_placeInOrder 2 = .ok (.aload_n 0, 1) := by decide +kernel
theorem dX0_placeInOrder_3 : decode cX0_placeInOrder 3 = .ok (.iload_n 1, 1) := by decide +kernel
theorem dX0_placeInOrder_4 : decode cX0_placeInOrder 4 = .ok (.iload_n 2, 1) := by decide +kernel
theorem dX0_placeInOrder_5 : decode cX0_placeInOrder 5 = .ok (.invokevirtual 62, 3) := by decide +kernel
theorem dX0_placeInOrder_8 : decode cX0_placeInOrder 8 = .ok (.istore 4, 2) := by decide +kernel
theorem dX0_placeInOrder_10 : decode cX0_placeInOrder 10 = .ok (.iconst 0, 1) := by decide +kernel
theorem dX0_placeInOrder_11 : decode cX0_placeInOrder 11 = .ok (.istore 5, 2) := by decide +kernel
theorem dX0_placeInOrder_13 : decode cX0_placeInOrder 13 = .ok (.iload 5, 2) := by decide +kernel
theorem dX0_placeInOrder_15 : decode cX0_placeInOrder 15 = .ok (.bipush 6, 2) := by decide +kernel
theorem dX0_placeInOrder_17 : decode cX0_placeInOrder 17 = .ok (.if_icmp .ge 41, 3) := by decide +kernel
theorem dX0_placeInOrder_20 : decode cX0_placeInOrder 20 = .ok (.aload_n 0, 1) := by decide +kernel
theorem dX0_placeInOrder_21 : decode cX0_placeInOrder 21 = .ok (.iload_n 1, 1) := by decide +kernel
theorem dX0_placeInOrder_22 : decode cX0_placeInOrder 22 = .ok (.iload 5, 2) := by decide +kernel
theorem dX0_placeInOrder_24 : decode cX0_placeInOrder 24 = .ok (.invokevirtual 62, 3) := by decide +kernel
theorem dX0_placeInOrder_27 : decode cX0_placeInOrder 27 = .ok (.istore 6, 2) := by decide +kernel
theorem dX0_placeInOrder_29 : decode cX0_placeInOrder 29 = .ok (.iload 6, 2) := by decide +kernel
theorem dX0_placeInOrder_31 : decode cX0_placeInOrder 31 = .ok (.iload 4, 2) := by decide +kernel
theorem dX0_placeInOrder_33 : decode cX0_placeInOrder 33 = .ok (.if_icmp .gt 16, 3) := by decide +kernel
theorem dX0_placeInOrder_36 : decode cX0_placeInOrder 36 = .ok (.iload 6, 2) := by decide +kernel
theorem dX0_placeInOrder_38 : decode cX0_placeInOrder 38 = .ok (.iload 4, 2) := by decide +kernel
theorem dX0_placeInOrder_40 : decode cX0_placeInOrder 40 = .ok (.if_icmp .ne 12, 3) := by decide +kernel
theorem dX0_placeInOrder_43 : decode cX0_placeInOrder 43 = .ok (.iload 5, 2) := by decide +kernel
theorem dX0_placeInOrder_45 : decode cX0_placeInOrder 45 = .ok (.iload_n 2, 1) := by decide +kernel
theorem dX0_placeInOrder_46 : decode cX0_placeInOrder 46 = .ok (.if_icmp .ge 6, 3) := by decide +kernel
theorem dX0_placeInOrder_49 : decode cX0_placeInOrder 49 = .ok (.iinc 3 1, 3) := by decide +kernel
theorem dX0_placeInOrder_52 : decode cX0_placeInOrder 52 = .ok (.iinc 5 1, 3) := by decide +kernel
theorem dX0_placeInOrder_55 : decode cX0_placeInOrder 55 = .ok (.goto (-42), 3) := by decide +kernel
theorem dX0_placeInOrder_58 : decode cX0_placeInOrder 58 = .ok (.iload_n 3, 1) := by decide +kernel
theorem dX0_placeInOrder_59 : decode cX0_placeInOrder 59 = .ok (.ireturn, 1) := by decide +kernel
theorem dX1_init_0 : decode cX1_init 0 = .ok (.aload_n 0, 1) := by decide +kernel
theorem dX1_init_1 : decode cX1_init 1 = .ok (.invokespecial 3, 3) := by decide +kernel
theorem dX1_init_4 : decode cX1_init 4 = .ok (.aload_n 0, 1) := by decide +kernel
theorem dX1_init_5 : decode cX1_init 5 = .ok (.iconst 4, 1) := by decide +kernel
theorem dX1_init_6 : decode cX1_init 6 = .ok (.putfield 9, 3) := by decide +kernel
theorem dX1_init_9 : decode cX1_init 9 = .ok (.aload_n 0, 1) := by decide +kernel
theorem dX1_init_10 : decode cX1_init 10 = .ok (.iconst 0, 1) := by decide +kernel
theorem dX1_init_11 : decode cX1_init 11 = .ok (.putfield 15, 3) := by decide +kernel
theorem dX1_init_14 : decode cX1_init 14 = .ok (.aload_n 0, 1) := by decide +kernel
theorem dX1_init_15 : decode cX1_init 15 = .ok (.bipush 24, 2) := by decide +kernel
theorem dX1_init_17 : decode cX1_init 17 = .ok (.putfield 18, 3) := by decide +kernel
theorem dX1_init_20 : decode cX1_init 20 = .ok (.return_, 1) := by decide +kernel
theorem dX1_isOpenIn_0 : decode cX1_isOpenIn 0 = .ok (.iload_n 1, 1) := by decide +kernel
theorem dX1_isOpenIn_1 : decode cX1_isOpenIn 1 = .ok (.bipush 24, 2) := by decide +kernel
theorem dX1_isOpenIn_3 : decode cX1_isOpenIn 3 = .ok (.irem, 1) := by decide +kernel
theorem dX1_isOpenIn_4 : decode cX1_isOpenIn 4 = .ok (.istore_n 2, 1) := by decide +kernel
theorem dX1_isOpenIn_5 : decode cX1_isOpenIn 5 = .ok (.aload_n 0, 1) := by decide +kernel
theorem dX1_isOpenIn_6 : decode cX1_isOpenIn 6 = .ok (.getfield 15, 3) := by decide +kernel
theorem dX1_isOpenIn_9 : decode cX1_isOpenIn 9 = .ok (.aload_n 0, 1) := by decide +kernel
theorem dX1_isOpenIn_10 : decode cX1_isOpenIn 10 = .ok (.getfield 18, 3) := by decide +kernel
theorem dX1_isOpenIn_13 : decode cX1_isOpenIn 13 = .ok (.if_icmp .gt 25, 3) := by decide +kernel
theorem dX1_isOpenIn_16 : decode cX1_isOpenIn 16 = .ok (.iload_n 2, 1) := by decide +kernel
theorem dX1_isOpenIn_17 : decode cX1_isOpenIn 17 = .ok (.aload_n 0, 1) := by decide +kernel
theorem dX1_isOpenIn_18 : decode cX1_isOpenIn 18 = .ok (.getfield 15, 3) := by decide +kernel
theorem dX1_isOpenIn_21 : decode cX1_isOpenIn 21 = .ok (.if_icmp .lt 15, 3) := by decide +kernel
theorem dX1_isOpenIn_24 : decode cX1_isOpenIn 24 = .ok (.iload_n 2, 1) := by decide +kernel
theorem dX1_isOpenIn_25 : decode cX1_isOpenIn 25 = .ok (.aload_n 0, 1) := by decide +kernel
theorem dX1_isOpenIn_26 : decode cX1_isOpenIn 26 = .ok (.getfield 18, 3) := by decide +kernel
theorem dX1_isOpenIn_29 : decode cX1_isOpenIn 29 = .ok (.if_icmp .ge 7, 3) := by decide +kernel
theorem dX1_isOpenIn_32 : decode cX1_isOpenIn 32 = .ok (.iconst 1, 1) := by decide +kernel
theorem dX1_isOpenIn_33 : decode cX1_isOpenIn 33 = .ok (.goto 4, 3) := by decide +kernel
theorem dX1_isOpenIn_36 : decode cX1_isOpenIn 36 = .ok (.iconst 0, 1) := by decide +kernel
theorem dX1_isOpenIn_37 : decode cX1_isOpenIn 37 = .ok (.ireturn, 1) := by decide +kernel
theorem dX1_isOpenIn_38 : decode cX1_isOpenIn 38 = .ok (.iload_n 2, 1) := by decide +kernel
theorem dX1_isOpenIn_39 : decode cX1_isOpenIn 39 = .ok (.aload_n 0, 1) := by decide +kernel
theorem dX1_isOpenIn_40 : decode cX1_isOpenIn 40 = .ok (.getfield 15, 3) := by decide +kernel
theorem dX1_isOpenIn_43 : decode cX1_isOpenIn 43 = .ok (.if_icmp .ge 11, 3) := by decide +kernel
theorem dX1_isOpenIn_46 : decode cX1_isOpenIn 46 = .ok (.iload_n 2, 1) := by decide +kernel
theorem dX1_isOpenIn_47 : decode cX1_isOpenIn 47 = .ok (.aload_n 0, 1) := by decide +kernel
theorem dX1_isOpenIn_48 : decode cX1_isOpenIn 48 = .ok (.getfield 18, 3) := by decide +kernel
theorem dX1_isOpenIn_51 : decode cX1_isOpenIn 51 = .ok (.if_icmp .ge 7, 3) := by decide +kernel
theorem dX1_isOpenIn_54 : decode cX1_isOpenIn 54 = .ok (.iconst 1, 1) := by decide +kernel
theorem dX1_isOpenIn_55 : decode cX1_isOpenIn 55 = .ok (.goto 4, 3) := by decide +kernel
theorem dX1_isOpenIn_58 : decode cX1_isOpenIn 58 = .ok (.iconst 0, 1) := by decide +kernel
theorem dX1_isOpenIn_59 : decode cX1_isOpenIn 59 = .ok (.ireturn, 1) := by decide +kernel
theorem dX2_init_0 : decode cX2_init 0 = .ok (.aload_n 0, 1) := by decide +kernel
theorem dX2_init_1 : decode cX2_init 1 = .ok (.invokespecial 3, 3) := by decide +kernel
theorem dX2_init_4 : decode cX2_init 4 = .ok (.aload_n 0, 1) := by decide +kernel
theorem dX2_init_5 : decode cX2_init 5 = .ok (.iconst 5, 1) := by decide +kernel
theorem dX2_init_6 : decode cX2_init 6 = .ok (.bipush 21, 2) := by decide +kernel
theorem dX2_init_8 : decode cX2_init 8 = .ok (.multianewarray 11 2, 4) := by decide +kernel
theorem dX2_init_12 : decode cX2_init 12 = .ok (.putfield 13, 3) := by decide +kernel
theorem dX2_init_15 : decode cX2_init 15 = .ok (.aload_n 0, 1) := by decide +kernel
theorem dX2_init_16 : decode cX2_init 16 = .ok (.getfield 13, 3) := by decide +kernel
theorem dX2_init_19 : decode cX2_init 19 = .ok (.iconst 0, 1) := by decide +kernel
theorem dX2_init_20 : decode cX2_init 20 = .ok (.aaload, 1) := by decide +kernel
theorem dX2_init_21 : decode cX2_init 21 = .ok (.iconst 0, 1) := by decide +kernel
theorem dX2_init_22 : decode cX2_init 22 = .ok (.iconst 1, 1) := by decide +kernel
theorem dX2_init_23 : decode cX2_init 23 = .ok (.iastore, 1) := by decide +kernel
theorem dX2_init_24 : decode cX2_init 24 = .ok (.iconst 1, 1) := by decide +kernel
theorem dX2_init_25 : decode cX2_init 25 = .ok (.istore_n 1, 1) := by decide +kernel
theorem dX2_init_26 : decode cX2_init 26 = .ok (.iload_n 1, 1) := by decide +kernel
theorem dX2_init_27 : decode cX2_init 27 = .ok (.iconst 4, 1) := by decide +kernel
theorem dX2_init_28 : decode cX2_init 28 = .ok (.if_icmp .gt 65, 3) := by decide +kernel
theorem dX2_init_31 : decode cX2_init 31 = .ok (.iconst 0, 1) := by decide +kernel
theorem dX2_init_32 : decode cX2_init 32 = .ok (.istore_n 2, 1) := by decide +kernel
theorem dX2_init_33 : decode cX2_init 33 = .ok (.iload_n 2, 1) := by decide +kernel
theorem dX2_init_34 : decode cX2_init 34 = .ok (.bipush 20, 2) := by decide +kernel
theorem dX2_init_36 : decode cX2_init 36 = .ok (.if_icmp .gt 51, 3) := by decide +kernel
theorem dX2_init_39 : decode cX2_init 39 = .ok (.iconst 0, 1) := by decide +kernel
theorem dX2_init_40 : decode cX2_init 40 = .ok (.istore_n 3, 1) := by decide +kernel
theorem dX2_init_41 : decode cX2_init 41 = .ok (.iload_n 3, 1) := by decide +kernel
theorem dX2_init_42 : decode cX2_init 42 = .ok (.bipush 6, 2) := by decide +kernel
theorem dX2_init_44 : decode cX2_init 44 = .ok (.if_icmp .ge 37, 3) := by decide +kernel
theorem dX2_init_47 : decode cX2_init 47 = .ok (.iload_n 3, 1) := by decide +kernel
theorem dX2_init_48 : decode cX2_init 48 = .ok (.iload_n 2, 1) := by decide +kernel
theorem dX2_init_49 : decode cX2_init 49 = .ok (.if_icmp .gt 32, 3) := by decide +kernel
theorem dX2_init_52 : decode cX2_init 52 = .ok (.aload_n 0, 1) := by decide +kernel
theorem dX2_init_53 : decode cX2_init 53 = .ok (.getfield 13, 3) := by decide +kernel
theorem dX2_init_56 : decode cX2_init 56 = .ok (.iload_n 1, 1) := by decide +kernel
theorem dX2_init_57 : decode cX2_init 57 = .ok (.aaload, 1) := by decide +kernel
theorem dX2_init_58 : decode cX2_init 58 = .ok (.iload_n 2, 1) := by decide +kernel
theorem dX2_init_59 : decode cX2_init 59 = .ok (.dup2, 1) := by decide +kernel
theorem dX2_init_60 : decode cX2_init 60 = .ok (.iaload, 1) := by decide +kernel
theorem dX2_init_61 : decode cX2_init 61 = .ok (.aload_n 0, 1) := by decide +kernel
theorem dX2_init_62 : decode cX2_init 62 = .ok (.getfield 13, 3) := by decide +kernel
theorem dX2_init_65 : decode cX2_init 65 = .ok (.iload_n 1, 1) := by decide +kernel
theorem dX2_init_66 : decode cX2_init 66 = .ok (.iconst 1, 1) := by decide +kernel
theorem dX2_init_67 : decode cX2_init 67 = .ok (.isub, 1) := by decide +kernel
theorem dX2_init_68 : decode cX2_init 68 = .ok (.aaload, 1) := by decide +kernel
theorem dX2_init_69 : decode cX2_init 69 = .ok (.iload_n 2, 1) := by decide +kernel
theorem dX2_init_70 : decode cX2_init 70 = .ok (.iload_n 3, 1) := by decide +kernel
theorem dX2_init_71 : decode cX2_init 71 = .ok (.isub, 1) := by decide +kernel
theorem dX2_init_72 : decode cX2_init 72 = .ok (.iaload, 1) := by decide +kernel
theorem dX2_init_73 : decode cX2_init 73 = .ok (.iadd, 1) := by decide +kernel
theorem dX2_init_74 : decode cX2_init 74 = .ok (.iastore, 1) := by decide +kernel
theorem dX2_init_75 : decode cX2_init 75 = .ok (.iinc 3 1, 3) := by decide +kernel
theorem dX2_init_78 : decode cX2_init 78 = .ok (.goto (-37), 3) := by decide +kernel
theorem dX2_init_81 : decode cX2_init 81 = .ok (.iinc 2 1, 3) := by decide +kernel
theorem dX2_init_84 : decode cX2_init 84 = .ok (.goto (-51), 3) := by decide +kernel
theorem dX2_init_87 : decode cX2_init 87 = .ok (.iinc 1 1, 3) := by decide +kernel
theorem dX2_init_90 : decode cX2_init 90 = .ok (.goto (-64), 3) := by decide +kernel
theorem dX2_init_93 : decode cX2_init 93 = .ok (.return_, 1) := by decide +kernel
theorem dX2_trialOf_0 : decode cX2_trialOf 0 = .ok (.aload_n 1, 1) := by decide +kernel
theorem dX2_trialOf_1 : decode cX2_trialOf 1 = .ok (.iload_n 2, 1) := by decide +kernel
theorem dX2_trialOf_2 : decode cX2_trialOf 2 = .ok (.invokestatic 16, 3) := by decide +kernel
theorem dX2_trialOf_5 : decode cX2_trialOf 5 = .ok (.istore_n 3, 1) := by decide +kernel
theorem dX2_trialOf_6 : decode cX2_trialOf 6 = .ok (.iconst 0, 1) := by decide +kernel
theorem dX2_trialOf_7 : decode cX2_trialOf 7 = .ok (.istore 4, 2) := by decide +kernel
theorem dX2_trialOf_9 : decode cX2_trialOf 9 = .ok (.iconst 0, 1) := by decide +kernel
theorem dX2_trialOf_10 : decode cX2_trialOf 10 = .ok (.istore 5, 2) := by decide +kernel
theorem dX2_trialOf_12 : decode cX2_trialOf 12 = .ok (.iload 5, 2) := by decide +kernel
theorem dX2_trialOf_14 : decode cX2_trialOf 14 = .ok (.iload_n 3, 1) := by decide +kernel
theorem dX2_trialOf_15 : decode cX2_trialOf 15 = .ok (.if_icmp .ge 21, 3) := by decide +kernel
theorem dX2_trialOf_18 : decode cX2_trialOf 18 = .ok (.iload 4, 2) := by decide +kernel
theorem dX2_trialOf_20 : decode cX2_trialOf 20 = .ok (.aload_n 0, 1) := by decide +kernel
theorem dX2_trialOf_21 : decode cX2_trialOf 21 = .ok (.iconst 4, 1) := by decide +kernel
theorem dX2_trialOf_22 : decode cX2_trialOf 22 = .ok (.iload 5, 2) := by decide +kernel
theorem dX2_trialOf_24 : decode cX2_trialOf 24 = .ok (.invokevirtual 20, 3) := by decide +kernel
theorem dX2_trialOf_27 : decode cX2_trialOf 27 = .ok (.iadd, 1) := by decide +kernel
theorem dX2_trialOf_28 : decode cX2_trialOf 28 = .ok (.istore 4, 2) := by decide +kernel
theorem dX2_trialOf_30 : decode cX2_trialOf 30 = .ok (.iinc 5 1, 3) := by decide +kernel
theorem dX2_trialOf_33 : decode cX2_trialOf 33 = .ok (.goto (-21), 3) := by decide +kernel
theorem dX2_trialOf_36 : decode cX2_trialOf 36 = .ok (.iload 4, 2) := by decide +kernel
theorem dX2_trialOf_38 : decode cX2_trialOf 38 = .ok (.aload_n 0, 1) := by decide +kernel
theorem dX2_trialOf_39 : decode cX2_trialOf 39 = .ok (.aload_n 1, 1) := by decide +kernel
theorem dX2_trialOf_40 : decode cX2_trialOf 40 = .ok (.iload_n 2, 1) := by decide +kernel
theorem dX2_trialOf_41 : decode cX2_trialOf 41 = .ok (.iload_n 3, 1) := by decide +kernel
theorem dX2_trialOf_42 : decode cX2_trialOf 42 = .ok (.invokevirtual 24, 3) := by decide +kernel
theorem dX2_trialOf_45 : decode cX2_trialOf 45 = .ok (.iadd, 1) := by decide +kernel
theorem dX2_trialOf_46 : decode cX2_trialOf 46 = .ok (.iconst 1, 1) := by decide +kernel
theorem dX2_trialOf_47 : decode cX2_trialOf 47 = .ok (.iadd, 1) := by decide +kernel
theorem dX2_trialOf_48 : decode cX2_trialOf 48 = .ok (.ireturn, 1) := by decide +kernel
theorem dX2_sumOfPlaces_0 : decode cX2_sumOfPlaces 0 = .ok (.iconst 0, 1) := by decide +kernel
theorem dX2_sumOfPlaces_1 : decode cX2_sumOfPlaces 1 = .ok (.istore_n 2, 1) := by decide +kernel
theorem dX2_sumOfPlaces_2 : decode cX2_sumOfPlaces 2 = .ok (.iconst 0, 1) := by decide +kernel
theorem dX2_sumOfPlaces_3 : decode cX2_sumOfPlaces 3 = .ok (.istore_n 3, 1) := by decide +kernel
theorem dX2_sumOfPlaces_4 : decode cX2_sumOfPlaces 4 = .ok (.iload_n 3, 1) := by decide +kernel
theorem dX2_sumOfPlaces_5 : decode cX2_sumOfPlaces 5 = .ok (.iconst 4, 1) := by decide +kernel
theorem dX2_sumOfPlaces_6 : decode cX2_sumOfPlaces 6 = .ok (.if_icmp .ge 22, 3) := by decide +kernel
theorem dX2_sumOfPlaces_9 : decode cX2_sumOfPlaces 9 = .ok (.iload_n 2, 1) := by decide +kernel
theorem dX2_sumOfPlaces_10 : decode cX2_sumOfPlaces 10 = .ok (.aload_n 0, 1) := by decide +kernel
theorem dX2_sumOfPlaces_11 : decode cX2_sumOfPlaces 11 = .ok (.iload_n 3, 1) := by decide +kernel
theorem dX2_sumOfPlaces_12 : decode cX2_sumOfPlaces 12 = .ok (.iload_n 1, 1) := by decide +kernel
theorem dX2_sumOfPlaces_13 : decode cX2_sumOfPlaces 13 = .ok (.iload_n 3, 1) := by decide +kernel
theorem dX2_sumOfPlaces_14 : decode cX2_sumOfPlaces 14 = .ok (.invokestatic 28, 3) := by decide +kernel
theorem dX2_sumOfPlaces_17 : decode cX2_sumOfPlaces 17 = .ok (.invokevirtual 31, 3) := by decide +kernel
theorem dX2_sumOfPlaces_20 : decode cX2_sumOfPlaces 20 = .ok (.iadd, 1) := by decide +kernel
theorem dX2_sumOfPlaces_21 : decode cX2_sumOfPlaces 21 = .ok (.istore_n 2, 1) := by decide +kernel
theorem dX2_sumOfPlaces_22 : decode cX2_sumOfPlaces 22 = .ok (.iinc 3 1, 3) := by decide +kernel
theorem dX2_sumOfPlaces_25 : decode cX2_sumOfPlaces 25 = .ok (.goto (-21), 3) := by decide +kernel
theorem dX2_sumOfPlaces_28 : decode cX2_sumOfPlaces 28 = .ok (.iload_n 2, 1) := by decide +kernel
theorem dX2_sumOfPlaces_29 : decode cX2_sumOfPlaces 29 = .ok (.ireturn, 1) := by decide +kernel
theorem dX2_lesserWordsOfSum_0 : decode cX2_lesserWordsOfSum 0 = .ok (.iconst 0, 1) := by decide +kernel
theorem dX2_lesserWordsOfSum_1 : decode cX2_lesserWordsOfSum 1 = .ok (.istore 4, 2) := by decide +kernel
theorem dX2_lesserWordsOfSum_3 : decode cX2_lesserWordsOfSum 3 = .ok (.iload_n 3, 1) := by decide +kernel
theorem dX2_lesserWordsOfSum_4 : decode cX2_lesserWordsOfSum 4 = .ok (.istore 5, 2) := by decide +kernel
theorem dX2_lesserWordsOfSum_6 : decode cX2_lesserWordsOfSum 6 = .ok (.iconst 0, 1) := by decide +kernel
theorem dX2_lesserWordsOfSum_7 : decode cX2_lesserWordsOfSum 7 = .ok (.istore 6, 2) := by decide +kernel
theorem dX2_lesserWordsOfSum_9 : decode cX2_lesserWordsOfSum 9 = .ok (.iload 6, 2) := by decide +kernel
theorem dX2_lesserWordsOfSum_11 : decode cX2_lesserWordsOfSum 11 = .ok (.iconst 4, 1) := by decide +kernel
theorem dX2_lesserWordsOfSum_12 : decode cX2_lesserWordsOfSum 12 = .ok (.if_icmp .ge 74, 3) := by decide +kernel
theorem dX2_lesserWordsOfSum_15 : decode cX2_lesserWordsOfSum 15 = .ok (.iload_n 2, 1) := by decide +kernel
theorem dX2_lesserWordsOfSum_16 : decode cX2_lesserWordsOfSum 16 = .ok (.iload 6, 2) := by decide +kernel
theorem dX2_lesserWordsOfSum_18 : decode cX2_lesserWordsOfSum 18 = .ok (.invokestatic 28, 3) := by decide +kernel
theorem dX2_lesserWordsOfSum_21 : decode cX2_lesserWordsOfSum 21 = .ok (.istore 7, 2) := by decide +kernel
theorem dX2_lesserWordsOfSum_23 : decode cX2_lesserWordsOfSum 23 = .ok (.iconst 3, 1) := by decide +kernel
theorem dX2_lesserWordsOfSum_24 : decode cX2_lesserWordsOfSum 24 = .ok (.iload 6, 2) := by decide +kernel
theorem dX2_lesserWordsOfSum_26 : decode cX2_lesserWordsOfSum 26 = .ok (.isub, 1) := by decide +kernel
theorem dX2_lesserWordsOfSum_27 : decode cX2_lesserWordsOfSum 27 = .ok (.istore 8, 2) := by decide +kernel
theorem dX2_lesserWordsOfSum_29 : decode cX2_lesserWordsOfSum 29 = .ok (.iconst 0, 1) := by decide +kernel
theorem dX2_lesserWordsOfSum_30 : decode cX2_lesserWordsOfSum 30 = .ok (.istore 9, 2) := by decide +kernel
theorem dX2_lesserWordsOfSum_32 : decode cX2_lesserWordsOfSum 32 = .ok (.iload 9, 2) := by decide +kernel
theorem dX2_lesserWordsOfSum_34 : decode cX2_lesserWordsOfSum 34 = .ok (.iload 7, 2) := by decide +kernel
theorem dX2_lesserWordsOfSum_36 : decode cX2_lesserWordsOfSum 36 = .ok (.if_icmp .ge 31, 3) := by decide +kernel
theorem dX2_lesserWordsOfSum_39 : decode cX2_lesserWordsOfSum 39 = .ok (.iload 4, 2) := by decide +kernel
theorem dX2_lesserWordsOfSum_41 : decode cX2_lesserWordsOfSum 41 = .ok (.aload_n 0, 1) := by decide +kernel
theorem dX2_lesserWordsOfSum_42 : decode cX2_lesserWordsOfSum 42 = .ok (.iload 8, 2) := by decide +kernel
theorem dX2_lesserWordsOfSum_44 : decode cX2_lesserWordsOfSum 44 = .ok (.iload 5, 2) := by decide +kernel
theorem dX2_lesserWordsOfSum_46 : decode cX2_lesserWordsOfSum 46 = .ok (.aload_n 1, 1) := by decide +kernel
theorem dX2_lesserWordsOfSum_47 : decode cX2_lesserWordsOfSum 47 = .ok (.iload 6, 2) := by decide +kernel
theorem dX2_lesserWordsOfSum_49 : decode cX2_lesserWordsOfSum 49 = .ok (.iload 9, 2) := by decide +kernel
theorem dX2_lesserWordsOfSum_51 : decode cX2_lesserWordsOfSum 51 = .ok (.invokevirtual 31, 3) := by decide +kernel
theorem dX2_lesserWordsOfSum_54 : decode cX2_lesserWordsOfSum 54 = .ok (.isub, 1) := by decide +kernel
theorem dX2_lesserWordsOfSum_55 : decode cX2_lesserWordsOfSum 55 = .ok (.invokevirtual 20, 3) := by decide +kernel
theorem dX2_lesserWordsOfSum_58 : decode cX2_lesserWordsOfSum 58 = .ok (.iadd, 1) := by decide +kernel
theorem dX2_lesserWordsOfSum_59 : decode cX2_lesserWordsOfSum 59 = .ok (.istore 4, 2) := by decide +kernel
theorem dX2_lesserWordsOfSum_61 : decode cX2_lesserWordsOfSum 61 = .ok (.iinc 9 1, 3) := by decide +kernel
theorem dX2_lesserWordsOfSum_64 : decode cX2_lesserWordsOfSum 64 = .ok (.goto (-32), 3) := by decide +kernel
theorem dX2_lesserWordsOfSum_67 : decode cX2_lesserWordsOfSum 67 = .ok (.iload 5, 2) := by decide +kernel
theorem dX2_lesserWordsOfSum_69 : decode cX2_lesserWordsOfSum 69 = .ok (.aload_n 1, 1) := by decide +kernel
theorem dX2_lesserWordsOfSum_70 : decode cX2_lesserWordsOfSum 70 = .ok (.iload 6, 2) := by decide +kernel
theorem dX2_lesserWordsOfSum_72 : decode cX2_lesserWordsOfSum 72 = .ok (.iload 7, 2) := by decide +kernel
theorem dX2_lesserWordsOfSum_74 : decode cX2_lesserWordsOfSum 74 = .ok (.invokevirtual 31, 3) := by decide +kernel
theorem dX2_lesserWordsOfSum_77 : decode cX2_lesserWordsOfSum 77 = .ok (.isub, 1) := by decide +kernel
theorem dX2_lesserWordsOfSum_78 : decode cX2_lesserWordsOfSum 78 = .ok (.istore 5, 2) := by decide +kernel
theorem dX2_lesserWordsOfSum_80 : decode cX2_lesserWordsOfSum 80 = .ok (.iinc 6 1, 3) := by decide +kernel
theorem dX2_lesserWordsOfSum_83 : decode cX2_lesserWordsOfSum 83 = .ok (.goto (-74), 3) := by decide +kernel
theorem dX2_lesserWordsOfSum_86 : decode cX2_lesserWordsOfSum 86 = .ok (.iload 4, 2) := by decide +kernel
theorem dX2_lesserWordsOfSum_88 : decode cX2_lesserWordsOfSum 88 = .ok (.ireturn, 1) := by decide +kernel
theorem dX2_wordsWith_0 : decode cX2_wordsWith 0 = .ok (.iload_n 1, 1) := by decide +kernel
theorem dX2_wordsWith_1 : decode cX2_wordsWith 1 = .ok (.ifCond .lt 18, 3) := by decide +kernel
theorem dX2_wordsWith_4 : decode cX2_wordsWith 4 = .ok (.iload_n 1, 1) := by decide +kernel
theorem dX2_wordsWith_5 : decode cX2_wordsWith 5 = .ok (.iconst 4, 1) := by decide +kernel
theorem dX2_wordsWith_6 : decode cX2_wordsWith 6 = .ok (.if_icmp .gt 13, 3) := by decide +kernel
theorem dX2_wordsWith_9 : decode cX2_wordsWith 9 = .ok (.iload_n 2, 1) := by decide +kernel
theorem dX2_wordsWith_10 : decode cX2_wordsWith 10 = .ok (.ifCond .lt 9, 3) := by decide +kernel
theorem dX2_wordsWith_13 : decode cX2_wordsWith 13 = .ok (.iload_n 2, 1) := by decide +kernel
theorem dX2_wordsWith_14 : decode cX2_wordsWith 14 = .ok (.bipush 20, 2) := by decide +kernel
theorem dX2_wordsWith_16 : decode cX2_wordsWith 16 = .ok (.if_icmp .le 5, 3) := by decide +kernel
theorem dX2_wordsWith_19 : decode cX2_wordsWith 19 = .ok (.iconst 0, 1) := by decide +kernel
theorem dX2_wordsWith_20 : decode cX2_wordsWith 20 = .ok (.ireturn, 1) := by decide +kernel
theorem dX2_wordsWith_21 : decode cX2_wordsWith 21 = .ok (.aload_n 0, 1) := by decide +kernel
theorem dX2_wordsWith_22 : decode cX2_wordsWith 22 = .ok (.getfield 13, 3) := by decide +kernel
theorem dX2_wordsWith_25 : decode cX2_wordsWith 25 = .ok (.iload_n 1, 1) := by decide +kernel
theorem dX2_wordsWith_26 : decode cX2_wordsWith 26 = .ok (.aaload, 1) := by decide +kernel
theorem dX2_wordsWith_27 : decode cX2_wordsWith 27 = .ok (.iload_n 2, 1) := by decide +kernel
theorem dX2_wordsWith_28 : decode cX2_wordsWith 28 = .ok (.iaload, 1) := by decide +kernel
theorem dX2_wordsWith_29 : decode cX2_wordsWith 29 = .ok (.ireturn, 1) := by decide +kernel
theorem dX3_init_0 : decode cX3_init 0 = .ok (.aload_n 0, 1) := by decide +kernel
theorem dX3_init_1 : decode cX3_init 1 = .ok (.invokespecial 1, 3) := by decide +kernel
theorem dX3_init_4 : decode cX3_init 4 = .ok (.aload_n 0, 1) := by decide +kernel
theorem dX3_init_5 : decode cX3_init 5 = .ok (.new 7, 3) := by decide +kernel
theorem dX3_init_8 : decode cX3_init 8 = .ok (.dup, 1) := by decide +kernel
theorem dX3_init_9 : decode cX3_init 9 = .ok (.invokespecial 9, 3) := by decide +kernel
theorem dX3_init_12 : decode cX3_init 12 = .ok (.putfield 10, 3) := by decide +kernel
theorem dX3_init_15 : decode cX3_init 15 = .ok (.aload_n 0, 1) := by decide +kernel
theorem dX3_init_16 : decode cX3_init 16 = .ok (.iconst 3, 1) := by decide +kernel
theorem dX3_init_17 : decode cX3_init 17 = .ok (.anewarray 16, 3) := by decide +kernel
theorem dX3_init_20 : decode cX3_init 20 = .ok (.putfield 18, 3) := by decide +kernel
theorem dX3_init_23 : decode cX3_init 23 = .ok (.iconst 0, 1) := by decide +kernel
theorem dX3_init_24 : decode cX3_init 24 = .ok (.istore_n 1, 1) := by decide +kernel
theorem dX3_init_25 : decode cX3_init 25 = .ok (.iload_n 1, 1) := by decide +kernel
theorem dX3_init_26 : decode cX3_init 26 = .ok (.aload_n 0, 1) := by decide +kernel
theorem dX3_init_27 : decode cX3_init 27 = .ok (.getfield 18, 3) := by decide +kernel
theorem dX3_init_30 : decode cX3_init 30 = .ok (.arraylength, 1) := by decide +kernel
theorem dX3_init_31 : decode cX3_init 31 = .ok (.if_icmp .ge 22, 3) := by decide +kernel
theorem dX3_init_34 : decode cX3_init 34 = .ok (.aload_n 0, 1) := by decide +kernel
theorem dX3_init_35 : decode cX3_init 35 = .ok (.getfield 18, 3) := by decide +kernel
theorem dX3_init_38 : decode cX3_init 38 = .ok (.iload_n 1, 1) := by decide +kernel
theorem dX3_init_39 : decode cX3_init 39 = .ok (.new 16, 3) := by decide +kernel
theorem dX3_init_42 : decode cX3_init 42 = .ok (.dup, 1) := by decide +kernel
theorem dX3_init_43 : decode cX3_init 43 = .ok (.invokespecial 22, 3) := by decide +kernel
theorem dX3_init_46 : decode cX3_init 46 = .ok (.aastore, 1) := by decide +kernel
theorem dX3_init_47 : decode cX3_init 47 = .ok (.iinc 1 1, 3) := by decide +kernel
theorem dX3_init_50 : decode cX3_init 50 = .ok (.goto (-25), 3) := by decide +kernel
theorem dX3_init_53 : decode cX3_init 53 = .ok (.aload_n 0, 1) := by decide +kernel
theorem dX3_init_54 : decode cX3_init 54 = .ok (.new 23, 3) := by decide +kernel
theorem dX3_init_57 : decode cX3_init 57 = .ok (.dup, 1) := by decide +kernel
theorem dX3_init_58 : decode cX3_init 58 = .ok (.invokespecial 25, 3) := by decide +kernel
theorem dX3_init_61 : decode cX3_init 61 = .ok (.putfield 26, 3) := by decide +kernel
theorem dX3_init_64 : decode cX3_init 64 = .ok (.aload_n 0, 1) := by decide +kernel
theorem dX3_init_65 : decode cX3_init 65 = .ok (.new 30, 3) := by decide +kernel
theorem dX3_init_68 : decode cX3_init 68 = .ok (.dup, 1) := by decide +kernel
theorem dX3_init_69 : decode cX3_init 69 = .ok (.iconst 0, 1) := by decide +kernel
theorem dX3_init_70 : decode cX3_init 70 = .ok (.invokespecial 32, 3) := by decide +kernel
theorem dX3_init_73 : decode cX3_init 73 = .ok (.putfield 35, 3) := by decide +kernel
theorem dX3_init_76 : decode cX3_init 76 = .ok (.aload_n 0, 1) := by decide +kernel
theorem dX3_init_77 : decode cX3_init 77 = .ok (.iconst 0, 1) := by decide +kernel
theorem dX3_init_78 : decode cX3_init 78 = .ok (.putfield 39, 3) := by decide +kernel
theorem dX3_init_81 : decode cX3_init 81 = .ok (.aload_n 0, 1) := by decide +kernel
theorem dX3_init_82 : decode cX3_init 82 = .ok (.iconst 0, 1) := by decide +kernel
theorem dX3_init_83 : decode cX3_init 83 = .ok (.putfield 43, 3) := by decide +kernel
theorem dX3_init_86 : decode cX3_init 86 = .ok (.return_, 1) := by decide +kernel
theorem dX3_lock_0 : decode cX3_lock 0 = .ok (.iload_n 1, 1) := by decide +kernel
theorem dX3_lock_1 : decode cX3_lock 1 = .ok (.invokestatic 46, 3) := by decide +kernel
theorem dX3_lock_4 : decode cX3_lock 4 = .ok (.aload_n 0, 1) := by decide +kernel
theorem dX3_lock_5 : decode cX3_lock 5 = .ok (.getfield 10, 3) := by decide +kernel
theorem dX3_lock_8 : decode cX3_lock 8 = .ok (.invokevirtual 49, 3) := by decide +kernel
theorem dX3_lock_11 : decode cX3_lock 11 = .ok (.bipush 8, 2) := by decide +kernel
theorem dX3_lock_13 : decode cX3_lock 13 = .ok (.if_icmp .lt 13, 3) := by decide +kernel
theorem dX3_lock_16 : decode cX3_lock 16 = .ok (.new 53, 3) := by decide +kernel
theorem dX3_lock_19 : decode cX3_lock 19 = .ok (.dup, 1) := by decide +kernel
theorem dX3_lock_20 : decode cX3_lock 20 = .ok (.ldc 55, 2) := by decide +kernel
theorem dX3_lock_22 : decode cX3_lock 22 = .ok (.invokespecial 57, 3) := by decide +kernel
theorem dX3_lock_25 : decode cX3_lock 25 = .ok (.athrow, 1) := by decide +kernel
theorem dX3_lock_26 : decode cX3_lock 26 = .ok (.aload_n 0, 1) := by decide +kernel
theorem dX3_lock_27 : decode cX3_lock 27 = .ok (.getfield 10, 3) := by decide +kernel
theorem dX3_lock_30 : decode cX3_lock 30 = .ok (.new 30, 3) := by decide +kernel
theorem dX3_lock_33 : decode cX3_lock 33 = .ok (.dup, 1) := by decide +kernel
theorem dX3_lock_34 : decode cX3_lock 34 = .ok (.iload_n 1, 1) := by decide +kernel
theorem dX3_lock_35 : decode cX3_lock 35 = .ok (.invokespecial 32, 3) := by decide +kernel
theorem dX3_lock_38 : decode cX3_lock 38 = .ok (.invokevirtual 60, 3) := by decide +kernel
theorem dX3_lock_41 : decode cX3_lock 41 = .ok (.pop, 1) := by decide +kernel
theorem dX3_lock_42 : decode cX3_lock 42 = .ok (.aload_n 0, 1) := by decide +kernel
theorem dX3_lock_43 : decode cX3_lock 43 = .ok (.getfield 10, 3) := by decide +kernel
theorem dX3_lock_46 : decode cX3_lock 46 = .ok (.invokevirtual 49, 3) := by decide +kernel
theorem dX3_lock_49 : decode cX3_lock 49 = .ok (.iconst 1, 1) := by decide +kernel
theorem dX3_lock_50 : decode cX3_lock 50 = .ok (.isub, 1) := by decide +kernel
theorem dX3_lock_51 : decode cX3_lock 51 = .ok (.ireturn, 1) := by decide +kernel
theorem dX3_turn_0 : decode cX3_turn 0 = .ok (.aload_n 0, 1) := by decide +kernel
theorem dX3_turn_1 : decode cX3_turn 1 = .ok (.iload_n 1, 1) := by decide +kernel
theorem dX3_turn_2 : decode cX3_turn 2 = .ok (.invokevirtual 64, 3) := by decide +kernel
theorem dX3_turn_5 : decode cX3_turn 5 = .ok (.astore 4, 2) := by decide +kernel
theorem dX3_turn_7 : decode cX3_turn 7 = .ok (.iload_n 2, 1) := by decide +kernel
theorem dX3_turn_8 : decode cX3_turn 8 = .ok (.invokestatic 68, 3) := by decide +kernel
theorem dX3_turn_11 : decode cX3_turn 11 = .ok (.iload_n 3, 1) := by decide +kernel
theorem dX3_turn_12 : decode cX3_turn 12 = .ok (.invokestatic 71, 3) := by decide +kernel
theorem dX3_turn_15 : decode cX3_turn 15 = .ok (.ifCond .ne 13, 3) := by decide +kernel
theorem dX3_turn_18 : decode cX3_turn 18 = .ok (.new 75, 3) := by decide +kernel
theorem dX3_turn_21 : decode cX3_turn 21 = .ok (.dup, 1) := by decide +kernel
theorem dX3_turn_22 : decode cX3_turn 22 = .ok (.ldc 77, 2) := by decide +kernel
theorem dX3_turn_24 : decode cX3_turn 24 = .ok (.invokespecial 79, 3) := by decide +kernel
theorem dX3_turn_27 : decode cX3_turn 27 = .ok (.athrow, 1) := by decide +kernel
theorem dX3_turn_28 : decode cX3_turn 28 = .ok (.aload 4, 2) := by decide +kernel
theorem dX3_turn_30 : decode cX3_turn 30 = .ok (.iload_n 2, 1) := by decide +kernel
theorem dX3_turn_31 : decode cX3_turn 31 = .ok (.invokevirtual 80, 3) := by decide +kernel
theorem dX3_turn_34 : decode cX3_turn 34 = .ok (.iload_n 3, 1) := by decide +kernel
theorem dX3_turn_35 : decode cX3_turn 35 = .ok (.invokestatic 84, 3) := by decide +kernel
theorem dX3_turn_38 : decode cX3_turn 38 = .ok (.istore 5, 2) := by decide +kernel
theorem dX3_turn_40 : decode cX3_turn 40 = .ok (.aload 4, 2) := by decide +kernel
theorem dX3_turn_42 : decode cX3_turn 42 = .ok (.iload_n 2, 1) := by decide +kernel
theorem dX3_turn_43 : decode cX3_turn 43 = .ok (.iload_n 3, 1) := by decide +kernel
theorem dX3_turn_44 : decode cX3_turn 44 = .ok (.invokevirtual 88, 3) := by decide +kernel
theorem dX3_turn_47 : decode cX3_turn 47 = .ok (.aload_n 0, 1) := by decide +kernel
theorem dX3_turn_48 : decode cX3_turn 48 = .ok (.dup, 1) := by decide +kernel
theorem dX3_turn_49 : decode cX3_turn 49 = .ok (.getfield 43, 3) := by decide +kernel
theorem dX3_turn_52 : decode cX3_turn 52 = .ok (.iload 5, 2) := by decide +kernel
theorem dX3_turn_54 : decode cX3_turn 54 = .ok (.iadd, 1) := by decide +kernel
theorem dX3_turn_55 : decode cX3_turn 55 = .ok (.putfield 43, 3) := by decide +kernel
theorem dX3_turn_58 : decode cX3_turn 58 = .ok (.iload 5, 2) := by decide +kernel
theorem dX3_turn_60 : decode cX3_turn 60 = .ok (.ireturn, 1) := by decide +kernel
theorem dX3_open_0 : decode cX3_open 0 = .ok (.aload_n 0, 1) := by decide +kernel
theorem dX3_open_1 : decode cX3_open 1 = .ok (.iload_n 1, 1) := by decide +kernel
theorem dX3_open_2 : decode cX3_open 2 = .ok (.invokevirtual 64, 3) := by decide +kernel
theorem dX3_open_5 : decode cX3_open 5 = .ok (.astore_n 2, 1) := by decide +kernel
theorem dX3_open_6 : decode cX3_open 6 = .ok (.aload_n 2, 1) := by decide +kernel
theorem dX3_open_7 : decode cX3_open 7 = .ok (.invokevirtual 92, 3) := by decide +kernel
theorem dX3_open_10 : decode cX3_open 10 = .ok (.aload_n 2, 1) := by decide +kernel
theorem dX3_open_11 : decode cX3_open 11 = .ok (.getfield 95, 3) := by decide +kernel
theorem dX3_open_14 : decode cX3_open 14 = .ok (.if_icmp .ne 8, 3) := by decide +kernel
theorem dX3_open_17 : decode cX3_open 17 = .ok (.aload_n 2, 1) := by decide +kernel
theorem dX3_open_18 : decode cX3_open 18 = .ok (.iconst 1, 1) := by decide +kernel
theorem dX3_open_19 : decode cX3_open 19 = .ok (.putfield 98, 3) := by decide +kernel
theorem dX3_open_22 : decode cX3_open 22 = .ok (.aload_n 2, 1) := by decide +kernel
theorem dX3_open_23 : decode cX3_open 23 = .ok (.getfield 98, 3) := by decide +kernel
theorem dX3_open_26 : decode cX3_open 26 = .ok (.ireturn, 1) := by decide +kernel
theorem dX3_shut_0 : decode cX3_shut 0 = .ok (.aload_n 0, 1) := by decide +kernel
theorem dX3_shut_1 : decode cX3_shut 1 = .ok (.iload_n 1, 1) := by decide +kernel
theorem dX3_shut_2 : decode cX3_shut 2 = .ok (.invokevirtual 64, 3) := by decide +kernel
theorem dX3_shut_5 : decode cX3_shut 5 = .ok (.astore_n 2, 1) := by decide +kernel
theorem dX3_shut_6 : decode cX3_shut 6 = .ok (.aload_n 2, 1) := by decide +kernel
theorem dX3_shut_7 : decode cX3_shut 7 = .ok (.invokestatic 102, 3) := by decide +kernel
theorem dX3_shut_10 : decode cX3_shut 10 = .ok (.aload_n 2, 1) := by decide +kernel
theorem dX3_shut_11 : decode cX3_shut 11 = .ok (.invokevirtual 106, 3) := by decide +kernel
theorem dX3_shut_14 : decode cX3_shut 14 = .ok (.aload_n 2, 1) := by decide +kernel
theorem dX3_shut_15 : decode cX3_shut 15 = .ok (.invokevirtual 92, 3) := by decide +kernel
theorem dX3_shut_18 : decode cX3_shut 18 = .ok (.ireturn, 1) := by decide +kernel
theorem dX3_rename_0 : decode cX3_rename 0 = .ok (.aload_n 0, 1) := by decide +kernel
theorem dX3_rename_1 : decode cX3_rename 1 = .ok (.iload_n 1, 1) := by decide +kernel
theorem dX3_rename_2 : decode cX3_rename 2 = .ok (.invokevirtual 64, 3) := by decide +kernel
theorem dX3_rename_5 : decode cX3_rename 5 = .ok (.astore_n 3, 1) := by decide +kernel
theorem dX3_rename_6 : decode cX3_rename 6 = .ok (.iload_n 2, 1) := by decide +kernel
theorem dX3_rename_7 : decode cX3_rename 7 = .ok (.invokestatic 46, 3) := by decide +kernel
theorem dX3_rename_10 : decode cX3_rename 10 = .ok (.aload_n 3, 1) := by decide +kernel
theorem dX3_rename_11 : decode cX3_rename 11 = .ok (.invokestatic 102, 3) := by decide +kernel
theorem dX3_rename_14 : decode cX3_rename 14 = .ok (.aload_n 3, 1) := by decide +kernel
theorem dX3_rename_15 : decode cX3_rename 15 = .ok (.getfield 95, 3) := by decide +kernel
theorem dX3_rename_18 : decode cX3_rename 18 = .ok (.istore 4, 2) := by decide +kernel
theorem dX3_rename_20 : decode cX3_rename 20 = .ok (.aload_n 3, 1) := by decide +kernel
theorem dX3_rename_21 : decode cX3_rename 21 = .ok (.iload_n 2, 1) := by decide +kernel
theorem dX3_rename_22 : decode cX3_rename 22 = .ok (.putfield 95, 3) := by decide +kernel
theorem dX3_rename_25 : decode cX3_rename 25 = .ok (.aload_n 3, 1) := by decide +kernel
theorem dX3_rename_26 : decode cX3_rename 26 = .ok (.iconst 0, 1) := by decide +kernel
theorem dX3_rename_27 : decode cX3_rename 27 = .ok (.putfield 109, 3) := by decide +kernel
theorem dX3_rename_30 : decode cX3_rename 30 = .ok (.iload 4, 2) := by decide +kernel
theorem dX3_rename_32 : decode cX3_rename 32 = .ok (.ireturn, 1) := by decide +kernel
theorem dX3_lose_0 : decode cX3_lose 0 = .ok (.aload_n 0, 1) := by decide +kernel
theorem dX3_lose_1 : decode cX3_lose 1 = .ok (.iload_n 1, 1) := by decide +kernel
theorem dX3_lose_2 : decode cX3_lose 2 = .ok (.invokevirtual 64, 3) := by decide +kernel
theorem dX3_lose_5 : decode cX3_lose 5 = .ok (.astore_n 3, 1) := by decide +kernel
theorem dX3_lose_6 : decode cX3_lose 6 = .ok (.aload_n 3, 1) := by decide +kernel
theorem dX3_lose_7 : decode cX3_lose 7 = .ok (.getfield 109, 3) := by decide +kernel
theorem dX3_lose_10 : decode cX3_lose 10 = .ok (.istore 4, 2) := by decide +kernel
theorem dX3_lose_12 : decode cX3_lose 12 = .ok (.aload_n 3, 1) := by decide +kernel
theorem dX3_lose_13 : decode cX3_lose 13 = .ok (.iload_n 2, 1) := by decide +kernel
theorem dX3_lose_14 : decode cX3_lose 14 = .ok (.putfield 109, 3) := by decide +kernel
theorem dX3_lose_17 : decode cX3_lose 17 = .ok (.iload 4, 2) := by decide +kernel
theorem dX3_lose_19 : decode cX3_lose 19 = .ok (.ireturn, 1) := by decide +kernel
theorem dX3_setPlaces_0 : decode cX3_setPlaces 0 = .ok (.aload_n 0, 1) := by decide +kernel
theorem dX3_setPlaces_1 : decode cX3_setPlaces 1 = .ok (.iload_n 1, 1) := by decide +kernel
theorem dX3_setPlaces_2 : decode cX3_setPlaces 2 = .ok (.invokevirtual 112, 3) := by decide +kernel
theorem dX3_setPlaces_5 : decode cX3_setPlaces 5 = .ok (.astore_n 3, 1) := by decide +kernel
theorem dX3_setPlaces_6 : decode cX3_setPlaces 6 = .ok (.iload_n 2, 1) := by decide +kernel
theorem dX3_setPlaces_7 : decode cX3_setPlaces 7 = .ok (.iconst 1, 1) := by decide +kernel
theorem dX3_setPlaces_8 : decode cX3_setPlaces 8 = .ok (.if_icmp .lt 9, 3) := by decide +kernel
theorem dX3_setPlaces_11 : decode cX3_setPlaces 11 = .ok (.iload_n 2, 1) := by decide +kernel
theorem dX3_setPlaces_12 : decode cX3_setPlaces 12 = .ok (.bipush 6, 2) := by decide +kernel
theorem dX3_setPlaces_14 : decode cX3_setPlaces 14 = .ok (.if_icmp .le 13, 3) := by decide +kernel
theorem dX3_setPlaces_17 : decode cX3_setPlaces 17 = .ok (.new 75, 3) := by decide +kernel
theorem dX3_setPlaces_20 : decode cX3_setPlaces 20 = .ok (.dup, 1) := by decide +kernel
theorem dX3_setPlaces_21 : decode cX3_setPlaces 21 = .ok (.ldc 116, 2) := by decide +kernel
theorem dX3_setPlaces_23 : decode cX3_setPlaces 23 = .ok (.invokespecial 79, 3) := by decide +kernel
theorem dX3_setPlaces_26 : decode cX3_setPlaces 26 = .ok (.athrow, 1) := by decide +kernel
theorem dX3_setPlaces_27 : decode cX3_setPlaces 27 = .ok (.aload_n 0, 1) := by decide +kernel
theorem dX3_setPlaces_28 : decode cX3_setPlaces 28 = .ok (.iload_n 1, 1) := by decide +kernel
theorem dX3_setPlaces_29 : decode cX3_setPlaces 29 = .ok (.invokevirtual 118, 3) := by decide +kernel
theorem dX3_setPlaces_32 : decode cX3_setPlaces 32 = .ok (.iload_n 2, 1) := by decide +kernel
theorem dX3_setPlaces_33 : decode cX3_setPlaces 33 = .ok (.if_icmp .le 13, 3) := by decide +kernel
theorem dX3_setPlaces_36 : decode cX3_setPlaces 36 = .ok (.new 53, 3) := by decide +kernel
theorem dX3_setPlaces_39 : decode cX3_setPlaces 39 = .ok (.dup, 1) := by decide +kernel
theorem dX3_setPlaces_40 : decode cX3_setPlaces 40 = .ok (.ldc 121, 2) := by decide +kernel
theorem dX3_setPlaces_42 : decode cX3_setPlaces 42 = .ok (.invokespecial 57, 3) := by decide +kernel
theorem dX3_setPlaces_45 : decode cX3_setPlaces 45 = .ok (.athrow, 1) := by decide +kernel
theorem dX3_setPlaces_46 : decode cX3_setPlaces 46 = .ok (.aload_n 3, 1) := by decide +kernel
theorem dX3_setPlaces_47 : decode cX3_setPlaces 47 = .ok (.getfield 123, 3) := by decide +kernel
theorem dX3_setPlaces_50 : decode cX3_setPlaces 50 = .ok (.istore 4, 2) := by decide +kernel
theorem dX3_setPlaces_52 : decode cX3_setPlaces 52 = .ok (.aload_n 3, 1) := by decide +kernel
theorem dX3_setPlaces_53 : decode cX3_setPlaces 53 = .ok (.iload_n 2, 1) := by decide +kernel
theorem dX3_setPlaces_54 : decode cX3_setPlaces 54 = .ok (.putfield 123, 3) := by decide +kernel
theorem dX3_setPlaces_57 : decode cX3_setPlaces 57 = .ok (.iload 4, 2) := by decide +kernel
theorem dX3_setPlaces_59 : decode cX3_setPlaces 59 = .ok (.ireturn, 1) := by decide +kernel
theorem dX3_setHours_0 : decode cX3_setHours 0 = .ok (.aload_n 0, 1) := by decide +kernel
theorem dX3_setHours_1 : decode cX3_setHours 1 = .ok (.iload_n 1, 1) := by decide +kernel
theorem dX3_setHours_2 : decode cX3_setHours 2 = .ok (.invokevirtual 112, 3) := by decide +kernel
theorem dX3_setHours_5 : decode cX3_setHours 5 = .ok (.astore 4, 2) := by decide +kernel
theorem dX3_setHours_7 : decode cX3_setHours 7 = .ok (.iload_n 2, 1) := by decide +kernel
theorem dX3_setHours_8 : decode cX3_setHours 8 = .ok (.ifCond .lt 19, 3) := by decide +kernel
theorem dX3_setHours_11 : decode cX3_setHours 11 = .ok (.iload_n 2, 1) := by decide +kernel
theorem dX3_setHours_12 : decode cX3_setHours 12 = .ok (.bipush 24, 2) := by decide +kernel
theorem dX3_setHours_14 : decode cX3_setHours 14 = .ok (.if_icmp .ge 13, 3) := by decide +kernel
theorem dX3_setHours_17 : decode cX3_setHours 17 = .ok (.iload_n 3, 1) := by decide +kernel
theorem dX3_setHours_18 : decode cX3_setHours 18 = .ok (.ifCond .lt 9, 3) := by decide +kernel
theorem dX3_setHours_21 : decode cX3_setHours 21 = .ok (.iload_n 3, 1) := by decide +kernel
theorem dX3_setHours_22 : decode cX3_setHours 22 = .ok (.bipush 24, 2) := by decide +kernel
theorem dX3_setHours_24 : decode cX3_setHours 24 = .ok (.if_icmp .le 13, 3) := by decide +kernel
theorem dX3_setHours_27 : decode cX3_setHours 27 = .ok (.new 75, 3) := by decide +kernel
theorem dX3_setHours_30 : decode cX3_setHours 30 = .ok (.dup, 1) := by decide +kernel
theorem dX3_setHours_31 : decode cX3_setHours 31 = .ok (.ldc 126, 2) := by decide +kernel
theorem dX3_setHours_33 : decode cX3_setHours 33 = .ok (.invokespecial 79, 3) := by decide +kernel
theorem dX3_setHours_36 : decode cX3_setHours 36 = .ok (.athrow, 1) := by decide +kernel
theorem dX3_setHours_37 : decode cX3_setHours 37 = .ok (.bipush 25, 2) := by decide +kernel
theorem dX3_setHours_39 : decode cX3_setHours 39 = .ok (.aload 4, 2) := by decide +kernel
theorem dX3_setHours_41 : decode cX3_setHours 41 = .ok (.getfield 128, 3) := by decide +kernel
theorem dX3_setHours_44 : decode cX3_setHours 44 = .ok (.imul, 1) := by decide +kernel
theorem dX3_setHours_45 : decode cX3_setHours 45 = .ok (.aload 4, 2) := by decide +kernel
theorem dX3_setHours_47 : decode cX3_setHours 47 = .ok (.getfield 131, 3) := by decide +kernel
theorem dX3_setHours_50 : decode cX3_setHours 50 = .ok (.iadd, 1) := by decide +kernel
theorem dX3_setHours_51 : decode cX3_setHours 51 = .ok (.istore 5, 2) := by decide +kernel
theorem dX3_setHours_53 : decode cX3_setHours 53 = .ok (.aload 4, 2) := by decide +kernel
theorem dX3_setHours_55 : decode cX3_setHours 55 = .ok (.iload_n 2, 1) := by decide +kernel
theorem dX3_setHours_56 : decode cX3_setHours 56 = .ok (.putfield 128, 3) := by decide +kernel
theorem dX3_setHours_59 : decode cX3_setHours 59 = .ok (.aload 4, 2) := by decide +kernel
theorem dX3_setHours_61 : decode cX3_setHours 61 = .ok (.iload_n 3, 1) := by decide +kernel
theorem dX3_setHours_62 : decode cX3_setHours 62 = .ok (.putfield 131, 3) := by decide +kernel
theorem dX3_setHours_65 : decode cX3_setHours 65 = .ok (.iload 5, 2) := by decide +kernel
theorem dX3_setHours_67 : decode cX3_setHours 67 = .ok (.ireturn, 1) := by decide +kernel
theorem dX3_put_0 : decode cX3_put 0 = .ok (.aload_n 0, 1) := by decide +kernel
theorem dX3_put_1 : decode cX3_put 1 = .ok (.iload_n 1, 1) := by decide +kernel
theorem dX3_put_2 : decode cX3_put 2 = .ok (.invokevirtual 64, 3) := by decide +kernel
theorem dX3_put_5 : decode cX3_put 5 = .ok (.astore_n 3, 1) := by decide +kernel
theorem dX3_put_6 : decode cX3_put 6 = .ok (.iload_n 2, 1) := by decide +kernel
theorem dX3_put_7 : decode cX3_put 7 = .ok (.iconst (-1), 1) := by decide +kernel
theorem dX3_put_8 : decode cX3_put 8 = .ok (.if_icmp .eq 21, 3) := by decide +kernel
theorem dX3_put_11 : decode cX3_put 11 = .ok (.aload_n 0, 1) := by decide +kernel
theorem dX3_put_12 : decode cX3_put 12 = .ok (.iload_n 2, 1) := by decide +kernel
theorem dX3_put_13 : decode cX3_put 13 = .ok (.invokevirtual 134, 3) := by decide +kernel
theorem dX3_put_16 : decode cX3_put 16 = .ok (.ifCond .ne 13, 3) := by decide +kernel
theorem dX3_put_19 : decode cX3_put 19 = .ok (.new 137, 3) := by decide +kernel
theorem dX3_put_22 : decode cX3_put 22 = .ok (.dup, 1) := by decide +kernel
theorem dX3_put_23 : decode cX3_put 23 = .ok (.ldc 139, 2) := by decide +kernel
theorem dX3_put_25 : decode cX3_put 25 = .ok (.invokespecial 141, 3) := by decide +kernel
theorem dX3_put_28 : decode cX3_put 28 = .ok (.athrow, 1) := by decide +kernel
theorem dX3_put_29 : decode cX3_put 29 = .ok (.aload_n 3, 1) := by decide +kernel
theorem dX3_put_30 : decode cX3_put 30 = .ok (.getfield 142, 3) := by decide +kernel
theorem dX3_put_33 : decode cX3_put 33 = .ok (.istore 4, 2) := by decide +kernel
theorem dX3_put_35 : decode cX3_put 35 = .ok (.iload_n 2, 1) := by decide +kernel
theorem dX3_put_36 : decode cX3_put 36 = .ok (.iload 4, 2) := by decide +kernel
theorem dX3_put_38 : decode cX3_put 38 = .ok (.if_icmp .ne 6, 3) := by decide +kernel
theorem dX3_put_41 : decode cX3_put 41 = .ok (.iload 4, 2) := by decide +kernel
theorem dX3_put_43 : decode cX3_put 43 = .ok (.ireturn, 1) := by decide +kernel
theorem dX3_put_44 : decode cX3_put 44 = .ok (.aload_n 3, 1) := by decide +kernel
theorem dX3_put_45 : decode cX3_put 45 = .ok (.invokestatic 102, 3) := by decide +kernel
theorem dX3_put_48 : decode cX3_put 48 = .ok (.iload_n 2, 1) := by decide +kernel
theorem dX3_put_49 : decode cX3_put 49 = .ok (.iconst (-1), 1) := by decide +kernel
theorem dX3_put_50 : decode cX3_put 50 = .ok (.if_icmp .eq 21, 3) := by decide +kernel
theorem dX3_put_53 : decode cX3_put 53 = .ok (.aload_n 0, 1) := by decide +kernel
theorem dX3_put_54 : decode cX3_put 54 = .ok (.iload_n 2, 1) := by decide +kernel
theorem dX3_put_55 : decode cX3_put 55 = .ok (.invokevirtual 145, 3) := by decide +kernel
theorem dX3_put_58 : decode cX3_put 58 = .ok (.ifCond .ne 13, 3) := by decide +kernel
theorem dX3_put_61 : decode cX3_put 61 = .ok (.new 53, 3) := by decide +kernel
theorem dX3_put_64 : decode cX3_put 64 = .ok (.dup, 1) := by decide +kernel
theorem dX3_put_65 : decode cX3_put 65 = .ok (.ldc 148, 2) := by decide +kernel
theorem dX3_put_67 : decode cX3_put 67 = .ok (.invokespecial 57, 3) := by decide +kernel
theorem dX3_put_70 : decode cX3_put 70 = .ok (.athrow, 1) := by decide +kernel
theorem dX3_put_71 : decode cX3_put 71 = .ok (.aload_n 3, 1) := by decide +kernel
theorem dX3_put_72 : decode cX3_put 72 = .ok (.iload_n 2, 1) := by decide +kernel
theorem dX3_put_73 : decode cX3_put 73 = .ok (.putfield 142, 3) := by decide +kernel
theorem dX3_put_76 : decode cX3_put 76 = .ok (.iload 4, 2) := by decide +kernel
theorem dX3_put_78 : decode cX3_put 78 = .ok (.ireturn, 1) := by decide +kernel
theorem dX3_told_0 : decode cX3_told 0 = .ok (.aload_n 0, 1) := by decide +kernel
theorem dX3_told_1 : decode cX3_told 1 = .ok (.iload_n 1, 1) := by decide +kernel
theorem dX3_told_2 : decode cX3_told 2 = .ok (.invokevirtual 64, 3) := by decide +kernel
theorem dX3_told_5 : decode cX3_told 5 = .ok (.astore_n 3, 1) := by decide +kernel
theorem dX3_told_6 : decode cX3_told 6 = .ok (.iload_n 2, 1) := by decide +kernel
theorem dX3_told_7 : decode cX3_told 7 = .ok (.tableswitch 94 0 5 #[37, 42, 55, 60, 73, 78], 37) := by decide +kernel
theorem dX3_told_44 : decode cX3_told 44 = .ok (.aload_n 3, 1) := by decide +kernel
theorem dX3_told_45 : decode cX3_told 45 = .ok (.invokevirtual 92, 3) := by decide +kernel
theorem dX3_told_48 : decode cX3_told 48 = .ok (.ireturn, 1) := by decide +kernel
theorem dX3_told_49 : decode cX3_told 49 = .ok (.aload_n 3, 1) := by decide +kernel
theorem dX3_told_50 : decode cX3_told 50 = .ok (.getfield 98, 3) := by decide +kernel
theorem dX3_told_53 : decode cX3_told 53 = .ok (.ifCond .eq 7, 3) := by decide +kernel
theorem dX3_told_56 : decode cX3_told 56 = .ok (.iconst 1, 1) := by decide +kernel
theorem dX3_told_57 : decode cX3_told 57 = .ok (.goto 4, 3) := by decide +kernel
theorem dX3_told_60 : decode cX3_told 60 = .ok (.iconst 0, 1) := by decide +kernel
theorem dX3_told_61 : decode cX3_told 61 = .ok (.ireturn, 1) := by decide +kernel
theorem dX3_told_62 : decode cX3_told 62 = .ok (.aload_n 3, 1) := by decide +kernel
theorem dX3_told_63 : decode cX3_told 63 = .ok (.getfield 142, 3) := by decide +kernel
theorem dX3_told_66 : decode cX3_told 66 = .ok (.ireturn, 1) := by decide +kernel
theorem dX3_told_67 : decode cX3_told 67 = .ok (.aload_n 3, 1) := by decide +kernel
theorem dX3_told_68 : decode cX3_told 68 = .ok (.getfield 109, 3) := by decide +kernel
theorem dX3_told_71 : decode cX3_told 71 = .ok (.ifCond .eq 7, 3) := by decide +kernel
theorem dX3_told_74 : decode cX3_told 74 = .ok (.iconst 1, 1) := by decide +kernel
theorem dX3_told_75 : decode cX3_told 75 = .ok (.goto 4, 3) := by decide +kernel
theorem dX3_told_78 : decode cX3_told 78 = .ok (.iconst 0, 1) := by decide +kernel
theorem dX3_told_79 : decode cX3_told 79 = .ok (.ireturn, 1) := by decide +kernel
theorem dX3_told_80 : decode cX3_told 80 = .ok (.aload_n 3, 1) := by decide +kernel
theorem dX3_told_81 : decode cX3_told 81 = .ok (.invokevirtual 150, 3) := by decide +kernel
theorem dX3_told_84 : decode cX3_told 84 = .ok (.ireturn, 1) := by decide +kernel
theorem dX3_told_85 : decode cX3_told 85 = .ok (.aload_n 3, 1) := by decide +kernel
theorem dX3_told_86 : decode cX3_told 86 = .ok (.getfield 109, 3) := by decide +kernel
theorem dX3_told_89 : decode cX3_told 89 = .ok (.ifCond .eq 7, 3) := by decide +kernel
theorem dX3_told_92 : decode cX3_told 92 = .ok (.iconst (-1), 1) := by decide +kernel
theorem dX3_told_93 : decode cX3_told 93 = .ok (.goto 7, 3) := by decide +kernel
theorem dX3_told_96 : decode cX3_told 96 = .ok (.aload_n 3, 1) := by decide +kernel
theorem dX3_told_97 : decode cX3_told 97 = .ok (.getfield 95, 3) := by decide +kernel
theorem dX3_told_100 : decode cX3_told 100 = .ok (.ireturn, 1) := by decide +kernel
theorem dX3_told_101 : decode cX3_told 101 = .ok (.new 137, 3) := by decide +kernel
theorem dX3_told_104 : decode cX3_told 104 = .ok (.dup, 1) := by decide +kernel
theorem dX3_told_105 : decode cX3_told 105 = .ok (.ldc 153, 2) := by decide +kernel
theorem dX3_told_107 : decode cX3_told 107 = .ok (.invokespecial 141, 3) := by decide +kernel
theorem dX3_told_110 : decode cX3_told 110 = .ok (.athrow, 1) := by decide +kernel
theorem dX3_wear_0 : decode cX3_wear 0 = .ok (.aload_n 0, 1) := by decide +kernel
theorem dX3_wear_1 : decode cX3_wear 1 = .ok (.iload_n 1, 1) := by decide +kernel
theorem dX3_wear_2 : decode cX3_wear 2 = .ok (.invokevirtual 64, 3) := by decide +kernel
theorem dX3_wear_5 : decode cX3_wear 5 = .ok (.astore 4, 2) := by decide +kernel
theorem dX3_wear_7 : decode cX3_wear 7 = .ok (.iload_n 2, 1) := by decide +kernel
theorem dX3_wear_8 : decode cX3_wear 8 = .ok (.invokestatic 68, 3) := by decide +kernel
theorem dX3_wear_11 : decode cX3_wear 11 = .ok (.iload_n 3, 1) := by decide +kernel
theorem dX3_wear_12 : decode cX3_wear 12 = .ok (.invokestatic 71, 3) := by decide +kernel
theorem dX3_wear_15 : decode cX3_wear 15 = .ok (.ifCond .ne 13, 3) := by decide +kernel
theorem dX3_wear_18 : decode cX3_wear 18 = .ok (.new 137, 3) := by decide +kernel
theorem dX3_wear_21 : decode cX3_wear 21 = .ok (.dup, 1) := by decide +kernel
theorem dX3_wear_22 : decode cX3_wear 22 = .ok (.ldc 77, 2) := by decide +kernel
theorem dX3_wear_24 : decode cX3_wear 24 = .ok (.invokespecial 141, 3) := by decide +kernel
theorem dX3_wear_27 : decode cX3_wear 27 = .ok (.athrow, 1) := by decide +kernel
theorem dX3_wear_28 : decode cX3_wear 28 = .ok (.aload 4, 2) := by decide +kernel
theorem dX3_wear_30 : decode cX3_wear 30 = .ok (.iload_n 2, 1) := by decide +kernel
theorem dX3_wear_31 : decode cX3_wear 31 = .ok (.iload_n 3, 1) := by decide +kernel
theorem dX3_wear_32 : decode cX3_wear 32 = .ok (.invokevirtual 155, 3) := by decide +kernel
theorem dX3_wear_35 : decode cX3_wear 35 = .ok (.ireturn, 1) := by decide +kernel
theorem dX3_rack_0 : decode cX3_rack 0 = .ok (.aload_n 0, 1) := by decide +kernel
theorem dX3_rack_1 : decode cX3_rack 1 = .ok (.iload_n 1, 1) := by decide +kernel
theorem dX3_rack_2 : decode cX3_rack 2 = .ok (.invokevirtual 112, 3) := by decide +kernel
theorem dX3_rack_5 : decode cX3_rack 5 = .ok (.astore_n 3, 1) := by decide +kernel
theorem dX3_rack_6 : decode cX3_rack 6 = .ok (.iload_n 2, 1) := by decide +kernel
theorem dX3_rack_7 : decode cX3_rack 7 = .ok (.tableswitch 81 0 5 #[37, 42, 48, 65, 71, 76], 37) := by decide +kernel
theorem dX3_rack_44 : decode cX3_rack 44 = .ok (.aload_n 3, 1) := by decide +kernel
theorem dX3_rack_45 : decode cX3_rack 45 = .ok (.getfield 123, 3) := by decide +kernel
theorem dX3_rack_48 : decode cX3_rack 48 = .ok (.ireturn, 1) := by decide +kernel
theorem dX3_rack_49 : decode cX3_rack 49 = .ok (.aload_n 0, 1) := by decide +kernel
theorem dX3_rack_50 : decode cX3_rack 50 = .ok (.iload_n 1, 1) := by decide +kernel
theorem dX3_rack_51 : decode cX3_rack 51 = .ok (.invokevirtual 118, 3) := by decide +kernel
theorem dX3_rack_54 : decode cX3_rack 54 = .ok (.ireturn, 1) := by decide +kernel
theorem dX3_rack_55 : decode cX3_rack 55 = .ok (.aload_n 3, 1) := by decide +kernel
theorem dX3_rack_56 : decode cX3_rack 56 = .ok (.aload_n 0, 1) := by decide +kernel
theorem dX3_rack_57 : decode cX3_rack 57 = .ok (.getfield 39, 3) := by decide +kernel
theorem dX3_rack_60 : decode cX3_rack 60 = .ok (.invokevirtual 158, 3) := by decide +kernel
theorem dX3_rack_63 : decode cX3_rack 63 = .ok (.ifCond .eq 7, 3) := by decide +kernel
theorem dX3_rack_66 : decode cX3_rack 66 = .ok (.iconst 1, 1) := by decide +kernel
theorem dX3_rack_67 : decode cX3_rack 67 = .ok (.goto 4, 3) := by decide +kernel
theorem dX3_rack_70 : decode cX3_rack 70 = .ok (.iconst 0, 1) := by decide +kernel
theorem dX3_rack_71 : decode cX3_rack 71 = .ok (.ireturn, 1) := by decide +kernel
theorem dX3_rack_72 : decode cX3_rack 72 = .ok (.aload_n 0, 1) := by decide +kernel
theorem dX3_rack_73 : decode cX3_rack 73 = .ok (.iload_n 1, 1) := by decide +kernel
theorem dX3_rack_74 : decode cX3_rack 74 = .ok (.invokevirtual 161, 3) := by decide +kernel
theorem dX3_rack_77 : decode cX3_rack 77 = .ok (.ireturn, 1) := by decide +kernel
theorem dX3_rack_78 : decode cX3_rack 78 = .ok (.aload_n 3, 1) := by decide +kernel
theorem dX3_rack_79 : decode cX3_rack 79 = .ok (.getfield 128, 3) := by decide +kernel
theorem dX3_rack_82 : decode cX3_rack 82 = .ok (.ireturn, 1) := by decide +kernel
theorem dX3_rack_83 : decode cX3_rack 83 = .ok (.aload_n 3, 1) := by decide +kernel
theorem dX3_rack_84 : decode cX3_rack 84 = .ok (.getfield 131, 3) := by decide +kernel
theorem dX3_rack_87 : decode cX3_rack 87 = .ok (.ireturn, 1) := by decide +kernel
theorem dX3_rack_88 : decode cX3_rack 88 = .ok (.new 137, 3) := by decide +kernel
theorem dX3_rack_91 : decode cX3_rack 91 = .ok (.dup, 1) := by decide +kernel
theorem dX3_rack_92 : decode cX3_rack 92 = .ok (.ldc 153, 2) := by decide +kernel
theorem dX3_rack_94 : decode cX3_rack 94 = .ok (.invokespecial 141, 3) := by decide +kernel
theorem dX3_rack_97 : decode cX3_rack 97 = .ok (.athrow, 1) := by decide +kernel
theorem dX3_count_0 : decode cX3_count 0 = .ok (.iload_n 1, 1) := by decide +kernel
theorem dX3_count_1 : decode cX3_count 1 = .ok (.tableswitch 81 0 6 #[43, 48, 56, 61, 66, 71, 76], 43) := by decide +kernel
theorem dX3_count_44 : decode cX3_count 44 = .ok (.aload_n 0, 1) := by decide +kernel
theorem dX3_count_45 : decode cX3_count 45 = .ok (.getfield 39, 3) := by decide +kernel
theorem dX3_count_48 : decode cX3_count 48 = .ok (.ireturn, 1) := by decide +kernel
theorem dX3_count_49 : decode cX3_count 49 = .ok (.aload_n 0, 1) := by decide +kernel
theorem dX3_count_50 : decode cX3_count 50 = .ok (.getfield 10, 3) := by decide +kernel
theorem dX3_count_53 : decode cX3_count 53 = .ok (.invokevirtual 49, 3) := by decide +kernel
theorem dX3_count_56 : decode cX3_count 56 = .ok (.ireturn, 1) := by decide +kernel
theorem dX3_count_57 : decode cX3_count 57 = .ok (.aload_n 0, 1) := by decide +kernel
theorem dX3_count_58 : decode cX3_count 58 = .ok (.invokevirtual 164, 3) := by decide +kernel
theorem dX3_count_61 : decode cX3_count 61 = .ok (.ireturn, 1) := by decide +kernel
theorem dX3_count_62 : decode cX3_count 62 = .ok (.aload_n 0, 1) := by decide +kernel
theorem dX3_count_63 : decode cX3_count 63 = .ok (.invokevirtual 167, 3) := by decide +kernel
theorem dX3_count_66 : decode cX3_count 66 = .ok (.ireturn, 1) := by decide +kernel
theorem dX3_count_67 : decode cX3_count 67 = .ok (.aload_n 0, 1) := by decide +kernel
theorem dX3_count_68 : decode cX3_count 68 = .ok (.invokevirtual 170, 3) := by decide +kernel
theorem dX3_count_71 : decode cX3_count 71 = .ok (.ireturn, 1) := by decide +kernel
theorem dX3_count_72 : decode cX3_count 72 = .ok (.aload_n 0, 1) := by decide +kernel
theorem dX3_count_73 : decode cX3_count 73 = .ok (.getfield 43, 3) := by decide +kernel
theorem dX3_count_76 : decode cX3_count 76 = .ok (.ireturn, 1) := by decide +kernel
theorem dX3_count_77 : decode cX3_count 77 = .ok (.aload_n 0, 1) := by decide +kernel
theorem dX3_count_78 : decode cX3_count 78 = .ok (.invokevirtual 173, 3) := by decide +kernel
theorem dX3_count_81 : decode cX3_count 81 = .ok (.ireturn, 1) := by decide +kernel
theorem dX3_count_82 : decode cX3_count 82 = .ok (.new 137, 3) := by decide +kernel
theorem dX3_count_85 : decode cX3_count 85 = .ok (.dup, 1) := by decide +kernel
theorem dX3_count_86 : decode cX3_count 86 = .ok (.ldc 176, 2) := by decide +kernel
theorem dX3_count_88 : decode cX3_count 88 = .ok (.invokespecial 141, 3) := by decide +kernel
theorem dX3_count_91 : decode cX3_count 91 = .ok (.athrow, 1) := by decide +kernel
theorem dX3_trial_0 : decode cX3_trial 0 = .ok (.aload_n 0, 1) := by decide +kernel
theorem dX3_trial_1 : decode cX3_trial 1 = .ok (.iload_n 1, 1) := by decide +kernel
theorem dX3_trial_2 : decode cX3_trial 2 = .ok (.invokevirtual 64, 3) := by decide +kernel
theorem dX3_trial_5 : decode cX3_trial 5 = .ok (.astore_n 3, 1) := by decide +kernel
theorem dX3_trial_6 : decode cX3_trial 6 = .ok (.iload_n 2, 1) := by decide +kernel
theorem dX3_trial_7 : decode cX3_trial 7 = .ok (.invokestatic 46, 3) := by decide +kernel
theorem dX3_trial_10 : decode cX3_trial 10 = .ok (.aload_n 0, 1) := by decide +kernel
theorem dX3_trial_11 : decode cX3_trial 11 = .ok (.getfield 26, 3) := by decide +kernel
theorem dX3_trial_14 : decode cX3_trial 14 = .ok (.aload_n 3, 1) := by decide +kernel
theorem dX3_trial_15 : decode cX3_trial 15 = .ok (.iload_n 2, 1) := by decide +kernel
theorem dX3_trial_16 : decode cX3_trial 16 = .ok (.invokevirtual 181, 3) := by decide +kernel
theorem dX3_trial_19 : decode cX3_trial 19 = .ok (.ireturn, 1) := by decide +kernel
theorem dX3_safe_0 : decode cX3_safe 0 = .ok (.aload_n 0, 1) := by decide +kernel
theorem dX3_safe_1 : decode cX3_safe 1 = .ok (.iload_n 1, 1) := by decide +kernel
theorem dX3_safe_2 : decode cX3_safe 2 = .ok (.invokevirtual 64, 3) := by decide +kernel
theorem dX3_safe_5 : decode cX3_safe 5 = .ok (.astore_n 2, 1) := by decide +kernel
theorem dX3_safe_6 : decode cX3_safe 6 = .ok (.aload_n 0, 1) := by decide +kernel
theorem dX3_safe_7 : decode cX3_safe 7 = .ok (.getfield 26, 3) := by decide +kernel
theorem dX3_safe_10 : decode cX3_safe 10 = .ok (.aload_n 2, 1) := by decide +kernel
theorem dX3_safe_11 : decode cX3_safe 11 = .ok (.aload_n 2, 1) := by decide +kernel
theorem dX3_safe_12 : decode cX3_safe 12 = .ok (.getfield 95, 3) := by decide +kernel
theorem dX3_safe_15 : decode cX3_safe 15 = .ok (.invokevirtual 181, 3) := by decide +kernel
theorem dX3_safe_18 : decode cX3_safe 18 = .ok (.ireturn, 1) := by decide +kernel
theorem dX3_pass_0 : decode cX3_pass 0 = .ok (.iload_n 1, 1) := by decide +kernel
theorem dX3_pass_1 : decode cX3_pass 1 = .ok (.invokestatic 185, 3) := by decide +kernel
theorem dX3_pass_4 : decode cX3_pass 4 = .ok (.iconst 0, 1) := by decide +kernel
theorem dX3_pass_5 : decode cX3_pass 5 = .ok (.istore_n 2, 1) := by decide +kernel
theorem dX3_pass_6 : decode cX3_pass 6 = .ok (.iconst 0, 1) := by decide +kernel
theorem dX3_pass_7 : decode cX3_pass 7 = .ok (.istore_n 3, 1) := by decide +kernel
theorem dX3_pass_8 : decode cX3_pass 8 = .ok (.iload_n 3, 1) := by decide +kernel
theorem dX3_pass_9 : decode cX3_pass 9 = .ok (.iload_n 1, 1) := by decide +kernel
theorem dX3_pass_10 : decode cX3_pass 10 = .ok (.if_icmp .ge 66, 3) := by decide +kernel
theorem dX3_pass_13 : decode cX3_pass 13 = .ok (.iconst 0, 1) := by decide +kernel
theorem dX3_pass_14 : decode cX3_pass 14 = .ok (.istore 4, 2) := by decide +kernel
theorem dX3_pass_16 : decode cX3_pass 16 = .ok (.iload 4, 2) := by decide +kernel
theorem dX3_pass_18 : decode cX3_pass 18 = .ok (.aload_n 0, 1) := by decide +kernel
theorem dX3_pass_19 : decode cX3_pass 19 = .ok (.getfield 10, 3) := by decide +kernel
theorem dX3_pass_22 : decode cX3_pass 22 = .ok (.invokevirtual 49, 3) := by decide +kernel
theorem dX3_pass_25 : decode cX3_pass 25 = .ok (.if_icmp .ge 35, 3) := by decide +kernel
theorem dX3_pass_28 : decode cX3_pass 28 = .ok (.aload_n 0, 1) := by decide +kernel
theorem dX3_pass_29 : decode cX3_pass 29 = .ok (.aload_n 0, 1) := by decide +kernel
theorem dX3_pass_30 : decode cX3_pass 30 = .ok (.getfield 10, 3) := by decide +kernel
theorem dX3_pass_33 : decode cX3_pass 33 = .ok (.iload 4, 2) := by decide +kernel
theorem dX3_pass_35 : decode cX3_pass 35 = .ok (.invokevirtual 188, 3) := by decide +kernel
theorem dX3_pass_38 : decode cX3_pass 38 = .ok (.checkcast 30, 3) := by decide +kernel
theorem dX3_pass_41 : decode cX3_pass 41 = .ok (.aload_n 0, 1) := by decide +kernel
theorem dX3_pass_42 : decode cX3_pass 42 = .ok (.getfield 39, 3) := by decide +kernel
theorem dX3_pass_45 : decode cX3_pass 45 = .ok (.invokevirtual 192, 3) := by decide +kernel
theorem dX3_pass_48 : decode cX3_pass 48 = .ok (.ifCond .eq 6, 3) := by decide +kernel
theorem dX3_pass_51 : decode cX3_pass 51 = .ok (.iinc 2 1, 3) := by decide +kernel
theorem dX3_pass_54 : decode cX3_pass 54 = .ok (.iinc 4 1, 3) := by decide +kernel
theorem dX3_pass_57 : decode cX3_pass 57 = .ok (.goto (-41), 3) := by decide +kernel
theorem dX3_pass_60 : decode cX3_pass 60 = .ok (.aload_n 0, 1) := by decide +kernel
theorem dX3_pass_61 : decode cX3_pass 61 = .ok (.dup, 1) := by decide +kernel
theorem dX3_pass_62 : decode cX3_pass 62 = .ok (.getfield 39, 3) := by decide +kernel
theorem dX3_pass_65 : decode cX3_pass 65 = .ok (.iconst 1, 1) := by decide +kernel
theorem dX3_pass_66 : decode cX3_pass 66 = .ok (.iadd, 1) := by decide +kernel
theorem dX3_pass_67 : decode cX3_pass 67 = .ok (.putfield 39, 3) := by decide +kernel
theorem dX3_pass_70 : decode cX3_pass 70 = .ok (.iinc 3 1, 3) := by decide +kernel
theorem dX3_pass_73 : decode cX3_pass 73 = .ok (.goto (-65), 3) := by decide +kernel
theorem dX3_pass_76 : decode cX3_pass 76 = .ok (.iload_n 2, 1) := by decide +kernel
theorem dX3_pass_77 : decode cX3_pass 77 = .ok (.ireturn, 1) := by decide +kernel
theorem dX3_mean_0 : decode cX3_mean 0 = .ok (.aload_n 0, 1) := by decide +kernel
theorem dX3_mean_1 : decode cX3_mean 1 = .ok (.getfield 10, 3) := by decide +kernel
theorem dX3_mean_4 : decode cX3_mean 4 = .ok (.invokevirtual 49, 3) := by decide +kernel
theorem dX3_mean_7 : decode cX3_mean 7 = .ok (.iconst 4, 1) := by decide +kernel
theorem dX3_mean_8 : decode cX3_mean 8 = .ok (.imul, 1) := by decide +kernel
theorem dX3_mean_9 : decode cX3_mean 9 = .ok (.bipush 6, 2) := by decide +kernel
theorem dX3_mean_11 : decode cX3_mean 11 = .ok (.imul, 1) := by decide +kernel
theorem dX3_mean_12 : decode cX3_mean 12 = .ok (.istore_n 1, 1) := by decide +kernel
theorem dX3_mean_13 : decode cX3_mean 13 = .ok (.iload_n 1, 1) := by decide +kernel
theorem dX3_mean_14 : decode cX3_mean 14 = .ok (.ifCond .ne 5, 3) := by decide +kernel
theorem dX3_mean_17 : decode cX3_mean 17 = .ok (.dconst 0, 1) := by decide +kernel
theorem dX3_mean_18 : decode cX3_mean 18 = .ok (.dreturn, 1) := by decide +kernel
theorem dX3_mean_19 : decode cX3_mean 19 = .ok (.aload_n 0, 1) := by decide +kernel
theorem dX3_mean_20 : decode cX3_mean 20 = .ok (.invokevirtual 170, 3) := by decide +kernel
theorem dX3_mean_23 : decode cX3_mean 23 = .ok (.i2d, 1) := by decide +kernel
theorem dX3_mean_24 : decode cX3_mean 24 = .ok (.iload_n 1, 1) := by decide +kernel
theorem dX3_mean_25 : decode cX3_mean 25 = .ok (.i2d, 1) := by decide +kernel
theorem dX3_mean_26 : decode cX3_mean 26 = .ok (.ddiv, 1) := by decide +kernel
theorem dX3_mean_27 : decode cX3_mean 27 = .ok (.dreturn, 1) := by decide +kernel
theorem dX3_lockAt_0 : decode cX3_lockAt 0 = .ok (.iload_n 1, 1) := by decide +kernel
theorem dX3_lockAt_1 : decode cX3_lockAt 1 = .ok (.ifCond .lt 14, 3) := by decide +kernel
theorem dX3_lockAt_4 : decode cX3_lockAt 4 = .ok (.iload_n 1, 1) := by decide +kernel
theorem dX3_lockAt_5 : decode cX3_lockAt 5 = .ok (.aload_n 0, 1) := by decide +kernel
theorem dX3_lockAt_6 : decode cX3_lockAt 6 = .ok (.getfield 10, 3) := by decide +kernel
theorem dX3_lockAt_9 : decode cX3_lockAt 9 = .ok (.invokevirtual 49, 3) := by decide +kernel
theorem dX3_lockAt_12 : decode cX3_lockAt 12 = .ok (.if_icmp .lt 13, 3) := by decide +kernel
theorem dX3_lockAt_15 : decode cX3_lockAt 15 = .ok (.new 137, 3) := by decide +kernel
theorem dX3_lockAt_18 : decode cX3_lockAt 18 = .ok (.dup, 1) := by decide +kernel
theorem dX3_lockAt_19 : decode cX3_lockAt 19 = .ok (.ldc 226, 2) := by decide +kernel
theorem dX3_lockAt_21 : decode cX3_lockAt 21 = .ok (.invokespecial 141, 3) := by decide +kernel
theorem dX3_lockAt_24 : decode cX3_lockAt 24 = .ok (.athrow, 1) := by decide +kernel
theorem dX3_lockAt_25 : decode cX3_lockAt 25 = .ok (.aload_n 0, 1) := by decide +kernel
theorem dX3_lockAt_26 : decode cX3_lockAt 26 = .ok (.getfield 10, 3) := by decide +kernel
theorem dX3_lockAt_29 : decode cX3_lockAt 29 = .ok (.iload_n 1, 1) := by decide +kernel
theorem dX3_lockAt_30 : decode cX3_lockAt 30 = .ok (.invokevirtual 188, 3) := by decide +kernel
theorem dX3_lockAt_33 : decode cX3_lockAt 33 = .ok (.checkcast 30, 3) := by decide +kernel
theorem dX3_lockAt_36 : decode cX3_lockAt 36 = .ok (.areturn, 1) := by decide +kernel
theorem dX3_rackAt_0 : decode cX3_rackAt 0 = .ok (.aload_n 0, 1) := by decide +kernel
theorem dX3_rackAt_1 : decode cX3_rackAt 1 = .ok (.iload_n 1, 1) := by decide +kernel
theorem dX3_rackAt_2 : decode cX3_rackAt 2 = .ok (.invokevirtual 134, 3) := by decide +kernel
theorem dX3_rackAt_5 : decode cX3_rackAt 5 = .ok (.ifCond .ne 13, 3) := by decide +kernel
theorem dX3_rackAt_8 : decode cX3_rackAt 8 = .ok (.new 137, 3) := by decide +kernel
theorem dX3_rackAt_11 : decode cX3_rackAt 11 = .ok (.dup, 1) := by decide +kernel
theorem dX3_rackAt_12 : decode cX3_rackAt 12 = .ok (.ldc 139, 2) := by decide +kernel
theorem dX3_rackAt_14 : decode cX3_rackAt 14 = .ok (.invokespecial 141, 3) := by decide +kernel
theorem dX3_rackAt_17 : decode cX3_rackAt 17 = .ok (.athrow, 1) := by decide +kernel
theorem dX3_rackAt_18 : decode cX3_rackAt 18 = .ok (.aload_n 0, 1) := by decide +kernel
theorem dX3_rackAt_19 : decode cX3_rackAt 19 = .ok (.getfield 18, 3) := by decide +kernel
theorem dX3_rackAt_22 : decode cX3_rackAt 22 = .ok (.iload_n 1, 1) := by decide +kernel
theorem dX3_rackAt_23 : decode cX3_rackAt 23 = .ok (.aaload, 1) := by decide +kernel
theorem dX3_rackAt_24 : decode cX3_rackAt 24 = .ok (.areturn, 1) := by decide +kernel
theorem dX3_requireRing_0 : decode cX3_requireRing 0 = .ok (.iload_n 0, 1) := by decide +kernel
theorem dX3_requireRing_1 : decode cX3_requireRing 1 = .ok (.invokestatic 228, 3) := by decide +kernel
theorem dX3_requireRing_4 : decode cX3_requireRing 4 = .ok (.ifCond .ne 13, 3) := by decide +kernel
theorem dX3_requireRing_7 : decode cX3_requireRing 7 = .ok (.new 137, 3) := by decide +kernel
theorem dX3_requireRing_10 : decode cX3_requireRing 10 = .ok (.dup, 1) := by decide +kernel
theorem dX3_requireRing_11 : decode cX3_requireRing 11 = .ok (.ldc 231, 2) := by decide +kernel
theorem dX3_requireRing_13 : decode cX3_requireRing 13 = .ok (.invokespecial 141, 3) := by decide +kernel
theorem dX3_requireRing_16 : decode cX3_requireRing 16 = .ok (.athrow, 1) := by decide +kernel
theorem dX3_requireRing_17 : decode cX3_requireRing 17 = .ok (.return_, 1) := by decide +kernel
theorem dX3_requireWord_0 : decode cX3_requireWord 0 = .ok (.iload_n 0, 1) := by decide +kernel
theorem dX3_requireWord_1 : decode cX3_requireWord 1 = .ok (.ifCond .lt 10, 3) := by decide +kernel
theorem dX3_requireWord_4 : decode cX3_requireWord 4 = .ok (.iload_n 0, 1) := by decide +kernel
theorem dX3_requireWord_5 : decode cX3_requireWord 5 = .ok (.sipush 1296, 3) := by decide +kernel
theorem dX3_requireWord_8 : decode cX3_requireWord 8 = .ok (.if_icmp .lt 13, 3) := by decide +kernel
theorem dX3_requireWord_11 : decode cX3_requireWord 11 = .ok (.new 75, 3) := by decide +kernel
theorem dX3_requireWord_14 : decode cX3_requireWord 14 = .ok (.dup, 1) := by decide +kernel
theorem dX3_requireWord_15 : decode cX3_requireWord 15 = .ok (.ldc 233, 2) := by decide +kernel
theorem dX3_requireWord_17 : decode cX3_requireWord 17 = .ok (.invokespecial 79, 3) := by decide +kernel
theorem dX3_requireWord_20 : decode cX3_requireWord 20 = .ok (.athrow, 1) := by decide +kernel
theorem dX3_requireWord_21 : decode cX3_requireWord 21 = .ok (.return_, 1) := by decide +kernel
theorem dX3_requireHours_0 : decode cX3_requireHours 0 = .ok (.iload_n 0, 1) := by decide +kernel
theorem dX3_requireHours_1 : decode cX3_requireHours 1 = .ok (.iconst 1, 1) := by decide +kernel
theorem dX3_requireHours_2 : decode cX3_requireHours 2 = .ok (.if_icmp .lt 9, 3) := by decide +kernel
theorem dX3_requireHours_5 : decode cX3_requireHours 5 = .ok (.iload_n 0, 1) := by decide +kernel
theorem dX3_requireHours_6 : decode cX3_requireHours 6 = .ok (.bipush 99, 2) := by decide +kernel
theorem dX3_requireHours_8 : decode cX3_requireHours 8 = .ok (.if_icmp .le 13, 3) := by decide +kernel
theorem dX3_requireHours_11 : decode cX3_requireHours 11 = .ok (.new 75, 3) := by decide +kernel
theorem dX3_requireHours_14 : decode cX3_requireHours 14 = .ok (.dup, 1) := by decide +kernel
theorem dX3_requireHours_15 : decode cX3_requireHours 15 = .ok (.ldc 235, 2) := by decide +kernel
theorem dX3_requireHours_17 : decode cX3_requireHours 17 = .ok (.invokespecial 79, 3) := by decide +kernel
theorem dX3_requireHours_20 : decode cX3_requireHours 20 = .ok (.athrow, 1) := by decide +kernel
theorem dX3_requireHours_21 : decode cX3_requireHours 21 = .ok (.return_, 1) := by decide +kernel
theorem dX3_requireOpen_0 : decode cX3_requireOpen 0 = .ok (.aload_n 0, 1) := by decide +kernel
theorem dX3_requireOpen_1 : decode cX3_requireOpen 1 = .ok (.getfield 98, 3) := by decide +kernel
theorem dX3_requireOpen_4 : decode cX3_requireOpen 4 = .ok (.ifCond .ne 13, 3) := by decide +kernel
theorem dX3_requireOpen_7 : decode cX3_requireOpen 7 = .ok (.new 53, 3) := by decide +kernel
theorem dX3_requireOpen_10 : decode cX3_requireOpen 10 = .ok (.dup, 1) := by decide +kernel
theorem dX3_requireOpen_11 : decode cX3_requireOpen 11 = .ok (.ldc 237, 2) := by decide +kernel
theorem dX3_requireOpen_13 : decode cX3_requireOpen 13 = .ok (.invokespecial 57, 3) := by decide +kernel
theorem dX3_requireOpen_16 : decode cX3_requireOpen 16 = .ok (.athrow, 1) := by decide +kernel
theorem dX3_requireOpen_17 : decode cX3_requireOpen 17 = .ok (.return_, 1) := by decide +kernel
theorem dX3_isRack_0 : decode cX3_isRack 0 = .ok (.iload_n 1, 1) := by decide +kernel
theorem dX3_isRack_1 : decode cX3_isRack 1 = .ok (.ifCond .lt 16, 3) := by decide +kernel
theorem dX3_isRack_4 : decode cX3_isRack 4 = .ok (.iload_n 1, 1) := by decide +kernel
theorem dX3_isRack_5 : decode cX3_isRack 5 = .ok (.aload_n 0, 1) := by decide +kernel
theorem dX3_isRack_6 : decode cX3_isRack 6 = .ok (.getfield 18, 3) := by decide +kernel
theorem dX3_isRack_9 : decode cX3_isRack 9 = .ok (.arraylength, 1) := by decide +kernel
theorem dX3_isRack_10 : decode cX3_isRack 10 = .ok (.if_icmp .ge 7, 3) := by decide +kernel
theorem dX3_isRack_13 : decode cX3_isRack 13 = .ok (.iconst 1, 1) := by decide +kernel
theorem dX3_isRack_14 : decode cX3_isRack 14 = .ok (.goto 4, 3) := by decide +kernel
theorem dX3_isRack_17 : decode cX3_isRack 17 = .ok (.iconst 0, 1) := by decide +kernel
theorem dX3_isRack_18 : decode cX3_isRack 18 = .ok (.ireturn, 1) := by decide +kernel
theorem dX3_isRing_0 : decode cX3_isRing 0 = .ok (.iload_n 0, 1) := by decide +kernel
theorem dX3_isRing_1 : decode cX3_isRing 1 = .ok (.ifCond .lt 12, 3) := by decide +kernel
theorem dX3_isRing_4 : decode cX3_isRing 4 = .ok (.iload_n 0, 1) := by decide +kernel
theorem dX3_isRing_5 : decode cX3_isRing 5 = .ok (.iconst 4, 1) := by decide +kernel
theorem dX3_isRing_6 : decode cX3_isRing 6 = .ok (.if_icmp .ge 7, 3) := by decide +kernel
theorem dX3_isRing_9 : decode cX3_isRing 9 = .ok (.iconst 1, 1) := by decide +kernel
theorem dX3_isRing_10 : decode cX3_isRing 10 = .ok (.goto 4, 3) := by decide +kernel
theorem dX3_isRing_13 : decode cX3_isRing 13 = .ok (.iconst 0, 1) := by decide +kernel
theorem dX3_isRing_14 : decode cX3_isRing 14 = .ok (.ireturn, 1) := by decide +kernel
theorem dX3_isLetter_0 : decode cX3_isLetter 0 = .ok (.iload_n 0, 1) := by decide +kernel
theorem dX3_isLetter_1 : decode cX3_isLetter 1 = .ok (.ifCond .lt 13, 3) := by decide +kernel
theorem dX3_isLetter_4 : decode cX3_isLetter 4 = .ok (.iload_n 0, 1) := by decide +kernel
theorem dX3_isLetter_5 : decode cX3_isLetter 5 = .ok (.bipush 6, 2) := by decide +kernel
theorem dX3_isLetter_7 : decode cX3_isLetter 7 = .ok (.if_icmp .ge 7, 3) := by decide +kernel
theorem dX3_isLetter_10 : decode cX3_isLetter 10 = .ok (.iconst 1, 1) := by decide +kernel
theorem dX3_isLetter_11 : decode cX3_isLetter 11 = .ok (.goto 4, 3) := by decide +kernel
theorem dX3_isLetter_14 : decode cX3_isLetter 14 = .ok (.iconst 0, 1) := by decide +kernel
theorem dX3_isLetter_15 : decode cX3_isLetter 15 = .ok (.ireturn, 1) := by decide +kernel
theorem dX3_letterOf_0 : decode cX3_letterOf 0 = .ok (.iload_n 0, 1) := by decide +kernel
theorem dX3_letterOf_1 : decode cX3_letterOf 1 = .ok (.istore_n 2, 1) := by decide +kernel
theorem dX3_letterOf_2 : decode cX3_letterOf 2 = .ok (.iconst 3, 1) := by decide +kernel
theorem dX3_letterOf_3 : decode cX3_letterOf 3 = .ok (.istore_n 3, 1) := by decide +kernel
theorem dX3_letterOf_4 : decode cX3_letterOf 4 = .ok (.iload_n 3, 1) := by decide +kernel
theorem dX3_letterOf_5 : decode cX3_letterOf 5 = .ok (.iload_n 1, 1) := by decide +kernel
theorem dX3_letterOf_6 : decode cX3_letterOf 6 = .ok (.if_icmp .le 14, 3) := by decide +kernel
theorem dX3_letterOf_9 : decode cX3_letterOf 9 = .ok (.iload_n 2, 1) := by decide +kernel
theorem dX3_letterOf_10 : decode cX3_letterOf 10 = .ok (.bipush 6, 2) := by decide +kernel
theorem dX3_letterOf_12 : decode cX3_letterOf 12 = .ok (.idiv, 1) := by decide +kernel
theorem dX3_letterOf_13 : decode cX3_letterOf 13 = .ok (.istore_n 2, 1) := by decide +kernel
theorem dX3_letterOf_14 : decode cX3_letterOf 14 = .ok (.iinc 3 (-1), 3) := by decide +kernel
theorem dX3_letterOf_17 : decode cX3_letterOf 17 = .ok (.goto (-13), 3) := by decide +kernel
theorem dX3_letterOf_20 : decode cX3_letterOf 20 = .ok (.iload_n 2, 1) := by decide +kernel
theorem dX3_letterOf_21 : decode cX3_letterOf 21 = .ok (.bipush 6, 2) := by decide +kernel
theorem dX3_letterOf_23 : decode cX3_letterOf 23 = .ok (.irem, 1) := by decide +kernel
theorem dX3_letterOf_24 : decode cX3_letterOf 24 = .ok (.ireturn, 1) := by decide +kernel
theorem dX3_turnsBetween_0 : decode cX3_turnsBetween 0 = .ok (.iload_n 0, 1) := by decide +kernel
theorem dX3_turnsBetween_1 : decode cX3_turnsBetween 1 = .ok (.iload_n 1, 1) := by decide +kernel
theorem dX3_turnsBetween_2 : decode cX3_turnsBetween 2 = .ok (.isub, 1) := by decide +kernel
theorem dX3_turnsBetween_3 : decode cX3_turnsBetween 3 = .ok (.invokestatic 239, 3) := by decide +kernel
theorem dX3_turnsBetween_6 : decode cX3_turnsBetween 6 = .ok (.istore_n 2, 1) := by decide +kernel
theorem dX3_turnsBetween_7 : decode cX3_turnsBetween 7 = .ok (.iload_n 2, 1) := by decide +kernel
theorem dX3_turnsBetween_8 : decode cX3_turnsBetween 8 = .ok (.bipush 6, 2) := by decide +kernel
theorem dX3_turnsBetween_10 : decode cX3_turnsBetween 10 = .ok (.iload_n 2, 1) := by decide +kernel
theorem dX3_turnsBetween_11 : decode cX3_turnsBetween 11 = .ok (.isub, 1) := by decide +kernel
theorem dX3_turnsBetween_12 : decode cX3_turnsBetween 12 = .ok (.invokestatic 244, 3) := by decide +kernel
theorem dX3_turnsBetween_15 : decode cX3_turnsBetween 15 = .ok (.ireturn, 1) := by decide +kernel
theorem dX3_locksIn_0 : decode cX3_locksIn 0 = .ok (.iconst 0, 1) := by decide +kernel
theorem dX3_locksIn_1 : decode cX3_locksIn 1 = .ok (.istore_n 2, 1) := by decide +kernel
theorem dX3_locksIn_2 : decode cX3_locksIn 2 = .ok (.iconst 0, 1) := by decide +kernel
theorem dX3_locksIn_3 : decode cX3_locksIn 3 = .ok (.istore_n 3, 1) := by decide +kernel
theorem dX3_locksIn_4 : decode cX3_locksIn 4 = .ok (.iload_n 3, 1) := by decide +kernel
theorem dX3_locksIn_5 : decode cX3_locksIn 5 = .ok (.aload_n 0, 1) := by decide +kernel
theorem dX3_locksIn_6 : decode cX3_locksIn 6 = .ok (.getfield 10, 3) := by decide +kernel
theorem dX3_locksIn_9 : decode cX3_locksIn 9 = .ok (.invokevirtual 49, 3) := by decide +kernel
theorem dX3_locksIn_12 : decode cX3_locksIn 12 = .ok (.if_icmp .ge 30, 3) := by decide +kernel
theorem dX3_locksIn_15 : decode cX3_locksIn 15 = .ok (.aload_n 0, 1) := by decide +kernel
theorem dX3_locksIn_16 : decode cX3_locksIn 16 = .ok (.getfield 10, 3) := by decide +kernel
theorem dX3_locksIn_19 : decode cX3_locksIn 19 = .ok (.iload_n 3, 1) := by decide +kernel
theorem dX3_locksIn_20 : decode cX3_locksIn 20 = .ok (.invokevirtual 188, 3) := by decide +kernel
theorem dX3_locksIn_23 : decode cX3_locksIn 23 = .ok (.checkcast 30, 3) := by decide +kernel
theorem dX3_locksIn_26 : decode cX3_locksIn 26 = .ok (.getfield 142, 3) := by decide +kernel
theorem dX3_locksIn_29 : decode cX3_locksIn 29 = .ok (.iload_n 1, 1) := by decide +kernel
theorem dX3_locksIn_30 : decode cX3_locksIn 30 = .ok (.if_icmp .ne 6, 3) := by decide +kernel
theorem dX3_locksIn_33 : decode cX3_locksIn 33 = .ok (.iinc 2 1, 3) := by decide +kernel
theorem dX3_locksIn_36 : decode cX3_locksIn 36 = .ok (.iinc 3 1, 3) := by decide +kernel
theorem dX3_locksIn_39 : decode cX3_locksIn 39 = .ok (.goto (-35), 3) := by decide +kernel
theorem dX3_locksIn_42 : decode cX3_locksIn 42 = .ok (.iload_n 2, 1) := by decide +kernel
theorem dX3_locksIn_43 : decode cX3_locksIn 43 = .ok (.ireturn, 1) := by decide +kernel
theorem dX3_openLocksIn_0 : decode cX3_openLocksIn 0 = .ok (.iconst 0, 1) := by decide +kernel
theorem dX3_openLocksIn_1 : decode cX3_openLocksIn 1 = .ok (.istore_n 2, 1) := by decide +kernel
theorem dX3_openLocksIn_2 : decode cX3_openLocksIn 2 = .ok (.iconst 0, 1) := by decide +kernel
theorem dX3_openLocksIn_3 : decode cX3_openLocksIn 3 = .ok (.istore_n 3, 1) := by decide +kernel
theorem dX3_openLocksIn_4 : decode cX3_openLocksIn 4 = .ok (.iload_n 3, 1) := by decide +kernel
theorem dX3_openLocksIn_5 : decode cX3_openLocksIn 5 = .ok (.aload_n 0, 1) := by decide +kernel
theorem dX3_openLocksIn_6 : decode cX3_openLocksIn 6 = .ok (.getfield 10, 3) := by decide +kernel
theorem dX3_openLocksIn_9 : decode cX3_openLocksIn 9 = .ok (.invokevirtual 49, 3) := by decide +kernel
theorem dX3_openLocksIn_12 : decode cX3_openLocksIn 12 = .ok (.if_icmp .ge 42, 3) := by decide +kernel
theorem dX3_openLocksIn_15 : decode cX3_openLocksIn 15 = .ok (.aload_n 0, 1) := by decide +kernel
theorem dX3_openLocksIn_16 : decode cX3_openLocksIn 16 = .ok (.getfield 10, 3) := by decide +kernel
theorem dX3_openLocksIn_19 : decode cX3_openLocksIn 19 = .ok (.iload_n 3, 1) := by decide +kernel
theorem dX3_openLocksIn_20 : decode cX3_openLocksIn 20 = .ok (.invokevirtual 188, 3) := by decide +kernel
theorem dX3_openLocksIn_23 : decode cX3_openLocksIn 23 = .ok (.checkcast 30, 3) := by decide +kernel
theorem dX3_openLocksIn_26 : decode cX3_openLocksIn 26 = .ok (.astore 4, 2) := by decide +kernel
theorem dX3_openLocksIn_28 : decode cX3_openLocksIn 28 = .ok (.aload 4, 2) := by decide +kernel
theorem dX3_openLocksIn_30 : decode cX3_openLocksIn 30 = .ok (.getfield 98, 3) := by decide +kernel
theorem dX3_openLocksIn_33 : decode cX3_openLocksIn 33 = .ok (.ifCond .eq 15, 3) := by decide +kernel
theorem dX3_openLocksIn_36 : decode cX3_openLocksIn 36 = .ok (.aload 4, 2) := by decide +kernel
theorem dX3_openLocksIn_38 : decode cX3_openLocksIn 38 = .ok (.getfield 142, 3) := by decide +kernel
theorem dX3_openLocksIn_41 : decode cX3_openLocksIn 41 = .ok (.iload_n 1, 1) := by decide +kernel
theorem dX3_openLocksIn_42 : decode cX3_openLocksIn 42 = .ok (.if_icmp .ne 6, 3) := by decide +kernel
theorem dX3_openLocksIn_45 : decode cX3_openLocksIn 45 = .ok (.iinc 2 1, 3) := by decide +kernel
theorem dX3_openLocksIn_48 : decode cX3_openLocksIn 48 = .ok (.iinc 3 1, 3) := by decide +kernel
theorem dX3_openLocksIn_51 : decode cX3_openLocksIn 51 = .ok (.goto (-47), 3) := by decide +kernel
theorem dX3_openLocksIn_54 : decode cX3_openLocksIn 54 = .ok (.iload_n 2, 1) := by decide +kernel
theorem dX3_openLocksIn_55 : decode cX3_openLocksIn 55 = .ok (.ireturn, 1) := by decide +kernel
theorem dX3_takesAnother_0 : decode cX3_takesAnother 0 = .ok (.aload_n 0, 1) := by decide +kernel
theorem dX3_takesAnother_1 : decode cX3_takesAnother 1 = .ok (.iload_n 1, 1) := by decide +kernel
theorem dX3_takesAnother_2 : decode cX3_takesAnother 2 = .ok (.invokevirtual 134, 3) := by decide +kernel
theorem dX3_takesAnother_5 : decode cX3_takesAnother 5 = .ok (.ifCond .eq 40, 3) := by decide +kernel
theorem dX3_takesAnother_8 : decode cX3_takesAnother 8 = .ok (.aload_n 0, 1) := by decide +kernel
theorem dX3_takesAnother_9 : decode cX3_takesAnother 9 = .ok (.getfield 18, 3) := by decide +kernel
theorem dX3_takesAnother_12 : decode cX3_takesAnother 12 = .ok (.iload_n 1, 1) := by decide +kernel
theorem dX3_takesAnother_13 : decode cX3_takesAnother 13 = .ok (.aaload, 1) := by decide +kernel
theorem dX3_takesAnother_14 : decode cX3_takesAnother 14 = .ok (.aload_n 0, 1) := by decide +kernel
theorem dX3_takesAnother_15 : decode cX3_takesAnother 15 = .ok (.getfield 39, 3) := by decide +kernel
theorem dX3_takesAnother_18 : decode cX3_takesAnother 18 = .ok (.invokevirtual 158, 3) := by decide +kernel
theorem dX3_takesAnother_21 : decode cX3_takesAnother 21 = .ok (.ifCond .eq 24, 3) := by decide +kernel
theorem dX3_takesAnother_24 : decode cX3_takesAnother 24 = .ok (.aload_n 0, 1) := by decide +kernel
theorem dX3_takesAnother_25 : decode cX3_takesAnother 25 = .ok (.iload_n 1, 1) := by decide +kernel
theorem dX3_takesAnother_26 : decode cX3_takesAnother 26 = .ok (.invokevirtual 118, 3) := by decide +kernel
theorem dX3_takesAnother_29 : decode cX3_takesAnother 29 = .ok (.aload_n 0, 1) := by decide +kernel
theorem dX3_takesAnother_30 : decode cX3_takesAnother 30 = .ok (.getfield 18, 3) := by decide +kernel
theorem dX3_takesAnother_33 : decode cX3_takesAnother 33 = .ok (.iload_n 1, 1) := by decide +kernel
theorem dX3_takesAnother_34 : decode cX3_takesAnother 34 = .ok (.aaload, 1) := by decide +kernel
theorem dX3_takesAnother_35 : decode cX3_takesAnother 35 = .ok (.getfield 123, 3) := by decide +kernel
theorem dX3_takesAnother_38 : decode cX3_takesAnother 38 = .ok (.if_icmp .ge 7, 3) := by decide +kernel
theorem dX3_takesAnother_41 : decode cX3_takesAnother 41 = .ok (.iconst 1, 1) := by decide +kernel
theorem dX3_takesAnother_42 : decode cX3_takesAnother 42 = .ok (.goto 4, 3) := by decide +kernel
theorem dX3_takesAnother_45 : decode cX3_takesAnother 45 = .ok (.iconst 0, 1) := by decide +kernel
theorem dX3_takesAnother_46 : decode cX3_takesAnother 46 = .ok (.ireturn, 1) := by decide +kernel
theorem dX3_isInClosedRack_0 : decode cX3_isInClosedRack 0 = .ok (.aload_n 0, 1) := by decide +kernel
theorem dX3_isInClosedRack_1 : decode cX3_isInClosedRack 1 = .ok (.aload_n 1, 1) := by decide +kernel
theorem dX3_isInClosedRack_2 : decode cX3_isInClosedRack 2 = .ok (.getfield 142, 3) := by decide +kernel
theorem dX3_isInClosedRack_5 : decode cX3_isInClosedRack 5 = .ok (.invokevirtual 134, 3) := by decide +kernel
theorem dX3_isInClosedRack_8 : decode cX3_isInClosedRack 8 = .ok (.ifCond .eq 23, 3) := by decide +kernel
theorem dX3_isInClosedRack_11 : decode cX3_isInClosedRack 11 = .ok (.aload_n 0, 1) := by decide +kernel
theorem dX3_isInClosedRack_12 : decode cX3_isInClosedRack 12 = .ok (.getfield 18, 3) := by decide +kernel
theorem dX3_isInClosedRack_15 : decode cX3_isInClosedRack 15 = .ok (.aload_n 1, 1) := by decide +kernel
theorem dX3_isInClosedRack_16 : decode cX3_isInClosedRack 16 = .ok (.getfield 142, 3) := by decide +kernel
theorem dX3_isInClosedRack_19 : decode cX3_isInClosedRack 19 = .ok (.aaload, 1) := by decide +kernel
theorem dX3_isInClosedRack_20 : decode cX3_isInClosedRack 20 = .ok (.iload_n 2, 1) := by decide +kernel
theorem dX3_isInClosedRack_21 : decode cX3_isInClosedRack 21 = .ok (.invokevirtual 158, 3) := by decide +kernel
theorem dX3_isInClosedRack_24 : decode cX3_isInClosedRack 24 = .ok (.ifCond .ne 7, 3) := by decide +kernel
theorem dX3_isInClosedRack_27 : decode cX3_isInClosedRack 27 = .ok (.iconst 1, 1) := by decide +kernel
theorem dX3_isInClosedRack_28 : decode cX3_isInClosedRack 28 = .ok (.goto 4, 3) := by decide +kernel
theorem dX3_isInClosedRack_31 : decode cX3_isInClosedRack 31 = .ok (.iconst 0, 1) := by decide +kernel
theorem dX3_isInClosedRack_32 : decode cX3_isInClosedRack 32 = .ok (.ireturn, 1) := by decide +kernel
theorem dX3_letHourGoBy_0 : decode cX3_letHourGoBy 0 = .ok (.aload_n 1, 1) := by decide +kernel
theorem dX3_letHourGoBy_1 : decode cX3_letHourGoBy 1 = .ok (.invokevirtual 247, 3) := by decide +kernel
theorem dX3_letHourGoBy_4 : decode cX3_letHourGoBy 4 = .ok (.aload_n 1, 1) := by decide +kernel
theorem dX3_letHourGoBy_5 : decode cX3_letHourGoBy 5 = .ok (.getfield 98, 3) := by decide +kernel
theorem dX3_letHourGoBy_8 : decode cX3_letHourGoBy 8 = .ok (.ifCond .eq 12, 3) := by decide +kernel
theorem dX3_letHourGoBy_11 : decode cX3_letHourGoBy 11 = .ok (.aload_n 0, 1) := by decide +kernel
theorem dX3_letHourGoBy_12 : decode cX3_letHourGoBy 12 = .ok (.aload_n 1, 1) := by decide +kernel
theorem dX3_letHourGoBy_13 : decode cX3_letHourGoBy 13 = .ok (.iload_n 2, 1) := by decide +kernel
theorem dX3_letHourGoBy_14 : decode cX3_letHourGoBy 14 = .ok (.invokevirtual 199, 3) := by decide +kernel
theorem dX3_letHourGoBy_17 : decode cX3_letHourGoBy 17 = .ok (.ifCond .ne 5, 3) := by decide +kernel
theorem dX3_letHourGoBy_20 : decode cX3_letHourGoBy 20 = .ok (.iconst 0, 1) := by decide +kernel
theorem dX3_letHourGoBy_21 : decode cX3_letHourGoBy 21 = .ok (.ireturn, 1) := by decide +kernel
theorem dX3_letHourGoBy_22 : decode cX3_letHourGoBy 22 = .ok (.aload_n 1, 1) := by decide +kernel
theorem dX3_letHourGoBy_23 : decode cX3_letHourGoBy 23 = .ok (.invokevirtual 106, 3) := by decide +kernel
theorem dX3_letHourGoBy_26 : decode cX3_letHourGoBy 26 = .ok (.iconst 1, 1) := by decide +kernel
theorem dX3_letHourGoBy_27 : decode cX3_letHourGoBy 27 = .ok (.ireturn, 1) := by decide +kernel
theorem dX3_openLocks_0 : decode cX3_openLocks 0 = .ok (.iconst 0, 1) := by decide +kernel
theorem dX3_openLocks_1 : decode cX3_openLocks 1 = .ok (.istore_n 1, 1) := by decide +kernel
theorem dX3_openLocks_2 : decode cX3_openLocks 2 = .ok (.iconst 0, 1) := by decide +kernel
theorem dX3_openLocks_3 : decode cX3_openLocks 3 = .ok (.istore_n 2, 1) := by decide +kernel
theorem dX3_openLocks_4 : decode cX3_openLocks 4 = .ok (.iload_n 2, 1) := by decide +kernel
theorem dX3_openLocks_5 : decode cX3_openLocks 5 = .ok (.aload_n 0, 1) := by decide +kernel
theorem dX3_openLocks_6 : decode cX3_openLocks 6 = .ok (.getfield 10, 3) := by decide +kernel
theorem dX3_openLocks_9 : decode cX3_openLocks 9 = .ok (.invokevirtual 49, 3) := by decide +kernel
theorem dX3_openLocks_12 : decode cX3_openLocks 12 = .ok (.if_icmp .ge 29, 3) := by decide +kernel
theorem dX3_openLocks_15 : decode cX3_openLocks 15 = .ok (.aload_n 0, 1) := by decide +kernel
theorem dX3_openLocks_16 : decode cX3_openLocks 16 = .ok (.getfield 10, 3) := by decide +kernel
theorem dX3_openLocks_19 : decode cX3_openLocks 19 = .ok (.iload_n 2, 1) := by decide +kernel
theorem dX3_openLocks_20 : decode cX3_openLocks 20 = .ok (.invokevirtual 188, 3) := by decide +kernel
theorem dX3_openLocks_23 : decode cX3_openLocks 23 = .ok (.checkcast 30, 3) := by decide +kernel
theorem dX3_openLocks_26 : decode cX3_openLocks 26 = .ok (.getfield 98, 3) := by decide +kernel
theorem dX3_openLocks_29 : decode cX3_openLocks 29 = .ok (.ifCond .eq 6, 3) := by decide +kernel
theorem dX3_openLocks_32 : decode cX3_openLocks 32 = .ok (.iinc 1 1, 3) := by decide +kernel
theorem dX3_openLocks_35 : decode cX3_openLocks 35 = .ok (.iinc 2 1, 3) := by decide +kernel
theorem dX3_openLocks_38 : decode cX3_openLocks 38 = .ok (.goto (-34), 3) := by decide +kernel
theorem dX3_openLocks_41 : decode cX3_openLocks 41 = .ok (.iload_n 1, 1) := by decide +kernel
theorem dX3_openLocks_42 : decode cX3_openLocks 42 = .ok (.ireturn, 1) := by decide +kernel
theorem dX3_lostWords_0 : decode cX3_lostWords 0 = .ok (.iconst 0, 1) := by decide +kernel
theorem dX3_lostWords_1 : decode cX3_lostWords 1 = .ok (.istore_n 1, 1) := by decide +kernel
theorem dX3_lostWords_2 : decode cX3_lostWords 2 = .ok (.iconst 0, 1) := by decide +kernel
theorem dX3_lostWords_3 : decode cX3_lostWords 3 = .ok (.istore_n 2, 1) := by decide +kernel
theorem dX3_lostWords_4 : decode cX3_lostWords 4 = .ok (.iload_n 2, 1) := by decide +kernel
theorem dX3_lostWords_5 : decode cX3_lostWords 5 = .ok (.aload_n 0, 1) := by decide +kernel
theorem dX3_lostWords_6 : decode cX3_lostWords 6 = .ok (.getfield 10, 3) := by decide +kernel
theorem dX3_lostWords_9 : decode cX3_lostWords 9 = .ok (.invokevirtual 49, 3) := by decide +kernel
theorem dX3_lostWords_12 : decode cX3_lostWords 12 = .ok (.if_icmp .ge 29, 3) := by decide +kernel
theorem dX3_lostWords_15 : decode cX3_lostWords 15 = .ok (.aload_n 0, 1) := by decide +kernel
theorem dX3_lostWords_16 : decode cX3_lostWords 16 = .ok (.getfield 10, 3) := by decide +kernel
theorem dX3_lostWords_19 : decode cX3_lostWords 19 = .ok (.iload_n 2, 1) := by decide +kernel
theorem dX3_lostWords_20 : decode cX3_lostWords 20 = .ok (.invokevirtual 188, 3) := by decide +kernel
theorem dX3_lostWords_23 : decode cX3_lostWords 23 = .ok (.checkcast 30, 3) := by decide +kernel
theorem dX3_lostWords_26 : decode cX3_lostWords 26 = .ok (.getfield 109, 3) := by decide +kernel
theorem dX3_lostWords_29 : decode cX3_lostWords 29 = .ok (.ifCond .eq 6, 3) := by decide +kernel
theorem dX3_lostWords_32 : decode cX3_lostWords 32 = .ok (.iinc 1 1, 3) := by decide +kernel
theorem dX3_lostWords_35 : decode cX3_lostWords 35 = .ok (.iinc 2 1, 3) := by decide +kernel
theorem dX3_lostWords_38 : decode cX3_lostWords 38 = .ok (.goto (-34), 3) := by decide +kernel
theorem dX3_lostWords_41 : decode cX3_lostWords 41 = .ok (.iload_n 1, 1) := by decide +kernel
theorem dX3_lostWords_42 : decode cX3_lostWords 42 = .ok (.ireturn, 1) := by decide +kernel
theorem dX3_allWear_0 : decode cX3_allWear 0 = .ok (.iconst 0, 1) := by decide +kernel
theorem dX3_allWear_1 : decode cX3_allWear 1 = .ok (.istore_n 1, 1) := by decide +kernel
theorem dX3_allWear_2 : decode cX3_allWear 2 = .ok (.iconst 0, 1) := by decide +kernel
theorem dX3_allWear_3 : decode cX3_allWear 3 = .ok (.istore_n 2, 1) := by decide +kernel
theorem dX3_allWear_4 : decode cX3_allWear 4 = .ok (.iload_n 2, 1) := by decide +kernel
theorem dX3_allWear_5 : decode cX3_allWear 5 = .ok (.aload_n 0, 1) := by decide +kernel
theorem dX3_allWear_6 : decode cX3_allWear 6 = .ok (.getfield 10, 3) := by decide +kernel
theorem dX3_allWear_9 : decode cX3_allWear 9 = .ok (.invokevirtual 49, 3) := by decide +kernel
theorem dX3_allWear_12 : decode cX3_allWear 12 = .ok (.if_icmp .ge 26, 3) := by decide +kernel
theorem dX3_allWear_15 : decode cX3_allWear 15 = .ok (.iload_n 1, 1) := by decide +kernel
theorem dX3_allWear_16 : decode cX3_allWear 16 = .ok (.aload_n 0, 1) := by decide +kernel
theorem dX3_allWear_17 : decode cX3_allWear 17 = .ok (.getfield 10, 3) := by decide +kernel
theorem dX3_allWear_20 : decode cX3_allWear 20 = .ok (.iload_n 2, 1) := by decide +kernel
theorem dX3_allWear_21 : decode cX3_allWear 21 = .ok (.invokevirtual 188, 3) := by decide +kernel
theorem dX3_allWear_24 : decode cX3_allWear 24 = .ok (.checkcast 30, 3) := by decide +kernel
theorem dX3_allWear_27 : decode cX3_allWear 27 = .ok (.invokevirtual 250, 3) := by decide +kernel
theorem dX3_allWear_30 : decode cX3_allWear 30 = .ok (.iadd, 1) := by decide +kernel
theorem dX3_allWear_31 : decode cX3_allWear 31 = .ok (.istore_n 1, 1) := by decide +kernel
theorem dX3_allWear_32 : decode cX3_allWear 32 = .ok (.iinc 2 1, 3) := by decide +kernel
theorem dX3_allWear_35 : decode cX3_allWear 35 = .ok (.goto (-31), 3) := by decide +kernel
theorem dX3_allWear_38 : decode cX3_allWear 38 = .ok (.iload_n 1, 1) := by decide +kernel
theorem dX3_allWear_39 : decode cX3_allWear 39 = .ok (.ireturn, 1) := by decide +kernel
theorem dX3_locksInRacks_0 : decode cX3_locksInRacks 0 = .ok (.aload_n 0, 1) := by decide +kernel
theorem dX3_locksInRacks_1 : decode cX3_locksInRacks 1 = .ok (.getfield 10, 3) := by decide +kernel
theorem dX3_locksInRacks_4 : decode cX3_locksInRacks 4 = .ok (.invokevirtual 49, 3) := by decide +kernel
theorem dX3_locksInRacks_7 : decode cX3_locksInRacks 7 = .ok (.aload_n 0, 1) := by decide +kernel
theorem dX3_locksInRacks_8 : decode cX3_locksInRacks 8 = .ok (.iconst (-1), 1) := by decide +kernel
theorem dX3_locksInRacks_9 : decode cX3_locksInRacks 9 = .ok (.invokevirtual 118, 3) := by decide +kernel
theorem dX3_locksInRacks_12 : decode cX3_locksInRacks 12 = .ok (.isub, 1) := by decide +kernel
theorem dX3_locksInRacks_13 : decode cX3_locksInRacks 13 = .ok (.ireturn, 1) := by decide +kernel
theorem dX4_init_0 : decode cX4_init 0 = .ok (.aload_n 0, 1) := by decide +kernel
theorem dX4_init_1 : decode cX4_init 1 = .ok (.invokespecial 1, 3) := by decide +kernel
theorem dX4_init_4 : decode cX4_init 4 = .ok (.aload_n 0, 1) := by decide +kernel
theorem dX4_init_5 : decode cX4_init 5 = .ok (.iconst 4, 1) := by decide +kernel
theorem dX4_init_6 : decode cX4_init 6 = .ok (.newarray .int, 2) := by decide +kernel
theorem dX4_init_8 : decode cX4_init 8 = .ok (.putfield 7, 3) := by decide +kernel
theorem dX4_init_11 : decode cX4_init 11 = .ok (.aload_n 0, 1) := by decide +kernel
theorem dX4_init_12 : decode cX4_init 12 = .ok (.iconst 4, 1) := by decide +kernel
theorem dX4_init_13 : decode cX4_init 13 = .ok (.bipush 6, 2) := by decide +kernel
theorem dX4_init_15 : decode cX4_init 15 = .ok (.multianewarray 13 2, 4) := by decide +kernel
theorem dX4_init_19 : decode cX4_init 19 = .ok (.putfield 15, 3) := by decide +kernel
theorem dX4_init_22 : decode cX4_init 22 = .ok (.aload_n 0, 1) := by decide +kernel
theorem dX4_init_23 : decode cX4_init 23 = .ok (.iconst 1, 1) := by decide +kernel
theorem dX4_init_24 : decode cX4_init 24 = .ok (.putfield 18, 3) := by decide +kernel
theorem dX4_init_27 : decode cX4_init 27 = .ok (.aload_n 0, 1) := by decide +kernel
theorem dX4_init_28 : decode cX4_init 28 = .ok (.iconst (-1), 1) := by decide +kernel
theorem dX4_init_29 : decode cX4_init 29 = .ok (.putfield 22, 3) := by decide +kernel
theorem dX4_init_32 : decode cX4_init 32 = .ok (.return_, 1) := by decide +kernel
theorem dX4_shut_0 : decode cX4_shut 0 = .ok (.aload_n 0, 1) := by decide +kernel
theorem dX4_shut_1 : decode cX4_shut 1 = .ok (.iconst 0, 1) := by decide +kernel
theorem dX4_shut_2 : decode cX4_shut 2 = .ok (.putfield 18, 3) := by decide +kernel
theorem dX4_shut_5 : decode cX4_shut 5 = .ok (.iconst 0, 1) := by decide +kernel
theorem dX4_shut_6 : decode cX4_shut 6 = .ok (.istore_n 1, 1) := by decide +kernel
theorem dX4_shut_7 : decode cX4_shut 7 = .ok (.iload_n 1, 1) := by decide +kernel
theorem dX4_shut_8 : decode cX4_shut 8 = .ok (.iconst 4, 1) := by decide +kernel
theorem dX4_shut_9 : decode cX4_shut 9 = .ok (.if_icmp .ge 42, 3) := by decide +kernel
theorem dX4_shut_12 : decode cX4_shut 12 = .ok (.aload_n 0, 1) := by decide +kernel
theorem dX4_shut_13 : decode cX4_shut 13 = .ok (.getfield 7, 3) := by decide +kernel
theorem dX4_shut_16 : decode cX4_shut 16 = .ok (.iload_n 1, 1) := by decide +kernel
theorem dX4_shut_17 : decode cX4_shut 17 = .ok (.dup2, 1) := by decide +kernel
theorem dX4_shut_18 : decode cX4_shut 18 = .ok (.iaload, 1) := by decide +kernel
theorem dX4_shut_19 : decode cX4_shut 19 = .ok (.iload_n 1, 1) := by decide +kernel
theorem dX4_shut_20 : decode cX4_shut 20 = .ok (.iconst 1, 1) := by decide +kernel
theorem dX4_shut_21 : decode cX4_shut 21 = .ok (.iadd, 1) := by decide +kernel
theorem dX4_shut_22 : decode cX4_shut 22 = .ok (.iadd, 1) := by decide +kernel
theorem dX4_shut_23 : decode cX4_shut 23 = .ok (.iastore, 1) := by decide +kernel
theorem dX4_shut_24 : decode cX4_shut 24 = .ok (.aload_n 0, 1) := by decide +kernel
theorem dX4_shut_25 : decode cX4_shut 25 = .ok (.getfield 7, 3) := by decide +kernel
theorem dX4_shut_28 : decode cX4_shut 28 = .ok (.iload_n 1, 1) := by decide +kernel
theorem dX4_shut_29 : decode cX4_shut 29 = .ok (.iaload, 1) := by decide +kernel
theorem dX4_shut_30 : decode cX4_shut 30 = .ok (.iconst 5, 1) := by decide +kernel
theorem dX4_shut_31 : decode cX4_shut 31 = .ok (.if_icmp .le 14, 3) := by decide +kernel
theorem dX4_shut_34 : decode cX4_shut 34 = .ok (.aload_n 0, 1) := by decide +kernel
theorem dX4_shut_35 : decode cX4_shut 35 = .ok (.getfield 7, 3) := by decide +kernel
theorem dX4_shut_38 : decode cX4_shut 38 = .ok (.iload_n 1, 1) := by decide +kernel
theorem dX4_shut_39 : decode cX4_shut 39 = .ok (.dup2, 1) := by decide +kernel
theorem dX4_shut_40 : decode cX4_shut 40 = .ok (.iaload, 1) := by decide +kernel
theorem dX4_shut_41 : decode cX4_shut 41 = .ok (.bipush 6, 2) := by decide +kernel
theorem dX4_shut_43 : decode cX4_shut 43 = .ok (.isub, 1) := by decide +kernel
theorem dX4_shut_44 : decode cX4_shut 44 = .ok (.iastore, 1) := by decide +kernel
theorem dX4_shut_45 : decode cX4_shut 45 = .ok (.iinc 1 1, 3) := by decide +kernel
theorem dX4_shut_48 : decode cX4_shut 48 = .ok (.goto (-41), 3) := by decide +kernel
theorem dX4_shut_51 : decode cX4_shut 51 = .ok (.return_, 1) := by decide +kernel
theorem dX5_init_0 : decode cX5_init 0 = .ok (.aload_n 0, 1) := by decide +kernel
theorem dX5_init_1 : decode cX5_init 1 = .ok (.invokespecial 1, 3) := by decide +kernel
theorem dX5_init_4 : decode cX5_init 4 = .ok (.aload_n 0, 1) := by decide +kernel
theorem dX5_init_5 : decode cX5_init 5 = .ok (.iconst 0, 1) := by decide +kernel
theorem dX5_init_6 : decode cX5_init 6 = .ok (.anewarray 7, 3) := by decide +kernel
theorem dX5_init_9 : decode cX5_init 9 = .ok (.putfield 9, 3) := by decide +kernel
theorem dX5_init_12 : decode cX5_init 12 = .ok (.aload_n 0, 1) := by decide +kernel
theorem dX5_init_13 : decode cX5_init 13 = .ok (.iconst 3, 1) := by decide +kernel
theorem dX5_init_14 : decode cX5_init 14 = .ok (.anewarray 15, 3) := by decide +kernel
theorem dX5_init_17 : decode cX5_init 17 = .ok (.dup, 1) := by decide +kernel
theorem dX5_init_18 : decode cX5_init 18 = .ok (.iconst 0, 1) := by decide +kernel
theorem dX5_init_19 : decode cX5_init 19 = .ok (.iconst 3, 1) := by decide +kernel
theorem dX5_init_20 : decode cX5_init 20 = .ok (.newarray .int, 2) := by decide +kernel
theorem dX5_init_22 : decode cX5_init 22 = .ok (.dup, 1) := by decide +kernel
theorem dX5_init_23 : decode cX5_init 23 = .ok (.iconst 0, 1) := by decide +kernel
theorem dX5_init_24 : decode cX5_init 24 = .ok (.iconst 4, 1) := by decide +kernel
theorem dX5_init_25 : decode cX5_init 25 = .ok (.iastore, 1) := by decide +kernel
theorem dX5_init_26 : decode cX5_init 26 = .ok (.dup, 1) := by decide +kernel
theorem dX5_init_27 : decode cX5_init 27 = .ok (.iconst 1, 1) := by decide +kernel
theorem dX5_init_28 : decode cX5_init 28 = .ok (.iconst 0, 1) := by decide +kernel
theorem dX5_init_29 : decode cX5_init 29 = .ok (.iastore, 1) := by decide +kernel
theorem dX5_init_30 : decode cX5_init 30 = .ok (.dup, 1) := by decide +kernel
theorem dX5_init_31 : decode cX5_init 31 = .ok (.iconst 2, 1) := by decide +kernel
theorem dX5_init_32 : decode cX5_init 32 = .ok (.bipush 24, 2) := by decide +kernel
theorem dX5_init_34 : decode cX5_init 34 = .ok (.iastore, 1) := by decide +kernel
theorem dX5_init_35 : decode cX5_init 35 = .ok (.aastore, 1) := by decide +kernel
theorem dX5_init_36 : decode cX5_init 36 = .ok (.dup, 1) := by decide +kernel
theorem dX5_init_37 : decode cX5_init 37 = .ok (.iconst 1, 1) := by decide +kernel
theorem dX5_init_38 : decode cX5_init 38 = .ok (.iconst 3, 1) := by decide +kernel
theorem dX5_init_39 : decode cX5_init 39 = .ok (.newarray .int, 2) := by decide +kernel
theorem dX5_init_41 : decode cX5_init 41 = .ok (.dup, 1) := by decide +kernel
theorem dX5_init_42 : decode cX5_init 42 = .ok (.iconst 0, 1) := by decide +kernel
theorem dX5_init_43 : decode cX5_init 43 = .ok (.iconst 4, 1) := by decide +kernel
theorem dX5_init_44 : decode cX5_init 44 = .ok (.iastore, 1) := by decide +kernel
theorem dX5_init_45 : decode cX5_init 45 = .ok (.dup, 1) := by decide +kernel
theorem dX5_init_46 : decode cX5_init 46 = .ok (.iconst 1, 1) := by decide +kernel
theorem dX5_init_47 : decode cX5_init 47 = .ok (.iconst 0, 1) := by decide +kernel
theorem dX5_init_48 : decode cX5_init 48 = .ok (.iastore, 1) := by decide +kernel
theorem dX5_init_49 : decode cX5_init 49 = .ok (.dup, 1) := by decide +kernel
theorem dX5_init_50 : decode cX5_init 50 = .ok (.iconst 2, 1) := by decide +kernel
theorem dX5_init_51 : decode cX5_init 51 = .ok (.bipush 24, 2) := by decide +kernel
theorem dX5_init_53 : decode cX5_init 53 = .ok (.iastore, 1) := by decide +kernel
theorem dX5_init_54 : decode cX5_init 54 = .ok (.aastore, 1) := by decide +kernel
theorem dX5_init_55 : decode cX5_init 55 = .ok (.dup, 1) := by decide +kernel
theorem dX5_init_56 : decode cX5_init 56 = .ok (.iconst 2, 1) := by decide +kernel
theorem dX5_init_57 : decode cX5_init 57 = .ok (.iconst 3, 1) := by decide +kernel
theorem dX5_init_58 : decode cX5_init 58 = .ok (.newarray .int, 2) := by decide +kernel
theorem dX5_init_60 : decode cX5_init 60 = .ok (.dup, 1) := by decide +kernel
theorem dX5_init_61 : decode cX5_init 61 = .ok (.iconst 0, 1) := by decide +kernel
theorem dX5_init_62 : decode cX5_init 62 = .ok (.iconst 4, 1) := by decide +kernel
theorem dX5_init_63 : decode cX5_init 63 = .ok (.iastore, 1) := by decide +kernel
theorem dX5_init_64 : decode cX5_init 64 = .ok (.dup, 1) := by decide +kernel
theorem dX5_init_65 : decode cX5_init 65 = .ok (.iconst 1, 1) := by decide +kernel
theorem dX5_init_66 : decode cX5_init 66 = .ok (.iconst 0, 1) := by decide +kernel
theorem dX5_init_67 : decode cX5_init 67 = .ok (.iastore, 1) := by decide +kernel
theorem dX5_init_68 : decode cX5_init 68 = .ok (.dup, 1) := by decide +kernel
theorem dX5_init_69 : decode cX5_init 69 = .ok (.iconst 2, 1) := by decide +kernel
theorem dX5_init_70 : decode cX5_init 70 = .ok (.bipush 24, 2) := by decide +kernel
theorem dX5_init_72 : decode cX5_init 72 = .ok (.iastore, 1) := by decide +kernel
theorem dX5_init_73 : decode cX5_init 73 = .ok (.aastore, 1) := by decide +kernel
theorem dX5_init_74 : decode cX5_init 74 = .ok (.putfield 17, 3) := by decide +kernel
theorem dX5_init_77 : decode cX5_init 77 = .ok (.return_, 1) := by decide +kernel
theorem dX5_isOpen_0 : decode cX5_isOpen 0 = .ok (.aload_n 0, 1) := by decide +kernel
theorem dX5_isOpen_1 : decode cX5_isOpen 1 = .ok (.getfield 17, 3) := by decide +kernel
theorem dX5_isOpen_4 : decode cX5_isOpen 4 = .ok (.iload_n 1, 1) := by decide +kernel
theorem dX5_isOpen_5 : decode cX5_isOpen 5 = .ok (.aaload, 1) := by decide +kernel
theorem dX5_isOpen_6 : decode cX5_isOpen 6 = .ok (.iconst 1, 1) := by decide +kernel
theorem dX5_isOpen_7 : decode cX5_isOpen 7 = .ok (.iaload, 1) := by decide +kernel
theorem dX5_isOpen_8 : decode cX5_isOpen 8 = .ok (.istore_n 2, 1) := by decide +kernel
theorem dX5_isOpen_9 : decode cX5_isOpen 9 = .ok (.iload_n 2, 1) := by decide +kernel
theorem dX5_isOpen_10 : decode cX5_isOpen 10 = .ok (.aload_n 0, 1) := by decide +kernel
theorem dX5_isOpen_11 : decode cX5_isOpen 11 = .ok (.getfield 17, 3) := by decide +kernel
theorem dX5_isOpen_14 : decode cX5_isOpen 14 = .ok (.iload_n 1, 1) := by decide +kernel
theorem dX5_isOpen_15 : decode cX5_isOpen 15 = .ok (.aaload, 1) := by decide +kernel
theorem dX5_isOpen_16 : decode cX5_isOpen 16 = .ok (.iconst 2, 1) := by decide +kernel
theorem dX5_isOpen_17 : decode cX5_isOpen 17 = .ok (.iaload, 1) := by decide +kernel
theorem dX5_isOpen_18 : decode cX5_isOpen 18 = .ok (.if_icmp .ne 5, 3) := by decide +kernel
theorem dX5_isOpen_21 : decode cX5_isOpen 21 = .ok (.iconst 0, 1) := by decide +kernel
theorem dX5_isOpen_22 : decode cX5_isOpen 22 = .ok (.ireturn, 1) := by decide +kernel
theorem dX5_isOpen_23 : decode cX5_isOpen 23 = .ok (.iload_n 2, 1) := by decide +kernel
theorem dX5_isOpen_24 : decode cX5_isOpen 24 = .ok (.aload_n 0, 1) := by decide +kernel
theorem dX5_isOpen_25 : decode cX5_isOpen 25 = .ok (.getfield 17, 3) := by decide +kernel
theorem dX5_isOpen_28 : decode cX5_isOpen 28 = .ok (.iload_n 1, 1) := by decide +kernel
theorem dX5_isOpen_29 : decode cX5_isOpen 29 = .ok (.aaload, 1) := by decide +kernel
theorem dX5_isOpen_30 : decode cX5_isOpen 30 = .ok (.iconst 2, 1) := by decide +kernel
theorem dX5_isOpen_31 : decode cX5_isOpen 31 = .ok (.iaload, 1) := by decide +kernel
theorem dX5_isOpen_32 : decode cX5_isOpen 32 = .ok (.if_icmp .eq 40, 3) := by decide +kernel
theorem dX5_isOpen_35 : decode cX5_isOpen 35 = .ok (.iload_n 2, 1) := by decide +kernel
theorem dX5_isOpen_36 : decode cX5_isOpen 36 = .ok (.bipush 24, 2) := by decide +kernel
theorem dX5_isOpen_38 : decode cX5_isOpen 38 = .ok (.aload_n 0, 1) := by decide +kernel
theorem dX5_isOpen_39 : decode cX5_isOpen 39 = .ok (.getfield 17, 3) := by decide +kernel
theorem dX5_isOpen_42 : decode cX5_isOpen 42 = .ok (.iload_n 1, 1) := by decide +kernel
theorem dX5_isOpen_43 : decode cX5_isOpen 43 = .ok (.aaload, 1) := by decide +kernel
theorem dX5_isOpen_44 : decode cX5_isOpen 44 = .ok (.iconst 2, 1) := by decide +kernel
theorem dX5_isOpen_45 : decode cX5_isOpen 45 = .ok (.iaload, 1) := by decide +kernel
theorem dX5_isOpen_46 : decode cX5_isOpen 46 = .ok (.iadd, 1) := by decide +kernel
theorem dX5_isOpen_47 : decode cX5_isOpen 47 = .ok (.if_icmp .eq 25, 3) := by decide +kernel
theorem dX5_isOpen_50 : decode cX5_isOpen 50 = .ok (.iload_n 2, 1) := by decide +kernel
theorem dX5_isOpen_51 : decode cX5_isOpen 51 = .ok (.bipush 24, 2) := by decide +kernel
theorem dX5_isOpen_53 : decode cX5_isOpen 53 = .ok (.irem, 1) := by decide +kernel
theorem dX5_isOpen_54 : decode cX5_isOpen 54 = .ok (.aload_n 0, 1) := by decide +kernel
theorem dX5_isOpen_55 : decode cX5_isOpen 55 = .ok (.getfield 22, 3) := by decide +kernel
theorem dX5_isOpen_58 : decode cX5_isOpen 58 = .ok (.bipush 24, 2) := by decide +kernel
theorem dX5_isOpen_60 : decode cX5_isOpen 60 = .ok (.irem, 1) := by decide +kernel
theorem dX5_isOpen_61 : decode cX5_isOpen 61 = .ok (.if_icmp .ne 5, 3) := by decide +kernel
theorem dX5_isOpen_64 : decode cX5_isOpen 64 = .ok (.iconst 1, 1) := by decide +kernel
theorem dX5_isOpen_65 : decode cX5_isOpen 65 = .ok (.ireturn, 1) := by decide +kernel
theorem dX5_isOpen_66 : decode cX5_isOpen 66 = .ok (.iinc 2 1, 3) := by decide +kernel
theorem dX5_isOpen_69 : decode cX5_isOpen 69 = .ok (.goto (-46), 3) := by decide +kernel
theorem dX5_isOpen_72 : decode cX5_isOpen 72 = .ok (.iconst 0, 1) := by decide +kernel
theorem dX5_isOpen_73 : decode cX5_isOpen 73 = .ok (.ireturn, 1) := by decide +kernel
theorem dX5_in_0 : decode cX5_in 0 = .ok (.iconst 0, 1) := by decide +kernel
theorem dX5_in_1 : decode cX5_in 1 = .ok (.istore_n 2, 1) := by decide +kernel
theorem dX5_in_2 : decode cX5_in 2 = .ok (.aload_n 0, 1) := by decide +kernel
theorem dX5_in_3 : decode cX5_in 3 = .ok (.getfield 9, 3) := by decide +kernel
theorem dX5_in_6 : decode cX5_in 6 = .ok (.astore_n 3, 1) := by decide +kernel
theorem dX5_in_7 : decode cX5_in 7 = .ok (.aload_n 3, 1) := by decide +kernel
theorem dX5_in_8 : decode cX5_in 8 = .ok (.arraylength, 1) := by decide +kernel
theorem dX5_in_9 : decode cX5_in 9 = .ok (.istore 4, 2) := by decide +kernel
theorem dX5_in_11 : decode cX5_in 11 = .ok (.iconst 0, 1) := by decide +kernel
theorem dX5_in_12 : decode cX5_in 12 = .ok (.istore 5, 2) := by decide +kernel
theorem dX5_in_14 : decode cX5_in 14 = .ok (.iload 5, 2) := by decide +kernel
theorem dX5_in_16 : decode cX5_in 16 = .ok (.iload 4, 2) := by decide +kernel
theorem dX5_in_18 : decode cX5_in 18 = .ok (.if_icmp .ge 32, 3) := by decide +kernel
theorem dX5_in_21 : decode cX5_in 21 = .ok (.aload_n 3, 1) := by decide +kernel
theorem dX5_in_22 : decode cX5_in 22 = .ok (.iload 5, 2) := by decide +kernel
theorem dX5_in_24 : decode cX5_in 24 = .ok (.aaload, 1) := by decide +kernel
theorem dX5_in_25 : decode cX5_in 25 = .ok (.astore 6, 2) := by decide +kernel
theorem dX5_in_27 : decode cX5_in 27 = .ok (.iload_n 2, 1) := by decide +kernel
theorem dX5_in_28 : decode cX5_in 28 = .ok (.aload 6, 2) := by decide +kernel
theorem dX5_in_30 : decode cX5_in 30 = .ok (.getfield 33, 3) := by decide +kernel
theorem dX5_in_33 : decode cX5_in 33 = .ok (.iload_n 1, 1) := by decide +kernel
theorem dX5_in_34 : decode cX5_in 34 = .ok (.if_icmp .ne 7, 3) := by decide +kernel
theorem dX5_in_37 : decode cX5_in 37 = .ok (.iconst 1, 1) := by decide +kernel
theorem dX5_in_38 : decode cX5_in 38 = .ok (.goto 4, 3) := by decide +kernel
theorem dX5_in_41 : decode cX5_in 41 = .ok (.iconst 0, 1) := by decide +kernel
theorem dX5_in_42 : decode cX5_in 42 = .ok (.iadd, 1) := by decide +kernel
theorem dX5_in_43 : decode cX5_in 43 = .ok (.istore_n 2, 1) := by decide +kernel
theorem dX5_in_44 : decode cX5_in 44 = .ok (.iinc 5 1, 3) := by decide +kernel
theorem dX5_in_47 : decode cX5_in 47 = .ok (.goto (-33), 3) := by decide +kernel
theorem dX5_in_50 : decode cX5_in 50 = .ok (.iload_n 2, 1) := by decide +kernel
theorem dX5_in_51 : decode cX5_in 51 = .ok (.ireturn, 1) := by decide +kernel
theorem dX5_pass_0 : decode cX5_pass 0 = .ok (.aload_n 0, 1) := by decide +kernel
theorem dX5_pass_1 : decode cX5_pass 1 = .ok (.getfield 9, 3) := by decide +kernel
theorem dX5_pass_4 : decode cX5_pass 4 = .ok (.astore_n 1, 1) := by decide +kernel
theorem dX5_pass_5 : decode cX5_pass 5 = .ok (.aload_n 1, 1) := by decide +kernel
theorem dX5_pass_6 : decode cX5_pass 6 = .ok (.arraylength, 1) := by decide +kernel
theorem dX5_pass_7 : decode cX5_pass 7 = .ok (.istore_n 2, 1) := by decide +kernel
theorem dX5_pass_8 : decode cX5_pass 8 = .ok (.iconst 0, 1) := by decide +kernel
theorem dX5_pass_9 : decode cX5_pass 9 = .ok (.istore_n 3, 1) := by decide +kernel
theorem dX5_pass_10 : decode cX5_pass 10 = .ok (.iload_n 3, 1) := by decide +kernel
theorem dX5_pass_11 : decode cX5_pass 11 = .ok (.iload_n 2, 1) := by decide +kernel
theorem dX5_pass_12 : decode cX5_pass 12 = .ok (.if_icmp .ge 115, 3) := by decide +kernel
theorem dX5_pass_15 : decode cX5_pass 15 = .ok (.aload_n 1, 1) := by decide +kernel
theorem dX5_pass_16 : decode cX5_pass 16 = .ok (.iload_n 3, 1) := by decide +kernel
theorem dX5_pass_17 : decode cX5_pass 17 = .ok (.aaload, 1) := by decide +kernel
theorem dX5_pass_18 : decode cX5_pass 18 = .ok (.astore 4, 2) := by decide +kernel
theorem dX5_pass_20 : decode cX5_pass 20 = .ok (.iconst 0, 1) := by decide +kernel
theorem dX5_pass_21 : decode cX5_pass 21 = .ok (.istore 5, 2) := by decide +kernel
theorem dX5_pass_23 : decode cX5_pass 23 = .ok (.iload 5, 2) := by decide +kernel
theorem dX5_pass_25 : decode cX5_pass 25 = .ok (.iconst 4, 1) := by decide +kernel
theorem dX5_pass_26 : decode cX5_pass 26 = .ok (.if_icmp .ge 95, 3) := by decide +kernel
theorem dX5_pass_29 : decode cX5_pass 29 = .ok (.aload 4, 2) := by decide +kernel
theorem dX5_pass_31 : decode cX5_pass 31 = .ok (.getfield 36, 3) := by decide +kernel
theorem dX5_pass_34 : decode cX5_pass 34 = .ok (.ifCond .eq 14, 3) := by decide +kernel
theorem dX5_pass_37 : decode cX5_pass 37 = .ok (.aload 4, 2) := by decide +kernel
theorem dX5_pass_39 : decode cX5_pass 39 = .ok (.getfield 40, 3) := by decide +kernel
theorem dX5_pass_42 : decode cX5_pass 42 = .ok (.iload 5, 2) := by decide +kernel
theorem dX5_pass_44 : decode cX5_pass 44 = .ok (.iaload, 1) := by decide +kernel
theorem dX5_pass_45 : decode cX5_pass 45 = .ok (.goto 11, 3) := by decide +kernel
theorem dX5_pass_48 : decode cX5_pass 48 = .ok (.aload 4, 2) := by decide +kernel
theorem dX5_pass_50 : decode cX5_pass 50 = .ok (.getfield 43, 3) := by decide +kernel
theorem dX5_pass_53 : decode cX5_pass 53 = .ok (.iload 5, 2) := by decide +kernel
theorem dX5_pass_55 : decode cX5_pass 55 = .ok (.iaload, 1) := by decide +kernel
theorem dX5_pass_56 : decode cX5_pass 56 = .ok (.istore 6, 2) := by decide +kernel
theorem dX5_pass_58 : decode cX5_pass 58 = .ok (.aload 4, 2) := by decide +kernel
theorem dX5_pass_60 : decode cX5_pass 60 = .ok (.getfield 36, 3) := by decide +kernel
theorem dX5_pass_63 : decode cX5_pass 63 = .ok (.ifCond .ne 7, 3) := by decide +kernel
theorem dX5_pass_66 : decode cX5_pass 66 = .ok (.iconst 1, 1) := by decide +kernel
theorem dX5_pass_67 : decode cX5_pass 67 = .ok (.goto 16, 3) := by decide +kernel
theorem dX5_pass_70 : decode cX5_pass 70 = .ok (.aload 4, 2) := by decide +kernel
theorem dX5_pass_72 : decode cX5_pass 72 = .ok (.getfield 33, 3) := by decide +kernel
theorem dX5_pass_75 : decode cX5_pass 75 = .ok (.ifCond .lt 7, 3) := by decide +kernel
theorem dX5_pass_78 : decode cX5_pass 78 = .ok (.iconst 2, 1) := by decide +kernel
theorem dX5_pass_79 : decode cX5_pass 79 = .ok (.goto 4, 3) := by decide +kernel
theorem dX5_pass_82 : decode cX5_pass 82 = .ok (.iconst 0, 1) := by decide +kernel
theorem dX5_pass_83 : decode cX5_pass 83 = .ok (.istore 7, 2) := by decide +kernel
theorem dX5_pass_85 : decode cX5_pass 85 = .ok (.aload 4, 2) := by decide +kernel
theorem dX5_pass_87 : decode cX5_pass 87 = .ok (.getfield 46, 3) := by decide +kernel
theorem dX5_pass_90 : decode cX5_pass 90 = .ok (.iload 5, 2) := by decide +kernel
theorem dX5_pass_92 : decode cX5_pass 92 = .ok (.aaload, 1) := by decide +kernel
theorem dX5_pass_93 : decode cX5_pass 93 = .ok (.iload 6, 2) := by decide +kernel
theorem dX5_pass_95 : decode cX5_pass 95 = .ok (.bipush 99, 2) := by decide +kernel
theorem dX5_pass_97 : decode cX5_pass 97 = .ok (.aload 4, 2) := by decide +kernel
theorem dX5_pass_99 : decode cX5_pass 99 = .ok (.getfield 46, 3) := by decide +kernel
theorem dX5_pass_102 : decode cX5_pass 102 = .ok (.iload 5, 2) := by decide +kernel
theorem dX5_pass_104 : decode cX5_pass 104 = .ok (.aaload, 1) := by decide +kernel
theorem dX5_pass_105 : decode cX5_pass 105 = .ok (.iload 6, 2) := by decide +kernel
theorem dX5_pass_107 : decode cX5_pass 107 = .ok (.iaload, 1) := by decide +kernel
theorem dX5_pass_108 : decode cX5_pass 108 = .ok (.iload 7, 2) := by decide +kernel
theorem dX5_pass_110 : decode cX5_pass 110 = .ok (.iadd, 1) := by decide +kernel
theorem dX5_pass_111 : decode cX5_pass 111 = .ok (.invokestatic 49, 3) := by decide +kernel
theorem dX5_pass_114 : decode cX5_pass 114 = .ok (.iastore, 1) := by decide +kernel
theorem dX5_pass_115 : decode cX5_pass 115 = .ok (.iinc 5 1, 3) := by decide +kernel
theorem dX5_pass_118 : decode cX5_pass 118 = .ok (.goto (-95), 3) := by decide +kernel
theorem dX5_pass_121 : decode cX5_pass 121 = .ok (.iinc 3 1, 3) := by decide +kernel
theorem dX5_pass_124 : decode cX5_pass 124 = .ok (.goto (-114), 3) := by decide +kernel
theorem dX5_pass_127 : decode cX5_pass 127 = .ok (.iconst 0, 1) := by decide +kernel
theorem dX5_pass_128 : decode cX5_pass 128 = .ok (.istore_n 1, 1) := by decide +kernel
theorem dX5_pass_129 : decode cX5_pass 129 = .ok (.aload_n 0, 1) := by decide +kernel
theorem dX5_pass_130 : decode cX5_pass 130 = .ok (.getfield 9, 3) := by decide +kernel
theorem dX5_pass_133 : decode cX5_pass 133 = .ok (.astore_n 2, 1) := by decide +kernel
theorem dX5_pass_134 : decode cX5_pass 134 = .ok (.aload_n 2, 1) := by decide +kernel
theorem dX5_pass_135 : decode cX5_pass 135 = .ok (.arraylength, 1) := by decide +kernel
theorem dX5_pass_136 : decode cX5_pass 136 = .ok (.istore_n 3, 1) := by decide +kernel
theorem dX5_pass_137 : decode cX5_pass 137 = .ok (.iconst 0, 1) := by decide +kernel
theorem dX5_pass_138 : decode cX5_pass 138 = .ok (.istore 4, 2) := by decide +kernel
theorem dX5_pass_140 : decode cX5_pass 140 = .ok (.iload 4, 2) := by decide +kernel
theorem dX5_pass_142 : decode cX5_pass 142 = .ok (.iload_n 3, 1) := by decide +kernel
theorem dX5_pass_143 : decode cX5_pass 143 = .ok (.if_icmp .ge 54, 3) := by decide +kernel
theorem dX5_pass_146 : decode cX5_pass 146 = .ok (.aload_n 2, 1) := by decide +kernel
theorem dX5_pass_147 : decode cX5_pass 147 = .ok (.iload 4, 2) := by decide +kernel
theorem dX5_pass_149 : decode cX5_pass 149 = .ok (.aaload, 1) := by decide +kernel
theorem dX5_pass_150 : decode cX5_pass 150 = .ok (.astore 5, 2) := by decide +kernel
theorem dX5_pass_152 : decode cX5_pass 152 = .ok (.aload 5, 2) := by decide +kernel
theorem dX5_pass_154 : decode cX5_pass 154 = .ok (.getfield 33, 3) := by decide +kernel
theorem dX5_pass_157 : decode cX5_pass 157 = .ok (.ifCond .lt 34, 3) := by decide +kernel
theorem dX5_pass_160 : decode cX5_pass 160 = .ok (.aload 5, 2) := by decide +kernel
theorem dX5_pass_162 : decode cX5_pass 162 = .ok (.getfield 36, 3) := by decide +kernel
theorem dX5_pass_165 : decode cX5_pass 165 = .ok (.ifCond .eq 26, 3) := by decide +kernel
theorem dX5_pass_168 : decode cX5_pass 168 = .ok (.aload_n 0, 1) := by decide +kernel
theorem dX5_pass_169 : decode cX5_pass 169 = .ok (.aload 5, 2) := by decide +kernel
theorem dX5_pass_171 : decode cX5_pass 171 = .ok (.getfield 33, 3) := by decide +kernel
theorem dX5_pass_174 : decode cX5_pass 174 = .ok (.invokevirtual 55, 3) := by decide +kernel
theorem dX5_pass_177 : decode cX5_pass 177 = .ok (.ifCond .eq 6, 3) := by decide +kernel
theorem dX5_pass_180 : decode cX5_pass 180 = .ok (.goto 11, 3) := by decide +kernel
theorem dX5_pass_183 : decode cX5_pass 183 = .ok (.aload 5, 2) := by decide +kernel
theorem dX5_pass_185 : decode cX5_pass 185 = .ok (.invokevirtual 58, 3) := by decide +kernel
theorem dX5_pass_188 : decode cX5_pass 188 = .ok (.iinc 1 1, 3) := by decide +kernel
theorem dX5_pass_191 : decode cX5_pass 191 = .ok (.iinc 4 1, 3) := by decide +kernel
theorem dX5_pass_194 : decode cX5_pass 194 = .ok (.goto (-54), 3) := by decide +kernel
theorem dX5_pass_197 : decode cX5_pass 197 = .ok (.aload_n 0, 1) := by decide +kernel
theorem dX5_pass_198 : decode cX5_pass 198 = .ok (.dup, 1) := by decide +kernel
theorem dX5_pass_199 : decode cX5_pass 199 = .ok (.getfield 22, 3) := by decide +kernel
theorem dX5_pass_202 : decode cX5_pass 202 = .ok (.iconst 1, 1) := by decide +kernel
theorem dX5_pass_203 : decode cX5_pass 203 = .ok (.iadd, 1) := by decide +kernel
theorem dX5_pass_204 : decode cX5_pass 204 = .ok (.putfield 22, 3) := by decide +kernel
theorem dX5_pass_207 : decode cX5_pass 207 = .ok (.iload_n 1, 1) := by decide +kernel
theorem dX5_pass_208 : decode cX5_pass 208 = .ok (.ireturn, 1) := by decide +kernel
theorem dX5_best_0 : decode cX5_best 0 = .ok (.iconst 5, 1) := by decide +kernel
theorem dX5_best_1 : decode cX5_best 1 = .ok (.istore_n 1, 1) := by decide +kernel
theorem dX5_best_2 : decode cX5_best 2 = .ok (.iconst 4, 1) := by decide +kernel
theorem dX5_best_3 : decode cX5_best 3 = .ok (.istore_n 2, 1) := by decide +kernel
theorem dX5_best_4 : decode cX5_best 4 = .ok (.iload_n 2, 1) := by decide +kernel
theorem dX5_best_5 : decode cX5_best 5 = .ok (.ifCond .lt 20, 3) := by decide +kernel
theorem dX5_best_8 : decode cX5_best 8 = .ok (.aload_n 0, 1) := by decide +kernel
theorem dX5_best_9 : decode cX5_best 9 = .ok (.iload_n 2, 1) := by decide +kernel
theorem dX5_best_10 : decode cX5_best 10 = .ok (.iaload, 1) := by decide +kernel
theorem dX5_best_11 : decode cX5_best 11 = .ok (.aload_n 0, 1) := by decide +kernel
theorem dX5_best_12 : decode cX5_best 12 = .ok (.iload_n 1, 1) := by decide +kernel
theorem dX5_best_13 : decode cX5_best 13 = .ok (.iaload, 1) := by decide +kernel
theorem dX5_best_14 : decode cX5_best 14 = .ok (.if_icmp .lt 5, 3) := by decide +kernel
theorem dX5_best_17 : decode cX5_best 17 = .ok (.iload_n 2, 1) := by decide +kernel
theorem dX5_best_18 : decode cX5_best 18 = .ok (.istore_n 1, 1) := by decide +kernel
theorem dX5_best_19 : decode cX5_best 19 = .ok (.iinc 2 (-1), 3) := by decide +kernel
theorem dX5_best_22 : decode cX5_best 22 = .ok (.goto (-18), 3) := by decide +kernel
theorem dX5_best_25 : decode cX5_best 25 = .ok (.iload_n 1, 1) := by decide +kernel
theorem dX5_best_26 : decode cX5_best 26 = .ok (.ireturn, 1) := by decide +kernel
theorem dX5_isSame_0 : decode cX5_isSame 0 = .ok (.iconst 0, 1) := by decide +kernel
theorem dX5_isSame_1 : decode cX5_isSame 1 = .ok (.istore_n 2, 1) := by decide +kernel
theorem dX5_isSame_2 : decode cX5_isSame 2 = .ok (.iconst 0, 1) := by decide +kernel
theorem dX5_isSame_3 : decode cX5_isSame 3 = .ok (.istore_n 3, 1) := by decide +kernel
theorem dX5_isSame_4 : decode cX5_isSame 4 = .ok (.iconst 0, 1) := by decide +kernel
theorem dX5_isSame_5 : decode cX5_isSame 5 = .ok (.istore 4, 2) := by decide +kernel
theorem dX5_isSame_7 : decode cX5_isSame 7 = .ok (.iconst 0, 1) := by decide +kernel
theorem dX5_isSame_8 : decode cX5_isSame 8 = .ok (.istore 5, 2) := by decide +kernel
theorem dX5_isSame_10 : decode cX5_isSame 10 = .ok (.iload 5, 2) := by decide +kernel
theorem dX5_isSame_12 : decode cX5_isSame 12 = .ok (.aload_n 0, 1) := by decide +kernel
theorem dX5_isSame_13 : decode cX5_isSame 13 = .ok (.getfield 9, 3) := by decide +kernel
theorem dX5_isSame_16 : decode cX5_isSame 16 = .ok (.arraylength, 1) := by decide +kernel
theorem dX5_isSame_17 : decode cX5_isSame 17 = .ok (.if_icmp .ge 248, 3) := by decide +kernel
theorem dX5_isSame_20 : decode cX5_isSame 20 = .ok (.aload_n 0, 1) := by decide +kernel
theorem dX5_isSame_21 : decode cX5_isSame 21 = .ok (.getfield 9, 3) := by decide +kernel
theorem dX5_isSame_24 : decode cX5_isSame 24 = .ok (.iload 5, 2) := by decide +kernel
theorem dX5_isSame_26 : decode cX5_isSame 26 = .ok (.aaload, 1) := by decide +kernel
theorem dX5_isSame_27 : decode cX5_isSame 27 = .ok (.astore 6, 2) := by decide +kernel
theorem dX5_isSame_29 : decode cX5_isSame 29 = .ok (.iconst 4, 1) := by decide +kernel
theorem dX5_isSame_30 : decode cX5_isSame 30 = .ok (.newarray .int, 2) := by decide +kernel
theorem dX5_isSame_32 : decode cX5_isSame 32 = .ok (.astore 7, 2) := by decide +kernel
theorem dX5_isSame_34 : decode cX5_isSame 34 = .ok (.iconst 0, 1) := by decide +kernel
theorem dX5_isSame_35 : decode cX5_isSame 35 = .ok (.istore 8, 2) := by decide +kernel
theorem dX5_isSame_37 : decode cX5_isSame 37 = .ok (.iload 8, 2) := by decide +kernel
theorem dX5_isSame_39 : decode cX5_isSame 39 = .ok (.iconst 4, 1) := by decide +kernel
theorem dX5_isSame_40 : decode cX5_isSame 40 = .ok (.if_icmp .ge 83, 3) := by decide +kernel
theorem dX5_isSame_43 : decode cX5_isSame 43 = .ok (.aload 7, 2) := by decide +kernel
theorem dX5_isSame_45 : decode cX5_isSame 45 = .ok (.iload 8, 2) := by decide +kernel
theorem dX5_isSame_47 : decode cX5_isSame 47 = .ok (.aload 6, 2) := by decide +kernel
theorem dX5_isSame_49 : decode cX5_isSame 49 = .ok (.getfield 46, 3) := by decide +kernel
theorem dX5_isSame_52 : decode cX5_isSame 52 = .ok (.iload 8, 2) := by decide +kernel
theorem dX5_isSame_54 : decode cX5_isSame 54 = .ok (.aaload, 1) := by decide +kernel
theorem dX5_isSame_55 : decode cX5_isSame 55 = .ok (.invokestatic 65, 3) := by decide +kernel
theorem dX5_isSame_58 : decode cX5_isSame 58 = .ok (.iastore, 1) := by decide +kernel
theorem dX5_isSame_59 : decode cX5_isSame 59 = .ok (.iconst 0, 1) := by decide +kernel
theorem dX5_isSame_60 : decode cX5_isSame 60 = .ok (.istore 9, 2) := by decide +kernel
theorem dX5_isSame_62 : decode cX5_isSame 62 = .ok (.iload 9, 2) := by decide +kernel
theorem dX5_isSame_64 : decode cX5_isSame 64 = .ok (.bipush 6, 2) := by decide +kernel
theorem dX5_isSame_66 : decode cX5_isSame 66 = .ok (.if_icmp .ge 51, 3) := by decide +kernel
theorem dX5_isSame_69 : decode cX5_isSame 69 = .ok (.aload_n 1, 1) := by decide +kernel
theorem dX5_isSame_70 : decode cX5_isSame 70 = .ok (.iload 5, 2) := by decide +kernel
theorem dX5_isSame_72 : decode cX5_isSame 72 = .ok (.iload 8, 2) := by decide +kernel
theorem dX5_isSame_74 : decode cX5_isSame 74 = .ok (.iload 9, 2) := by decide +kernel
theorem dX5_isSame_76 : decode cX5_isSame 76 = .ok (.invokevirtual 84, 3) := by decide +kernel
theorem dX5_isSame_79 : decode cX5_isSame 79 = .ok (.aload 6, 2) := by decide +kernel
theorem dX5_isSame_81 : decode cX5_isSame 81 = .ok (.getfield 46, 3) := by decide +kernel
theorem dX5_isSame_84 : decode cX5_isSame 84 = .ok (.iload 8, 2) := by decide +kernel
theorem dX5_isSame_86 : decode cX5_isSame 86 = .ok (.aaload, 1) := by decide +kernel
theorem dX5_isSame_87 : decode cX5_isSame 87 = .ok (.iload 9, 2) := by decide +kernel
theorem dX5_isSame_89 : decode cX5_isSame 89 = .ok (.iaload, 1) := by decide +kernel
theorem dX5_isSame_90 : decode cX5_isSame 90 = .ok (.if_icmp .eq 5, 3) := by decide +kernel
theorem dX5_isSame_93 : decode cX5_isSame 93 = .ok (.iconst 0, 1) := by decide +kernel
theorem dX5_isSame_94 : decode cX5_isSame 94 = .ok (.ireturn, 1) := by decide +kernel
theorem dX5_isSame_95 : decode cX5_isSame 95 = .ok (.iload 4, 2) := by decide +kernel
theorem dX5_isSame_97 : decode cX5_isSame 97 = .ok (.aload 6, 2) := by decide +kernel
theorem dX5_isSame_99 : decode cX5_isSame 99 = .ok (.getfield 46, 3) := by decide +kernel
theorem dX5_isSame_102 : decode cX5_isSame 102 = .ok (.iload 8, 2) := by decide +kernel
theorem dX5_isSame_104 : decode cX5_isSame 104 = .ok (.aaload, 1) := by decide +kernel
theorem dX5_isSame_105 : decode cX5_isSame 105 = .ok (.iload 9, 2) := by decide +kernel
theorem dX5_isSame_107 : decode cX5_isSame 107 = .ok (.iaload, 1) := by decide +kernel
theorem dX5_isSame_108 : decode cX5_isSame 108 = .ok (.iadd, 1) := by decide +kernel
theorem dX5_isSame_109 : decode cX5_isSame 109 = .ok (.istore 4, 2) := by decide +kernel
theorem dX5_isSame_111 : decode cX5_isSame 111 = .ok (.iinc 9 1, 3) := by decide +kernel
theorem dX5_isSame_114 : decode cX5_isSame 114 = .ok (.goto (-52), 3) := by decide +kernel
theorem dX5_isSame_117 : decode cX5_isSame 117 = .ok (.iinc 8 1, 3) := by decide +kernel
theorem dX5_isSame_120 : decode cX5_isSame 120 = .ok (.goto (-83), 3) := by decide +kernel
theorem dX5_isSame_123 : decode cX5_isSame 123 = .ok (.bipush 6, 2) := by decide +kernel
theorem dX5_isSame_125 : decode cX5_isSame 125 = .ok (.newarray .int, 2) := by decide +kernel
theorem dX5_isSame_127 : decode cX5_isSame 127 = .ok (.dup, 1) := by decide +kernel
theorem dX5_isSame_128 : decode cX5_isSame 128 = .ok (.iconst 0, 1) := by decide +kernel
theorem dX5_isSame_129 : decode cX5_isSame 129 = .ok (.aload 6, 2) := by decide +kernel
theorem dX5_isSame_131 : decode cX5_isSame 131 = .ok (.getfield 43, 3) := by decide +kernel
theorem dX5_isSame_134 : decode cX5_isSame 134 = .ok (.invokestatic 89, 3) := by decide +kernel
theorem dX5_isSame_137 : decode cX5_isSame 137 = .ok (.iastore, 1) := by decide +kernel
theorem dX5_isSame_138 : decode cX5_isSame 138 = .ok (.dup, 1) := by decide +kernel
theorem dX5_isSame_139 : decode cX5_isSame 139 = .ok (.iconst 1, 1) := by decide +kernel
theorem dX5_isSame_140 : decode cX5_isSame 140 = .ok (.aload 6, 2) := by decide +kernel
theorem dX5_isSame_142 : decode cX5_isSame 142 = .ok (.getfield 36, 3) := by decide +kernel
theorem dX5_isSame_145 : decode cX5_isSame 145 = .ok (.ifCond .eq 7, 3) := by decide +kernel
theorem dX5_isSame_148 : decode cX5_isSame 148 = .ok (.iconst 1, 1) := by decide +kernel
theorem dX5_isSame_149 : decode cX5_isSame 149 = .ok (.goto 4, 3) := by decide +kernel
theorem dX5_isSame_152 : decode cX5_isSame 152 = .ok (.iconst 0, 1) := by decide +kernel
theorem dX5_isSame_153 : decode cX5_isSame 153 = .ok (.iastore, 1) := by decide +kernel
theorem dX5_isSame_154 : decode cX5_isSame 154 = .ok (.dup, 1) := by decide +kernel
theorem dX5_isSame_155 : decode cX5_isSame 155 = .ok (.iconst 2, 1) := by decide +kernel
theorem dX5_isSame_156 : decode cX5_isSame 156 = .ok (.aload 6, 2) := by decide +kernel
theorem dX5_isSame_158 : decode cX5_isSame 158 = .ok (.getfield 33, 3) := by decide +kernel
theorem dX5_isSame_161 : decode cX5_isSame 161 = .ok (.iastore, 1) := by decide +kernel
theorem dX5_isSame_162 : decode cX5_isSame 162 = .ok (.dup, 1) := by decide +kernel
theorem dX5_isSame_163 : decode cX5_isSame 163 = .ok (.iconst 3, 1) := by decide +kernel
theorem dX5_isSame_164 : decode cX5_isSame 164 = .ok (.aload 6, 2) := by decide +kernel
theorem dX5_isSame_166 : decode cX5_isSame 166 = .ok (.getfield 91, 3) := by decide +kernel
theorem dX5_isSame_169 : decode cX5_isSame 169 = .ok (.ifCond .eq 7, 3) := by decide +kernel
theorem dX5_isSame_172 : decode cX5_isSame 172 = .ok (.iconst 1, 1) := by decide +kernel
theorem dX5_isSame_173 : decode cX5_isSame 173 = .ok (.goto 4, 3) := by decide +kernel
theorem dX5_isSame_176 : decode cX5_isSame 176 = .ok (.iconst 0, 1) := by decide +kernel
theorem dX5_isSame_177 : decode cX5_isSame 177 = .ok (.iastore, 1) := by decide +kernel
theorem dX5_isSame_178 : decode cX5_isSame 178 = .ok (.dup, 1) := by decide +kernel
theorem dX5_isSame_179 : decode cX5_isSame 179 = .ok (.iconst 4, 1) := by decide +kernel
theorem dX5_isSame_180 : decode cX5_isSame 180 = .ok (.aload 7, 2) := by decide +kernel
theorem dX5_isSame_182 : decode cX5_isSame 182 = .ok (.invokestatic 89, 3) := by decide +kernel
theorem dX5_isSame_185 : decode cX5_isSame 185 = .ok (.iastore, 1) := by decide +kernel
theorem dX5_isSame_186 : decode cX5_isSame 186 = .ok (.dup, 1) := by decide +kernel
theorem dX5_isSame_187 : decode cX5_isSame 187 = .ok (.iconst 5, 1) := by decide +kernel
theorem dX5_isSame_188 : decode cX5_isSame 188 = .ok (.aload 6, 2) := by decide +kernel
theorem dX5_isSame_190 : decode cX5_isSame 190 = .ok (.getfield 91, 3) := by decide +kernel
theorem dX5_isSame_193 : decode cX5_isSame 193 = .ok (.ifCond .eq 7, 3) := by decide +kernel
theorem dX5_isSame_196 : decode cX5_isSame 196 = .ok (.iconst (-1), 1) := by decide +kernel
theorem dX5_isSame_197 : decode cX5_isSame 197 = .ok (.goto 11, 3) := by decide +kernel
theorem dX5_isSame_200 : decode cX5_isSame 200 = .ok (.aload 6, 2) := by decide +kernel
theorem dX5_isSame_202 : decode cX5_isSame 202 = .ok (.getfield 40, 3) := by decide +kernel
theorem dX5_isSame_205 : decode cX5_isSame 205 = .ok (.invokestatic 89, 3) := by decide +kernel
theorem dX5_isSame_208 : decode cX5_isSame 208 = .ok (.iastore, 1) := by decide +kernel
theorem dX5_isSame_209 : decode cX5_isSame 209 = .ok (.astore 8, 2) := by decide +kernel
theorem dX5_isSame_211 : decode cX5_isSame 211 = .ok (.iconst 0, 1) := by decide +kernel
theorem dX5_isSame_212 : decode cX5_isSame 212 = .ok (.istore 9, 2) := by decide +kernel
theorem dX5_isSame_214 : decode cX5_isSame 214 = .ok (.iload 9, 2) := by decide +kernel
theorem dX5_isSame_216 : decode cX5_isSame 216 = .ok (.bipush 6, 2) := by decide +kernel
theorem dX5_isSame_218 : decode cX5_isSame 218 = .ok (.if_icmp .ge 27, 3) := by decide +kernel
theorem dX5_isSame_221 : decode cX5_isSame 221 = .ok (.aload_n 1, 1) := by decide +kernel
theorem dX5_isSame_222 : decode cX5_isSame 222 = .ok (.iload 5, 2) := by decide +kernel
theorem dX5_isSame_224 : decode cX5_isSame 224 = .ok (.iload 9, 2) := by decide +kernel
theorem dX5_isSame_226 : decode cX5_isSame 226 = .ok (.invokevirtual 94, 3) := by decide +kernel
theorem dX5_isSame_229 : decode cX5_isSame 229 = .ok (.aload 8, 2) := by decide +kernel
theorem dX5_isSame_231 : decode cX5_isSame 231 = .ok (.iload 9, 2) := by decide +kernel
theorem dX5_isSame_233 : decode cX5_isSame 233 = .ok (.iaload, 1) := by decide +kernel
theorem dX5_isSame_234 : decode cX5_isSame 234 = .ok (.if_icmp .eq 5, 3) := by decide +kernel
theorem dX5_isSame_237 : decode cX5_isSame 237 = .ok (.iconst 0, 1) := by decide +kernel
theorem dX5_isSame_238 : decode cX5_isSame 238 = .ok (.ireturn, 1) := by decide +kernel
theorem dX5_isSame_239 : decode cX5_isSame 239 = .ok (.iinc 9 1, 3) := by decide +kernel
theorem dX5_isSame_242 : decode cX5_isSame 242 = .ok (.goto (-28), 3) := by decide +kernel
theorem dX5_isSame_245 : decode cX5_isSame 245 = .ok (.iload_n 2, 1) := by decide +kernel
theorem dX5_isSame_246 : decode cX5_isSame 246 = .ok (.aload 8, 2) := by decide +kernel
theorem dX5_isSame_248 : decode cX5_isSame 248 = .ok (.iconst 1, 1) := by decide +kernel
theorem dX5_isSame_249 : decode cX5_isSame 249 = .ok (.iaload, 1) := by decide +kernel
theorem dX5_isSame_250 : decode cX5_isSame 250 = .ok (.iadd, 1) := by decide +kernel
theorem dX5_isSame_251 : decode cX5_isSame 251 = .ok (.istore_n 2, 1) := by decide +kernel
theorem dX5_isSame_252 : decode cX5_isSame 252 = .ok (.iload_n 3, 1) := by decide +kernel
theorem dX5_isSame_253 : decode cX5_isSame 253 = .ok (.aload 8, 2) := by decide +kernel
theorem dX5_isSame_255 : decode cX5_isSame 255 = .ok (.iconst 3, 1) := by decide +kernel
theorem dX5_isSame_256 : decode cX5_isSame 256 = .ok (.iaload, 1) := by decide +kernel
theorem dX5_isSame_257 : decode cX5_isSame 257 = .ok (.iadd, 1) := by decide +kernel
theorem dX5_isSame_258 : decode cX5_isSame 258 = .ok (.istore_n 3, 1) := by decide +kernel
theorem dX5_isSame_259 : decode cX5_isSame 259 = .ok (.iinc 5 1, 3) := by decide +kernel
theorem dX5_isSame_262 : decode cX5_isSame 262 = .ok (.goto (-252), 3) := by decide +kernel
theorem dX5_isSame_265 : decode cX5_isSame 265 = .ok (.iconst 0, 1) := by decide +kernel
theorem dX5_isSame_266 : decode cX5_isSame 266 = .ok (.istore 5, 2) := by decide +kernel
theorem dX5_isSame_268 : decode cX5_isSame 268 = .ok (.iload 5, 2) := by decide +kernel
theorem dX5_isSame_270 : decode cX5_isSame 270 = .ok (.iconst 3, 1) := by decide +kernel
theorem dX5_isSame_271 : decode cX5_isSame 271 = .ok (.if_icmp .ge 181, 3) := by decide +kernel
theorem dX5_isSame_274 : decode cX5_isSame 274 = .ok (.iconst 0, 1) := by decide +kernel
theorem dX5_isSame_275 : decode cX5_isSame 275 = .ok (.istore 6, 2) := by decide +kernel
theorem dX5_isSame_277 : decode cX5_isSame 277 = .ok (.aload_n 0, 1) := by decide +kernel
theorem dX5_isSame_278 : decode cX5_isSame 278 = .ok (.getfield 9, 3) := by decide +kernel
theorem dX5_isSame_281 : decode cX5_isSame 281 = .ok (.astore 7, 2) := by decide +kernel
theorem dX5_isSame_283 : decode cX5_isSame 283 = .ok (.aload 7, 2) := by decide +kernel
theorem dX5_isSame_285 : decode cX5_isSame 285 = .ok (.arraylength, 1) := by decide +kernel
theorem dX5_isSame_286 : decode cX5_isSame 286 = .ok (.istore 8, 2) := by decide +kernel
theorem dX5_isSame_288 : decode cX5_isSame 288 = .ok (.iconst 0, 1) := by decide +kernel
theorem dX5_isSame_289 : decode cX5_isSame 289 = .ok (.istore 9, 2) := by decide +kernel
theorem dX5_isSame_291 : decode cX5_isSame 291 = .ok (.iload 9, 2) := by decide +kernel
theorem dX5_isSame_293 : decode cX5_isSame 293 = .ok (.iload 8, 2) := by decide +kernel
theorem dX5_isSame_295 : decode cX5_isSame 295 = .ok (.if_icmp .ge 44, 3) := by decide +kernel
theorem dX5_isSame_298 : decode cX5_isSame 298 = .ok (.aload 7, 2) := by decide +kernel
theorem dX5_isSame_300 : decode cX5_isSame 300 = .ok (.iload 9, 2) := by decide +kernel
theorem dX5_isSame_302 : decode cX5_isSame 302 = .ok (.aaload, 1) := by decide +kernel
theorem dX5_isSame_303 : decode cX5_isSame 303 = .ok (.astore 10, 2) := by decide +kernel
theorem dX5_isSame_305 : decode cX5_isSame 305 = .ok (.iload 6, 2) := by decide +kernel
theorem dX5_isSame_307 : decode cX5_isSame 307 = .ok (.aload 10, 2) := by decide +kernel
theorem dX5_isSame_309 : decode cX5_isSame 309 = .ok (.getfield 33, 3) := by decide +kernel
theorem dX5_isSame_312 : decode cX5_isSame 312 = .ok (.iload 5, 2) := by decide +kernel
theorem dX5_isSame_314 : decode cX5_isSame 314 = .ok (.if_icmp .ne 15, 3) := by decide +kernel
theorem dX5_isSame_317 : decode cX5_isSame 317 = .ok (.aload 10, 2) := by decide +kernel
theorem dX5_isSame_319 : decode cX5_isSame 319 = .ok (.getfield 36, 3) := by decide +kernel
theorem dX5_isSame_322 : decode cX5_isSame 322 = .ok (.ifCond .eq 7, 3) := by decide +kernel
theorem dX5_isSame_325 : decode cX5_isSame 325 = .ok (.iconst 1, 1) := by decide +kernel
theorem dX5_isSame_326 : decode cX5_isSame 326 = .ok (.goto 4, 3) := by decide +kernel
theorem dX5_isSame_329 : decode cX5_isSame 329 = .ok (.iconst 0, 1) := by decide +kernel
theorem dX5_isSame_330 : decode cX5_isSame 330 = .ok (.iadd, 1) := by decide +kernel
theorem dX5_isSame_331 : decode cX5_isSame 331 = .ok (.istore 6, 2) := by decide +kernel
theorem dX5_isSame_333 : decode cX5_isSame 333 = .ok (.iinc 9 1, 3) := by decide +kernel
theorem dX5_isSame_336 : decode cX5_isSame 336 = .ok (.goto (-45), 3) := by decide +kernel
theorem dX5_isSame_339 : decode cX5_isSame 339 = .ok (.bipush 6, 2) := by decide +kernel
theorem dX5_isSame_341 : decode cX5_isSame 341 = .ok (.newarray .int, 2) := by decide +kernel
theorem dX5_isSame_343 : decode cX5_isSame 343 = .ok (.dup, 1) := by decide +kernel
theorem dX5_isSame_344 : decode cX5_isSame 344 = .ok (.iconst 0, 1) := by decide +kernel
theorem dX5_isSame_345 : decode cX5_isSame 345 = .ok (.aload_n 0, 1) := by decide +kernel
theorem dX5_isSame_346 : decode cX5_isSame 346 = .ok (.getfield 17, 3) := by decide +kernel
theorem dX5_isSame_349 : decode cX5_isSame 349 = .ok (.iload 5, 2) := by decide +kernel
theorem dX5_isSame_351 : decode cX5_isSame 351 = .ok (.aaload, 1) := by decide +kernel
theorem dX5_isSame_352 : decode cX5_isSame 352 = .ok (.iconst 0, 1) := by decide +kernel
theorem dX5_isSame_353 : decode cX5_isSame 353 = .ok (.iaload, 1) := by decide +kernel
theorem dX5_isSame_354 : decode cX5_isSame 354 = .ok (.iastore, 1) := by decide +kernel
theorem dX5_isSame_355 : decode cX5_isSame 355 = .ok (.dup, 1) := by decide +kernel
theorem dX5_isSame_356 : decode cX5_isSame 356 = .ok (.iconst 1, 1) := by decide +kernel
theorem dX5_isSame_357 : decode cX5_isSame 357 = .ok (.aload_n 0, 1) := by decide +kernel
theorem dX5_isSame_358 : decode cX5_isSame 358 = .ok (.iload 5, 2) := by decide +kernel
theorem dX5_isSame_360 : decode cX5_isSame 360 = .ok (.invokevirtual 97, 3) := by decide +kernel
theorem dX5_isSame_363 : decode cX5_isSame 363 = .ok (.iastore, 1) := by decide +kernel
theorem dX5_isSame_364 : decode cX5_isSame 364 = .ok (.dup, 1) := by decide +kernel
theorem dX5_isSame_365 : decode cX5_isSame 365 = .ok (.iconst 2, 1) := by decide +kernel
theorem dX5_isSame_366 : decode cX5_isSame 366 = .ok (.aload_n 0, 1) := by decide +kernel
theorem dX5_isSame_367 : decode cX5_isSame 367 = .ok (.iload 5, 2) := by decide +kernel
theorem dX5_isSame_369 : decode cX5_isSame 369 = .ok (.invokevirtual 55, 3) := by decide +kernel
theorem dX5_isSame_372 : decode cX5_isSame 372 = .ok (.ifCond .eq 7, 3) := by decide +kernel
theorem dX5_isSame_375 : decode cX5_isSame 375 = .ok (.iconst 1, 1) := by decide +kernel
theorem dX5_isSame_376 : decode cX5_isSame 376 = .ok (.goto 4, 3) := by decide +kernel
theorem dX5_isSame_379 : decode cX5_isSame 379 = .ok (.iconst 0, 1) := by decide +kernel
theorem dX5_isSame_380 : decode cX5_isSame 380 = .ok (.iastore, 1) := by decide +kernel
theorem dX5_isSame_381 : decode cX5_isSame 381 = .ok (.dup, 1) := by decide +kernel
theorem dX5_isSame_382 : decode cX5_isSame 382 = .ok (.iconst 3, 1) := by decide +kernel
theorem dX5_isSame_383 : decode cX5_isSame 383 = .ok (.iload 6, 2) := by decide +kernel
theorem dX5_isSame_385 : decode cX5_isSame 385 = .ok (.iastore, 1) := by decide +kernel
theorem dX5_isSame_386 : decode cX5_isSame 386 = .ok (.dup, 1) := by decide +kernel
theorem dX5_isSame_387 : decode cX5_isSame 387 = .ok (.iconst 4, 1) := by decide +kernel
theorem dX5_isSame_388 : decode cX5_isSame 388 = .ok (.aload_n 0, 1) := by decide +kernel
theorem dX5_isSame_389 : decode cX5_isSame 389 = .ok (.getfield 17, 3) := by decide +kernel
theorem dX5_isSame_392 : decode cX5_isSame 392 = .ok (.iload 5, 2) := by decide +kernel
theorem dX5_isSame_394 : decode cX5_isSame 394 = .ok (.aaload, 1) := by decide +kernel
theorem dX5_isSame_395 : decode cX5_isSame 395 = .ok (.iconst 1, 1) := by decide +kernel
theorem dX5_isSame_396 : decode cX5_isSame 396 = .ok (.iaload, 1) := by decide +kernel
theorem dX5_isSame_397 : decode cX5_isSame 397 = .ok (.iastore, 1) := by decide +kernel
theorem dX5_isSame_398 : decode cX5_isSame 398 = .ok (.dup, 1) := by decide +kernel
theorem dX5_isSame_399 : decode cX5_isSame 399 = .ok (.iconst 5, 1) := by decide +kernel
theorem dX5_isSame_400 : decode cX5_isSame 400 = .ok (.aload_n 0, 1) := by decide +kernel
theorem dX5_isSame_401 : decode cX5_isSame 401 = .ok (.getfield 17, 3) := by decide +kernel
theorem dX5_isSame_404 : decode cX5_isSame 404 = .ok (.iload 5, 2) := by decide +kernel
theorem dX5_isSame_406 : decode cX5_isSame 406 = .ok (.aaload, 1) := by decide +kernel
theorem dX5_isSame_407 : decode cX5_isSame 407 = .ok (.iconst 2, 1) := by decide +kernel
theorem dX5_isSame_408 : decode cX5_isSame 408 = .ok (.iaload, 1) := by decide +kernel
theorem dX5_isSame_409 : decode cX5_isSame 409 = .ok (.iastore, 1) := by decide +kernel
theorem dX5_isSame_410 : decode cX5_isSame 410 = .ok (.astore 7, 2) := by decide +kernel
theorem dX5_isSame_412 : decode cX5_isSame 412 = .ok (.iconst 0, 1) := by decide +kernel
theorem dX5_isSame_413 : decode cX5_isSame 413 = .ok (.istore 8, 2) := by decide +kernel
theorem dX5_isSame_415 : decode cX5_isSame 415 = .ok (.iload 8, 2) := by decide +kernel
theorem dX5_isSame_417 : decode cX5_isSame 417 = .ok (.bipush 6, 2) := by decide +kernel
theorem dX5_isSame_419 : decode cX5_isSame 419 = .ok (.if_icmp .ge 27, 3) := by decide +kernel
theorem dX5_isSame_422 : decode cX5_isSame 422 = .ok (.aload_n 1, 1) := by decide +kernel
theorem dX5_isSame_423 : decode cX5_isSame 423 = .ok (.iload 5, 2) := by decide +kernel
theorem dX5_isSame_425 : decode cX5_isSame 425 = .ok (.iload 8, 2) := by decide +kernel
theorem dX5_isSame_427 : decode cX5_isSame 427 = .ok (.invokevirtual 101, 3) := by decide +kernel
theorem dX5_isSame_430 : decode cX5_isSame 430 = .ok (.aload 7, 2) := by decide +kernel
theorem dX5_isSame_432 : decode cX5_isSame 432 = .ok (.iload 8, 2) := by decide +kernel
theorem dX5_isSame_434 : decode cX5_isSame 434 = .ok (.iaload, 1) := by decide +kernel
theorem dX5_isSame_435 : decode cX5_isSame 435 = .ok (.if_icmp .eq 5, 3) := by decide +kernel
theorem dX5_isSame_438 : decode cX5_isSame 438 = .ok (.iconst 0, 1) := by decide +kernel
theorem dX5_isSame_439 : decode cX5_isSame 439 = .ok (.ireturn, 1) := by decide +kernel
theorem dX5_isSame_440 : decode cX5_isSame 440 = .ok (.iinc 8 1, 3) := by decide +kernel
theorem dX5_isSame_443 : decode cX5_isSame 443 = .ok (.goto (-28), 3) := by decide +kernel
theorem dX5_isSame_446 : decode cX5_isSame 446 = .ok (.iinc 5 1, 3) := by decide +kernel
theorem dX5_isSame_449 : decode cX5_isSame 449 = .ok (.goto (-181), 3) := by decide +kernel
theorem dX5_isSame_452 : decode cX5_isSame 452 = .ok (.bipush 7, 2) := by decide +kernel
theorem dX5_isSame_454 : decode cX5_isSame 454 = .ok (.newarray .int, 2) := by decide +kernel
theorem dX5_isSame_456 : decode cX5_isSame 456 = .ok (.dup, 1) := by decide +kernel
theorem dX5_isSame_457 : decode cX5_isSame 457 = .ok (.iconst 0, 1) := by decide +kernel
theorem dX5_isSame_458 : decode cX5_isSame 458 = .ok (.aload_n 0, 1) := by decide +kernel
theorem dX5_isSame_459 : decode cX5_isSame 459 = .ok (.getfield 22, 3) := by decide +kernel
theorem dX5_isSame_462 : decode cX5_isSame 462 = .ok (.iastore, 1) := by decide +kernel
theorem dX5_isSame_463 : decode cX5_isSame 463 = .ok (.dup, 1) := by decide +kernel
theorem dX5_isSame_464 : decode cX5_isSame 464 = .ok (.iconst 1, 1) := by decide +kernel
theorem dX5_isSame_465 : decode cX5_isSame 465 = .ok (.aload_n 0, 1) := by decide +kernel
theorem dX5_isSame_466 : decode cX5_isSame 466 = .ok (.getfield 9, 3) := by decide +kernel
theorem dX5_isSame_469 : decode cX5_isSame 469 = .ok (.arraylength, 1) := by decide +kernel
theorem dX5_isSame_470 : decode cX5_isSame 470 = .ok (.iastore, 1) := by decide +kernel
theorem dX5_isSame_471 : decode cX5_isSame 471 = .ok (.dup, 1) := by decide +kernel
theorem dX5_isSame_472 : decode cX5_isSame 472 = .ok (.iconst 2, 1) := by decide +kernel
theorem dX5_isSame_473 : decode cX5_isSame 473 = .ok (.iload_n 2, 1) := by decide +kernel
theorem dX5_isSame_474 : decode cX5_isSame 474 = .ok (.iastore, 1) := by decide +kernel
theorem dX5_isSame_475 : decode cX5_isSame 475 = .ok (.dup, 1) := by decide +kernel
theorem dX5_isSame_476 : decode cX5_isSame 476 = .ok (.iconst 3, 1) := by decide +kernel
theorem dX5_isSame_477 : decode cX5_isSame 477 = .ok (.iload_n 3, 1) := by decide +kernel
theorem dX5_isSame_478 : decode cX5_isSame 478 = .ok (.iastore, 1) := by decide +kernel
theorem dX5_isSame_479 : decode cX5_isSame 479 = .ok (.dup, 1) := by decide +kernel
theorem dX5_isSame_480 : decode cX5_isSame 480 = .ok (.iconst 4, 1) := by decide +kernel
theorem dX5_isSame_481 : decode cX5_isSame 481 = .ok (.iload 4, 2) := by decide +kernel
theorem dX5_isSame_483 : decode cX5_isSame 483 = .ok (.iastore, 1) := by decide +kernel
theorem dX5_isSame_484 : decode cX5_isSame 484 = .ok (.dup, 1) := by decide +kernel
theorem dX5_isSame_485 : decode cX5_isSame 485 = .ok (.iconst 5, 1) := by decide +kernel
theorem dX5_isSame_486 : decode cX5_isSame 486 = .ok (.aload_n 0, 1) := by decide +kernel
theorem dX5_isSame_487 : decode cX5_isSame 487 = .ok (.getfield 26, 3) := by decide +kernel
theorem dX5_isSame_490 : decode cX5_isSame 490 = .ok (.iastore, 1) := by decide +kernel
theorem dX5_isSame_491 : decode cX5_isSame 491 = .ok (.dup, 1) := by decide +kernel
theorem dX5_isSame_492 : decode cX5_isSame 492 = .ok (.bipush 6, 2) := by decide +kernel
theorem dX5_isSame_494 : decode cX5_isSame 494 = .ok (.aload_n 0, 1) := by decide +kernel
theorem dX5_isSame_495 : decode cX5_isSame 495 = .ok (.iconst 0, 1) := by decide +kernel
theorem dX5_isSame_496 : decode cX5_isSame 496 = .ok (.invokevirtual 97, 3) := by decide +kernel
theorem dX5_isSame_499 : decode cX5_isSame 499 = .ok (.aload_n 0, 1) := by decide +kernel
theorem dX5_isSame_500 : decode cX5_isSame 500 = .ok (.iconst 1, 1) := by decide +kernel
theorem dX5_isSame_501 : decode cX5_isSame 501 = .ok (.invokevirtual 97, 3) := by decide +kernel
theorem dX5_isSame_504 : decode cX5_isSame 504 = .ok (.iadd, 1) := by decide +kernel
theorem dX5_isSame_505 : decode cX5_isSame 505 = .ok (.aload_n 0, 1) := by decide +kernel
theorem dX5_isSame_506 : decode cX5_isSame 506 = .ok (.iconst 2, 1) := by decide +kernel
theorem dX5_isSame_507 : decode cX5_isSame 507 = .ok (.invokevirtual 97, 3) := by decide +kernel
theorem dX5_isSame_510 : decode cX5_isSame 510 = .ok (.iadd, 1) := by decide +kernel
theorem dX5_isSame_511 : decode cX5_isSame 511 = .ok (.iastore, 1) := by decide +kernel
theorem dX5_isSame_512 : decode cX5_isSame 512 = .ok (.astore 5, 2) := by decide +kernel
theorem dX5_isSame_514 : decode cX5_isSame 514 = .ok (.iconst 0, 1) := by decide +kernel
theorem dX5_isSame_515 : decode cX5_isSame 515 = .ok (.istore 6, 2) := by decide +kernel
theorem dX5_isSame_517 : decode cX5_isSame 517 = .ok (.iload 6, 2) := by decide +kernel
theorem dX5_isSame_519 : decode cX5_isSame 519 = .ok (.bipush 7, 2) := by decide +kernel
theorem dX5_isSame_521 : decode cX5_isSame 521 = .ok (.if_icmp .ge 25, 3) := by decide +kernel
theorem dX5_isSame_524 : decode cX5_isSame 524 = .ok (.aload_n 1, 1) := by decide +kernel
theorem dX5_isSame_525 : decode cX5_isSame 525 = .ok (.iload 6, 2) := by decide +kernel
theorem dX5_isSame_527 : decode cX5_isSame 527 = .ok (.invokevirtual 103, 3) := by decide +kernel
theorem dX5_isSame_530 : decode cX5_isSame 530 = .ok (.aload 5, 2) := by decide +kernel
theorem dX5_isSame_532 : decode cX5_isSame 532 = .ok (.iload 6, 2) := by decide +kernel
theorem dX5_isSame_534 : decode cX5_isSame 534 = .ok (.iaload, 1) := by decide +kernel
theorem dX5_isSame_535 : decode cX5_isSame 535 = .ok (.if_icmp .eq 5, 3) := by decide +kernel
theorem dX5_isSame_538 : decode cX5_isSame 538 = .ok (.iconst 0, 1) := by decide +kernel
theorem dX5_isSame_539 : decode cX5_isSame 539 = .ok (.ireturn, 1) := by decide +kernel
theorem dX5_isSame_540 : decode cX5_isSame 540 = .ok (.iinc 6 1, 3) := by decide +kernel
theorem dX5_isSame_543 : decode cX5_isSame 543 = .ok (.goto (-26), 3) := by decide +kernel
theorem dX5_isSame_546 : decode cX5_isSame 546 = .ok (.aload_n 1, 1) := by decide +kernel
theorem dX5_isSame_547 : decode cX5_isSame 547 = .ok (.invokevirtual 106, 3) := by decide +kernel
theorem dX5_isSame_550 : decode cX5_isSame 550 = .ok (.aload_n 0, 1) := by decide +kernel
theorem dX5_isSame_551 : decode cX5_isSame 551 = .ok (.getfield 9, 3) := by decide +kernel
theorem dX5_isSame_554 : decode cX5_isSame 554 = .ok (.arraylength, 1) := by decide +kernel
theorem dX5_isSame_555 : decode cX5_isSame 555 = .ok (.ifCond .ne 7, 3) := by decide +kernel
theorem dX5_isSame_558 : decode cX5_isSame 558 = .ok (.dconst 0, 1) := by decide +kernel
theorem dX5_isSame_559 : decode cX5_isSame 559 = .ok (.goto 16, 3) := by decide +kernel
theorem dX5_isSame_562 : decode cX5_isSame 562 = .ok (.iload 4, 2) := by decide +kernel
theorem dX5_isSame_564 : decode cX5_isSame 564 = .ok (.i2d, 1) := by decide +kernel
theorem dX5_isSame_565 : decode cX5_isSame 565 = .ok (.bipush 24, 2) := by decide +kernel
theorem dX5_isSame_567 : decode cX5_isSame 567 = .ok (.aload_n 0, 1) := by decide +kernel
theorem dX5_isSame_568 : decode cX5_isSame 568 = .ok (.getfield 9, 3) := by decide +kernel
theorem dX5_isSame_571 : decode cX5_isSame 571 = .ok (.arraylength, 1) := by decide +kernel
theorem dX5_isSame_572 : decode cX5_isSame 572 = .ok (.imul, 1) := by decide +kernel
theorem dX5_isSame_573 : decode cX5_isSame 573 = .ok (.i2d, 1) := by decide +kernel
theorem dX5_isSame_574 : decode cX5_isSame 574 = .ok (.ddiv, 1) := by decide +kernel
theorem dX5_isSame_575 : decode cX5_isSame 575 = .ok (.dcmp .l, 1) := by decide +kernel
theorem dX5_isSame_576 : decode cX5_isSame 576 = .ok (.ifCond .ne 7, 3) := by decide +kernel
theorem dX5_isSame_579 : decode cX5_isSame 579 = .ok (.iconst 1, 1) := by decide +kernel
theorem dX5_isSame_580 : decode cX5_isSame 580 = .ok (.goto 4, 3) := by decide +kernel
theorem dX5_isSame_583 : decode cX5_isSame 583 = .ok (.iconst 0, 1) := by decide +kernel
theorem dX5_isSame_584 : decode cX5_isSame 584 = .ok (.ireturn, 1) := by decide +kernel
theorem dJ9_abs_0f7a4_0 : decode cJ9_abs_0f7a4 0 = .ok (.iload_n 0, 1) := by decide +kernel
theorem dJ9_abs_0f7a4_1 : decode cJ9_abs_0f7a4 1 = .ok (.ifCond .ge 8, 3) := by decide +kernel
theorem dJ9_abs_0f7a4_4 : decode cJ9_abs_0f7a4 4 = .ok (.iload_n 0, 1) := by decide +kernel
theorem dJ9_abs_0f7a4_5 : decode cJ9_abs_0f7a4 5 = .ok (.ineg, 1) := by decide +kernel
theorem dJ9_abs_0f7a4_6 : decode cJ9_abs_0f7a4 6 = .ok (.goto 4, 3) := by decide +kernel
theorem dJ9_abs_0f7a4_9 : decode cJ9_abs_0f7a4 9 = .ok (.iload_n 0, 1) := by decide +kernel
theorem dJ9_abs_0f7a4_10 : decode cJ9_abs_0f7a4 10 = .ok (.ireturn, 1) := by decide +kernel
theorem dJ9_max_7cf53_0 : decode cJ9_max_7cf53 0 = .ok (.iload_n 0, 1) := by decide +kernel
theorem dJ9_max_7cf53_1 : decode cJ9_max_7cf53 1 = .ok (.iload_n 1, 1) := by decide +kernel
theorem dJ9_max_7cf53_2 : decode cJ9_max_7cf53 2 = .ok (.if_icmp .lt 7, 3) := by decide +kernel
theorem dJ9_max_7cf53_5 : decode cJ9_max_7cf53 5 = .ok (.iload_n 0, 1) := by decide +kernel
theorem dJ9_max_7cf53_6 : decode cJ9_max_7cf53 6 = .ok (.goto 4, 3) := by decide +kernel
theorem dJ9_max_7cf53_9 : decode cJ9_max_7cf53 9 = .ok (.iload_n 1, 1) := by decide +kernel
theorem dJ9_max_7cf53_10 : decode cJ9_max_7cf53 10 = .ok (.ireturn, 1) := by decide +kernel
theorem dJ9_min_7cf53_0 : decode cJ9_min_7cf53 0 = .ok (.iload_n 0, 1) := by decide +kernel
theorem dJ9_min_7cf53_1 : decode cJ9_min_7cf53 1 = .ok (.iload_n 1, 1) := by decide +kernel
theorem dJ9_min_7cf53_2 : decode cJ9_min_7cf53 2 = .ok (.if_icmp .gt 7, 3) := by decide +kernel
theorem dJ9_min_7cf53_5 : decode cJ9_min_7cf53 5 = .ok (.iload_n 0, 1) := by decide +kernel
theorem dJ9_min_7cf53_6 : decode cJ9_min_7cf53 6 = .ok (.goto 4, 3) := by decide +kernel
theorem dJ9_min_7cf53_9 : decode cJ9_min_7cf53 9 = .ok (.iload_n 1, 1) := by decide +kernel
theorem dJ9_min_7cf53_10 : decode cJ9_min_7cf53 10 = .ok (.ireturn, 1) := by decide +kernel
theorem dJxa1e45_init_da8c8_0 : decode cJxa1e45_init_da8c8 0 = .ok (.aload_n 0, 1) := by decide +kernel
theorem dJxa1e45_init_da8c8_1 : decode cJxa1e45_init_da8c8 1 = .ok (.invokespecial 1, 3) := by decide +kernel
theorem dJxa1e45_init_da8c8_4 : decode cJxa1e45_init_da8c8 4 = .ok (.return_, 1) := by decide +kernel
theorem dJxc12de_init_da8c8_0 : decode cJxc12de_init_da8c8 0 = .ok (.aload_n 0, 1) := by decide +kernel
theorem dJxc12de_init_da8c8_1 : decode cJxc12de_init_da8c8 1 = .ok (.invokespecial 1, 3) := by decide +kernel
theorem dJxc12de_init_da8c8_4 : decode cJxc12de_init_da8c8 4 = .ok (.aload_n 0, 1) := by decide +kernel
theorem dJxc12de_init_da8c8_5 : decode cJxc12de_init_da8c8 5 = .ok (.iconst 0, 1) := by decide +kernel
theorem dJxc12de_init_da8c8_6 : decode cJxc12de_init_da8c8 6 = .ok (.putfield 7, 3) := by decide +kernel
theorem dJxc12de_init_da8c8_9 : decode cJxc12de_init_da8c8 9 = .ok (.return_, 1) := by decide +kernel
theorem dJx4a65c_init_da8c8_0 : decode cJx4a65c_init_da8c8 0 = .ok (.aload_n 0, 1) := by decide +kernel
theorem dJx4a65c_init_da8c8_1 : decode cJx4a65c_init_da8c8 1 = .ok (.invokespecial 1, 3) := by decide +kernel
theorem dJx4a65c_init_da8c8_4 : decode cJx4a65c_init_da8c8 4 = .ok (.aload_n 0, 1) := by decide +kernel
theorem dJx4a65c_init_da8c8_5 : decode cJx4a65c_init_da8c8 5 = .ok (.getstatic 39, 3) := by decide +kernel
theorem dJx4a65c_init_da8c8_8 : decode cJx4a65c_init_da8c8 8 = .ok (.putfield 9, 3) := by decide +kernel
theorem dJx4a65c_init_da8c8_11 : decode cJx4a65c_init_da8c8 11 = .ok (.return_, 1) := by decide +kernel
theorem dJx4a65c_grow_92f84_0 : decode cJx4a65c_grow_92f84 0 = .ok (.aload_n 0, 1) := by decide +kernel
theorem dJx4a65c_grow_92f84_1 : decode cJx4a65c_grow_92f84 1 = .ok (.getfield 9, 3) := by decide +kernel
theorem dJx4a65c_grow_92f84_4 : decode cJx4a65c_grow_92f84 4 = .ok (.arraylength, 1) := by decide +kernel
theorem dJx4a65c_grow_92f84_5 : decode cJx4a65c_grow_92f84 5 = .ok (.istore_n 2, 1) := by decide +kernel
theorem dJx4a65c_grow_92f84_6 : decode cJx4a65c_grow_92f84 6 = .ok (.iload_n 2, 1) := by decide +kernel
theorem dJx4a65c_grow_92f84_7 : decode cJx4a65c_grow_92f84 7 = .ok (.ifCond .gt 13, 3) := by decide +kernel
theorem dJx4a65c_grow_92f84_10 : decode cJx4a65c_grow_92f84 10 = .ok (.aload_n 0, 1) := by decide +kernel
theorem dJx4a65c_grow_92f84_11 : decode cJx4a65c_grow_92f84 11 = .ok (.getfield 9, 3) := by decide +kernel
theorem dJx4a65c_grow_92f84_14 : decode cJx4a65c_grow_92f84 14 = .ok (.getstatic 39, 3) := by decide +kernel
theorem dJx4a65c_grow_92f84_17 : decode cJx4a65c_grow_92f84 17 = .ok (.if_acmp .eq 28, 3) := by decide +kernel
theorem dJx4a65c_grow_92f84_20 : decode cJx4a65c_grow_92f84 20 = .ok (.iload_n 2, 1) := by decide +kernel
theorem dJx4a65c_grow_92f84_21 : decode cJx4a65c_grow_92f84 21 = .ok (.iload_n 1, 1) := by decide +kernel
theorem dJx4a65c_grow_92f84_22 : decode cJx4a65c_grow_92f84 22 = .ok (.iload_n 2, 1) := by decide +kernel
theorem dJx4a65c_grow_92f84_23 : decode cJx4a65c_grow_92f84 23 = .ok (.isub, 1) := by decide +kernel
theorem dJx4a65c_grow_92f84_24 : decode cJx4a65c_grow_92f84 24 = .ok (.iload_n 2, 1) := by decide +kernel
theorem dJx4a65c_grow_92f84_25 : decode cJx4a65c_grow_92f84 25 = .ok (.iconst 1, 1) := by decide +kernel
theorem dJx4a65c_grow_92f84_26 : decode cJx4a65c_grow_92f84 26 = .ok (.ishr, 1) := by decide +kernel
theorem dJx4a65c_grow_92f84_27 : decode cJx4a65c_grow_92f84 27 = .ok (.invokestatic 73, 3) := by decide +kernel
theorem dJx4a65c_grow_92f84_30 : decode cJx4a65c_grow_92f84 30 = .ok (.istore_n 3, 1) := by decide +kernel
theorem dJx4a65c_grow_92f84_31 : decode cJx4a65c_grow_92f84 31 = .ok (.aload_n 0, 1) := by decide +kernel
theorem dJx4a65c_grow_92f84_32 : decode cJx4a65c_grow_92f84 32 = .ok (.aload_n 0, 1) := by decide +kernel
theorem dJx4a65c_grow_92f84_33 : decode cJx4a65c_grow_92f84 33 = .ok (.getfield 9, 3) := by decide +kernel
theorem dJx4a65c_grow_92f84_36 : decode cJx4a65c_grow_92f84 36 = .ok (.iload_n 3, 1) := by decide +kernel
theorem dJx4a65c_grow_92f84_37 : decode cJx4a65c_grow_92f84 37 = .ok (.invokestatic 66, 3) := by decide +kernel
theorem dJx4a65c_grow_92f84_40 : decode cJx4a65c_grow_92f84 40 = .ok (.dup_x1, 1) := by decide +kernel
theorem dJx4a65c_grow_92f84_41 : decode cJx4a65c_grow_92f84 41 = .ok (.putfield 9, 3) := by decide +kernel
theorem dJx4a65c_grow_92f84_44 : decode cJx4a65c_grow_92f84 44 = .ok (.areturn, 1) := by decide +kernel
theorem dJx4a65c_grow_92f84_45 : decode cJx4a65c_grow_92f84 45 = .ok (.aload_n 0, 1) := by decide +kernel
theorem dJx4a65c_grow_92f84_46 : decode cJx4a65c_grow_92f84 46 = .ok (.bipush 10, 2) := by decide +kernel
theorem dJx4a65c_grow_92f84_48 : decode cJx4a65c_grow_92f84 48 = .ok (.iload_n 1, 1) := by decide +kernel
theorem dJx4a65c_grow_92f84_49 : decode cJx4a65c_grow_92f84 49 = .ok (.invokestatic 79, 3) := by decide +kernel
theorem dJx4a65c_grow_92f84_52 : decode cJx4a65c_grow_92f84 52 = .ok (.anewarray 7, 3) := by decide +kernel
theorem dJx4a65c_grow_92f84_55 : decode cJx4a65c_grow_92f84 55 = .ok (.dup_x1, 1) := by decide +kernel
theorem dJx4a65c_grow_92f84_56 : decode cJx4a65c_grow_92f84 56 = .ok (.putfield 9, 3) := by decide +kernel
theorem dJx4a65c_grow_92f84_59 : decode cJx4a65c_grow_92f84 59 = .ok (.areturn, 1) := by decide +kernel
theorem dJx4a65c_grow_d5877_0 : decode cJx4a65c_grow_d5877 0 = .ok (.aload_n 0, 1) := by decide +kernel
theorem dJx4a65c_grow_d5877_1 : decode cJx4a65c_grow_d5877 1 = .ok (.aload_n 0, 1) := by decide +kernel
theorem dJx4a65c_grow_d5877_2 : decode cJx4a65c_grow_d5877 2 = .ok (.getfield 48, 3) := by decide +kernel
theorem dJx4a65c_grow_d5877_5 : decode cJx4a65c_grow_d5877 5 = .ok (.iconst 1, 1) := by decide +kernel
theorem dJx4a65c_grow_d5877_6 : decode cJx4a65c_grow_d5877 6 = .ok (.iadd, 1) := by decide +kernel
theorem dJx4a65c_grow_d5877_7 : decode cJx4a65c_grow_d5877 7 = .ok (.invokevirtual 69, 3) := by decide +kernel
theorem dJx4a65c_grow_d5877_10 : decode cJx4a65c_grow_d5877 10 = .ok (.areturn, 1) := by decide +kernel
theorem dJx4a65c_size_8abf5_0 : decode cJx4a65c_size_8abf5 0 = .ok (.aload_n 0, 1) := by decide +kernel
theorem dJx4a65c_size_8abf5_1 : decode cJx4a65c_size_8abf5 1 = .ok (.getfield 48, 3) := by decide +kernel
theorem dJx4a65c_size_8abf5_4 : decode cJx4a65c_size_8abf5 4 = .ok (.ireturn, 1) := by decide +kernel
theorem dJx4a65c_elementData_915e3_0 : decode cJx4a65c_elementData_915e3 0 = .ok (.aload_n 0, 1) := by decide +kernel
theorem dJx4a65c_elementData_915e3_1 : decode cJx4a65c_elementData_915e3 1 = .ok (.getfield 9, 3) := by decide +kernel
theorem dJx4a65c_elementData_915e3_4 : decode cJx4a65c_elementData_915e3 4 = .ok (.iload_n 1, 1) := by decide +kernel
theorem dJx4a65c_elementData_915e3_5 : decode cJx4a65c_elementData_915e3 5 = .ok (.aaload, 1) := by decide +kernel
theorem dJx4a65c_elementData_915e3_6 : decode cJx4a65c_elementData_915e3 6 = .ok (.areturn, 1) := by decide +kernel
theorem dJx4a65c_get_915e3_0 : decode cJx4a65c_get_915e3 0 = .ok (.iload_n 1, 1) := by decide +kernel
theorem dJx4a65c_get_915e3_1 : decode cJx4a65c_get_915e3 1 = .ok (.aload_n 0, 1) := by decide +kernel
theorem dJx4a65c_get_915e3_2 : decode cJx4a65c_get_915e3 2 = .ok (.getfield 48, 3) := by decide +kernel
theorem dJx4a65c_get_915e3_5 : decode cJx4a65c_get_915e3 5 = .ok (.invokestatic 118, 3) := by decide +kernel
theorem dJx4a65c_get_915e3_8 : decode cJx4a65c_get_915e3 8 = .ok (.pop, 1) := by decide +kernel
theorem dJx4a65c_get_915e3_9 : decode cJx4a65c_get_915e3 9 = .ok (.aload_n 0, 1) := by decide +kernel
theorem dJx4a65c_get_915e3_10 : decode cJx4a65c_get_915e3 10 = .ok (.iload_n 1, 1) := by decide +kernel
theorem dJx4a65c_get_915e3_11 : decode cJx4a65c_get_915e3 11 = .ok (.invokevirtual 123, 3) := by decide +kernel
theorem dJx4a65c_get_915e3_14 : decode cJx4a65c_get_915e3 14 = .ok (.areturn, 1) := by decide +kernel
theorem dJx4a65c_add_72be8_0 : decode cJx4a65c_add_72be8 0 = .ok (.iload_n 3, 1) := by decide +kernel
theorem dJx4a65c_add_72be8_1 : decode cJx4a65c_add_72be8 1 = .ok (.aload_n 2, 1) := by decide +kernel
theorem dJx4a65c_add_72be8_2 : decode cJx4a65c_add_72be8 2 = .ok (.arraylength, 1) := by decide +kernel
theorem dJx4a65c_add_72be8_3 : decode cJx4a65c_add_72be8 3 = .ok (.if_icmp .ne 8, 3) := by decide +kernel
theorem dJx4a65c_add_72be8_6 : decode cJx4a65c_add_72be8 6 = .ok (.aload_n 0, 1) := by decide +kernel
theorem dJx4a65c_add_72be8_7 : decode cJx4a65c_add_72be8 7 = .ok (.invokevirtual 129, 3) := by decide +kernel
theorem dJx4a65c_add_72be8_10 : decode cJx4a65c_add_72be8 10 = .ok (.astore_n 2, 1) := by decide +kernel
theorem dJx4a65c_add_72be8_11 : decode cJx4a65c_add_72be8 11 = .ok (.aload_n 2, 1) := by decide +kernel
theorem dJx4a65c_add_72be8_12 : decode cJx4a65c_add_72be8 12 = .ok (.iload_n 3, 1) := by decide +kernel
theorem dJx4a65c_add_72be8_13 : decode cJx4a65c_add_72be8 13 = .ok (.aload_n 1, 1) := by decide +kernel
theorem dJx4a65c_add_72be8_14 : decode cJx4a65c_add_72be8 14 = .ok (.aastore, 1) := by decide +kernel
theorem dJx4a65c_add_72be8_15 : decode cJx4a65c_add_72be8 15 = .ok (.aload_n 0, 1) := by decide +kernel
theorem dJx4a65c_add_72be8_16 : decode cJx4a65c_add_72be8 16 = .ok (.iload_n 3, 1) := by decide +kernel
theorem dJx4a65c_add_72be8_17 : decode cJx4a65c_add_72be8 17 = .ok (.iconst 1, 1) := by decide +kernel
theorem dJx4a65c_add_72be8_18 : decode cJx4a65c_add_72be8 18 = .ok (.iadd, 1) := by decide +kernel
theorem dJx4a65c_add_72be8_19 : decode cJx4a65c_add_72be8 19 = .ok (.putfield 48, 3) := by decide +kernel
theorem dJx4a65c_add_72be8_22 : decode cJx4a65c_add_72be8 22 = .ok (.return_, 1) := by decide +kernel
theorem dJx4a65c_add_9ea2d_0 : decode cJx4a65c_add_9ea2d 0 = .ok (.aload_n 0, 1) := by decide +kernel
theorem dJx4a65c_add_9ea2d_1 : decode cJx4a65c_add_9ea2d 1 = .ok (.dup, 1) := by decide +kernel
theorem dJx4a65c_add_9ea2d_2 : decode cJx4a65c_add_9ea2d 2 = .ok (.getfield 63, 3) := by decide +kernel
theorem dJx4a65c_add_9ea2d_5 : decode cJx4a65c_add_9ea2d 5 = .ok (.iconst 1, 1) := by decide +kernel
theorem dJx4a65c_add_9ea2d_6 : decode cJx4a65c_add_9ea2d 6 = .ok (.iadd, 1) := by decide +kernel
theorem dJx4a65c_add_9ea2d_7 : decode cJx4a65c_add_9ea2d 7 = .ok (.putfield 63, 3) := by decide +kernel
theorem dJx4a65c_add_9ea2d_10 : decode cJx4a65c_add_9ea2d 10 = .ok (.aload_n 0, 1) := by decide +kernel
theorem dJx4a65c_add_9ea2d_11 : decode cJx4a65c_add_9ea2d 11 = .ok (.aload_n 1, 1) := by decide +kernel
theorem dJx4a65c_add_9ea2d_12 : decode cJx4a65c_add_9ea2d 12 = .ok (.aload_n 0, 1) := by decide +kernel
theorem dJx4a65c_add_9ea2d_13 : decode cJx4a65c_add_9ea2d 13 = .ok (.getfield 9, 3) := by decide +kernel
theorem dJx4a65c_add_9ea2d_16 : decode cJx4a65c_add_9ea2d 16 = .ok (.aload_n 0, 1) := by decide +kernel
theorem dJx4a65c_add_9ea2d_17 : decode cJx4a65c_add_9ea2d 17 = .ok (.getfield 48, 3) := by decide +kernel
theorem dJx4a65c_add_9ea2d_20 : decode cJx4a65c_add_9ea2d 20 = .ok (.invokevirtual 131, 3) := by decide +kernel
theorem dJx4a65c_add_9ea2d_23 : decode cJx4a65c_add_9ea2d 23 = .ok (.iconst 1, 1) := by decide +kernel
theorem dJx4a65c_add_9ea2d_24 : decode cJx4a65c_add_9ea2d 24 = .ok (.ireturn, 1) := by decide +kernel
theorem dJ7_copyOf_1904c_0 : decode cJ7_copyOf_1904c 0 = .ok (.aload_n 0, 1) := by decide +kernel
theorem dJ7_copyOf_1904c_1 : decode cJ7_copyOf_1904c 1 = .ok (.iload_n 1, 1) := by decide +kernel
theorem dJ7_copyOf_1904c_2 : decode cJ7_copyOf_1904c 2 = .ok (.aload_n 0, 1) := by decide +kernel
theorem dJ7_copyOf_1904c_3 : decode cJ7_copyOf_1904c 3 = .ok (.invokevirtual 86, 3) := by decide +kernel
theorem dJ7_copyOf_1904c_6 : decode cJ7_copyOf_1904c 6 = .ok (.invokestatic 300, 3) := by decide +kernel
theorem dJ7_copyOf_1904c_9 : decode cJ7_copyOf_1904c 9 = .ok (.areturn, 1) := by decide +kernel
theorem dJ7_copyOf_6403c_0 : decode cJ7_copyOf_6403c 0 = .ok (.aload_n 2, 1) := by decide +kernel
theorem dJ7_copyOf_6403c_1 : decode cJ7_copyOf_6403c 1 = .ok (.ldc 110, 2) := by decide +kernel
theorem dJ7_copyOf_6403c_3 : decode cJ7_copyOf_6403c 3 = .ok (.if_acmp .ne 10, 3) := by decide +kernel
theorem dJ7_copyOf_6403c_6 : decode cJ7_copyOf_6403c 6 = .ok (.iload_n 1, 1) := by decide +kernel
theorem dJ7_copyOf_6403c_7 : decode cJ7_copyOf_6403c 7 = .ok (.anewarray 2, 3) := by decide +kernel
theorem dJ7_copyOf_6403c_10 : decode cJ7_copyOf_6403c 10 = .ok (.goto 14, 3) := by decide +kernel
theorem dJ7_copyOf_6403c_13 : decode cJ7_copyOf_6403c 13 = .ok (.aload_n 2, 1) := by decide +kernel
theorem dJ7_copyOf_6403c_14 : decode cJ7_copyOf_6403c 14 = .ok (.invokevirtual 90, 3) := by decide +kernel
theorem dJ7_copyOf_6403c_17 : decode cJ7_copyOf_6403c 17 = .ok (.iload_n 1, 1) := by decide +kernel
theorem dJ7_copyOf_6403c_18 : decode cJ7_copyOf_6403c 18 = .ok (.invokestatic 95, 3) := by decide +kernel
theorem dJ7_copyOf_6403c_21 : decode cJ7_copyOf_6403c 21 = .ok (.checkcast 110, 3) := by decide +kernel
theorem dJ7_copyOf_6403c_24 : decode cJ7_copyOf_6403c 24 = .ok (.astore_n 3, 1) := by decide +kernel
theorem dJ7_copyOf_6403c_25 : decode cJ7_copyOf_6403c 25 = .ok (.aload_n 0, 1) := by decide +kernel
theorem dJ7_copyOf_6403c_26 : decode cJ7_copyOf_6403c 26 = .ok (.iconst 0, 1) := by decide +kernel
theorem dJ7_copyOf_6403c_27 : decode cJ7_copyOf_6403c 27 = .ok (.aload_n 3, 1) := by decide +kernel
theorem dJ7_copyOf_6403c_28 : decode cJ7_copyOf_6403c 28 = .ok (.iconst 0, 1) := by decide +kernel
theorem dJ7_copyOf_6403c_29 : decode cJ7_copyOf_6403c 29 = .ok (.aload_n 0, 1) := by decide +kernel
theorem dJ7_copyOf_6403c_30 : decode cJ7_copyOf_6403c 30 = .ok (.arraylength, 1) := by decide +kernel
theorem dJ7_copyOf_6403c_31 : decode cJ7_copyOf_6403c 31 = .ok (.iload_n 1, 1) := by decide +kernel
theorem dJ7_copyOf_6403c_32 : decode cJ7_copyOf_6403c 32 = .ok (.invokestatic 304, 3) := by decide +kernel
theorem dJ7_copyOf_6403c_35 : decode cJ7_copyOf_6403c 35 = .ok (.invokestatic 150, 3) := by decide +kernel
theorem dJ7_copyOf_6403c_38 : decode cJ7_copyOf_6403c 38 = .ok (.aload_n 3, 1) := by decide +kernel
theorem dJ7_copyOf_6403c_39 : decode cJ7_copyOf_6403c 39 = .ok (.areturn, 1) := by decide +kernel
theorem dJ15_checkIndex_7cf53_0 : decode cJ15_checkIndex_7cf53 0 = .ok (.iload_n 0, 1) := by decide +kernel
theorem dJ15_checkIndex_7cf53_1 : decode cJ15_checkIndex_7cf53 1 = .ok (.iload_n 1, 1) := by decide +kernel
theorem dJ15_checkIndex_7cf53_2 : decode cJ15_checkIndex_7cf53 2 = .ok (.aconst_null, 1) := by decide +kernel
theorem dJ15_checkIndex_7cf53_3 : decode cJ15_checkIndex_7cf53 3 = .ok (.invokestatic 105, 3) := by decide +kernel
theorem dJ15_checkIndex_7cf53_6 : decode cJ15_checkIndex_7cf53 6 = .ok (.ireturn, 1) := by decide +kernel
theorem dJ8_newLength_cabcc_0 : decode cJ8_newLength_cabcc 0 = .ok (.iload_n 0, 1) := by decide +kernel
theorem dJ8_newLength_cabcc_1 : decode cJ8_newLength_cabcc 1 = .ok (.iload_n 1, 1) := by decide +kernel
theorem dJ8_newLength_cabcc_2 : decode cJ8_newLength_cabcc 2 = .ok (.iload_n 2, 1) := by decide +kernel
theorem dJ8_newLength_cabcc_3 : decode cJ8_newLength_cabcc 3 = .ok (.invokestatic 194, 3) := by decide +kernel
theorem dJ8_newLength_cabcc_6 : decode cJ8_newLength_cabcc 6 = .ok (.iadd, 1) := by decide +kernel
theorem dJ8_newLength_cabcc_7 : decode cJ8_newLength_cabcc 7 = .ok (.istore_n 3, 1) := by decide +kernel
theorem dJ8_newLength_cabcc_8 : decode cJ8_newLength_cabcc 8 = .ok (.iconst 0, 1) := by decide +kernel
theorem dJ8_newLength_cabcc_9 : decode cJ8_newLength_cabcc 9 = .ok (.iload_n 3, 1) := by decide +kernel
theorem dJ8_newLength_cabcc_10 : decode cJ8_newLength_cabcc 10 = .ok (.if_icmp .ge 11, 3) := by decide +kernel
theorem dJ8_newLength_cabcc_13 : decode cJ8_newLength_cabcc 13 = .ok (.iload_n 3, 1) := by decide +kernel
theorem dJ8_newLength_cabcc_14 : decode cJ8_newLength_cabcc 14 = .ok (.ldc 200, 2) := by decide +kernel
theorem dJ8_newLength_cabcc_16 : decode cJ8_newLength_cabcc 16 = .ok (.if_icmp .gt 5, 3) := by decide +kernel
theorem dJ8_newLength_cabcc_19 : decode cJ8_newLength_cabcc 19 = .ok (.iload_n 3, 1) := by decide +kernel
theorem dJ8_newLength_cabcc_20 : decode cJ8_newLength_cabcc 20 = .ok (.ireturn, 1) := by decide +kernel
theorem dJ8_newLength_cabcc_21 : decode cJ8_newLength_cabcc 21 = .ok (.iload_n 0, 1) := by decide +kernel
theorem dJ8_newLength_cabcc_22 : decode cJ8_newLength_cabcc 22 = .ok (.iload_n 1, 1) := by decide +kernel
theorem dJ8_newLength_cabcc_23 : decode cJ8_newLength_cabcc 23 = .ok (.invokestatic 201, 3) := by decide +kernel
theorem dJ8_newLength_cabcc_26 : decode cJ8_newLength_cabcc 26 = .ok (.ireturn, 1) := by decide +kernel
theorem dJ8_hugeLength_7cf53_0 : decode cJ8_hugeLength_7cf53 0 = .ok (.iload_n 0, 1) := by decide +kernel
theorem dJ8_hugeLength_7cf53_1 : decode cJ8_hugeLength_7cf53 1 = .ok (.iload_n 1, 1) := by decide +kernel
theorem dJ8_hugeLength_7cf53_2 : decode cJ8_hugeLength_7cf53 2 = .ok (.iadd, 1) := by decide +kernel
theorem dJ8_hugeLength_7cf53_3 : decode cJ8_hugeLength_7cf53 3 = .ok (.istore_n 2, 1) := by decide +kernel
theorem dJ8_hugeLength_7cf53_4 : decode cJ8_hugeLength_7cf53 4 = .ok (.iload_n 2, 1) := by decide +kernel
theorem dJ8_hugeLength_7cf53_5 : decode cJ8_hugeLength_7cf53 5 = .ok (.ifCond .ge 44, 3) := by decide +kernel
theorem dJ8_hugeLength_7cf53_8 : decode cJ8_hugeLength_7cf53 8 = .ok (.new 204, 3) := by decide +kernel
theorem dJ8_hugeLength_7cf53_11 : decode cJ8_hugeLength_7cf53 11 = .ok (.dup, 1) := by decide +kernel
theorem dJ8_hugeLength_7cf53_12 : decode cJ8_hugeLength_7cf53 12 = .ok (.new 89, 3) := by decide +kernel
theorem dJ8_hugeLength_7cf53_15 : decode cJ8_hugeLength_7cf53 15 = .ok (.dup, 1) := by decide +kernel
theorem dJ8_hugeLength_7cf53_16 : decode cJ8_hugeLength_7cf53 16 = .ok (.invokespecial 91, 3) := by decide +kernel
theorem dJ8_hugeLength_7cf53_19 : decode cJ8_hugeLength_7cf53 19 = .ok (.ldc 206, 2) := by decide +kernel
theorem dJ8_hugeLength_7cf53_21 : decode cJ8_hugeLength_7cf53 21 = .ok (.invokevirtual 94, 3) := by decide +kernel
theorem dJ8_hugeLength_7cf53_24 : decode cJ8_hugeLength_7cf53 24 = .ok (.iload_n 0, 1) := by decide +kernel
theorem dJ8_hugeLength_7cf53_25 : decode cJ8_hugeLength_7cf53 25 = .ok (.invokevirtual 98, 3) := by decide +kernel
theorem dJ8_hugeLength_7cf53_28 : decode cJ8_hugeLength_7cf53 28 = .ok (.ldc 208, 2) := by decide +kernel
theorem dJ8_hugeLength_7cf53_30 : decode cJ8_hugeLength_7cf53 30 = .ok (.invokevirtual 94, 3) := by decide +kernel
theorem dJ8_hugeLength_7cf53_33 : decode cJ8_hugeLength_7cf53 33 = .ok (.iload_n 1, 1) := by decide +kernel
theorem dJ8_hugeLength_7cf53_34 : decode cJ8_hugeLength_7cf53 34 = .ok (.invokevirtual 98, 3) := by decide +kernel
theorem dJ8_hugeLength_7cf53_37 : decode cJ8_hugeLength_7cf53 37 = .ok (.ldc 210, 2) := by decide +kernel
theorem dJ8_hugeLength_7cf53_39 : decode cJ8_hugeLength_7cf53 39 = .ok (.invokevirtual 94, 3) := by decide +kernel
theorem dJ8_hugeLength_7cf53_42 : decode cJ8_hugeLength_7cf53 42 = .ok (.invokevirtual 101, 3) := by decide +kernel
theorem dJ8_hugeLength_7cf53_45 : decode cJ8_hugeLength_7cf53 45 = .ok (.invokespecial 212, 3) := by decide +kernel
theorem dJ8_hugeLength_7cf53_48 : decode cJ8_hugeLength_7cf53 48 = .ok (.athrow, 1) := by decide +kernel
theorem dJ8_hugeLength_7cf53_49 : decode cJ8_hugeLength_7cf53 49 = .ok (.iload_n 2, 1) := by decide +kernel
theorem dJ8_hugeLength_7cf53_50 : decode cJ8_hugeLength_7cf53 50 = .ok (.ldc 200, 2) := by decide +kernel
theorem dJ8_hugeLength_7cf53_52 : decode cJ8_hugeLength_7cf53 52 = .ok (.if_icmp .gt 6, 3) := by decide +kernel
theorem dJ8_hugeLength_7cf53_55 : decode cJ8_hugeLength_7cf53 55 = .ok (.ldc 200, 2) := by decide +kernel
theorem dJ8_hugeLength_7cf53_57 : decode cJ8_hugeLength_7cf53 57 = .ok (.ireturn, 1) := by decide +kernel
theorem dJ8_hugeLength_7cf53_58 : decode cJ8_hugeLength_7cf53 58 = .ok (.iload_n 2, 1) := by decide +kernel
theorem dJ8_hugeLength_7cf53_59 : decode cJ8_hugeLength_7cf53 59 = .ok (.ireturn, 1) := by decide +kernel
theorem dJ3_checkIndex_8e157_0 : decode cJ3_checkIndex_8e157 0 = .ok (.iload_n 0, 1) := by decide +kernel
theorem dJ3_checkIndex_8e157_1 : decode cJ3_checkIndex_8e157 1 = .ok (.ifCond .lt 8, 3) := by decide +kernel
theorem dJ3_checkIndex_8e157_4 : decode cJ3_checkIndex_8e157 4 = .ok (.iload_n 0, 1) := by decide +kernel
theorem dJ3_checkIndex_8e157_5 : decode cJ3_checkIndex_8e157 5 = .ok (.iload_n 1, 1) := by decide +kernel
theorem dJ3_checkIndex_8e157_6 : decode cJ3_checkIndex_8e157 6 = .ok (.if_icmp .lt 10, 3) := by decide +kernel
theorem dJ3_checkIndex_8e157_9 : decode cJ3_checkIndex_8e157 9 = .ok (.aload_n 2, 1) := by decide +kernel
theorem dJ3_checkIndex_8e157_10 : decode cJ3_checkIndex_8e157 10 = .ok (.iload_n 0, 1) := by decide +kernel
theorem dJ3_checkIndex_8e157_11 : decode cJ3_checkIndex_8e157 11 = .ok (.iload_n 1, 1) := by decide +kernel
theorem dJ3_checkIndex_8e157_12 : decode cJ3_checkIndex_8e157 12 = .ok (.invokestatic 95, 3) := by decide +kernel
theorem dJ3_checkIndex_8e157_15 : decode cJ3_checkIndex_8e157 15 = .ok (.athrow, 1) := by decide +kernel
theorem dJ3_checkIndex_8e157_16 : decode cJ3_checkIndex_8e157 16 = .ok (.iload_n 0, 1) := by decide +kernel
theorem dJ3_checkIndex_8e157_17 : decode cJ3_checkIndex_8e157 17 = .ok (.ireturn, 1) := by decide +kernel
theorem dL_below_0 : decode cL_below 0 = .ok (.iload_n 0, 1) := by decide +kernel
theorem dL_below_1 : decode cL_below 1 = .ok (.ldc 7, 2) := by decide +kernel
theorem dL_below_3 : decode cL_below 3 = .ok (.iand, 1) := by decide +kernel
theorem dL_below_4 : decode cL_below 4 = .ok (.iload_n 1, 1) := by decide +kernel
theorem dL_below_5 : decode cL_below 5 = .ok (.irem, 1) := by decide +kernel
theorem dL_below_6 : decode cL_below 6 = .ok (.ireturn, 1) := by decide +kernel
theorem dL_cell_0 : decode cL_cell 0 = .ok (.iload_n 1, 1) := by decide +kernel
theorem dL_cell_1 : decode cL_cell 1 = .ok (.aload_n 0, 1) := by decide +kernel
theorem dL_cell_2 : decode cL_cell 2 = .ok (.arraylength, 1) := by decide +kernel
theorem dL_cell_3 : decode cL_cell 3 = .ok (.if_icmp .ge 9, 3) := by decide +kernel
theorem dL_cell_6 : decode cL_cell 6 = .ok (.aload_n 0, 1) := by decide +kernel
theorem dL_cell_7 : decode cL_cell 7 = .ok (.iload_n 1, 1) := by decide +kernel
theorem dL_cell_8 : decode cL_cell 8 = .ok (.iaload, 1) := by decide +kernel
theorem dL_cell_9 : decode cL_cell 9 = .ok (.goto 9, 3) := by decide +kernel
theorem dL_cell_12 : decode cL_cell 12 = .ok (.ldc 8, 2) := by decide +kernel
theorem dL_cell_14 : decode cL_cell 14 = .ok (.iload_n 1, 1) := by decide +kernel
theorem dL_cell_15 : decode cL_cell 15 = .ok (.iconst 3, 1) := by decide +kernel
theorem dL_cell_16 : decode cL_cell 16 = .ok (.iadd, 1) := by decide +kernel
theorem dL_cell_17 : decode cL_cell 17 = .ok (.imul, 1) := by decide +kernel
theorem dL_cell_18 : decode cL_cell 18 = .ok (.ireturn, 1) := by decide +kernel
theorem dL_letters_0 : decode cL_letters 0 = .ok (.iconst 4, 1) := by decide +kernel
theorem dL_letters_1 : decode cL_letters 1 = .ok (.newarray .int, 2) := by decide +kernel
theorem dL_letters_3 : decode cL_letters 3 = .ok (.dup, 1) := by decide +kernel
theorem dL_letters_4 : decode cL_letters 4 = .ok (.iconst 0, 1) := by decide +kernel
theorem dL_letters_5 : decode cL_letters 5 = .ok (.iload_n 0, 1) := by decide +kernel
theorem dL_letters_6 : decode cL_letters 6 = .ok (.sipush 216, 3) := by decide +kernel
theorem dL_letters_9 : decode cL_letters 9 = .ok (.idiv, 1) := by decide +kernel
theorem dL_letters_10 : decode cL_letters 10 = .ok (.iastore, 1) := by decide +kernel
theorem dL_letters_11 : decode cL_letters 11 = .ok (.dup, 1) := by decide +kernel
theorem dL_letters_12 : decode cL_letters 12 = .ok (.iconst 1, 1) := by decide +kernel
theorem dL_letters_13 : decode cL_letters 13 = .ok (.iload_n 0, 1) := by decide +kernel
theorem dL_letters_14 : decode cL_letters 14 = .ok (.bipush 36, 2) := by decide +kernel
theorem dL_letters_16 : decode cL_letters 16 = .ok (.idiv, 1) := by decide +kernel
theorem dL_letters_17 : decode cL_letters 17 = .ok (.bipush 6, 2) := by decide +kernel
theorem dL_letters_19 : decode cL_letters 19 = .ok (.irem, 1) := by decide +kernel
theorem dL_letters_20 : decode cL_letters 20 = .ok (.iastore, 1) := by decide +kernel
theorem dL_letters_21 : decode cL_letters 21 = .ok (.dup, 1) := by decide +kernel
theorem dL_letters_22 : decode cL_letters 22 = .ok (.iconst 2, 1) := by decide +kernel
theorem dL_letters_23 : decode cL_letters 23 = .ok (.iload_n 0, 1) := by decide +kernel
theorem dL_letters_24 : decode cL_letters 24 = .ok (.bipush 6, 2) := by decide +kernel
theorem dL_letters_26 : decode cL_letters 26 = .ok (.idiv, 1) := by decide +kernel
theorem dL_letters_27 : decode cL_letters 27 = .ok (.bipush 6, 2) := by decide +kernel
theorem dL_letters_29 : decode cL_letters 29 = .ok (.irem, 1) := by decide +kernel
theorem dL_letters_30 : decode cL_letters 30 = .ok (.iastore, 1) := by decide +kernel
theorem dL_letters_31 : decode cL_letters 31 = .ok (.dup, 1) := by decide +kernel
theorem dL_letters_32 : decode cL_letters 32 = .ok (.iconst 3, 1) := by decide +kernel
theorem dL_letters_33 : decode cL_letters 33 = .ok (.iload_n 0, 1) := by decide +kernel
theorem dL_letters_34 : decode cL_letters 34 = .ok (.bipush 6, 2) := by decide +kernel
theorem dL_letters_36 : decode cL_letters 36 = .ok (.irem, 1) := by decide +kernel
theorem dL_letters_37 : decode cL_letters 37 = .ok (.iastore, 1) := by decide +kernel
theorem dL_letters_38 : decode cL_letters 38 = .ok (.areturn, 1) := by decide +kernel
theorem dL_word_0 : decode cL_word 0 = .ok (.sipush 216, 3) := by decide +kernel
theorem dL_word_3 : decode cL_word 3 = .ok (.aload_n 0, 1) := by decide +kernel
theorem dL_word_4 : decode cL_word 4 = .ok (.iconst 0, 1) := by decide +kernel
theorem dL_word_5 : decode cL_word 5 = .ok (.iaload, 1) := by decide +kernel
theorem dL_word_6 : decode cL_word 6 = .ok (.imul, 1) := by decide +kernel
theorem dL_word_7 : decode cL_word 7 = .ok (.bipush 36, 2) := by decide +kernel
theorem dL_word_9 : decode cL_word 9 = .ok (.aload_n 0, 1) := by decide +kernel
theorem dL_word_10 : decode cL_word 10 = .ok (.iconst 1, 1) := by decide +kernel
theorem dL_word_11 : decode cL_word 11 = .ok (.iaload, 1) := by decide +kernel
theorem dL_word_12 : decode cL_word 12 = .ok (.imul, 1) := by decide +kernel
theorem dL_word_13 : decode cL_word 13 = .ok (.iadd, 1) := by decide +kernel
theorem dL_word_14 : decode cL_word 14 = .ok (.bipush 6, 2) := by decide +kernel
theorem dL_word_16 : decode cL_word 16 = .ok (.aload_n 0, 1) := by decide +kernel
theorem dL_word_17 : decode cL_word 17 = .ok (.iconst 2, 1) := by decide +kernel
theorem dL_word_18 : decode cL_word 18 = .ok (.iaload, 1) := by decide +kernel
theorem dL_word_19 : decode cL_word 19 = .ok (.imul, 1) := by decide +kernel
theorem dL_word_20 : decode cL_word 20 = .ok (.iadd, 1) := by decide +kernel
theorem dL_word_21 : decode cL_word 21 = .ok (.aload_n 0, 1) := by decide +kernel
theorem dL_word_22 : decode cL_word 22 = .ok (.iconst 3, 1) := by decide +kernel
theorem dL_word_23 : decode cL_word 23 = .ok (.iaload, 1) := by decide +kernel
theorem dL_word_24 : decode cL_word 24 = .ok (.iadd, 1) := by decide +kernel
theorem dL_word_25 : decode cL_word 25 = .ok (.ireturn, 1) := by decide +kernel
theorem dL_far_0 : decode cL_far 0 = .ok (.iconst 0, 1) := by decide +kernel
theorem dL_far_1 : decode cL_far 1 = .ok (.istore_n 2, 1) := by decide +kernel
theorem dL_far_2 : decode cL_far 2 = .ok (.iload_n 0, 1) := by decide +kernel
theorem dL_far_3 : decode cL_far 3 = .ok (.iload_n 2, 1) := by decide +kernel
theorem dL_far_4 : decode cL_far 4 = .ok (.iadd, 1) := by decide +kernel
theorem dL_far_5 : decode cL_far 5 = .ok (.bipush 6, 2) := by decide +kernel
theorem dL_far_7 : decode cL_far 7 = .ok (.irem, 1) := by decide +kernel
theorem dL_far_8 : decode cL_far 8 = .ok (.iload_n 1, 1) := by decide +kernel
theorem dL_far_9 : decode cL_far 9 = .ok (.if_icmp .eq 19, 3) := by decide +kernel
theorem dL_far_12 : decode cL_far 12 = .ok (.iload_n 1, 1) := by decide +kernel
theorem dL_far_13 : decode cL_far 13 = .ok (.iload_n 2, 1) := by decide +kernel
theorem dL_far_14 : decode cL_far 14 = .ok (.iadd, 1) := by decide +kernel
theorem dL_far_15 : decode cL_far 15 = .ok (.bipush 6, 2) := by decide +kernel
theorem dL_far_17 : decode cL_far 17 = .ok (.irem, 1) := by decide +kernel
theorem dL_far_18 : decode cL_far 18 = .ok (.iload_n 0, 1) := by decide +kernel
theorem dL_far_19 : decode cL_far 19 = .ok (.if_icmp .eq 9, 3) := by decide +kernel
theorem dL_far_22 : decode cL_far 22 = .ok (.iinc 2 1, 3) := by decide +kernel
theorem dL_far_25 : decode cL_far 25 = .ok (.goto (-23), 3) := by decide +kernel
theorem dL_far_28 : decode cL_far 28 = .ok (.iload_n 2, 1) := by decide +kernel
theorem dL_far_29 : decode cL_far 29 = .ok (.ireturn, 1) := by decide +kernel
theorem dL_act_0 : decode cL_act 0 = .ok (.aload_n 1, 1) := by decide +kernel
theorem dL_act_1 : decode cL_act 1 = .ok (.getfield 9, 3) := by decide +kernel
theorem dL_act_4 : decode cL_act 4 = .ok (.arraylength, 1) := by decide +kernel
theorem dL_act_5 : decode cL_act 5 = .ok (.istore_n 3, 1) := by decide +kernel
theorem dL_act_6 : decode cL_act 6 = .ok (.iload_n 3, 1) := by decide +kernel
theorem dL_act_7 : decode cL_act 7 = .ok (.ifCond .ne 7, 3) := by decide +kernel
theorem dL_act_10 : decode cL_act 10 = .ok (.iconst 0, 1) := by decide +kernel
theorem dL_act_11 : decode cL_act 11 = .ok (.goto 8, 3) := by decide +kernel
theorem dL_act_14 : decode cL_act 14 = .ok (.iload_n 2, 1) := by decide +kernel
theorem dL_act_15 : decode cL_act 15 = .ok (.iload_n 3, 1) := by decide +kernel
theorem dL_act_16 : decode cL_act 16 = .ok (.invokestatic 15, 3) := by decide +kernel
theorem dL_act_19 : decode cL_act 19 = .ok (.istore 4, 2) := by decide +kernel
theorem dL_act_21 : decode cL_act 21 = .ok (.iload_n 3, 1) := by decide +kernel
theorem dL_act_22 : decode cL_act 22 = .ok (.ifCond .ne 7, 3) := by decide +kernel
theorem dL_act_25 : decode cL_act 25 = .ok (.aconst_null, 1) := by decide +kernel
theorem dL_act_26 : decode cL_act 26 = .ok (.goto 10, 3) := by decide +kernel
theorem dL_act_29 : decode cL_act 29 = .ok (.aload_n 1, 1) := by decide +kernel
theorem dL_act_30 : decode cL_act 30 = .ok (.getfield 9, 3) := by decide +kernel
theorem dL_act_33 : decode cL_act 33 = .ok (.iload 4, 2) := by decide +kernel
theorem dL_act_35 : decode cL_act 35 = .ok (.aaload, 1) := by decide +kernel
theorem dL_act_36 : decode cL_act 36 = .ok (.astore 5, 2) := by decide +kernel
theorem dL_act_38 : decode cL_act 38 = .ok (.iload_n 2, 1) := by decide +kernel
theorem dL_act_39 : decode cL_act 39 = .ok (.iconst 2, 1) := by decide +kernel
theorem dL_act_40 : decode cL_act 40 = .ok (.ishr, 1) := by decide +kernel
theorem dL_act_41 : decode cL_act 41 = .ok (.iconst 3, 1) := by decide +kernel
theorem dL_act_42 : decode cL_act 42 = .ok (.invokestatic 15, 3) := by decide +kernel
theorem dL_act_45 : decode cL_act 45 = .ok (.istore 6, 2) := by decide +kernel
theorem dL_act_47 : decode cL_act 47 = .ok (.iload_n 2, 1) := by decide +kernel
theorem dL_act_48 : decode cL_act 48 = .ok (.bipush 9, 2) := by decide +kernel
theorem dL_act_50 : decode cL_act 50 = .ok (.ishr, 1) := by decide +kernel
theorem dL_act_51 : decode cL_act 51 = .ok (.bipush 20, 2) := by decide +kernel
theorem dL_act_53 : decode cL_act 53 = .ok (.invokestatic 15, 3) := by decide +kernel
theorem dL_act_56 : decode cL_act 56 = .ok (.tableswitch 803 0 13 #[72, 72, 175, 175, 175, 278, 278, 437, 437, 479, 551, 606, 700, 700], 72) := by decide +kernel
theorem dL_act_128 : decode cL_act 128 = .ok (.iload_n 3, 1) := by decide +kernel
theorem dL_act_129 : decode cL_act 129 = .ok (.bipush 8, 2) := by decide +kernel
theorem dL_act_131 : decode cL_act 131 = .ok (.if_icmp .ne 5, 3) := by decide +kernel
theorem dL_act_134 : decode cL_act 134 = .ok (.iconst 1, 1) := by decide +kernel
theorem dL_act_135 : decode cL_act 135 = .ok (.ireturn, 1) := by decide +kernel
theorem dL_act_136 : decode cL_act 136 = .ok (.iload_n 3, 1) := by decide +kernel
theorem dL_act_137 : decode cL_act 137 = .ok (.iconst 1, 1) := by decide +kernel
theorem dL_act_138 : decode cL_act 138 = .ok (.iadd, 1) := by decide +kernel
theorem dL_act_139 : decode cL_act 139 = .ok (.anewarray 21, 3) := by decide +kernel
theorem dL_act_142 : decode cL_act 142 = .ok (.astore 7, 2) := by decide +kernel
theorem dL_act_144 : decode cL_act 144 = .ok (.iconst 0, 1) := by decide +kernel
theorem dL_act_145 : decode cL_act 145 = .ok (.istore 8, 2) := by decide +kernel
theorem dL_act_147 : decode cL_act 147 = .ok (.iload 8, 2) := by decide +kernel
theorem dL_act_149 : decode cL_act 149 = .ok (.iload_n 3, 1) := by decide +kernel
theorem dL_act_150 : decode cL_act 150 = .ok (.if_icmp .ge 21, 3) := by decide +kernel
theorem dL_act_153 : decode cL_act 153 = .ok (.aload 7, 2) := by decide +kernel
theorem dL_act_155 : decode cL_act 155 = .ok (.iload 8, 2) := by decide +kernel
theorem dL_act_157 : decode cL_act 157 = .ok (.aload_n 1, 1) := by decide +kernel
theorem dL_act_158 : decode cL_act 158 = .ok (.getfield 9, 3) := by decide +kernel
theorem dL_act_161 : decode cL_act 161 = .ok (.iload 8, 2) := by decide +kernel
theorem dL_act_163 : decode cL_act 163 = .ok (.aaload, 1) := by decide +kernel
theorem dL_act_164 : decode cL_act 164 = .ok (.aastore, 1) := by decide +kernel
theorem dL_act_165 : decode cL_act 165 = .ok (.iinc 8 1, 3) := by decide +kernel
theorem dL_act_168 : decode cL_act 168 = .ok (.goto (-21), 3) := by decide +kernel
theorem dL_act_171 : decode cL_act 171 = .ok (.aload 7, 2) := by decide +kernel
theorem dL_act_173 : decode cL_act 173 = .ok (.iload_n 3, 1) := by decide +kernel
theorem dL_act_174 : decode cL_act 174 = .ok (.new 21, 3) := by decide +kernel
theorem dL_act_177 : decode cL_act 177 = .ok (.dup, 1) := by decide +kernel
theorem dL_act_178 : decode cL_act 178 = .ok (.invokespecial 23, 3) := by decide +kernel
theorem dL_act_181 : decode cL_act 181 = .ok (.aastore, 1) := by decide +kernel
theorem dL_act_182 : decode cL_act 182 = .ok (.aload 7, 2) := by decide +kernel
theorem dL_act_184 : decode cL_act 184 = .ok (.iload_n 3, 1) := by decide +kernel
theorem dL_act_185 : decode cL_act 185 = .ok (.aaload, 1) := by decide +kernel
theorem dL_act_186 : decode cL_act 186 = .ok (.iload_n 2, 1) := by decide +kernel
theorem dL_act_187 : decode cL_act 187 = .ok (.iconst 1, 1) := by decide +kernel
theorem dL_act_188 : decode cL_act 188 = .ok (.ishr, 1) := by decide +kernel
end
section
theorem dL_act_189 : decode cL_act 189 = .ok (.sipush 1296, 3) := by decide +kernel
theorem dL_act_192 : decode cL_act 192 = .ok (.invokestatic 15, 3) := by decide +kernel
theorem dL_act_195 : decode cL_act 195 = .ok (.invokestatic 24, 3) := by decide +kernel
theorem dL_act_198 : decode cL_act 198 = .ok (.putfield 28, 3) := by decide +kernel
theorem dL_act_201 : decode cL_act 201 = .ok (.aload_n 1, 1) := by decide +kernel
theorem dL_act_202 : decode cL_act 202 = .ok (.aload 7, 2) := by decide +kernel
theorem dL_act_204 : decode cL_act 204 = .ok (.putfield 9, 3) := by decide +kernel
theorem dL_act_207 : decode cL_act 207 = .ok (.aload_n 0, 1) := by decide +kernel
theorem dL_act_208 : decode cL_act 208 = .ok (.aload 7, 2) := by decide +kernel
theorem dL_act_210 : decode cL_act 210 = .ok (.iload_n 3, 1) := by decide +kernel
theorem dL_act_211 : decode cL_act 211 = .ok (.aaload, 1) := by decide +kernel
theorem dL_act_212 : decode cL_act 212 = .ok (.getfield 28, 3) := by decide +kernel
theorem dL_act_215 : decode cL_act 215 = .ok (.invokestatic 32, 3) := by decide +kernel
theorem dL_act_218 : decode cL_act 218 = .ok (.invokevirtual 35, 3) := by decide +kernel
theorem dL_act_221 : decode cL_act 221 = .ok (.iload_n 3, 1) := by decide +kernel
theorem dL_act_222 : decode cL_act 222 = .ok (.if_icmp .ne 7, 3) := by decide +kernel
theorem dL_act_225 : decode cL_act 225 = .ok (.iconst 1, 1) := by decide +kernel
theorem dL_act_226 : decode cL_act 226 = .ok (.goto 4, 3) := by decide +kernel
theorem dL_act_229 : decode cL_act 229 = .ok (.iconst 0, 1) := by decide +kernel
theorem dL_act_230 : decode cL_act 230 = .ok (.ireturn, 1) := by decide +kernel
theorem dL_act_231 : decode cL_act 231 = .ok (.iload_n 3, 1) := by decide +kernel
theorem dL_act_232 : decode cL_act 232 = .ok (.ifCond .ne 5, 3) := by decide +kernel
theorem dL_act_235 : decode cL_act 235 = .ok (.iconst 1, 1) := by decide +kernel
theorem dL_act_236 : decode cL_act 236 = .ok (.ireturn, 1) := by decide +kernel
theorem dL_act_237 : decode cL_act 237 = .ok (.iload_n 2, 1) := by decide +kernel
theorem dL_act_238 : decode cL_act 238 = .ok (.iconst 3, 1) := by decide +kernel
theorem dL_act_239 : decode cL_act 239 = .ok (.ishr, 1) := by decide +kernel
theorem dL_act_240 : decode cL_act 240 = .ok (.iconst 4, 1) := by decide +kernel
theorem dL_act_241 : decode cL_act 241 = .ok (.invokestatic 15, 3) := by decide +kernel
theorem dL_act_244 : decode cL_act 244 = .ok (.istore 8, 2) := by decide +kernel
theorem dL_act_246 : decode cL_act 246 = .ok (.iload_n 2, 1) := by decide +kernel
theorem dL_act_247 : decode cL_act 247 = .ok (.iconst 4, 1) := by decide +kernel
theorem dL_act_248 : decode cL_act 248 = .ok (.ishr, 1) := by decide +kernel
theorem dL_act_249 : decode cL_act 249 = .ok (.iconst 3, 1) := by decide +kernel
theorem dL_act_250 : decode cL_act 250 = .ok (.invokestatic 15, 3) := by decide +kernel
theorem dL_act_253 : decode cL_act 253 = .ok (.ifCond .ne 14, 3) := by decide +kernel
theorem dL_act_256 : decode cL_act 256 = .ok (.iload_n 2, 1) := by decide +kernel
theorem dL_act_257 : decode cL_act 257 = .ok (.iconst 1, 1) := by decide +kernel
theorem dL_act_258 : decode cL_act 258 = .ok (.ishr, 1) := by decide +kernel
theorem dL_act_259 : decode cL_act 259 = .ok (.bipush 6, 2) := by decide +kernel
theorem dL_act_261 : decode cL_act 261 = .ok (.invokestatic 15, 3) := by decide +kernel
theorem dL_act_264 : decode cL_act 264 = .ok (.goto 11, 3) := by decide +kernel
theorem dL_act_267 : decode cL_act 267 = .ok (.aload 5, 2) := by decide +kernel
theorem dL_act_269 : decode cL_act 269 = .ok (.getfield 28, 3) := by decide +kernel
theorem dL_act_272 : decode cL_act 272 = .ok (.iload 8, 2) := by decide +kernel
theorem dL_act_274 : decode cL_act 274 = .ok (.iaload, 1) := by decide +kernel
theorem dL_act_275 : decode cL_act 275 = .ok (.istore 9, 2) := by decide +kernel
theorem dL_act_277 : decode cL_act 277 = .ok (.aload 5, 2) := by decide +kernel
theorem dL_act_279 : decode cL_act 279 = .ok (.getfield 41, 3) := by decide +kernel
theorem dL_act_282 : decode cL_act 282 = .ok (.iload 8, 2) := by decide +kernel
theorem dL_act_284 : decode cL_act 284 = .ok (.iaload, 1) := by decide +kernel
theorem dL_act_285 : decode cL_act 285 = .ok (.iload 9, 2) := by decide +kernel
theorem dL_act_287 : decode cL_act 287 = .ok (.invokestatic 44, 3) := by decide +kernel
theorem dL_act_290 : decode cL_act 290 = .ok (.istore 10, 2) := by decide +kernel
theorem dL_act_292 : decode cL_act 292 = .ok (.aload 5, 2) := by decide +kernel
theorem dL_act_294 : decode cL_act 294 = .ok (.getfield 41, 3) := by decide +kernel
theorem dL_act_297 : decode cL_act 297 = .ok (.iload 8, 2) := by decide +kernel
theorem dL_act_299 : decode cL_act 299 = .ok (.iload 9, 2) := by decide +kernel
theorem dL_act_301 : decode cL_act 301 = .ok (.iastore, 1) := by decide +kernel
theorem dL_act_302 : decode cL_act 302 = .ok (.aload_n 1, 1) := by decide +kernel
theorem dL_act_303 : decode cL_act 303 = .ok (.dup, 1) := by decide +kernel
theorem dL_act_304 : decode cL_act 304 = .ok (.getfield 47, 3) := by decide +kernel
theorem dL_act_307 : decode cL_act 307 = .ok (.iload 10, 2) := by decide +kernel
theorem dL_act_309 : decode cL_act 309 = .ok (.iadd, 1) := by decide +kernel
theorem dL_act_310 : decode cL_act 310 = .ok (.putfield 47, 3) := by decide +kernel
theorem dL_act_313 : decode cL_act 313 = .ok (.aload_n 0, 1) := by decide +kernel
theorem dL_act_314 : decode cL_act 314 = .ok (.iload 4, 2) := by decide +kernel
theorem dL_act_316 : decode cL_act 316 = .ok (.iload 8, 2) := by decide +kernel
theorem dL_act_318 : decode cL_act 318 = .ok (.iload 9, 2) := by decide +kernel
theorem dL_act_320 : decode cL_act 320 = .ok (.invokevirtual 51, 3) := by decide +kernel
theorem dL_act_323 : decode cL_act 323 = .ok (.iload 10, 2) := by decide +kernel
theorem dL_act_325 : decode cL_act 325 = .ok (.if_icmp .ne 7, 3) := by decide +kernel
theorem dL_act_328 : decode cL_act 328 = .ok (.iconst 1, 1) := by decide +kernel
theorem dL_act_329 : decode cL_act 329 = .ok (.goto 4, 3) := by decide +kernel
theorem dL_act_332 : decode cL_act 332 = .ok (.iconst 0, 1) := by decide +kernel
theorem dL_act_333 : decode cL_act 333 = .ok (.ireturn, 1) := by decide +kernel
theorem dL_act_334 : decode cL_act 334 = .ok (.iload_n 3, 1) := by decide +kernel
theorem dL_act_335 : decode cL_act 335 = .ok (.ifCond .ne 5, 3) := by decide +kernel
theorem dL_act_338 : decode cL_act 338 = .ok (.iconst 1, 1) := by decide +kernel
theorem dL_act_339 : decode cL_act 339 = .ok (.ireturn, 1) := by decide +kernel
theorem dL_act_340 : decode cL_act 340 = .ok (.iconst 0, 1) := by decide +kernel
theorem dL_act_341 : decode cL_act 341 = .ok (.istore 11, 2) := by decide +kernel
theorem dL_act_343 : decode cL_act 343 = .ok (.iload 11, 2) := by decide +kernel
theorem dL_act_345 : decode cL_act 345 = .ok (.iconst 4, 1) := by decide +kernel
theorem dL_act_346 : decode cL_act 346 = .ok (.if_icmp .ge 90, 3) := by decide +kernel
theorem dL_act_349 : decode cL_act 349 = .ok (.iload_n 2, 1) := by decide +kernel
theorem dL_act_350 : decode cL_act 350 = .ok (.iconst 5, 1) := by decide +kernel
theorem dL_act_351 : decode cL_act 351 = .ok (.ishr, 1) := by decide +kernel
theorem dL_act_352 : decode cL_act 352 = .ok (.iconst 2, 1) := by decide +kernel
theorem dL_act_353 : decode cL_act 353 = .ok (.invokestatic 15, 3) := by decide +kernel
theorem dL_act_356 : decode cL_act 356 = .ok (.ifCond .ne 80, 3) := by decide +kernel
theorem dL_act_359 : decode cL_act 359 = .ok (.aload 5, 2) := by decide +kernel
theorem dL_act_361 : decode cL_act 361 = .ok (.getfield 41, 3) := by decide +kernel
theorem dL_act_364 : decode cL_act 364 = .ok (.iload 11, 2) := by decide +kernel
theorem dL_act_366 : decode cL_act 366 = .ok (.iaload, 1) := by decide +kernel
theorem dL_act_367 : decode cL_act 367 = .ok (.aload 5, 2) := by decide +kernel
theorem dL_act_369 : decode cL_act 369 = .ok (.getfield 28, 3) := by decide +kernel
theorem dL_act_372 : decode cL_act 372 = .ok (.iload 11, 2) := by decide +kernel
theorem dL_act_374 : decode cL_act 374 = .ok (.iaload, 1) := by decide +kernel
theorem dL_act_375 : decode cL_act 375 = .ok (.invokestatic 44, 3) := by decide +kernel
theorem dL_act_378 : decode cL_act 378 = .ok (.istore 12, 2) := by decide +kernel
theorem dL_act_380 : decode cL_act 380 = .ok (.aload_n 1, 1) := by decide +kernel
theorem dL_act_381 : decode cL_act 381 = .ok (.dup, 1) := by decide +kernel
theorem dL_act_382 : decode cL_act 382 = .ok (.getfield 47, 3) := by decide +kernel
theorem dL_act_385 : decode cL_act 385 = .ok (.iload 12, 2) := by decide +kernel
theorem dL_act_387 : decode cL_act 387 = .ok (.iadd, 1) := by decide +kernel
theorem dL_act_388 : decode cL_act 388 = .ok (.putfield 47, 3) := by decide +kernel
theorem dL_act_391 : decode cL_act 391 = .ok (.aload 5, 2) := by decide +kernel
theorem dL_act_393 : decode cL_act 393 = .ok (.getfield 41, 3) := by decide +kernel
theorem dL_act_396 : decode cL_act 396 = .ok (.iload 11, 2) := by decide +kernel
theorem dL_act_398 : decode cL_act 398 = .ok (.aload 5, 2) := by decide +kernel
theorem dL_act_400 : decode cL_act 400 = .ok (.getfield 28, 3) := by decide +kernel
theorem dL_act_403 : decode cL_act 403 = .ok (.iload 11, 2) := by decide +kernel
theorem dL_act_405 : decode cL_act 405 = .ok (.iaload, 1) := by decide +kernel
theorem dL_act_406 : decode cL_act 406 = .ok (.iastore, 1) := by decide +kernel
theorem dL_act_407 : decode cL_act 407 = .ok (.aload_n 0, 1) := by decide +kernel
theorem dL_act_408 : decode cL_act 408 = .ok (.iload 4, 2) := by decide +kernel
theorem dL_act_410 : decode cL_act 410 = .ok (.iload 11, 2) := by decide +kernel
theorem dL_act_412 : decode cL_act 412 = .ok (.aload 5, 2) := by decide +kernel
theorem dL_act_414 : decode cL_act 414 = .ok (.getfield 28, 3) := by decide +kernel
theorem dL_act_417 : decode cL_act 417 = .ok (.iload 11, 2) := by decide +kernel
theorem dL_act_419 : decode cL_act 419 = .ok (.iaload, 1) := by decide +kernel
theorem dL_act_420 : decode cL_act 420 = .ok (.invokevirtual 51, 3) := by decide +kernel
theorem dL_act_423 : decode cL_act 423 = .ok (.iload 12, 2) := by decide +kernel
theorem dL_act_425 : decode cL_act 425 = .ok (.if_icmp .eq 5, 3) := by decide +kernel
theorem dL_act_428 : decode cL_act 428 = .ok (.iconst 0, 1) := by decide +kernel
theorem dL_act_429 : decode cL_act 429 = .ok (.ireturn, 1) := by decide +kernel
theorem dL_act_430 : decode cL_act 430 = .ok (.iinc 11 1, 3) := by decide +kernel
theorem dL_act_433 : decode cL_act 433 = .ok (.goto (-90), 3) := by decide +kernel
theorem dL_act_436 : decode cL_act 436 = .ok (.aload 5, 2) := by decide +kernel
theorem dL_act_438 : decode cL_act 438 = .ok (.aload 5, 2) := by decide +kernel
theorem dL_act_440 : decode cL_act 440 = .ok (.getfield 55, 3) := by decide +kernel
theorem dL_act_443 : decode cL_act 443 = .ok (.ifCond .ne 22, 3) := by decide +kernel
theorem dL_act_446 : decode cL_act 446 = .ok (.aload 5, 2) := by decide +kernel
theorem dL_act_448 : decode cL_act 448 = .ok (.getfield 41, 3) := by decide +kernel
theorem dL_act_451 : decode cL_act 451 = .ok (.invokestatic 32, 3) := by decide +kernel
theorem dL_act_454 : decode cL_act 454 = .ok (.aload 5, 2) := by decide +kernel
theorem dL_act_456 : decode cL_act 456 = .ok (.getfield 28, 3) := by decide +kernel
theorem dL_act_459 : decode cL_act 459 = .ok (.invokestatic 32, 3) := by decide +kernel
theorem dL_act_462 : decode cL_act 462 = .ok (.if_icmp .ne 7, 3) := by decide +kernel
theorem dL_act_465 : decode cL_act 465 = .ok (.iconst 1, 1) := by decide +kernel
theorem dL_act_466 : decode cL_act 466 = .ok (.goto 4, 3) := by decide +kernel
theorem dL_act_469 : decode cL_act 469 = .ok (.iconst 0, 1) := by decide +kernel
theorem dL_act_470 : decode cL_act 470 = .ok (.putfield 55, 3) := by decide +kernel
theorem dL_act_473 : decode cL_act 473 = .ok (.aload_n 0, 1) := by decide +kernel
theorem dL_act_474 : decode cL_act 474 = .ok (.iload 4, 2) := by decide +kernel
theorem dL_act_476 : decode cL_act 476 = .ok (.invokevirtual 59, 3) := by decide +kernel
theorem dL_act_479 : decode cL_act 479 = .ok (.aload 5, 2) := by decide +kernel
theorem dL_act_481 : decode cL_act 481 = .ok (.getfield 55, 3) := by decide +kernel
theorem dL_act_484 : decode cL_act 484 = .ok (.if_icmp .ne 7, 3) := by decide +kernel
theorem dL_act_487 : decode cL_act 487 = .ok (.iconst 1, 1) := by decide +kernel
theorem dL_act_488 : decode cL_act 488 = .ok (.goto 4, 3) := by decide +kernel
theorem dL_act_491 : decode cL_act 491 = .ok (.iconst 0, 1) := by decide +kernel
theorem dL_act_492 : decode cL_act 492 = .ok (.ireturn, 1) := by decide +kernel
theorem dL_act_493 : decode cL_act 493 = .ok (.iload_n 3, 1) := by decide +kernel
theorem dL_act_494 : decode cL_act 494 = .ok (.ifCond .eq 11, 3) := by decide +kernel
theorem dL_act_497 : decode cL_act 497 = .ok (.aload 5, 2) := by decide +kernel
theorem dL_act_499 : decode cL_act 499 = .ok (.getfield 55, 3) := by decide +kernel
theorem dL_act_502 : decode cL_act 502 = .ok (.ifCond .ne 5, 3) := by decide +kernel
theorem dL_act_505 : decode cL_act 505 = .ok (.iconst 1, 1) := by decide +kernel
theorem dL_act_506 : decode cL_act 506 = .ok (.ireturn, 1) := by decide +kernel
theorem dL_act_507 : decode cL_act 507 = .ok (.aload 5, 2) := by decide +kernel
theorem dL_act_509 : decode cL_act 509 = .ok (.invokevirtual 63, 3) := by decide +kernel
theorem dL_act_512 : decode cL_act 512 = .ok (.aload_n 0, 1) := by decide +kernel
theorem dL_act_513 : decode cL_act 513 = .ok (.iload 4, 2) := by decide +kernel
theorem dL_act_515 : decode cL_act 515 = .ok (.invokevirtual 66, 3) := by decide +kernel
theorem dL_act_518 : decode cL_act 518 = .ok (.aload 5, 2) := by decide +kernel
theorem dL_act_520 : decode cL_act 520 = .ok (.getfield 41, 3) := by decide +kernel
theorem dL_act_523 : decode cL_act 523 = .ok (.invokestatic 32, 3) := by decide +kernel
theorem dL_act_526 : decode cL_act 526 = .ok (.if_icmp .ne 7, 3) := by decide +kernel
theorem dL_act_529 : decode cL_act 529 = .ok (.iconst 1, 1) := by decide +kernel
theorem dL_act_530 : decode cL_act 530 = .ok (.goto 4, 3) := by decide +kernel
theorem dL_act_533 : decode cL_act 533 = .ok (.iconst 0, 1) := by decide +kernel
theorem dL_act_534 : decode cL_act 534 = .ok (.ireturn, 1) := by decide +kernel
theorem dL_act_535 : decode cL_act 535 = .ok (.iload_n 3, 1) := by decide +kernel
theorem dL_act_536 : decode cL_act 536 = .ok (.ifCond .eq 11, 3) := by decide +kernel
theorem dL_act_539 : decode cL_act 539 = .ok (.aload 5, 2) := by decide +kernel
theorem dL_act_541 : decode cL_act 541 = .ok (.getfield 55, 3) := by decide +kernel
theorem dL_act_544 : decode cL_act 544 = .ok (.ifCond .ne 5, 3) := by decide +kernel
theorem dL_act_547 : decode cL_act 547 = .ok (.iconst 1, 1) := by decide +kernel
theorem dL_act_548 : decode cL_act 548 = .ok (.ireturn, 1) := by decide +kernel
theorem dL_act_549 : decode cL_act 549 = .ok (.aload 5, 2) := by decide +kernel
theorem dL_act_551 : decode cL_act 551 = .ok (.getfield 28, 3) := by decide +kernel
theorem dL_act_554 : decode cL_act 554 = .ok (.invokestatic 32, 3) := by decide +kernel
theorem dL_act_557 : decode cL_act 557 = .ok (.istore 11, 2) := by decide +kernel
theorem dL_act_559 : decode cL_act 559 = .ok (.aload 5, 2) := by decide +kernel
theorem dL_act_561 : decode cL_act 561 = .ok (.iload_n 2, 1) := by decide +kernel
theorem dL_act_562 : decode cL_act 562 = .ok (.iconst 3, 1) := by decide +kernel
theorem dL_act_563 : decode cL_act 563 = .ok (.ishr, 1) := by decide +kernel
theorem dL_act_564 : decode cL_act 564 = .ok (.sipush 1296, 3) := by decide +kernel
theorem dL_act_567 : decode cL_act 567 = .ok (.invokestatic 15, 3) := by decide +kernel
theorem dL_act_570 : decode cL_act 570 = .ok (.invokestatic 24, 3) := by decide +kernel
theorem dL_act_573 : decode cL_act 573 = .ok (.putfield 28, 3) := by decide +kernel
theorem dL_act_576 : decode cL_act 576 = .ok (.aload 5, 2) := by decide +kernel
theorem dL_act_578 : decode cL_act 578 = .ok (.iconst 0, 1) := by decide +kernel
theorem dL_act_579 : decode cL_act 579 = .ok (.putfield 68, 3) := by decide +kernel
theorem dL_act_582 : decode cL_act 582 = .ok (.aload_n 0, 1) := by decide +kernel
theorem dL_act_583 : decode cL_act 583 = .ok (.iload 4, 2) := by decide +kernel
theorem dL_act_585 : decode cL_act 585 = .ok (.aload 5, 2) := by decide +kernel
theorem dL_act_587 : decode cL_act 587 = .ok (.getfield 28, 3) := by decide +kernel
theorem dL_act_590 : decode cL_act 590 = .ok (.invokestatic 32, 3) := by decide +kernel
theorem dL_act_593 : decode cL_act 593 = .ok (.invokevirtual 71, 3) := by decide +kernel
theorem dL_act_596 : decode cL_act 596 = .ok (.iload 11, 2) := by decide +kernel
theorem dL_act_598 : decode cL_act 598 = .ok (.if_icmp .ne 7, 3) := by decide +kernel
theorem dL_act_601 : decode cL_act 601 = .ok (.iconst 1, 1) := by decide +kernel
theorem dL_act_602 : decode cL_act 602 = .ok (.goto 4, 3) := by decide +kernel
theorem dL_act_605 : decode cL_act 605 = .ok (.iconst 0, 1) := by decide +kernel
theorem dL_act_606 : decode cL_act 606 = .ok (.ireturn, 1) := by decide +kernel
theorem dL_act_607 : decode cL_act 607 = .ok (.iload_n 3, 1) := by decide +kernel
theorem dL_act_608 : decode cL_act 608 = .ok (.ifCond .ne 5, 3) := by decide +kernel
theorem dL_act_611 : decode cL_act 611 = .ok (.iconst 1, 1) := by decide +kernel
theorem dL_act_612 : decode cL_act 612 = .ok (.ireturn, 1) := by decide +kernel
theorem dL_act_613 : decode cL_act 613 = .ok (.aload 5, 2) := by decide +kernel
theorem dL_act_615 : decode cL_act 615 = .ok (.getfield 68, 3) := by decide +kernel
theorem dL_act_618 : decode cL_act 618 = .ok (.istore 12, 2) := by decide +kernel
theorem dL_act_620 : decode cL_act 620 = .ok (.aload 5, 2) := by decide +kernel
theorem dL_act_622 : decode cL_act 622 = .ok (.iload_n 2, 1) := by decide +kernel
theorem dL_act_623 : decode cL_act 623 = .ok (.iconst 3, 1) := by decide +kernel
theorem dL_act_624 : decode cL_act 624 = .ok (.ishr, 1) := by decide +kernel
theorem dL_act_625 : decode cL_act 625 = .ok (.iconst 2, 1) := by decide +kernel
theorem dL_act_626 : decode cL_act 626 = .ok (.invokestatic 15, 3) := by decide +kernel
theorem dL_act_629 : decode cL_act 629 = .ok (.ifCond .ne 7, 3) := by decide +kernel
theorem dL_act_632 : decode cL_act 632 = .ok (.iconst 1, 1) := by decide +kernel
theorem dL_act_633 : decode cL_act 633 = .ok (.goto 4, 3) := by decide +kernel
theorem dL_act_636 : decode cL_act 636 = .ok (.iconst 0, 1) := by decide +kernel
theorem dL_act_637 : decode cL_act 637 = .ok (.putfield 68, 3) := by decide +kernel
theorem dL_act_640 : decode cL_act 640 = .ok (.aload_n 0, 1) := by decide +kernel
theorem dL_act_641 : decode cL_act 641 = .ok (.iload 4, 2) := by decide +kernel
theorem dL_act_643 : decode cL_act 643 = .ok (.aload 5, 2) := by decide +kernel
theorem dL_act_645 : decode cL_act 645 = .ok (.getfield 68, 3) := by decide +kernel
theorem dL_act_648 : decode cL_act 648 = .ok (.invokevirtual 74, 3) := by decide +kernel
theorem dL_act_651 : decode cL_act 651 = .ok (.iload 12, 2) := by decide +kernel
theorem dL_act_653 : decode cL_act 653 = .ok (.if_icmp .ne 7, 3) := by decide +kernel
theorem dL_act_656 : decode cL_act 656 = .ok (.iconst 1, 1) := by decide +kernel
theorem dL_act_657 : decode cL_act 657 = .ok (.goto 4, 3) := by decide +kernel
theorem dL_act_660 : decode cL_act 660 = .ok (.iconst 0, 1) := by decide +kernel
theorem dL_act_661 : decode cL_act 661 = .ok (.ireturn, 1) := by decide +kernel
theorem dL_act_662 : decode cL_act 662 = .ok (.iconst 1, 1) := by decide +kernel
theorem dL_act_663 : decode cL_act 663 = .ok (.iload_n 2, 1) := by decide +kernel
theorem dL_act_664 : decode cL_act 664 = .ok (.iconst 3, 1) := by decide +kernel
theorem dL_act_665 : decode cL_act 665 = .ok (.ishr, 1) := by decide +kernel
theorem dL_act_666 : decode cL_act 666 = .ok (.bipush 6, 2) := by decide +kernel
theorem dL_act_668 : decode cL_act 668 = .ok (.invokestatic 15, 3) := by decide +kernel
theorem dL_act_671 : decode cL_act 671 = .ok (.iadd, 1) := by decide +kernel
theorem dL_act_672 : decode cL_act 672 = .ok (.istore 13, 2) := by decide +kernel
theorem dL_act_674 : decode cL_act 674 = .ok (.aload_n 1, 1) := by decide +kernel
theorem dL_act_675 : decode cL_act 675 = .ok (.iload 6, 2) := by decide +kernel
theorem dL_act_677 : decode cL_act 677 = .ok (.invokevirtual 78, 3) := by decide +kernel
theorem dL_act_680 : decode cL_act 680 = .ok (.iload 13, 2) := by decide +kernel
theorem dL_act_682 : decode cL_act 682 = .ok (.if_icmp .le 5, 3) := by decide +kernel
theorem dL_act_685 : decode cL_act 685 = .ok (.iconst 1, 1) := by decide +kernel
theorem dL_act_686 : decode cL_act 686 = .ok (.ireturn, 1) := by decide +kernel
theorem dL_act_687 : decode cL_act 687 = .ok (.aload_n 1, 1) := by decide +kernel
theorem dL_act_688 : decode cL_act 688 = .ok (.getfield 81, 3) := by decide +kernel
theorem dL_act_691 : decode cL_act 691 = .ok (.iload 6, 2) := by decide +kernel
theorem dL_act_693 : decode cL_act 693 = .ok (.aaload, 1) := by decide +kernel
theorem dL_act_694 : decode cL_act 694 = .ok (.iconst 0, 1) := by decide +kernel
theorem dL_act_695 : decode cL_act 695 = .ok (.iaload, 1) := by decide +kernel
theorem dL_act_696 : decode cL_act 696 = .ok (.istore 14, 2) := by decide +kernel
theorem dL_act_698 : decode cL_act 698 = .ok (.aload_n 1, 1) := by decide +kernel
theorem dL_act_699 : decode cL_act 699 = .ok (.getfield 81, 3) := by decide +kernel
theorem dL_act_702 : decode cL_act 702 = .ok (.iload 6, 2) := by decide +kernel
theorem dL_act_704 : decode cL_act 704 = .ok (.iconst 3, 1) := by decide +kernel
theorem dL_act_705 : decode cL_act 705 = .ok (.newarray .int, 2) := by decide +kernel
theorem dL_act_707 : decode cL_act 707 = .ok (.dup, 1) := by decide +kernel
theorem dL_act_708 : decode cL_act 708 = .ok (.iconst 0, 1) := by decide +kernel
theorem dL_act_709 : decode cL_act 709 = .ok (.iload 13, 2) := by decide +kernel
theorem dL_act_711 : decode cL_act 711 = .ok (.iastore, 1) := by decide +kernel
theorem dL_act_712 : decode cL_act 712 = .ok (.dup, 1) := by decide +kernel
theorem dL_act_713 : decode cL_act 713 = .ok (.iconst 1, 1) := by decide +kernel
theorem dL_act_714 : decode cL_act 714 = .ok (.aload_n 1, 1) := by decide +kernel
theorem dL_act_715 : decode cL_act 715 = .ok (.getfield 81, 3) := by decide +kernel
theorem dL_act_718 : decode cL_act 718 = .ok (.iload 6, 2) := by decide +kernel
theorem dL_act_720 : decode cL_act 720 = .ok (.aaload, 1) := by decide +kernel
theorem dL_act_721 : decode cL_act 721 = .ok (.iconst 1, 1) := by decide +kernel
theorem dL_act_722 : decode cL_act 722 = .ok (.iaload, 1) := by decide +kernel
theorem dL_act_723 : decode cL_act 723 = .ok (.iastore, 1) := by decide +kernel
theorem dL_act_724 : decode cL_act 724 = .ok (.dup, 1) := by decide +kernel
theorem dL_act_725 : decode cL_act 725 = .ok (.iconst 2, 1) := by decide +kernel
theorem dL_act_726 : decode cL_act 726 = .ok (.aload_n 1, 1) := by decide +kernel
theorem dL_act_727 : decode cL_act 727 = .ok (.getfield 81, 3) := by decide +kernel
theorem dL_act_730 : decode cL_act 730 = .ok (.iload 6, 2) := by decide +kernel
theorem dL_act_732 : decode cL_act 732 = .ok (.aaload, 1) := by decide +kernel
theorem dL_act_733 : decode cL_act 733 = .ok (.iconst 2, 1) := by decide +kernel
theorem dL_act_734 : decode cL_act 734 = .ok (.iaload, 1) := by decide +kernel
theorem dL_act_735 : decode cL_act 735 = .ok (.iastore, 1) := by decide +kernel
theorem dL_act_736 : decode cL_act 736 = .ok (.aastore, 1) := by decide +kernel
theorem dL_act_737 : decode cL_act 737 = .ok (.aload_n 0, 1) := by decide +kernel
theorem dL_act_738 : decode cL_act 738 = .ok (.iload 6, 2) := by decide +kernel
theorem dL_act_740 : decode cL_act 740 = .ok (.iload 13, 2) := by decide +kernel
theorem dL_act_742 : decode cL_act 742 = .ok (.invokevirtual 85, 3) := by decide +kernel
theorem dL_act_745 : decode cL_act 745 = .ok (.iload 14, 2) := by decide +kernel
theorem dL_act_747 : decode cL_act 747 = .ok (.if_icmp .ne 7, 3) := by decide +kernel
theorem dL_act_750 : decode cL_act 750 = .ok (.iconst 1, 1) := by decide +kernel
theorem dL_act_751 : decode cL_act 751 = .ok (.goto 4, 3) := by decide +kernel
theorem dL_act_754 : decode cL_act 754 = .ok (.iconst 0, 1) := by decide +kernel
theorem dL_act_755 : decode cL_act 755 = .ok (.ireturn, 1) := by decide +kernel
theorem dL_act_756 : decode cL_act 756 = .ok (.bipush 25, 2) := by decide +kernel
theorem dL_act_758 : decode cL_act 758 = .ok (.aload_n 1, 1) := by decide +kernel
theorem dL_act_759 : decode cL_act 759 = .ok (.getfield 81, 3) := by decide +kernel
theorem dL_act_762 : decode cL_act 762 = .ok (.iload 6, 2) := by decide +kernel
theorem dL_act_764 : decode cL_act 764 = .ok (.aaload, 1) := by decide +kernel
theorem dL_act_765 : decode cL_act 765 = .ok (.iconst 1, 1) := by decide +kernel
theorem dL_act_766 : decode cL_act 766 = .ok (.iaload, 1) := by decide +kernel
theorem dL_act_767 : decode cL_act 767 = .ok (.imul, 1) := by decide +kernel
theorem dL_act_768 : decode cL_act 768 = .ok (.aload_n 1, 1) := by decide +kernel
theorem dL_act_769 : decode cL_act 769 = .ok (.getfield 81, 3) := by decide +kernel
theorem dL_act_772 : decode cL_act 772 = .ok (.iload 6, 2) := by decide +kernel
theorem dL_act_774 : decode cL_act 774 = .ok (.aaload, 1) := by decide +kernel
theorem dL_act_775 : decode cL_act 775 = .ok (.iconst 2, 1) := by decide +kernel
theorem dL_act_776 : decode cL_act 776 = .ok (.iaload, 1) := by decide +kernel
theorem dL_act_777 : decode cL_act 777 = .ok (.iadd, 1) := by decide +kernel
theorem dL_act_778 : decode cL_act 778 = .ok (.istore 15, 2) := by decide +kernel
theorem dL_act_780 : decode cL_act 780 = .ok (.aload_n 1, 1) := by decide +kernel
theorem dL_act_781 : decode cL_act 781 = .ok (.getfield 81, 3) := by decide +kernel
theorem dL_act_784 : decode cL_act 784 = .ok (.iload 6, 2) := by decide +kernel
theorem dL_act_786 : decode cL_act 786 = .ok (.iconst 3, 1) := by decide +kernel
theorem dL_act_787 : decode cL_act 787 = .ok (.newarray .int, 2) := by decide +kernel
theorem dL_act_789 : decode cL_act 789 = .ok (.dup, 1) := by decide +kernel
theorem dL_act_790 : decode cL_act 790 = .ok (.iconst 0, 1) := by decide +kernel
theorem dL_act_791 : decode cL_act 791 = .ok (.aload_n 1, 1) := by decide +kernel
theorem dL_act_792 : decode cL_act 792 = .ok (.getfield 81, 3) := by decide +kernel
theorem dL_act_795 : decode cL_act 795 = .ok (.iload 6, 2) := by decide +kernel
theorem dL_act_797 : decode cL_act 797 = .ok (.aaload, 1) := by decide +kernel
theorem dL_act_798 : decode cL_act 798 = .ok (.iconst 0, 1) := by decide +kernel
theorem dL_act_799 : decode cL_act 799 = .ok (.iaload, 1) := by decide +kernel
theorem dL_act_800 : decode cL_act 800 = .ok (.iastore, 1) := by decide +kernel
theorem dL_act_801 : decode cL_act 801 = .ok (.dup, 1) := by decide +kernel
theorem dL_act_802 : decode cL_act 802 = .ok (.iconst 1, 1) := by decide +kernel
theorem dL_act_803 : decode cL_act 803 = .ok (.iload_n 2, 1) := by decide +kernel
theorem dL_act_804 : decode cL_act 804 = .ok (.iconst 3, 1) := by decide +kernel
theorem dL_act_805 : decode cL_act 805 = .ok (.ishr, 1) := by decide +kernel
theorem dL_act_806 : decode cL_act 806 = .ok (.bipush 24, 2) := by decide +kernel
theorem dL_act_808 : decode cL_act 808 = .ok (.invokestatic 15, 3) := by decide +kernel
theorem dL_act_811 : decode cL_act 811 = .ok (.iastore, 1) := by decide +kernel
theorem dL_act_812 : decode cL_act 812 = .ok (.dup, 1) := by decide +kernel
theorem dL_act_813 : decode cL_act 813 = .ok (.iconst 2, 1) := by decide +kernel
theorem dL_act_814 : decode cL_act 814 = .ok (.iload_n 2, 1) := by decide +kernel
theorem dL_act_815 : decode cL_act 815 = .ok (.iconst 4, 1) := by decide +kernel
theorem dL_act_816 : decode cL_act 816 = .ok (.ishr, 1) := by decide +kernel
theorem dL_act_817 : decode cL_act 817 = .ok (.bipush 25, 2) := by decide +kernel
theorem dL_act_819 : decode cL_act 819 = .ok (.invokestatic 15, 3) := by decide +kernel
theorem dL_act_822 : decode cL_act 822 = .ok (.iastore, 1) := by decide +kernel
theorem dL_act_823 : decode cL_act 823 = .ok (.aastore, 1) := by decide +kernel
theorem dL_act_824 : decode cL_act 824 = .ok (.aload_n 0, 1) := by decide +kernel
theorem dL_act_825 : decode cL_act 825 = .ok (.iload 6, 2) := by decide +kernel
theorem dL_act_827 : decode cL_act 827 = .ok (.aload_n 1, 1) := by decide +kernel
theorem dL_act_828 : decode cL_act 828 = .ok (.getfield 81, 3) := by decide +kernel
theorem dL_act_831 : decode cL_act 831 = .ok (.iload 6, 2) := by decide +kernel
theorem dL_act_833 : decode cL_act 833 = .ok (.aaload, 1) := by decide +kernel
theorem dL_act_834 : decode cL_act 834 = .ok (.iconst 1, 1) := by decide +kernel
theorem dL_act_835 : decode cL_act 835 = .ok (.iaload, 1) := by decide +kernel
theorem dL_act_836 : decode cL_act 836 = .ok (.aload_n 1, 1) := by decide +kernel
theorem dL_act_837 : decode cL_act 837 = .ok (.getfield 81, 3) := by decide +kernel
theorem dL_act_840 : decode cL_act 840 = .ok (.iload 6, 2) := by decide +kernel
theorem dL_act_842 : decode cL_act 842 = .ok (.aaload, 1) := by decide +kernel
theorem dL_act_843 : decode cL_act 843 = .ok (.iconst 2, 1) := by decide +kernel
theorem dL_act_844 : decode cL_act 844 = .ok (.iaload, 1) := by decide +kernel
theorem dL_act_845 : decode cL_act 845 = .ok (.invokevirtual 88, 3) := by decide +kernel
theorem dL_act_848 : decode cL_act 848 = .ok (.iload 15, 2) := by decide +kernel
theorem dL_act_850 : decode cL_act 850 = .ok (.if_icmp .ne 7, 3) := by decide +kernel
theorem dL_act_853 : decode cL_act 853 = .ok (.iconst 1, 1) := by decide +kernel
theorem dL_act_854 : decode cL_act 854 = .ok (.goto 4, 3) := by decide +kernel
theorem dL_act_857 : decode cL_act 857 = .ok (.iconst 0, 1) := by decide +kernel
theorem dL_act_858 : decode cL_act 858 = .ok (.ireturn, 1) := by decide +kernel
theorem dL_act_859 : decode cL_act 859 = .ok (.iload_n 3, 1) := by decide +kernel
theorem dL_act_860 : decode cL_act 860 = .ok (.ifCond .ne 5, 3) := by decide +kernel
theorem dL_act_863 : decode cL_act 863 = .ok (.iconst 1, 1) := by decide +kernel
theorem dL_act_864 : decode cL_act 864 = .ok (.ireturn, 1) := by decide +kernel
theorem dL_act_865 : decode cL_act 865 = .ok (.iload_n 2, 1) := by decide +kernel
theorem dL_act_866 : decode cL_act 866 = .ok (.iconst 3, 1) := by decide +kernel
theorem dL_act_867 : decode cL_act 867 = .ok (.ishr, 1) := by decide +kernel
theorem dL_act_868 : decode cL_act 868 = .ok (.iconst 5, 1) := by decide +kernel
theorem dL_act_869 : decode cL_act 869 = .ok (.invokestatic 15, 3) := by decide +kernel
theorem dL_act_872 : decode cL_act 872 = .ok (.ifCond .ne 7, 3) := by decide +kernel
theorem dL_act_875 : decode cL_act 875 = .ok (.iconst (-1), 1) := by decide +kernel
theorem dL_act_876 : decode cL_act 876 = .ok (.goto 5, 3) := by decide +kernel
theorem dL_act_879 : decode cL_act 879 = .ok (.iload 6, 2) := by decide +kernel
theorem dL_act_881 : decode cL_act 881 = .ok (.istore 16, 2) := by decide +kernel
theorem dL_act_883 : decode cL_act 883 = .ok (.iload 16, 2) := by decide +kernel
theorem dL_act_885 : decode cL_act 885 = .ok (.aload 5, 2) := by decide +kernel
theorem dL_act_887 : decode cL_act 887 = .ok (.getfield 91, 3) := by decide +kernel
theorem dL_act_890 : decode cL_act 890 = .ok (.if_icmp .eq 45, 3) := by decide +kernel
theorem dL_act_893 : decode cL_act 893 = .ok (.aload 5, 2) := by decide +kernel
theorem dL_act_895 : decode cL_act 895 = .ok (.getfield 55, 3) := by decide +kernel
theorem dL_act_898 : decode cL_act 898 = .ok (.ifCond .eq 35, 3) := by decide +kernel
theorem dL_act_901 : decode cL_act 901 = .ok (.iload 16, 2) := by decide +kernel
theorem dL_act_903 : decode cL_act 903 = .ok (.ifCond .lt 32, 3) := by decide +kernel
theorem dL_act_906 : decode cL_act 906 = .ok (.aload_n 1, 1) := by decide +kernel
theorem dL_act_907 : decode cL_act 907 = .ok (.iload 16, 2) := by decide +kernel
theorem dL_act_909 : decode cL_act 909 = .ok (.invokevirtual 94, 3) := by decide +kernel
theorem dL_act_912 : decode cL_act 912 = .ok (.ifCond .eq 21, 3) := by decide +kernel
theorem dL_act_915 : decode cL_act 915 = .ok (.aload_n 1, 1) := by decide +kernel
theorem dL_act_916 : decode cL_act 916 = .ok (.iload 16, 2) := by decide +kernel
theorem dL_act_918 : decode cL_act 918 = .ok (.invokevirtual 78, 3) := by decide +kernel
theorem dL_act_921 : decode cL_act 921 = .ok (.aload_n 1, 1) := by decide +kernel
theorem dL_act_922 : decode cL_act 922 = .ok (.getfield 81, 3) := by decide +kernel
theorem dL_act_925 : decode cL_act 925 = .ok (.iload 16, 2) := by decide +kernel
theorem dL_act_927 : decode cL_act 927 = .ok (.aaload, 1) := by decide +kernel
theorem dL_act_928 : decode cL_act 928 = .ok (.iconst 0, 1) := by decide +kernel
theorem dL_act_929 : decode cL_act 929 = .ok (.iaload, 1) := by decide +kernel
theorem dL_act_930 : decode cL_act 930 = .ok (.if_icmp .lt 5, 3) := by decide +kernel
theorem dL_act_933 : decode cL_act 933 = .ok (.iconst 1, 1) := by decide +kernel
theorem dL_act_934 : decode cL_act 934 = .ok (.ireturn, 1) := by decide +kernel
theorem dL_act_935 : decode cL_act 935 = .ok (.aload 5, 2) := by decide +kernel
theorem dL_act_937 : decode cL_act 937 = .ok (.getfield 91, 3) := by decide +kernel
theorem dL_act_940 : decode cL_act 940 = .ok (.istore 17, 2) := by decide +kernel
theorem dL_act_942 : decode cL_act 942 = .ok (.aload 5, 2) := by decide +kernel
theorem dL_act_944 : decode cL_act 944 = .ok (.iload 16, 2) := by decide +kernel
theorem dL_act_946 : decode cL_act 946 = .ok (.putfield 91, 3) := by decide +kernel
theorem dL_act_949 : decode cL_act 949 = .ok (.aload_n 0, 1) := by decide +kernel
theorem dL_act_950 : decode cL_act 950 = .ok (.iload 4, 2) := by decide +kernel
theorem dL_act_952 : decode cL_act 952 = .ok (.iload 16, 2) := by decide +kernel
theorem dL_act_954 : decode cL_act 954 = .ok (.invokevirtual 96, 3) := by decide +kernel
theorem dL_act_957 : decode cL_act 957 = .ok (.iload 17, 2) := by decide +kernel
theorem dL_act_959 : decode cL_act 959 = .ok (.if_icmp .ne 7, 3) := by decide +kernel
theorem dL_act_962 : decode cL_act 962 = .ok (.iconst 1, 1) := by decide +kernel
theorem dL_act_963 : decode cL_act 963 = .ok (.goto 4, 3) := by decide +kernel
theorem dL_act_966 : decode cL_act 966 = .ok (.iconst 0, 1) := by decide +kernel
theorem dL_act_967 : decode cL_act 967 = .ok (.ireturn, 1) := by decide +kernel
theorem dL_build_0 : decode cL_build 0 = .ok (.new 10, 3) := by decide +kernel
theorem dL_build_3 : decode cL_build 3 = .ok (.dup, 1) := by decide +kernel
theorem dL_build_4 : decode cL_build 4 = .ok (.invokespecial 99, 3) := by decide +kernel
theorem dL_build_7 : decode cL_build 7 = .ok (.astore_n 2, 1) := by decide +kernel
theorem dL_build_8 : decode cL_build 8 = .ok (.iconst 0, 1) := by decide +kernel
theorem dL_build_9 : decode cL_build 9 = .ok (.istore_n 3, 1) := by decide +kernel
theorem dL_build_10 : decode cL_build 10 = .ok (.iload_n 3, 1) := by decide +kernel
theorem dL_build_11 : decode cL_build 11 = .ok (.bipush 40, 2) := by decide +kernel
theorem dL_build_13 : decode cL_build 13 = .ok (.if_icmp .ge 84, 3) := by decide +kernel
theorem dL_build_16 : decode cL_build 16 = .ok (.aload_n 0, 1) := by decide +kernel
theorem dL_build_17 : decode cL_build 17 = .ok (.aload_n 2, 1) := by decide +kernel
theorem dL_build_18 : decode cL_build 18 = .ok (.aload_n 1, 1) := by decide +kernel
theorem dL_build_19 : decode cL_build 19 = .ok (.iload_n 3, 1) := by decide +kernel
theorem dL_build_20 : decode cL_build 20 = .ok (.bipush 16, 2) := by decide +kernel
theorem dL_build_22 : decode cL_build 22 = .ok (.irem, 1) := by decide +kernel
theorem dL_build_23 : decode cL_build 23 = .ok (.invokestatic 100, 3) := by decide +kernel
theorem dL_build_26 : decode cL_build 26 = .ok (.iload_n 3, 1) := by decide +kernel
theorem dL_build_27 : decode cL_build 27 = .ok (.bipush 16, 2) := by decide +kernel
theorem dL_build_29 : decode cL_build 29 = .ok (.idiv, 1) := by decide +kernel
theorem dL_build_30 : decode cL_build 30 = .ok (.iconst 4, 1) := by decide +kernel
theorem dL_build_31 : decode cL_build 31 = .ok (.imul, 1) := by decide +kernel
theorem dL_build_32 : decode cL_build 32 = .ok (.ishr, 1) := by decide +kernel
theorem dL_build_33 : decode cL_build 33 = .ok (.sipush 313, 3) := by decide +kernel
theorem dL_build_36 : decode cL_build 36 = .ok (.iload_n 3, 1) := by decide +kernel
theorem dL_build_37 : decode cL_build 37 = .ok (.imul, 1) := by decide +kernel
theorem dL_build_38 : decode cL_build 38 = .ok (.iadd, 1) := by decide +kernel
theorem dL_build_39 : decode cL_build 39 = .ok (.iload_n 3, 1) := by decide +kernel
theorem dL_build_40 : decode cL_build 40 = .ok (.bipush 6, 2) := by decide +kernel
theorem dL_build_42 : decode cL_build 42 = .ok (.if_icmp .ge 13, 3) := by decide +kernel
theorem dL_build_45 : decode cL_build 45 = .ok (.sipush 512, 3) := by decide +kernel
theorem dL_build_48 : decode cL_build 48 = .ok (.iload_n 3, 1) := by decide +kernel
theorem dL_build_49 : decode cL_build 49 = .ok (.iconst 2, 1) := by decide +kernel
theorem dL_build_50 : decode cL_build 50 = .ok (.irem, 1) := by decide +kernel
theorem dL_build_51 : decode cL_build 51 = .ok (.imul, 1) := by decide +kernel
theorem dL_build_52 : decode cL_build 52 = .ok (.goto 4, 3) := by decide +kernel
theorem dL_build_55 : decode cL_build 55 = .ok (.iconst 0, 1) := by decide +kernel
theorem dL_build_56 : decode cL_build 56 = .ok (.iadd, 1) := by decide +kernel
theorem dL_build_57 : decode cL_build 57 = .ok (.invokestatic 104, 3) := by decide +kernel
theorem dL_build_60 : decode cL_build 60 = .ok (.ifCond .ne 5, 3) := by decide +kernel
theorem dL_build_63 : decode cL_build 63 = .ok (.aconst_null, 1) := by decide +kernel
theorem dL_build_64 : decode cL_build 64 = .ok (.areturn, 1) := by decide +kernel
theorem dL_build_65 : decode cL_build 65 = .ok (.iload_n 3, 1) := by decide +kernel
theorem dL_build_66 : decode cL_build 66 = .ok (.bipush 9, 2) := by decide +kernel
theorem dL_build_68 : decode cL_build 68 = .ok (.if_icmp .le 23, 3) := by decide +kernel
theorem dL_build_71 : decode cL_build 71 = .ok (.iload_n 3, 1) := by decide +kernel
theorem dL_build_72 : decode cL_build 72 = .ok (.iconst 3, 1) := by decide +kernel
theorem dL_build_73 : decode cL_build 73 = .ok (.irem, 1) := by decide +kernel
theorem dL_build_74 : decode cL_build 74 = .ok (.ifCond .ne 17, 3) := by decide +kernel
theorem dL_build_77 : decode cL_build 77 = .ok (.aload_n 0, 1) := by decide +kernel
theorem dL_build_78 : decode cL_build 78 = .ok (.iconst 1, 1) := by decide +kernel
theorem dL_build_79 : decode cL_build 79 = .ok (.invokevirtual 108, 3) := by decide +kernel
theorem dL_build_82 : decode cL_build 82 = .ok (.aload_n 2, 1) := by decide +kernel
theorem dL_build_83 : decode cL_build 83 = .ok (.invokevirtual 111, 3) := by decide +kernel
theorem dL_build_86 : decode cL_build 86 = .ok (.if_icmp .eq 5, 3) := by decide +kernel
theorem dL_build_89 : decode cL_build 89 = .ok (.aconst_null, 1) := by decide +kernel
theorem dL_build_90 : decode cL_build 90 = .ok (.areturn, 1) := by decide +kernel
theorem dL_build_91 : decode cL_build 91 = .ok (.iinc 3 1, 3) := by decide +kernel
theorem dL_build_94 : decode cL_build 94 = .ok (.goto (-84), 3) := by decide +kernel
theorem dL_build_97 : decode cL_build 97 = .ok (.aload_n 2, 1) := by decide +kernel
theorem dL_build_98 : decode cL_build 98 = .ok (.areturn, 1) := by decide +kernel
theorem dL_law_0 : decode cL_law 0 = .ok (.new 36, 3) := by decide +kernel
theorem dL_law_3 : decode cL_law 3 = .ok (.dup, 1) := by decide +kernel
theorem dL_law_4 : decode cL_law 4 = .ok (.invokespecial 114, 3) := by decide +kernel
theorem dL_law_7 : decode cL_law 7 = .ok (.astore_n 1, 1) := by decide +kernel
theorem dL_law_8 : decode cL_law 8 = .ok (.aload_n 1, 1) := by decide +kernel
theorem dL_law_9 : decode cL_law 9 = .ok (.aload_n 0, 1) := by decide +kernel
theorem dL_law_10 : decode cL_law 10 = .ok (.invokestatic 115, 3) := by decide +kernel
theorem dL_law_13 : decode cL_law 13 = .ok (.astore_n 2, 1) := by decide +kernel
theorem dL_law_14 : decode cL_law 14 = .ok (.aload_n 2, 1) := by decide +kernel
theorem dL_law_15 : decode cL_law 15 = .ok (.ifnonnull 5, 3) := by decide +kernel
theorem dL_law_18 : decode cL_law 18 = .ok (.iconst 0, 1) := by decide +kernel
theorem dL_law_19 : decode cL_law 19 = .ok (.ireturn, 1) := by decide +kernel
theorem dL_law_20 : decode cL_law 20 = .ok (.iconst 0, 1) := by decide +kernel
theorem dL_law_21 : decode cL_law 21 = .ok (.istore_n 3, 1) := by decide +kernel
theorem dL_law_22 : decode cL_law 22 = .ok (.iload_n 3, 1) := by decide +kernel
theorem dL_law_23 : decode cL_law 23 = .ok (.bipush 40, 2) := by decide +kernel
theorem dL_law_25 : decode cL_law 25 = .ok (.if_icmp .ge 790, 3) := by decide +kernel
theorem dL_law_28 : decode cL_law 28 = .ok (.aload_n 0, 1) := by decide +kernel
theorem dL_law_29 : decode cL_law 29 = .ok (.iload_n 3, 1) := by decide +kernel
theorem dL_law_30 : decode cL_law 30 = .ok (.bipush 16, 2) := by decide +kernel
theorem dL_law_32 : decode cL_law 32 = .ok (.irem, 1) := by decide +kernel
theorem dL_law_33 : decode cL_law 33 = .ok (.invokestatic 100, 3) := by decide +kernel
theorem dL_law_36 : decode cL_law 36 = .ok (.iload_n 3, 1) := by decide +kernel
theorem dL_law_37 : decode cL_law 37 = .ok (.bipush 16, 2) := by decide +kernel
theorem dL_law_39 : decode cL_law 39 = .ok (.idiv, 1) := by decide +kernel
theorem dL_law_40 : decode cL_law 40 = .ok (.iconst 3, 1) := by decide +kernel
theorem dL_law_41 : decode cL_law 41 = .ok (.imul, 1) := by decide +kernel
theorem dL_law_42 : decode cL_law 42 = .ok (.ishr, 1) := by decide +kernel
theorem dL_law_43 : decode cL_law 43 = .ok (.sipush 313, 3) := by decide +kernel
theorem dL_law_46 : decode cL_law 46 = .ok (.iload_n 3, 1) := by decide +kernel
theorem dL_law_47 : decode cL_law 47 = .ok (.imul, 1) := by decide +kernel
theorem dL_law_48 : decode cL_law 48 = .ok (.iadd, 1) := by decide +kernel
theorem dL_law_49 : decode cL_law 49 = .ok (.istore 4, 2) := by decide +kernel
theorem dL_law_51 : decode cL_law 51 = .ok (.aload_n 1, 1) := by decide +kernel
theorem dL_law_52 : decode cL_law 52 = .ok (.aload_n 2, 1) := by decide +kernel
theorem dL_law_53 : decode cL_law 53 = .ok (.iload 4, 2) := by decide +kernel
theorem dL_law_55 : decode cL_law 55 = .ok (.invokestatic 104, 3) := by decide +kernel
theorem dL_law_58 : decode cL_law 58 = .ok (.ifCond .ne 5, 3) := by decide +kernel
theorem dL_law_61 : decode cL_law 61 = .ok (.iconst 0, 1) := by decide +kernel
theorem dL_law_62 : decode cL_law 62 = .ok (.ireturn, 1) := by decide +kernel
theorem dL_law_63 : decode cL_law 63 = .ok (.aload_n 1, 1) := by decide +kernel
theorem dL_law_64 : decode cL_law 64 = .ok (.iconst 1, 1) := by decide +kernel
theorem dL_law_65 : decode cL_law 65 = .ok (.invokevirtual 119, 3) := by decide +kernel
theorem dL_law_68 : decode cL_law 68 = .ok (.istore 5, 2) := by decide +kernel
theorem dL_law_70 : decode cL_law 70 = .ok (.iload 5, 2) := by decide +kernel
theorem dL_law_72 : decode cL_law 72 = .ok (.ifCond .ne 6, 3) := by decide +kernel
theorem dL_law_75 : decode cL_law 75 = .ok (.goto 734, 3) := by decide +kernel
theorem dL_law_78 : decode cL_law 78 = .ok (.iload 4, 2) := by decide +kernel
theorem dL_law_80 : decode cL_law 80 = .ok (.iconst 2, 1) := by decide +kernel
theorem dL_law_81 : decode cL_law 81 = .ok (.ishr, 1) := by decide +kernel
theorem dL_law_82 : decode cL_law 82 = .ok (.iload 5, 2) := by decide +kernel
theorem dL_law_84 : decode cL_law 84 = .ok (.invokestatic 15, 3) := by decide +kernel
theorem dL_law_87 : decode cL_law 87 = .ok (.istore 6, 2) := by decide +kernel
theorem dL_law_89 : decode cL_law 89 = .ok (.iload 4, 2) := by decide +kernel
theorem dL_law_91 : decode cL_law 91 = .ok (.iconst 3, 1) := by decide +kernel
theorem dL_law_92 : decode cL_law 92 = .ok (.ishr, 1) := by decide +kernel
theorem dL_law_93 : decode cL_law 93 = .ok (.iconst 4, 1) := by decide +kernel
theorem dL_law_94 : decode cL_law 94 = .ok (.invokestatic 15, 3) := by decide +kernel
theorem dL_law_97 : decode cL_law 97 = .ok (.istore 7, 2) := by decide +kernel
theorem dL_law_99 : decode cL_law 99 = .ok (.iload 4, 2) := by decide +kernel
theorem dL_law_101 : decode cL_law 101 = .ok (.iconst 4, 1) := by decide +kernel
theorem dL_law_102 : decode cL_law 102 = .ok (.ishr, 1) := by decide +kernel
theorem dL_law_103 : decode cL_law 103 = .ok (.bipush 6, 2) := by decide +kernel
theorem dL_law_105 : decode cL_law 105 = .ok (.invokestatic 15, 3) := by decide +kernel
theorem dL_law_108 : decode cL_law 108 = .ok (.istore 8, 2) := by decide +kernel
theorem dL_law_110 : decode cL_law 110 = .ok (.aload_n 1, 1) := by decide +kernel
theorem dL_law_111 : decode cL_law 111 = .ok (.iload 6, 2) := by decide +kernel
theorem dL_law_113 : decode cL_law 113 = .ok (.iconst 0, 1) := by decide +kernel
theorem dL_law_114 : decode cL_law 114 = .ok (.invokevirtual 122, 3) := by decide +kernel
theorem dL_law_117 : decode cL_law 117 = .ok (.istore 9, 2) := by decide +kernel
theorem dL_law_119 : decode cL_law 119 = .ok (.aload_n 2, 1) := by decide +kernel
theorem dL_law_120 : decode cL_law 120 = .ok (.getfield 9, 3) := by decide +kernel
theorem dL_law_123 : decode cL_law 123 = .ok (.iload 6, 2) := by decide +kernel
theorem dL_law_125 : decode cL_law 125 = .ok (.aaload, 1) := by decide +kernel
theorem dL_law_126 : decode cL_law 126 = .ok (.getfield 41, 3) := by decide +kernel
theorem dL_law_129 : decode cL_law 129 = .ok (.iload 7, 2) := by decide +kernel
theorem dL_law_131 : decode cL_law 131 = .ok (.iaload, 1) := by decide +kernel
theorem dL_law_132 : decode cL_law 132 = .ok (.istore 10, 2) := by decide +kernel
theorem dL_law_134 : decode cL_law 134 = .ok (.aload_n 1, 1) := by decide +kernel
theorem dL_law_135 : decode cL_law 135 = .ok (.iconst 5, 1) := by decide +kernel
theorem dL_law_136 : decode cL_law 136 = .ok (.invokevirtual 119, 3) := by decide +kernel
theorem dL_law_139 : decode cL_law 139 = .ok (.istore 11, 2) := by decide +kernel
theorem dL_law_141 : decode cL_law 141 = .ok (.aload_n 1, 1) := by decide +kernel
theorem dL_law_142 : decode cL_law 142 = .ok (.iload 6, 2) := by decide +kernel
theorem dL_law_144 : decode cL_law 144 = .ok (.iload 7, 2) := by decide +kernel
theorem dL_law_146 : decode cL_law 146 = .ok (.iload 8, 2) := by decide +kernel
theorem dL_law_148 : decode cL_law 148 = .ok (.invokevirtual 51, 3) := by decide +kernel
theorem dL_law_151 : decode cL_law 151 = .ok (.istore 12, 2) := by decide +kernel
theorem dL_law_153 : decode cL_law 153 = .ok (.aload_n 1, 1) := by decide +kernel
theorem dL_law_154 : decode cL_law 154 = .ok (.iload 6, 2) := by decide +kernel
theorem dL_law_156 : decode cL_law 156 = .ok (.iload 7, 2) := by decide +kernel
theorem dL_law_158 : decode cL_law 158 = .ok (.iload 10, 2) := by decide +kernel
theorem dL_law_160 : decode cL_law 160 = .ok (.invokevirtual 51, 3) := by decide +kernel
theorem dL_law_163 : decode cL_law 163 = .ok (.istore 13, 2) := by decide +kernel
theorem dL_law_165 : decode cL_law 165 = .ok (.aload_n 2, 1) := by decide +kernel
theorem dL_law_166 : decode cL_law 166 = .ok (.dup, 1) := by decide +kernel
theorem dL_law_167 : decode cL_law 167 = .ok (.getfield 47, 3) := by decide +kernel
theorem dL_law_170 : decode cL_law 170 = .ok (.iconst 2, 1) := by decide +kernel
theorem dL_law_171 : decode cL_law 171 = .ok (.iload 12, 2) := by decide +kernel
theorem dL_law_173 : decode cL_law 173 = .ok (.imul, 1) := by decide +kernel
theorem dL_law_174 : decode cL_law 174 = .ok (.iadd, 1) := by decide +kernel
theorem dL_law_175 : decode cL_law 175 = .ok (.putfield 47, 3) := by decide +kernel
theorem dL_law_178 : decode cL_law 178 = .ok (.iload 12, 2) := by decide +kernel
theorem dL_law_180 : decode cL_law 180 = .ok (.ifCond .lt 68, 3) := by decide +kernel
theorem dL_law_183 : decode cL_law 183 = .ok (.iload 12, 2) := by decide +kernel
theorem dL_law_185 : decode cL_law 185 = .ok (.iconst 3, 1) := by decide +kernel
theorem dL_law_186 : decode cL_law 186 = .ok (.if_icmp .gt 62, 3) := by decide +kernel
theorem dL_law_189 : decode cL_law 189 = .ok (.iload 12, 2) := by decide +kernel
theorem dL_law_191 : decode cL_law 191 = .ok (.iload 13, 2) := by decide +kernel
theorem dL_law_193 : decode cL_law 193 = .ok (.if_icmp .ne 55, 3) := by decide +kernel
theorem dL_law_196 : decode cL_law 196 = .ok (.iload 12, 2) := by decide +kernel
theorem dL_law_198 : decode cL_law 198 = .ok (.ifCond .ne 7, 3) := by decide +kernel
theorem dL_law_201 : decode cL_law 201 = .ok (.iconst 1, 1) := by decide +kernel
theorem dL_law_202 : decode cL_law 202 = .ok (.goto 4, 3) := by decide +kernel
theorem dL_law_205 : decode cL_law 205 = .ok (.iconst 0, 1) := by decide +kernel
theorem dL_law_206 : decode cL_law 206 = .ok (.iload 10, 2) := by decide +kernel
theorem dL_law_208 : decode cL_law 208 = .ok (.iload 8, 2) := by decide +kernel
theorem dL_law_210 : decode cL_law 210 = .ok (.if_icmp .ne 7, 3) := by decide +kernel
theorem dL_law_213 : decode cL_law 213 = .ok (.iconst 1, 1) := by decide +kernel
theorem dL_law_214 : decode cL_law 214 = .ok (.goto 4, 3) := by decide +kernel
theorem dL_law_217 : decode cL_law 217 = .ok (.iconst 0, 1) := by decide +kernel
theorem dL_law_218 : decode cL_law 218 = .ok (.if_icmp .ne 30, 3) := by decide +kernel
theorem dL_law_221 : decode cL_law 221 = .ok (.aload_n 1, 1) := by decide +kernel
theorem dL_law_222 : decode cL_law 222 = .ok (.iload 6, 2) := by decide +kernel
theorem dL_law_224 : decode cL_law 224 = .ok (.iconst 0, 1) := by decide +kernel
theorem dL_law_225 : decode cL_law 225 = .ok (.invokevirtual 122, 3) := by decide +kernel
theorem dL_law_228 : decode cL_law 228 = .ok (.iload 9, 2) := by decide +kernel
theorem dL_law_230 : decode cL_law 230 = .ok (.if_icmp .ne 18, 3) := by decide +kernel
theorem dL_law_233 : decode cL_law 233 = .ok (.aload_n 1, 1) := by decide +kernel
theorem dL_law_234 : decode cL_law 234 = .ok (.iconst 5, 1) := by decide +kernel
theorem dL_law_235 : decode cL_law 235 = .ok (.invokevirtual 119, 3) := by decide +kernel
theorem dL_law_238 : decode cL_law 238 = .ok (.iload 11, 2) := by decide +kernel
theorem dL_law_240 : decode cL_law 240 = .ok (.iconst 2, 1) := by decide +kernel
theorem dL_law_241 : decode cL_law 241 = .ok (.iload 12, 2) := by decide +kernel
theorem dL_law_243 : decode cL_law 243 = .ok (.imul, 1) := by decide +kernel
theorem dL_law_244 : decode cL_law 244 = .ok (.iadd, 1) := by decide +kernel
theorem dL_law_245 : decode cL_law 245 = .ok (.if_icmp .eq 5, 3) := by decide +kernel
theorem dL_law_248 : decode cL_law 248 = .ok (.iconst 0, 1) := by decide +kernel
theorem dL_law_249 : decode cL_law 249 = .ok (.ireturn, 1) := by decide +kernel
theorem dL_law_250 : decode cL_law 250 = .ok (.aload_n 1, 1) := by decide +kernel
theorem dL_law_251 : decode cL_law 251 = .ok (.iload 6, 2) := by decide +kernel
theorem dL_law_253 : decode cL_law 253 = .ok (.iconst 1, 1) := by decide +kernel
theorem dL_law_254 : decode cL_law 254 = .ok (.invokevirtual 122, 3) := by decide +kernel
theorem dL_law_257 : decode cL_law 257 = .ok (.iconst 1, 1) := by decide +kernel
theorem dL_law_258 : decode cL_law 258 = .ok (.if_icmp .ne 7, 3) := by decide +kernel
theorem dL_law_261 : decode cL_law 261 = .ok (.iconst 1, 1) := by decide +kernel
theorem dL_law_262 : decode cL_law 262 = .ok (.goto 4, 3) := by decide +kernel
theorem dL_law_265 : decode cL_law 265 = .ok (.iconst 0, 1) := by decide +kernel
theorem dL_law_266 : decode cL_law 266 = .ok (.istore 14, 2) := by decide +kernel
theorem dL_law_268 : decode cL_law 268 = .ok (.iload 9, 2) := by decide +kernel
theorem dL_law_270 : decode cL_law 270 = .ok (.aload_n 2, 1) := by decide +kernel
theorem dL_law_271 : decode cL_law 271 = .ok (.getfield 9, 3) := by decide +kernel
theorem dL_law_274 : decode cL_law 274 = .ok (.iload 6, 2) := by decide +kernel
theorem dL_law_276 : decode cL_law 276 = .ok (.aaload, 1) := by decide +kernel
theorem dL_law_277 : decode cL_law 277 = .ok (.getfield 28, 3) := by decide +kernel
theorem dL_law_280 : decode cL_law 280 = .ok (.invokestatic 32, 3) := by decide +kernel
theorem dL_law_283 : decode cL_law 283 = .ok (.if_icmp .ne 7, 3) := by decide +kernel
theorem dL_law_286 : decode cL_law 286 = .ok (.iconst 1, 1) := by decide +kernel
theorem dL_law_287 : decode cL_law 287 = .ok (.goto 4, 3) := by decide +kernel
theorem dL_law_290 : decode cL_law 290 = .ok (.iconst 0, 1) := by decide +kernel
theorem dL_law_291 : decode cL_law 291 = .ok (.istore 15, 2) := by decide +kernel
theorem dL_law_293 : decode cL_law 293 = .ok (.aload_n 1, 1) := by decide +kernel
theorem dL_law_294 : decode cL_law 294 = .ok (.iload 6, 2) := by decide +kernel
theorem dL_law_296 : decode cL_law 296 = .ok (.invokevirtual 59, 3) := by decide +kernel
theorem dL_law_299 : decode cL_law 299 = .ok (.iload 14, 2) := by decide +kernel
theorem dL_law_301 : decode cL_law 301 = .ok (.ifCond .ne 8, 3) := by decide +kernel
theorem dL_law_304 : decode cL_law 304 = .ok (.iload 15, 2) := by decide +kernel
theorem dL_law_306 : decode cL_law 306 = .ok (.ifCond .eq 7, 3) := by decide +kernel
theorem dL_law_309 : decode cL_law 309 = .ok (.iconst 1, 1) := by decide +kernel
theorem dL_law_310 : decode cL_law 310 = .ok (.goto 4, 3) := by decide +kernel
theorem dL_law_313 : decode cL_law 313 = .ok (.iconst 0, 1) := by decide +kernel
theorem dL_law_314 : decode cL_law 314 = .ok (.if_icmp .eq 5, 3) := by decide +kernel
theorem dL_law_317 : decode cL_law 317 = .ok (.iconst 0, 1) := by decide +kernel
theorem dL_law_318 : decode cL_law 318 = .ok (.ireturn, 1) := by decide +kernel
theorem dL_law_319 : decode cL_law 319 = .ok (.aload_n 2, 1) := by decide +kernel
theorem dL_law_320 : decode cL_law 320 = .ok (.getfield 9, 3) := by decide +kernel
theorem dL_law_323 : decode cL_law 323 = .ok (.iload 6, 2) := by decide +kernel
theorem dL_law_325 : decode cL_law 325 = .ok (.aaload, 1) := by decide +kernel
theorem dL_law_326 : decode cL_law 326 = .ok (.iload 14, 2) := by decide +kernel
theorem dL_law_328 : decode cL_law 328 = .ok (.ifCond .ne 8, 3) := by decide +kernel
theorem dL_law_331 : decode cL_law 331 = .ok (.iload 15, 2) := by decide +kernel
theorem dL_law_333 : decode cL_law 333 = .ok (.ifCond .eq 7, 3) := by decide +kernel
theorem dL_law_336 : decode cL_law 336 = .ok (.iconst 1, 1) := by decide +kernel
theorem dL_law_337 : decode cL_law 337 = .ok (.goto 4, 3) := by decide +kernel
theorem dL_law_340 : decode cL_law 340 = .ok (.iconst 0, 1) := by decide +kernel
theorem dL_law_341 : decode cL_law 341 = .ok (.putfield 55, 3) := by decide +kernel
theorem dL_law_344 : decode cL_law 344 = .ok (.aload_n 1, 1) := by decide +kernel
theorem dL_law_345 : decode cL_law 345 = .ok (.iload 6, 2) := by decide +kernel
theorem dL_law_347 : decode cL_law 347 = .ok (.aload_n 1, 1) := by decide +kernel
theorem dL_law_348 : decode cL_law 348 = .ok (.iload 6, 2) := by decide +kernel
theorem dL_law_350 : decode cL_law 350 = .ok (.iconst 4, 1) := by decide +kernel
theorem dL_law_351 : decode cL_law 351 = .ok (.invokevirtual 122, 3) := by decide +kernel
theorem dL_law_354 : decode cL_law 354 = .ok (.invokevirtual 125, 3) := by decide +kernel
theorem dL_law_357 : decode cL_law 357 = .ok (.iconst 1, 1) := by decide +kernel
theorem dL_law_358 : decode cL_law 358 = .ok (.if_icmp .ne 25, 3) := by decide +kernel
theorem dL_law_361 : decode cL_law 361 = .ok (.aload_n 1, 1) := by decide +kernel
theorem dL_law_362 : decode cL_law 362 = .ok (.iload 6, 2) := by decide +kernel
theorem dL_law_364 : decode cL_law 364 = .ok (.invokevirtual 128, 3) := by decide +kernel
theorem dL_law_367 : decode cL_law 367 = .ok (.iconst 1, 1) := by decide +kernel
theorem dL_law_368 : decode cL_law 368 = .ok (.if_icmp .lt 15, 3) := by decide +kernel
theorem dL_law_371 : decode cL_law 371 = .ok (.aload_n 1, 1) := by decide +kernel
theorem dL_law_372 : decode cL_law 372 = .ok (.iload 6, 2) := by decide +kernel
theorem dL_law_374 : decode cL_law 374 = .ok (.invokevirtual 128, 3) := by decide +kernel
theorem dL_law_377 : decode cL_law 377 = .ok (.sipush 1296, 3) := by decide +kernel
theorem dL_law_380 : decode cL_law 380 = .ok (.if_icmp .le 5, 3) := by decide +kernel
theorem dL_law_383 : decode cL_law 383 = .ok (.iconst 0, 1) := by decide +kernel
theorem dL_law_384 : decode cL_law 384 = .ok (.ireturn, 1) := by decide +kernel
theorem dL_law_385 : decode cL_law 385 = .ok (.iload 5, 2) := by decide +kernel
theorem dL_law_387 : decode cL_law 387 = .ok (.newarray .int, 2) := by decide +kernel
theorem dL_law_389 : decode cL_law 389 = .ok (.astore 16, 2) := by decide +kernel
theorem dL_law_391 : decode cL_law 391 = .ok (.iload 5, 2) := by decide +kernel
theorem dL_law_393 : decode cL_law 393 = .ok (.newarray .int, 2) := by decide +kernel
theorem dL_law_395 : decode cL_law 395 = .ok (.astore 17, 2) := by decide +kernel
theorem dL_law_397 : decode cL_law 397 = .ok (.aload_n 1, 1) := by decide +kernel
theorem dL_law_398 : decode cL_law 398 = .ok (.iconst 4, 1) := by decide +kernel
theorem dL_law_399 : decode cL_law 399 = .ok (.invokevirtual 119, 3) := by decide +kernel
theorem dL_law_402 : decode cL_law 402 = .ok (.istore 18, 2) := by decide +kernel
theorem dL_law_404 : decode cL_law 404 = .ok (.iconst 0, 1) := by decide +kernel
theorem dL_law_405 : decode cL_law 405 = .ok (.istore 19, 2) := by decide +kernel
theorem dL_law_407 : decode cL_law 407 = .ok (.iconst 0, 1) := by decide +kernel
theorem dL_law_408 : decode cL_law 408 = .ok (.istore 20, 2) := by decide +kernel
theorem dL_law_410 : decode cL_law 410 = .ok (.iconst 0, 1) := by decide +kernel
theorem dL_law_411 : decode cL_law 411 = .ok (.istore 21, 2) := by decide +kernel
theorem dL_law_413 : decode cL_law 413 = .ok (.iload 21, 2) := by decide +kernel
theorem dL_law_415 : decode cL_law 415 = .ok (.iload 5, 2) := by decide +kernel
theorem dL_law_417 : decode cL_law 417 = .ok (.if_icmp .ge 124, 3) := by decide +kernel
theorem dL_law_420 : decode cL_law 420 = .ok (.aload 16, 2) := by decide +kernel
theorem dL_law_422 : decode cL_law 422 = .ok (.iload 21, 2) := by decide +kernel
theorem dL_law_424 : decode cL_law 424 = .ok (.aload_n 1, 1) := by decide +kernel
theorem dL_law_425 : decode cL_law 425 = .ok (.iload 21, 2) := by decide +kernel
theorem dL_law_427 : decode cL_law 427 = .ok (.iconst 1, 1) := by decide +kernel
theorem dL_law_428 : decode cL_law 428 = .ok (.invokevirtual 122, 3) := by decide +kernel
theorem dL_law_431 : decode cL_law 431 = .ok (.iastore, 1) := by decide +kernel
theorem dL_law_432 : decode cL_law 432 = .ok (.aload 17, 2) := by decide +kernel
theorem dL_law_434 : decode cL_law 434 = .ok (.iload 21, 2) := by decide +kernel
theorem dL_law_436 : decode cL_law 436 = .ok (.aload_n 1, 1) := by decide +kernel
theorem dL_law_437 : decode cL_law 437 = .ok (.iload 21, 2) := by decide +kernel
theorem dL_law_439 : decode cL_law 439 = .ok (.iconst 0, 1) := by decide +kernel
theorem dL_law_440 : decode cL_law 440 = .ok (.invokevirtual 122, 3) := by decide +kernel
theorem dL_law_443 : decode cL_law 443 = .ok (.iastore, 1) := by decide +kernel
theorem dL_law_444 : decode cL_law 444 = .ok (.iload 19, 2) := by decide +kernel
theorem dL_law_446 : decode cL_law 446 = .ok (.aload 16, 2) := by decide +kernel
theorem dL_law_448 : decode cL_law 448 = .ok (.iload 21, 2) := by decide +kernel
theorem dL_law_450 : decode cL_law 450 = .ok (.iaload, 1) := by decide +kernel
theorem dL_law_451 : decode cL_law 451 = .ok (.ifCond .ne 7, 3) := by decide +kernel
theorem dL_law_454 : decode cL_law 454 = .ok (.iconst 4, 1) := by decide +kernel
theorem dL_law_455 : decode cL_law 455 = .ok (.goto 19, 3) := by decide +kernel
theorem dL_law_458 : decode cL_law 458 = .ok (.aload_n 1, 1) := by decide +kernel
theorem dL_law_459 : decode cL_law 459 = .ok (.iload 21, 2) := by decide +kernel
theorem dL_law_461 : decode cL_law 461 = .ok (.iconst 2, 1) := by decide +kernel
theorem dL_law_462 : decode cL_law 462 = .ok (.invokevirtual 122, 3) := by decide +kernel
theorem dL_law_465 : decode cL_law 465 = .ok (.ifCond .ge 7, 3) := by decide +kernel
theorem dL_law_468 : decode cL_law 468 = .ok (.iconst 0, 1) := by decide +kernel
theorem dL_law_469 : decode cL_law 469 = .ok (.goto 5, 3) := by decide +kernel
theorem dL_law_472 : decode cL_law 472 = .ok (.bipush 8, 2) := by decide +kernel
theorem dL_law_474 : decode cL_law 474 = .ok (.iadd, 1) := by decide +kernel
theorem dL_law_475 : decode cL_law 475 = .ok (.istore 19, 2) := by decide +kernel
theorem dL_law_477 : decode cL_law 477 = .ok (.iconst 0, 1) := by decide +kernel
theorem dL_law_478 : decode cL_law 478 = .ok (.istore 22, 2) := by decide +kernel
theorem dL_law_480 : decode cL_law 480 = .ok (.iload 22, 2) := by decide +kernel
theorem dL_law_482 : decode cL_law 482 = .ok (.iconst 4, 1) := by decide +kernel
theorem dL_law_483 : decode cL_law 483 = .ok (.if_icmp .ge 52, 3) := by decide +kernel
theorem dL_law_486 : decode cL_law 486 = .ok (.iconst 0, 1) := by decide +kernel
theorem dL_law_487 : decode cL_law 487 = .ok (.istore 23, 2) := by decide +kernel
theorem dL_law_489 : decode cL_law 489 = .ok (.iload 23, 2) := by decide +kernel
theorem dL_law_491 : decode cL_law 491 = .ok (.bipush 6, 2) := by decide +kernel
theorem dL_law_493 : decode cL_law 493 = .ok (.if_icmp .ge 36, 3) := by decide +kernel
theorem dL_law_496 : decode cL_law 496 = .ok (.iload 20, 2) := by decide +kernel
theorem dL_law_498 : decode cL_law 498 = .ok (.ifCond .ne 18, 3) := by decide +kernel
theorem dL_law_501 : decode cL_law 501 = .ok (.aload_n 1, 1) := by decide +kernel
theorem dL_law_502 : decode cL_law 502 = .ok (.iload 21, 2) := by decide +kernel
theorem dL_law_504 : decode cL_law 504 = .ok (.iload 22, 2) := by decide +kernel
theorem dL_law_506 : decode cL_law 506 = .ok (.iload 23, 2) := by decide +kernel
theorem dL_law_508 : decode cL_law 508 = .ok (.invokevirtual 131, 3) := by decide +kernel
theorem dL_law_511 : decode cL_law 511 = .ok (.bipush 97, 2) := by decide +kernel
theorem dL_law_513 : decode cL_law 513 = .ok (.if_icmp .le 7, 3) := by decide +kernel
theorem dL_law_516 : decode cL_law 516 = .ok (.iconst 1, 1) := by decide +kernel
theorem dL_law_517 : decode cL_law 517 = .ok (.goto 4, 3) := by decide +kernel
theorem dL_law_520 : decode cL_law 520 = .ok (.iconst 0, 1) := by decide +kernel
theorem dL_law_521 : decode cL_law 521 = .ok (.istore 20, 2) := by decide +kernel
theorem dL_law_523 : decode cL_law 523 = .ok (.iinc 23 1, 3) := by decide +kernel
theorem dL_law_526 : decode cL_law 526 = .ok (.goto (-37), 3) := by decide +kernel
theorem dL_law_529 : decode cL_law 529 = .ok (.iinc 22 1, 3) := by decide +kernel
theorem dL_law_532 : decode cL_law 532 = .ok (.goto (-52), 3) := by decide +kernel
theorem dL_law_535 : decode cL_law 535 = .ok (.iinc 21 1, 3) := by decide +kernel
theorem dL_law_538 : decode cL_law 538 = .ok (.goto (-125), 3) := by decide +kernel
theorem dL_law_541 : decode cL_law 541 = .ok (.iconst 3, 1) := by decide +kernel
theorem dL_law_542 : decode cL_law 542 = .ok (.newarray .int, 2) := by decide +kernel
theorem dL_law_544 : decode cL_law 544 = .ok (.dup, 1) := by decide +kernel
theorem dL_law_545 : decode cL_law 545 = .ok (.iconst 0, 1) := by decide +kernel
theorem dL_law_546 : decode cL_law 546 = .ok (.aload_n 1, 1) := by decide +kernel
theorem dL_law_547 : decode cL_law 547 = .ok (.iconst 0, 1) := by decide +kernel
theorem dL_law_548 : decode cL_law 548 = .ok (.iconst 2, 1) := by decide +kernel
theorem dL_law_549 : decode cL_law 549 = .ok (.invokevirtual 134, 3) := by decide +kernel
theorem dL_law_552 : decode cL_law 552 = .ok (.iastore, 1) := by decide +kernel
theorem dL_law_553 : decode cL_law 553 = .ok (.dup, 1) := by decide +kernel
theorem dL_law_554 : decode cL_law 554 = .ok (.iconst 1, 1) := by decide +kernel
theorem dL_law_555 : decode cL_law 555 = .ok (.aload_n 1, 1) := by decide +kernel
theorem dL_law_556 : decode cL_law 556 = .ok (.iconst 1, 1) := by decide +kernel
theorem dL_law_557 : decode cL_law 557 = .ok (.iconst 2, 1) := by decide +kernel
theorem dL_law_558 : decode cL_law 558 = .ok (.invokevirtual 134, 3) := by decide +kernel
theorem dL_law_561 : decode cL_law 561 = .ok (.iastore, 1) := by decide +kernel
theorem dL_law_562 : decode cL_law 562 = .ok (.dup, 1) := by decide +kernel
theorem dL_law_563 : decode cL_law 563 = .ok (.iconst 2, 1) := by decide +kernel
theorem dL_law_564 : decode cL_law 564 = .ok (.aload_n 1, 1) := by decide +kernel
theorem dL_law_565 : decode cL_law 565 = .ok (.iconst 2, 1) := by decide +kernel
theorem dL_law_566 : decode cL_law 566 = .ok (.iconst 2, 1) := by decide +kernel
theorem dL_law_567 : decode cL_law 567 = .ok (.invokevirtual 134, 3) := by decide +kernel
theorem dL_law_570 : decode cL_law 570 = .ok (.iastore, 1) := by decide +kernel
theorem dL_law_571 : decode cL_law 571 = .ok (.astore 21, 2) := by decide +kernel
theorem dL_law_573 : decode cL_law 573 = .ok (.aload_n 1, 1) := by decide +kernel
theorem dL_law_574 : decode cL_law 574 = .ok (.iconst 1, 1) := by decide +kernel
theorem dL_law_575 : decode cL_law 575 = .ok (.invokevirtual 108, 3) := by decide +kernel
theorem dL_law_578 : decode cL_law 578 = .ok (.istore 22, 2) := by decide +kernel
theorem dL_law_580 : decode cL_law 580 = .ok (.aload_n 2, 1) := by decide +kernel
theorem dL_law_581 : decode cL_law 581 = .ok (.invokevirtual 111, 3) := by decide +kernel
theorem dL_law_584 : decode cL_law 584 = .ok (.pop, 1) := by decide +kernel
theorem dL_law_585 : decode cL_law 585 = .ok (.iconst 0, 1) := by decide +kernel
theorem dL_law_586 : decode cL_law 586 = .ok (.istore 23, 2) := by decide +kernel
theorem dL_law_588 : decode cL_law 588 = .ok (.iconst 0, 1) := by decide +kernel
theorem dL_law_589 : decode cL_law 589 = .ok (.istore 24, 2) := by decide +kernel
theorem dL_law_591 : decode cL_law 591 = .ok (.iload 24, 2) := by decide +kernel
theorem dL_law_593 : decode cL_law 593 = .ok (.iload 5, 2) := by decide +kernel
theorem dL_law_595 : decode cL_law 595 = .ok (.if_icmp .ge 113, 3) := by decide +kernel
theorem dL_law_598 : decode cL_law 598 = .ok (.aload_n 1, 1) := by decide +kernel
theorem dL_law_599 : decode cL_law 599 = .ok (.iload 24, 2) := by decide +kernel
theorem dL_law_601 : decode cL_law 601 = .ok (.iconst 2, 1) := by decide +kernel
theorem dL_law_602 : decode cL_law 602 = .ok (.invokevirtual 122, 3) := by decide +kernel
theorem dL_law_605 : decode cL_law 605 = .ok (.istore 25, 2) := by decide +kernel
theorem dL_law_607 : decode cL_law 607 = .ok (.aload 16, 2) := by decide +kernel
theorem dL_law_609 : decode cL_law 609 = .ok (.iload 24, 2) := by decide +kernel
theorem dL_law_611 : decode cL_law 611 = .ok (.iaload, 1) := by decide +kernel
theorem dL_law_612 : decode cL_law 612 = .ok (.iconst 1, 1) := by decide +kernel
theorem dL_law_613 : decode cL_law 613 = .ok (.if_icmp .ne 20, 3) := by decide +kernel
theorem dL_law_616 : decode cL_law 616 = .ok (.iload 25, 2) := by decide +kernel
theorem dL_law_618 : decode cL_law 618 = .ok (.ifCond .lt 15, 3) := by decide +kernel
theorem dL_law_621 : decode cL_law 621 = .ok (.aload 21, 2) := by decide +kernel
theorem dL_law_623 : decode cL_law 623 = .ok (.iload 25, 2) := by decide +kernel
theorem dL_law_625 : decode cL_law 625 = .ok (.iaload, 1) := by decide +kernel
theorem dL_law_626 : decode cL_law 626 = .ok (.ifCond .ne 7, 3) := by decide +kernel
theorem dL_law_629 : decode cL_law 629 = .ok (.iconst 1, 1) := by decide +kernel
theorem dL_law_630 : decode cL_law 630 = .ok (.goto 4, 3) := by decide +kernel
theorem dL_law_633 : decode cL_law 633 = .ok (.iconst 0, 1) := by decide +kernel
theorem dL_law_634 : decode cL_law 634 = .ok (.istore 26, 2) := by decide +kernel
theorem dL_law_636 : decode cL_law 636 = .ok (.iload 23, 2) := by decide +kernel
theorem dL_law_638 : decode cL_law 638 = .ok (.iload 26, 2) := by decide +kernel
theorem dL_law_640 : decode cL_law 640 = .ok (.ifCond .eq 7, 3) := by decide +kernel
theorem dL_law_643 : decode cL_law 643 = .ok (.iconst 1, 1) := by decide +kernel
theorem dL_law_644 : decode cL_law 644 = .ok (.goto 4, 3) := by decide +kernel
theorem dL_law_647 : decode cL_law 647 = .ok (.iconst 0, 1) := by decide +kernel
theorem dL_law_648 : decode cL_law 648 = .ok (.iadd, 1) := by decide +kernel
theorem dL_law_649 : decode cL_law 649 = .ok (.istore 23, 2) := by decide +kernel
theorem dL_law_651 : decode cL_law 651 = .ok (.aload_n 1, 1) := by decide +kernel
theorem dL_law_652 : decode cL_law 652 = .ok (.iload 24, 2) := by decide +kernel
theorem dL_law_654 : decode cL_law 654 = .ok (.iconst 1, 1) := by decide +kernel
theorem dL_law_655 : decode cL_law 655 = .ok (.invokevirtual 122, 3) := by decide +kernel
theorem dL_law_658 : decode cL_law 658 = .ok (.iload 26, 2) := by decide +kernel
theorem dL_law_660 : decode cL_law 660 = .ok (.ifCond .eq 7, 3) := by decide +kernel
theorem dL_law_663 : decode cL_law 663 = .ok (.iconst 0, 1) := by decide +kernel
theorem dL_law_664 : decode cL_law 664 = .ok (.goto 8, 3) := by decide +kernel
theorem dL_law_667 : decode cL_law 667 = .ok (.aload 16, 2) := by decide +kernel
theorem dL_law_669 : decode cL_law 669 = .ok (.iload 24, 2) := by decide +kernel
theorem dL_law_671 : decode cL_law 671 = .ok (.iaload, 1) := by decide +kernel
theorem dL_law_672 : decode cL_law 672 = .ok (.if_icmp .ne 28, 3) := by decide +kernel
theorem dL_law_675 : decode cL_law 675 = .ok (.iload 26, 2) := by decide +kernel
theorem dL_law_677 : decode cL_law 677 = .ok (.aload_n 1, 1) := by decide +kernel
theorem dL_law_678 : decode cL_law 678 = .ok (.iload 24, 2) := by decide +kernel
theorem dL_law_680 : decode cL_law 680 = .ok (.iconst 0, 1) := by decide +kernel
theorem dL_law_681 : decode cL_law 681 = .ok (.invokevirtual 122, 3) := by decide +kernel
theorem dL_law_684 : decode cL_law 684 = .ok (.aload 17, 2) := by decide +kernel
theorem dL_law_686 : decode cL_law 686 = .ok (.iload 24, 2) := by decide +kernel
theorem dL_law_688 : decode cL_law 688 = .ok (.iaload, 1) := by decide +kernel
theorem dL_law_689 : decode cL_law 689 = .ok (.if_icmp .ne 7, 3) := by decide +kernel
theorem dL_law_692 : decode cL_law 692 = .ok (.iconst 1, 1) := by decide +kernel
theorem dL_law_693 : decode cL_law 693 = .ok (.goto 4, 3) := by decide +kernel
theorem dL_law_696 : decode cL_law 696 = .ok (.iconst 0, 1) := by decide +kernel
theorem dL_law_697 : decode cL_law 697 = .ok (.if_icmp .ne 5, 3) := by decide +kernel
theorem dL_law_700 : decode cL_law 700 = .ok (.iconst 0, 1) := by decide +kernel
theorem dL_law_701 : decode cL_law 701 = .ok (.ireturn, 1) := by decide +kernel
theorem dL_law_702 : decode cL_law 702 = .ok (.iinc 24 1, 3) := by decide +kernel
theorem dL_law_705 : decode cL_law 705 = .ok (.goto (-114), 3) := by decide +kernel
theorem dL_law_708 : decode cL_law 708 = .ok (.iload 23, 2) := by decide +kernel
theorem dL_law_710 : decode cL_law 710 = .ok (.iload 22, 2) := by decide +kernel
theorem dL_law_712 : decode cL_law 712 = .ok (.if_icmp .ne 44, 3) := by decide +kernel
theorem dL_law_715 : decode cL_law 715 = .ok (.aload_n 1, 1) := by decide +kernel
theorem dL_law_716 : decode cL_law 716 = .ok (.iconst 4, 1) := by decide +kernel
theorem dL_law_717 : decode cL_law 717 = .ok (.invokevirtual 119, 3) := by decide +kernel
theorem dL_law_720 : decode cL_law 720 = .ok (.iload 18, 2) := by decide +kernel
theorem dL_law_722 : decode cL_law 722 = .ok (.iload 19, 2) := by decide +kernel
theorem dL_law_724 : decode cL_law 724 = .ok (.iadd, 1) := by decide +kernel
theorem dL_law_725 : decode cL_law 725 = .ok (.if_icmp .gt 31, 3) := by decide +kernel
theorem dL_law_728 : decode cL_law 728 = .ok (.iload 20, 2) := by decide +kernel
theorem dL_law_730 : decode cL_law 730 = .ok (.ifCond .ne 16, 3) := by decide +kernel
theorem dL_law_733 : decode cL_law 733 = .ok (.aload_n 1, 1) := by decide +kernel
theorem dL_law_734 : decode cL_law 734 = .ok (.iconst 4, 1) := by decide +kernel
theorem dL_law_735 : decode cL_law 735 = .ok (.invokevirtual 119, 3) := by decide +kernel
theorem dL_law_738 : decode cL_law 738 = .ok (.iload 18, 2) := by decide +kernel
theorem dL_law_740 : decode cL_law 740 = .ok (.iload 19, 2) := by decide +kernel
theorem dL_law_742 : decode cL_law 742 = .ok (.iadd, 1) := by decide +kernel
theorem dL_law_743 : decode cL_law 743 = .ok (.if_icmp .ne 13, 3) := by decide +kernel
theorem dL_law_746 : decode cL_law 746 = .ok (.aload_n 1, 1) := by decide +kernel
theorem dL_law_747 : decode cL_law 747 = .ok (.iconst 4, 1) := by decide +kernel
theorem dL_law_748 : decode cL_law 748 = .ok (.invokevirtual 119, 3) := by decide +kernel
theorem dL_law_751 : decode cL_law 751 = .ok (.iload 18, 2) := by decide +kernel
theorem dL_law_753 : decode cL_law 753 = .ok (.if_icmp .ge 5, 3) := by decide +kernel
theorem dL_law_756 : decode cL_law 756 = .ok (.iconst 0, 1) := by decide +kernel
theorem dL_law_757 : decode cL_law 757 = .ok (.ireturn, 1) := by decide +kernel
theorem dL_law_758 : decode cL_law 758 = .ok (.iconst 0, 1) := by decide +kernel
theorem dL_law_759 : decode cL_law 759 = .ok (.istore 24, 2) := by decide +kernel
theorem dL_law_761 : decode cL_law 761 = .ok (.iload 24, 2) := by decide +kernel
theorem dL_law_763 : decode cL_law 763 = .ok (.iconst 3, 1) := by decide +kernel
theorem dL_law_764 : decode cL_law 764 = .ok (.if_icmp .ge 45, 3) := by decide +kernel
theorem dL_law_767 : decode cL_law 767 = .ok (.aload_n 1, 1) := by decide +kernel
theorem dL_law_768 : decode cL_law 768 = .ok (.iload 24, 2) := by decide +kernel
theorem dL_law_770 : decode cL_law 770 = .ok (.iconst 1, 1) := by decide +kernel
theorem dL_law_771 : decode cL_law 771 = .ok (.invokevirtual 134, 3) := by decide +kernel
theorem dL_law_774 : decode cL_law 774 = .ok (.aload_n 1, 1) := by decide +kernel
theorem dL_law_775 : decode cL_law 775 = .ok (.iload 24, 2) := by decide +kernel
theorem dL_law_777 : decode cL_law 777 = .ok (.iconst 0, 1) := by decide +kernel
theorem dL_law_778 : decode cL_law 778 = .ok (.invokevirtual 134, 3) := by decide +kernel
theorem dL_law_781 : decode cL_law 781 = .ok (.if_icmp .gt 20, 3) := by decide +kernel
theorem dL_law_784 : decode cL_law 784 = .ok (.aload_n 1, 1) := by decide +kernel
theorem dL_law_785 : decode cL_law 785 = .ok (.iload 24, 2) := by decide +kernel
theorem dL_law_787 : decode cL_law 787 = .ok (.iconst 3, 1) := by decide +kernel
theorem dL_law_788 : decode cL_law 788 = .ok (.invokevirtual 134, 3) := by decide +kernel
theorem dL_law_791 : decode cL_law 791 = .ok (.aload_n 1, 1) := by decide +kernel
theorem dL_law_792 : decode cL_law 792 = .ok (.iload 24, 2) := by decide +kernel
theorem dL_law_794 : decode cL_law 794 = .ok (.iconst 1, 1) := by decide +kernel
theorem dL_law_795 : decode cL_law 795 = .ok (.invokevirtual 134, 3) := by decide +kernel
theorem dL_law_798 : decode cL_law 798 = .ok (.if_icmp .le 5, 3) := by decide +kernel
theorem dL_law_801 : decode cL_law 801 = .ok (.iconst 0, 1) := by decide +kernel
theorem dL_law_802 : decode cL_law 802 = .ok (.ireturn, 1) := by decide +kernel
theorem dL_law_803 : decode cL_law 803 = .ok (.iinc 24 1, 3) := by decide +kernel
theorem dL_law_806 : decode cL_law 806 = .ok (.goto (-45), 3) := by decide +kernel
theorem dL_law_809 : decode cL_law 809 = .ok (.iinc 3 1, 3) := by decide +kernel
theorem dL_law_812 : decode cL_law 812 = .ok (.goto (-790), 3) := by decide +kernel
theorem dL_law_815 : decode cL_law 815 = .ok (.aload_n 2, 1) := by decide +kernel
theorem dL_law_816 : decode cL_law 816 = .ok (.aload_n 1, 1) := by decide +kernel
theorem dL_law_817 : decode cL_law 817 = .ok (.invokevirtual 136, 3) := by decide +kernel
theorem dL_law_820 : decode cL_law 820 = .ok (.ireturn, 1) := by decide +kernel
end
section
/-- the tables' good words: every method's own word list is its code and these -/
def GW : List Cond := lw_tbl.filter goodWord
theorem gwm {w : Cond} (i : Nat) (h : lw_tbl[i]? = some w) (hg : goodWord w = true) : w ∈ GW := List.mem_filter.mpr ⟨List.mem_of_getElem? h, hg⟩
theorem gw_good : ∀ w ∈ GW, goodWord w = true := fun _ h => (List.mem_filter.mp h).2
/-- the tables' words that a call doesn't hand on by itself: members of nest mates, declared, castable -/
def nwk : Cond → Bool
  | .fieldLinkNest .. => true
  | .methodLinkNest .. => true
  | .declares _ => true
  | .castable .. => true
  | _ => false
def NW : List Cond := lw_tbl.filter nwk
theorem nwm {w : Cond} (i : Nat) (h : lw_tbl[i]? = some w) (hg : nwk w = true) : w ∈ NW := List.mem_filter.mpr ⟨List.mem_of_getElem? h, hg⟩
theorem nw_warm {s U : State} {w : Cond} (hk : nwk w = true) (hW : s.WarmedH U.vm) (h : va_Nw w s) : va_Nw w U := by
  cases w <;> first | exact va_Nw.warmF hW h | exact va_Nw.warmM hW h | exact va_Nw.warmD hW h | exact va_Nw.warmC hW h | cases hk
theorem nw_tab {w : Cond} (hk : nwk w = true) : w.onTables = true := by cases w <;> first | rfl | cases hk
theorem good_in {ws : List Cond} (h : ∀ w ∈ ws, w ∈ GW) : GoodIn GW ws := fun w hw => ⟨h w hw, good_of_word (gw_good w (h w hw))⟩

theorem gw0 : Cond.selects RX3 yX3_lockAt yX3_lockAt ∈ GW := gwm 0 (by decide +kernel) (by decide +kernel)
theorem gw1 : Cond.selects "java/lang/Throwable" ⟨"java/lang/Throwable", "fillInStackTrace", "(I)Ljava/lang/Throwable;"⟩ ⟨"java/lang/Throwable", "fillInStackTrace", "(I)Ljava/lang/Throwable;"⟩ ∈ GW := gwm 1 (by decide +kernel) (by decide +kernel)
theorem gw2 : Cond.selects RX0 yX0_mostWorn yX0_mostWorn ∈ GW := gwm 2 (by decide +kernel) (by decide +kernel)
theorem gw3 : Cond.selects RX3 yX3_rackAt yX3_rackAt ∈ GW := gwm 3 (by decide +kernel) (by decide +kernel)
theorem gw4 : Cond.selects RX3 yX3_isRack yX3_isRack ∈ GW := gwm 4 (by decide +kernel) (by decide +kernel)
theorem gw5 : Cond.selects RX3 yX3_locksIn yX3_locksIn ∈ GW := gwm 5 (by decide +kernel) (by decide +kernel)
theorem gw6 : Cond.selects RX3 yX3_openLocksIn yX3_openLocksIn ∈ GW := gwm 6 (by decide +kernel) (by decide +kernel)
theorem gw7 : Cond.selects RX3 yX3_openLocks yX3_openLocks ∈ GW := gwm 7 (by decide +kernel) (by decide +kernel)
theorem gw8 : Cond.selects RX3 yX3_lostWords yX3_lostWords ∈ GW := gwm 8 (by decide +kernel) (by decide +kernel)
theorem gw9 : Cond.selects RX3 yX3_allWear yX3_allWear ∈ GW := gwm 9 (by decide +kernel) (by decide +kernel)
theorem gw10 : Cond.selects RX3 yX3_locksInRacks yX3_locksInRacks ∈ GW := gwm 10 (by decide +kernel) (by decide +kernel)
theorem gw11 : Cond.selects RX2 yX2_wordsWith yX2_wordsWith ∈ GW := gwm 11 (by decide +kernel) (by decide +kernel)
theorem gw12 : Cond.selects RX2 yX2_lesserWordsOfSum yX2_lesserWordsOfSum ∈ GW := gwm 12 (by decide +kernel) (by decide +kernel)
theorem gw13 : Cond.selects RX3 yX3_letHourGoBy yX3_letHourGoBy ∈ GW := gwm 13 (by decide +kernel) (by decide +kernel)
theorem gw14 : Cond.selects RX0 yX0_wearMore yX0_wearMore ∈ GW := gwm 14 (by decide +kernel) (by decide +kernel)
theorem gw15 : Cond.selects RX3 yX3_isInClosedRack yX3_isInClosedRack ∈ GW := gwm 15 (by decide +kernel) (by decide +kernel)
theorem gw16 : Cond.selects RJx4a65c yJx4a65c_add_72be8 yJx4a65c_add_72be8 ∈ GW := gwm 16 (by decide +kernel) (by decide +kernel)
theorem gw17 : Cond.selects RJx4a65c yJx4a65c_grow_d5877 yJx4a65c_grow_d5877 ∈ GW := gwm 17 (by decide +kernel) (by decide +kernel)
theorem gw18 : Cond.selects RJx4a65c yJx4a65c_grow_92f84 yJx4a65c_grow_92f84 ∈ GW := gwm 18 (by decide +kernel) (by decide +kernel)
theorem gw19 : Cond.selects RX3 yX3_takesAnother yX3_takesAnother ∈ GW := gwm 19 (by decide +kernel) (by decide +kernel)
theorem gw20 : Cond.initialized RL ∈ GW := gwm 20 (by decide +kernel) (by decide +kernel)
theorem gw21 : Cond.initialized RX3 ∈ GW := gwm 21 (by decide +kernel) (by decide +kernel)
theorem gw22 : Cond.initialized RJxa1e45 ∈ GW := gwm 22 (by decide +kernel) (by decide +kernel)
theorem gw23 : Cond.initialized RJxc12de ∈ GW := gwm 23 (by decide +kernel) (by decide +kernel)
theorem gw24 : Cond.initialized RJx4a65c ∈ GW := gwm 24 (by decide +kernel) (by decide +kernel)
theorem gw25 : Cond.initialized RX1 ∈ GW := gwm 25 (by decide +kernel) (by decide +kernel)
theorem gw26 : Cond.initialized RX2 ∈ GW := gwm 26 (by decide +kernel) (by decide +kernel)
theorem gw27 : Cond.initialized RX0 ∈ GW := gwm 27 (by decide +kernel) (by decide +kernel)
theorem gw28 : Cond.initialized RX5 ∈ GW := gwm 28 (by decide +kernel) (by decide +kernel)
theorem gw29 : Cond.initialized RX4 ∈ GW := gwm 29 (by decide +kernel) (by decide +kernel)
theorem gw30 : Cond.initialized "java/lang/Throwable" ∈ GW := gwm 30 (by decide +kernel) (by decide +kernel)
theorem gw31 : Cond.initialized "java/lang/Exception" ∈ GW := gwm 31 (by decide +kernel) (by decide +kernel)
theorem gw32 : Cond.initialized "java/lang/RuntimeException" ∈ GW := gwm 32 (by decide +kernel) (by decide +kernel)
theorem gw33 : Cond.initialized "java/lang/IllegalArgumentException" ∈ GW := gwm 33 (by decide +kernel) (by decide +kernel)
theorem gw34 : Cond.initialized "java/lang/IllegalStateException" ∈ GW := gwm 34 (by decide +kernel) (by decide +kernel)
theorem gw35 : Cond.initialized RJ8 ∈ GW := gwm 35 (by decide +kernel) (by decide +kernel)
theorem gw36 : Cond.initialized RJ9 ∈ GW := gwm 36 (by decide +kernel) (by decide +kernel)
theorem gw37 : Cond.initialized RJ7 ∈ GW := gwm 37 (by decide +kernel) (by decide +kernel)
theorem gw38 : Cond.initialized RJ10 ∈ GW := gwm 38 (by decide +kernel) (by decide +kernel)
theorem gw39 : Cond.initialized "java/lang/IndexOutOfBoundsException" ∈ GW := gwm 39 (by decide +kernel) (by decide +kernel)
theorem gw40 : Cond.initialized RJ15 ∈ GW := gwm 40 (by decide +kernel) (by decide +kernel)
theorem gw41 : Cond.initialized RJ3 ∈ GW := gwm 41 (by decide +kernel) (by decide +kernel)
theorem gw42 : Cond.classLink RL 36 RX3 ∈ GW := gwm 42 (by decide +kernel) (by decide +kernel)
theorem gw43 : Cond.instantiable RX3 6 ∈ GW := gwm 43 (by decide +kernel) (by decide +kernel)
theorem gw44 : Cond.methodLink RL 114 yX3_init ∈ GW := gwm 44 (by decide +kernel) (by decide +kernel)
theorem gw45 : Cond.instanceMethod yX3_init ∈ GW := gwm 45 (by decide +kernel) (by decide +kernel)
theorem gw46 : Cond.code yX3_init cX3_init 2 (Option.none : Option Jvm.ClassFile.FieldType) ∈ GW := gwm 46 (by decide +kernel) (by decide +kernel)
theorem gw47 : Cond.methodLink RX3 1 objectInit ∈ GW := gwm 47 (by decide +kernel) (by decide +kernel)
theorem gw48 : Cond.instanceMethod objectInit ∈ GW := gwm 48 (by decide +kernel) (by decide +kernel)
theorem gw49 : Cond.code objectInit ⟨#[0xb1]⟩ 1 none ∈ GW := gwm 49 (by decide +kernel) (by decide +kernel)
theorem gw50 : Cond.classLink RX3 7 RJx4a65c ∈ GW := gwm 50 (by decide +kernel) (by decide +kernel)
theorem gw51 : Cond.instantiable RJx4a65c 3 ∈ GW := gwm 51 (by decide +kernel) (by decide +kernel)
theorem gw52 : Cond.methodLink RX3 9 yJx4a65c_init_da8c8 ∈ GW := gwm 52 (by decide +kernel) (by decide +kernel)
theorem gw53 : Cond.instanceMethod yJx4a65c_init_da8c8 ∈ GW := gwm 53 (by decide +kernel) (by decide +kernel)
theorem gw54 : Cond.code yJx4a65c_init_da8c8 cJx4a65c_init_da8c8 1 (Option.none : Option Jvm.ClassFile.FieldType) ∈ GW := gwm 54 (by decide +kernel) (by decide +kernel)
theorem gw55 : Cond.methodLink RJx4a65c 1 yJxc12de_init_da8c8 ∈ GW := gwm 55 (by decide +kernel) (by decide +kernel)
theorem gw56 : Cond.instanceMethod yJxc12de_init_da8c8 ∈ GW := gwm 56 (by decide +kernel) (by decide +kernel)
theorem gw57 : Cond.code yJxc12de_init_da8c8 cJxc12de_init_da8c8 1 (Option.none : Option Jvm.ClassFile.FieldType) ∈ GW := gwm 57 (by decide +kernel) (by decide +kernel)
theorem gw58 : Cond.methodLink RJxc12de 1 yJxa1e45_init_da8c8 ∈ GW := gwm 58 (by decide +kernel) (by decide +kernel)
theorem gw59 : Cond.instanceMethod yJxa1e45_init_da8c8 ∈ GW := gwm 59 (by decide +kernel) (by decide +kernel)
theorem gw60 : Cond.code yJxa1e45_init_da8c8 cJxa1e45_init_da8c8 1 (Option.none : Option Jvm.ClassFile.FieldType) ∈ GW := gwm 60 (by decide +kernel) (by decide +kernel)
theorem gw61 : Cond.methodLink RJxa1e45 1 objectInit ∈ GW := gwm 61 (by decide +kernel) (by decide +kernel)
theorem gw62 : Cond.fieldLink RJx4a65c 39 "java/util/ArrayList" "DEFAULTCAPACITY_EMPTY_ELEMENTDATA" "[Ljava/lang/Object;" ∈ GW := gwm 62 (by decide +kernel) (by decide +kernel)
theorem gw64 : Cond.fieldLink RJx4a65c 9 "java/util/ArrayList" "elementData" "[Ljava/lang/Object;" ∈ GW := gwm 64 (by decide +kernel) (by decide +kernel)
theorem gw65 : Cond.fieldLink RJx4a65c 48 "java/util/ArrayList" "size" "I" ∈ GW := gwm 65 (by decide +kernel) (by decide +kernel)
theorem gw66 : Cond.fieldLink RJxc12de 7 "java/util/AbstractList" "modCount" "I" ∈ GW := gwm 66 (by decide +kernel) (by decide +kernel)
theorem gw67 : Cond.fieldLink RJx4a65c 63 "java/util/ArrayList" "modCount" "I" ∈ GW := gwm 67 (by decide +kernel) (by decide +kernel)
theorem gw76 : Cond.classLink RX3 16 RX1 ∈ GW := gwm 76 (by decide +kernel) (by decide +kernel)
theorem gw78 : Cond.instantiable RX1 3 ∈ GW := gwm 78 (by decide +kernel) (by decide +kernel)
theorem nw79 : Cond.methodLinkNest RX3 22 yX1_init "LetterLocks" ∈ NW := nwm 79 (by decide +kernel) (by decide +kernel)
theorem gw80 : Cond.instanceMethod yX1_init ∈ GW := gwm 80 (by decide +kernel) (by decide +kernel)
theorem gw81 : Cond.code yX1_init cX1_init 1 (Option.none : Option Jvm.ClassFile.FieldType) ∈ GW := gwm 81 (by decide +kernel) (by decide +kernel)
theorem gw82 : Cond.methodLink RX1 3 objectInit ∈ GW := gwm 82 (by decide +kernel) (by decide +kernel)
theorem gw83 : Cond.fieldLink RX1 9 "LetterLocks$Rack" "places" "I" ∈ GW := gwm 83 (by decide +kernel) (by decide +kernel)
theorem nw84 : Cond.fieldLinkNest RX3 123 "LetterLocks$Rack" "places" "I" "LetterLocks" ∈ NW := nwm 84 (by decide +kernel) (by decide +kernel)
theorem gw85 : Cond.fieldLink RX1 15 "LetterLocks$Rack" "from" "I" ∈ GW := gwm 85 (by decide +kernel) (by decide +kernel)
theorem nw86 : Cond.fieldLinkNest RX3 128 "LetterLocks$Rack" "from" "I" "LetterLocks" ∈ NW := nwm 86 (by decide +kernel) (by decide +kernel)
theorem gw87 : Cond.fieldLink RX1 18 "LetterLocks$Rack" "to" "I" ∈ GW := gwm 87 (by decide +kernel) (by decide +kernel)
theorem nw88 : Cond.fieldLinkNest RX3 131 "LetterLocks$Rack" "to" "I" "LetterLocks" ∈ NW := nwm 88 (by decide +kernel) (by decide +kernel)
theorem gw96 : Cond.classLink RX3 23 RX2 ∈ GW := gwm 96 (by decide +kernel) (by decide +kernel)
theorem gw97 : Cond.instantiable RX2 1 ∈ GW := gwm 97 (by decide +kernel) (by decide +kernel)
theorem gw98 : Cond.methodLink RX3 25 yX2_init ∈ GW := gwm 98 (by decide +kernel) (by decide +kernel)
theorem gw99 : Cond.instanceMethod yX2_init ∈ GW := gwm 99 (by decide +kernel) (by decide +kernel)
theorem gw100 : Cond.code yX2_init cX2_init 4 (Option.none : Option Jvm.ClassFile.FieldType) ∈ GW := gwm 100 (by decide +kernel) (by decide +kernel)
theorem gw101 : Cond.methodLink RX2 3 objectInit ∈ GW := gwm 101 (by decide +kernel) (by decide +kernel)
theorem gw102 : Cond.classLink RX2 11 "[[I" ∈ GW := gwm 102 (by decide +kernel) (by decide +kernel)
theorem gw104 : Cond.fieldLink RX2 13 "LetterLocks$Thief" "wordsOfRingsAndSum" "[[I" ∈ GW := gwm 104 (by decide +kernel) (by decide +kernel)
theorem gw109 : Cond.classLink RX3 30 RX0 ∈ GW := gwm 109 (by decide +kernel) (by decide +kernel)
theorem gw110 : Cond.instantiable RX0 6 ∈ GW := gwm 110 (by decide +kernel) (by decide +kernel)
theorem gw111 : Cond.methodLink RX3 32 yX0_init ∈ GW := gwm 111 (by decide +kernel) (by decide +kernel)
theorem gw112 : Cond.instanceMethod yX0_init ∈ GW := gwm 112 (by decide +kernel) (by decide +kernel)
theorem gw113 : Cond.code yX0_init cX0_init 2 (Option.none : Option Jvm.ClassFile.FieldType) ∈ GW := gwm 113 (by decide +kernel) (by decide +kernel)
theorem gw114 : Cond.methodLink RX0 3 objectInit ∈ GW := gwm 114 (by decide +kernel) (by decide +kernel)
theorem gw115 : Cond.fieldLink RX0 9 "LetterLocks$Lock" "letters" "[I" ∈ GW := gwm 115 (by decide +kernel) (by decide +kernel)
theorem gw116 : Cond.fieldLink RX0 15 "LetterLocks$Lock" "wears" "[I" ∈ GW := gwm 116 (by decide +kernel) (by decide +kernel)
theorem gw117 : Cond.fieldLink RX0 29 "LetterLocks$Lock" "word" "I" ∈ GW := gwm 117 (by decide +kernel) (by decide +kernel)
theorem nw118 : Cond.fieldLinkNest RX3 95 "LetterLocks$Lock" "word" "I" "LetterLocks" ∈ NW := nwm 118 (by decide +kernel) (by decide +kernel)
theorem gw119 : Cond.fieldLink RX0 18 "LetterLocks$Lock" "inRack" "I" ∈ GW := gwm 119 (by decide +kernel) (by decide +kernel)
theorem nw120 : Cond.fieldLinkNest RX3 142 "LetterLocks$Lock" "inRack" "I" "LetterLocks" ∈ NW := nwm 120 (by decide +kernel) (by decide +kernel)
theorem gw121 : Cond.fieldLink RX0 22 "LetterLocks$Lock" "isOpen" "Z" ∈ GW := gwm 121 (by decide +kernel) (by decide +kernel)
theorem nw122 : Cond.fieldLinkNest RX3 98 "LetterLocks$Lock" "isOpen" "Z" "LetterLocks" ∈ NW := nwm 122 (by decide +kernel) (by decide +kernel)
theorem gw123 : Cond.fieldLink RX0 26 "LetterLocks$Lock" "isLost" "Z" ∈ GW := gwm 123 (by decide +kernel) (by decide +kernel)
theorem nw124 : Cond.fieldLinkNest RX3 109 "LetterLocks$Lock" "isLost" "Z" "LetterLocks" ∈ NW := nwm 124 (by decide +kernel) (by decide +kernel)
theorem gw138 : Cond.fieldLink RX3 10 "LetterLocks" "locks" "Ljava/util/ArrayList;" ∈ GW := gwm 138 (by decide +kernel) (by decide +kernel)
theorem gw139 : Cond.fieldLink RX3 18 "LetterLocks" "racks" "[LLetterLocks$Rack;" ∈ GW := gwm 139 (by decide +kernel) (by decide +kernel)
theorem gw140 : Cond.fieldLink RX3 26 "LetterLocks" "thief" "LLetterLocks$Thief;" ∈ GW := gwm 140 (by decide +kernel) (by decide +kernel)
theorem gw141 : Cond.fieldLink RX3 35 "LetterLocks" "foreseen" "LLetterLocks$Lock;" ∈ GW := gwm 141 (by decide +kernel) (by decide +kernel)
theorem gw142 : Cond.fieldLink RX3 39 "LetterLocks" "hour" "I" ∈ GW := gwm 142 (by decide +kernel) (by decide +kernel)
theorem gw143 : Cond.fieldLink RX3 43 "LetterLocks" "turns" "I" ∈ GW := gwm 143 (by decide +kernel) (by decide +kernel)
theorem gw157 : Cond.methodLink RL 51 yX3_turn ∈ GW := gwm 157 (by decide +kernel) (by decide +kernel)
theorem gw158 : Cond.instanceMethod yX3_turn ∈ GW := gwm 158 (by decide +kernel) (by decide +kernel)
theorem gw159 : Cond.selects RX3 yX3_turn yX3_turn ∈ GW := gwm 159 (by decide +kernel) (by decide +kernel)
theorem gw160 : Cond.code yX3_turn cX3_turn 6 (Option.some Jvm.ClassFile.FieldType.int) ∈ GW := gwm 160 (by decide +kernel) (by decide +kernel)
theorem gw161 : Cond.methodLink RX3 64 yX3_lockAt ∈ GW := gwm 161 (by decide +kernel) (by decide +kernel)
theorem gw163 : Cond.instanceMethod yX3_lockAt ∈ GW := gwm 163 (by decide +kernel) (by decide +kernel)
theorem gw164 : Cond.code yX3_lockAt cX3_lockAt 2 (Option.some (Jvm.ClassFile.FieldType.object "LetterLocks$Lock")) ∈ GW := gwm 164 (by decide +kernel) (by decide +kernel)
theorem gw165 : Cond.methodLink RX3 49 yJx4a65c_size_8abf5 ∈ GW := gwm 165 (by decide +kernel) (by decide +kernel)
theorem gw166 : Cond.instanceMethod yJx4a65c_size_8abf5 ∈ GW := gwm 166 (by decide +kernel) (by decide +kernel)
theorem gw167 : Cond.selects RJx4a65c yJx4a65c_size_8abf5 yJx4a65c_size_8abf5 ∈ GW := gwm 167 (by decide +kernel) (by decide +kernel)
theorem gw168 : Cond.code yJx4a65c_size_8abf5 cJx4a65c_size_8abf5 1 (Option.some Jvm.ClassFile.FieldType.int) ∈ GW := gwm 168 (by decide +kernel) (by decide +kernel)
theorem gw169 : Cond.classLink RX3 137 "java/lang/IndexOutOfBoundsException" ∈ GW := gwm 169 (by decide +kernel) (by decide +kernel)
theorem gw170 : Cond.instantiable "java/lang/IndexOutOfBoundsException" 6 ∈ GW := gwm 170 (by decide +kernel) (by decide +kernel)
theorem nw171 : Cond.castable "java/lang/IndexOutOfBoundsException" "java/lang/IndexOutOfBoundsException" ∈ NW := nwm 171 (by decide +kernel) (by decide +kernel)
theorem nw172 : Cond.declares ⟨"java/lang/RuntimeException", "<init>", "()V"⟩ ∈ NW := nwm 172 (by decide +kernel) (by decide +kernel)
theorem nw173 : Cond.declares ⟨"java/lang/RuntimeException", "<init>", "(Ljava/lang/String;)V"⟩ ∈ NW := nwm 173 (by decide +kernel) (by decide +kernel)
theorem nw174 : Cond.declares ⟨"java/lang/Exception", "<init>", "()V"⟩ ∈ NW := nwm 174 (by decide +kernel) (by decide +kernel)
theorem nw175 : Cond.declares ⟨"java/lang/Exception", "<init>", "(Ljava/lang/String;)V"⟩ ∈ NW := nwm 175 (by decide +kernel) (by decide +kernel)
theorem nw176 : Cond.declares ⟨"java/lang/Throwable", "<init>", "()V"⟩ ∈ NW := nwm 176 (by decide +kernel) (by decide +kernel)
theorem nw177 : Cond.declares ⟨"java/lang/Throwable", "<init>", "(Ljava/lang/String;)V"⟩ ∈ NW := nwm 177 (by decide +kernel) (by decide +kernel)
theorem gw178 : Cond.selects "java/lang/IndexOutOfBoundsException" ⟨"java/lang/Throwable", "fillInStackTrace", "(I)Ljava/lang/Throwable;"⟩ ⟨"java/lang/Throwable", "fillInStackTrace", "(I)Ljava/lang/Throwable;"⟩ ∈ GW := gwm 178 (by decide +kernel) (by decide +kernel)
theorem gw179 : Cond.selects "java/lang/IndexOutOfBoundsException" ⟨"java/lang/Throwable", "fillInStackTrace", "()Ljava/lang/Throwable;"⟩ ⟨"java/lang/Throwable", "fillInStackTrace", "()Ljava/lang/Throwable;"⟩ ∈ GW := gwm 179 (by decide +kernel) (by decide +kernel)
theorem gw190 : Cond.fieldLink "java/lang/Throwable" 198 "java/lang/Throwable" "backtrace" "Ljava/lang/Object;" ∈ GW := gwm 190 (by decide +kernel) (by decide +kernel)
theorem gw192 : Cond.instanceMethod ⟨"java/lang/Throwable", "<init>", "()V"⟩ ∈ GW := gwm 192 (by decide +kernel) (by decide +kernel)
theorem gw194 : Cond.methodLink "java/lang/Throwable" 1 objectInit ∈ GW := gwm 194 (by decide +kernel) (by decide +kernel)
theorem gw195 : Cond.fieldLink "java/lang/Throwable" 13 "java/lang/Throwable" "UNASSIGNED_STACK" "[Ljava/lang/StackTraceElement;" ∈ GW := gwm 195 (by decide +kernel) (by decide +kernel)
theorem gw197 : Cond.fieldLink "java/lang/Throwable" 20 "java/lang/Throwable" "SUPPRESSED_SENTINEL" "Ljava/util/List;" ∈ GW := gwm 197 (by decide +kernel) (by decide +kernel)
theorem gw199 : Cond.methodLink "java/lang/Throwable" 27 ⟨"java/lang/Throwable", "fillInStackTrace", "()Ljava/lang/Throwable;"⟩ ∈ GW := gwm 199 (by decide +kernel) (by decide +kernel)
theorem gw200 : Cond.instanceMethod ⟨"java/lang/Throwable", "fillInStackTrace", "()Ljava/lang/Throwable;"⟩ ∈ GW := gwm 200 (by decide +kernel) (by decide +kernel)
theorem gw202 : Cond.selects "java/lang/IllegalArgumentException" ⟨"java/lang/Throwable", "fillInStackTrace", "()Ljava/lang/Throwable;"⟩ ⟨"java/lang/Throwable", "fillInStackTrace", "()Ljava/lang/Throwable;"⟩ ∈ GW := gwm 202 (by decide +kernel) (by decide +kernel)
theorem gw203 : Cond.selects "java/lang/IllegalStateException" ⟨"java/lang/Throwable", "fillInStackTrace", "()Ljava/lang/Throwable;"⟩ ⟨"java/lang/Throwable", "fillInStackTrace", "()Ljava/lang/Throwable;"⟩ ∈ GW := gwm 203 (by decide +kernel) (by decide +kernel)
theorem gw205 : Cond.methodLink "java/lang/Throwable" 202 ⟨"java/lang/Throwable", "fillInStackTrace", "(I)Ljava/lang/Throwable;"⟩ ∈ GW := gwm 205 (by decide +kernel) (by decide +kernel)
theorem gw207 : Cond.instanceMethod ⟨"java/lang/Throwable", "fillInStackTrace", "(I)Ljava/lang/Throwable;"⟩ ∈ GW := gwm 207 (by decide +kernel) (by decide +kernel)
theorem gw208 : Cond.instantiable "java/lang/Throwable" 6 ∈ GW := gwm 208 (by decide +kernel) (by decide +kernel)
theorem gw209 : Cond.native ⟨"java/lang/Throwable", "fillInStackTrace", "(I)Ljava/lang/Throwable;"⟩ ∈ GW := gwm 209 (by decide +kernel) (by decide +kernel)
theorem gw211 : Cond.methodLink RX3 141 ⟨"java/lang/IndexOutOfBoundsException", "<init>", "(Ljava/lang/String;)V"⟩ ∈ GW := gwm 211 (by decide +kernel) (by decide +kernel)
theorem gw212 : Cond.instanceMethod ⟨"java/lang/IndexOutOfBoundsException", "<init>", "(Ljava/lang/String;)V"⟩ ∈ GW := gwm 212 (by decide +kernel) (by decide +kernel)
theorem gw214 : Cond.methodLink "java/lang/IndexOutOfBoundsException" 7 ⟨"java/lang/RuntimeException", "<init>", "(Ljava/lang/String;)V"⟩ ∈ GW := gwm 214 (by decide +kernel) (by decide +kernel)
theorem gw215 : Cond.instanceMethod ⟨"java/lang/RuntimeException", "<init>", "(Ljava/lang/String;)V"⟩ ∈ GW := gwm 215 (by decide +kernel) (by decide +kernel)
theorem gw217 : Cond.methodLink "java/lang/RuntimeException" 7 ⟨"java/lang/Exception", "<init>", "(Ljava/lang/String;)V"⟩ ∈ GW := gwm 217 (by decide +kernel) (by decide +kernel)
theorem gw218 : Cond.instanceMethod ⟨"java/lang/Exception", "<init>", "(Ljava/lang/String;)V"⟩ ∈ GW := gwm 218 (by decide +kernel) (by decide +kernel)
theorem gw220 : Cond.methodLink "java/lang/Exception" 7 ⟨"java/lang/Throwable", "<init>", "(Ljava/lang/String;)V"⟩ ∈ GW := gwm 220 (by decide +kernel) (by decide +kernel)
theorem gw221 : Cond.instanceMethod ⟨"java/lang/Throwable", "<init>", "(Ljava/lang/String;)V"⟩ ∈ GW := gwm 221 (by decide +kernel) (by decide +kernel)
theorem gw224 : Cond.fieldLink "java/lang/Throwable" 31 "java/lang/Throwable" "detailMessage" "Ljava/lang/String;" ∈ GW := gwm 224 (by decide +kernel) (by decide +kernel)
theorem gw225 : Cond.fieldLink "java/lang/Throwable" 7 "java/lang/Throwable" "cause" "Ljava/lang/Throwable;" ∈ GW := gwm 225 (by decide +kernel) (by decide +kernel)
theorem gw226 : Cond.fieldLink "java/lang/Throwable" 17 "java/lang/Throwable" "stackTrace" "[Ljava/lang/StackTraceElement;" ∈ GW := gwm 226 (by decide +kernel) (by decide +kernel)
theorem gw227 : Cond.fieldLink "java/lang/Throwable" 24 "java/lang/Throwable" "suppressedExceptions" "Ljava/util/List;" ∈ GW := gwm 227 (by decide +kernel) (by decide +kernel)
theorem gw237 : Cond.methodLink RX3 188 yJx4a65c_get_915e3 ∈ GW := gwm 237 (by decide +kernel) (by decide +kernel)
theorem gw238 : Cond.instanceMethod yJx4a65c_get_915e3 ∈ GW := gwm 238 (by decide +kernel) (by decide +kernel)
theorem gw239 : Cond.selects RJx4a65c yJx4a65c_get_915e3 yJx4a65c_get_915e3 ∈ GW := gwm 239 (by decide +kernel) (by decide +kernel)
theorem gw240 : Cond.code yJx4a65c_get_915e3 cJx4a65c_get_915e3 2 (Option.some (Jvm.ClassFile.FieldType.object "java/lang/Object")) ∈ GW := gwm 240 (by decide +kernel) (by decide +kernel)
theorem gw241 : Cond.methodLink RJx4a65c 118 yJ15_checkIndex_7cf53 ∈ GW := gwm 241 (by decide +kernel) (by decide +kernel)
theorem gw242 : Cond.static yJ15_checkIndex_7cf53 ∈ GW := gwm 242 (by decide +kernel) (by decide +kernel)
theorem gw243 : Cond.code yJ15_checkIndex_7cf53 cJ15_checkIndex_7cf53 2 (Option.some Jvm.ClassFile.FieldType.int) ∈ GW := gwm 243 (by decide +kernel) (by decide +kernel)
theorem gw244 : Cond.methodLink RJ15 105 yJ3_checkIndex_8e157 ∈ GW := gwm 244 (by decide +kernel) (by decide +kernel)
theorem gw245 : Cond.static yJ3_checkIndex_8e157 ∈ GW := gwm 245 (by decide +kernel) (by decide +kernel)
theorem gw246 : Cond.code yJ3_checkIndex_8e157 cJ3_checkIndex_8e157 3 (Option.some Jvm.ClassFile.FieldType.int) ∈ GW := gwm 246 (by decide +kernel) (by decide +kernel)
theorem gw247 : Cond.methodLink RJx4a65c 123 yJx4a65c_elementData_915e3 ∈ GW := gwm 247 (by decide +kernel) (by decide +kernel)
theorem gw248 : Cond.instanceMethod yJx4a65c_elementData_915e3 ∈ GW := gwm 248 (by decide +kernel) (by decide +kernel)
theorem gw249 : Cond.selects RJx4a65c yJx4a65c_elementData_915e3 yJx4a65c_elementData_915e3 ∈ GW := gwm 249 (by decide +kernel) (by decide +kernel)
theorem gw250 : Cond.code yJx4a65c_elementData_915e3 cJx4a65c_elementData_915e3 2 (Option.some (Jvm.ClassFile.FieldType.object "java/lang/Object")) ∈ GW := gwm 250 (by decide +kernel) (by decide +kernel)
theorem gw251 : Cond.methodLink RX3 68 yX3_requireRing ∈ GW := gwm 251 (by decide +kernel) (by decide +kernel)
theorem gw252 : Cond.static yX3_requireRing ∈ GW := gwm 252 (by decide +kernel) (by decide +kernel)
theorem gw253 : Cond.code yX3_requireRing cX3_requireRing 1 (Option.none : Option Jvm.ClassFile.FieldType) ∈ GW := gwm 253 (by decide +kernel) (by decide +kernel)
theorem gw254 : Cond.methodLink RX3 228 yX3_isRing ∈ GW := gwm 254 (by decide +kernel) (by decide +kernel)
theorem gw255 : Cond.static yX3_isRing ∈ GW := gwm 255 (by decide +kernel) (by decide +kernel)
theorem gw256 : Cond.code yX3_isRing cX3_isRing 1 (Option.some Jvm.ClassFile.FieldType.boolean) ∈ GW := gwm 256 (by decide +kernel) (by decide +kernel)
theorem gw258 : Cond.methodLink RX3 71 yX3_isLetter ∈ GW := gwm 258 (by decide +kernel) (by decide +kernel)
theorem gw259 : Cond.static yX3_isLetter ∈ GW := gwm 259 (by decide +kernel) (by decide +kernel)
theorem gw260 : Cond.code yX3_isLetter cX3_isLetter 1 (Option.some Jvm.ClassFile.FieldType.boolean) ∈ GW := gwm 260 (by decide +kernel) (by decide +kernel)
theorem gw261 : Cond.classLink RX3 75 "java/lang/IllegalArgumentException" ∈ GW := gwm 261 (by decide +kernel) (by decide +kernel)
theorem gw262 : Cond.instantiable "java/lang/IllegalArgumentException" 6 ∈ GW := gwm 262 (by decide +kernel) (by decide +kernel)
theorem nw263 : Cond.castable "java/lang/IllegalArgumentException" "java/lang/IllegalArgumentException" ∈ NW := nwm 263 (by decide +kernel) (by decide +kernel)
theorem gw264 : Cond.selects "java/lang/IllegalArgumentException" ⟨"java/lang/Throwable", "fillInStackTrace", "(I)Ljava/lang/Throwable;"⟩ ⟨"java/lang/Throwable", "fillInStackTrace", "(I)Ljava/lang/Throwable;"⟩ ∈ GW := gwm 264 (by decide +kernel) (by decide +kernel)
theorem gw271 : Cond.methodLink RX3 79 ⟨"java/lang/IllegalArgumentException", "<init>", "(Ljava/lang/String;)V"⟩ ∈ GW := gwm 271 (by decide +kernel) (by decide +kernel)
theorem gw272 : Cond.instanceMethod ⟨"java/lang/IllegalArgumentException", "<init>", "(Ljava/lang/String;)V"⟩ ∈ GW := gwm 272 (by decide +kernel) (by decide +kernel)
theorem gw274 : Cond.methodLink "java/lang/IllegalArgumentException" 7 ⟨"java/lang/RuntimeException", "<init>", "(Ljava/lang/String;)V"⟩ ∈ GW := gwm 274 (by decide +kernel) (by decide +kernel)
theorem gw277 : Cond.methodLink RX3 80 yX0_letterAt ∈ GW := gwm 277 (by decide +kernel) (by decide +kernel)
theorem gw278 : Cond.instanceMethod yX0_letterAt ∈ GW := gwm 278 (by decide +kernel) (by decide +kernel)
theorem gw279 : Cond.selects RX0 yX0_letterAt yX0_letterAt ∈ GW := gwm 279 (by decide +kernel) (by decide +kernel)
theorem gw280 : Cond.code yX0_letterAt cX0_letterAt 2 (Option.some Jvm.ClassFile.FieldType.int) ∈ GW := gwm 280 (by decide +kernel) (by decide +kernel)
theorem nw281 : Cond.methodLinkNest RX0 38 yX3_isRing "LetterLocks" ∈ NW := nwm 281 (by decide +kernel) (by decide +kernel)
theorem gw282 : Cond.methodLink RX3 84 yX3_turnsBetween ∈ GW := gwm 282 (by decide +kernel) (by decide +kernel)
theorem gw283 : Cond.static yX3_turnsBetween ∈ GW := gwm 283 (by decide +kernel) (by decide +kernel)
theorem gw284 : Cond.code yX3_turnsBetween cX3_turnsBetween 3 (Option.some Jvm.ClassFile.FieldType.int) ∈ GW := gwm 284 (by decide +kernel) (by decide +kernel)
theorem gw285 : Cond.methodLink RX3 239 Lib.Math.abs.name ∈ GW := gwm 285 (by decide +kernel) (by decide +kernel)
theorem gw286 : Cond.static Lib.Math.abs.name ∈ GW := gwm 286 (by decide +kernel) (by decide +kernel)
theorem gw287 : Cond.code Lib.Math.abs.name Lib.Math.abs.code 1 (Option.some Jvm.ClassFile.FieldType.int) ∈ GW := gwm 287 (by decide +kernel) (by decide +kernel)
theorem gw288 : Cond.methodLink RX3 244 Lib.Math.min.name ∈ GW := gwm 288 (by decide +kernel) (by decide +kernel)
theorem gw289 : Cond.static Lib.Math.min.name ∈ GW := gwm 289 (by decide +kernel) (by decide +kernel)
theorem gw290 : Cond.code Lib.Math.min.name Lib.Math.min.code 2 (Option.some Jvm.ClassFile.FieldType.int) ∈ GW := gwm 290 (by decide +kernel) (by decide +kernel)
theorem gw291 : Cond.methodLink RX3 88 yX0_turnTo ∈ GW := gwm 291 (by decide +kernel) (by decide +kernel)
theorem gw292 : Cond.instanceMethod yX0_turnTo ∈ GW := gwm 292 (by decide +kernel) (by decide +kernel)
theorem gw293 : Cond.selects RX0 yX0_turnTo yX0_turnTo ∈ GW := gwm 293 (by decide +kernel) (by decide +kernel)
theorem gw294 : Cond.code yX0_turnTo cX0_turnTo 3 (Option.none : Option Jvm.ClassFile.FieldType) ∈ GW := gwm 294 (by decide +kernel) (by decide +kernel)
theorem gw295 : Cond.methodLink RL 59 yX3_open ∈ GW := gwm 295 (by decide +kernel) (by decide +kernel)
theorem gw296 : Cond.instanceMethod yX3_open ∈ GW := gwm 296 (by decide +kernel) (by decide +kernel)
theorem gw297 : Cond.selects RX3 yX3_open yX3_open ∈ GW := gwm 297 (by decide +kernel) (by decide +kernel)
theorem gw298 : Cond.code yX3_open cX3_open 3 (Option.some Jvm.ClassFile.FieldType.boolean) ∈ GW := gwm 298 (by decide +kernel) (by decide +kernel)
theorem gw299 : Cond.methodLink RX3 92 yX0_standing ∈ GW := gwm 299 (by decide +kernel) (by decide +kernel)
theorem gw300 : Cond.instanceMethod yX0_standing ∈ GW := gwm 300 (by decide +kernel) (by decide +kernel)
theorem gw301 : Cond.selects RX0 yX0_standing yX0_standing ∈ GW := gwm 301 (by decide +kernel) (by decide +kernel)
theorem gw302 : Cond.code yX0_standing cX0_standing 3 (Option.some Jvm.ClassFile.FieldType.int) ∈ GW := gwm 302 (by decide +kernel) (by decide +kernel)
theorem gw303 : Cond.methodLink RL 122 yX3_told ∈ GW := gwm 303 (by decide +kernel) (by decide +kernel)
theorem gw304 : Cond.instanceMethod yX3_told ∈ GW := gwm 304 (by decide +kernel) (by decide +kernel)
theorem gw305 : Cond.selects RX3 yX3_told yX3_told ∈ GW := gwm 305 (by decide +kernel) (by decide +kernel)
theorem gw306 : Cond.code yX3_told cX3_told 4 (Option.some Jvm.ClassFile.FieldType.int) ∈ GW := gwm 306 (by decide +kernel) (by decide +kernel)
theorem gw307 : Cond.methodLink RX3 150 yX0_showing ∈ GW := gwm 307 (by decide +kernel) (by decide +kernel)
theorem gw308 : Cond.instanceMethod yX0_showing ∈ GW := gwm 308 (by decide +kernel) (by decide +kernel)
theorem gw309 : Cond.selects RX0 yX0_showing yX0_showing ∈ GW := gwm 309 (by decide +kernel) (by decide +kernel)
theorem gw310 : Cond.code yX0_showing cX0_showing 3 (Option.some Jvm.ClassFile.FieldType.int) ∈ GW := gwm 310 (by decide +kernel) (by decide +kernel)
theorem gw311 : Cond.methodLink RX0 58 yX0_mostWorn ∈ GW := gwm 311 (by decide +kernel) (by decide +kernel)
theorem gw313 : Cond.instanceMethod yX0_mostWorn ∈ GW := gwm 313 (by decide +kernel) (by decide +kernel)
theorem gw314 : Cond.code yX0_mostWorn cX0_mostWorn 4 (Option.some Jvm.ClassFile.FieldType.int) ∈ GW := gwm 314 (by decide +kernel) (by decide +kernel)
theorem gw315 : Cond.methodLink RX0 62 yX0_wearAt ∈ GW := gwm 315 (by decide +kernel) (by decide +kernel)
theorem gw316 : Cond.instanceMethod yX0_wearAt ∈ GW := gwm 316 (by decide +kernel) (by decide +kernel)
theorem gw317 : Cond.selects RX0 yX0_wearAt yX0_wearAt ∈ GW := gwm 317 (by decide +kernel) (by decide +kernel)
theorem gw318 : Cond.code yX0_wearAt cX0_wearAt 3 (Option.some Jvm.ClassFile.FieldType.int) ∈ GW := gwm 318 (by decide +kernel) (by decide +kernel)
theorem nw319 : Cond.methodLinkNest RX0 42 yX3_isLetter "LetterLocks" ∈ NW := nwm 319 (by decide +kernel) (by decide +kernel)
theorem gw321 : Cond.methodLink RL 131 yX3_wear ∈ GW := gwm 321 (by decide +kernel) (by decide +kernel)
theorem gw322 : Cond.instanceMethod yX3_wear ∈ GW := gwm 322 (by decide +kernel) (by decide +kernel)
theorem gw323 : Cond.selects RX3 yX3_wear yX3_wear ∈ GW := gwm 323 (by decide +kernel) (by decide +kernel)
theorem gw324 : Cond.code yX3_wear cX3_wear 5 (Option.some Jvm.ClassFile.FieldType.int) ∈ GW := gwm 324 (by decide +kernel) (by decide +kernel)
theorem gw325 : Cond.methodLink RX3 155 yX0_wearAt ∈ GW := gwm 325 (by decide +kernel) (by decide +kernel)
theorem gw326 : Cond.methodLink RL 134 yX3_rack ∈ GW := gwm 326 (by decide +kernel) (by decide +kernel)
theorem gw327 : Cond.instanceMethod yX3_rack ∈ GW := gwm 327 (by decide +kernel) (by decide +kernel)
theorem gw328 : Cond.selects RX3 yX3_rack yX3_rack ∈ GW := gwm 328 (by decide +kernel) (by decide +kernel)
theorem gw329 : Cond.code yX3_rack cX3_rack 4 (Option.some Jvm.ClassFile.FieldType.int) ∈ GW := gwm 329 (by decide +kernel) (by decide +kernel)
theorem gw330 : Cond.methodLink RX3 112 yX3_rackAt ∈ GW := gwm 330 (by decide +kernel) (by decide +kernel)
theorem gw332 : Cond.instanceMethod yX3_rackAt ∈ GW := gwm 332 (by decide +kernel) (by decide +kernel)
theorem gw333 : Cond.code yX3_rackAt cX3_rackAt 2 (Option.some (Jvm.ClassFile.FieldType.object "LetterLocks$Rack")) ∈ GW := gwm 333 (by decide +kernel) (by decide +kernel)
theorem gw334 : Cond.methodLink RX3 134 yX3_isRack ∈ GW := gwm 334 (by decide +kernel) (by decide +kernel)
theorem gw336 : Cond.instanceMethod yX3_isRack ∈ GW := gwm 336 (by decide +kernel) (by decide +kernel)
theorem gw337 : Cond.code yX3_isRack cX3_isRack 2 (Option.some Jvm.ClassFile.FieldType.boolean) ∈ GW := gwm 337 (by decide +kernel) (by decide +kernel)
theorem gw339 : Cond.methodLink RX3 118 yX3_locksIn ∈ GW := gwm 339 (by decide +kernel) (by decide +kernel)
theorem gw341 : Cond.instanceMethod yX3_locksIn ∈ GW := gwm 341 (by decide +kernel) (by decide +kernel)
theorem gw342 : Cond.code yX3_locksIn cX3_locksIn 4 (Option.some Jvm.ClassFile.FieldType.int) ∈ GW := gwm 342 (by decide +kernel) (by decide +kernel)
theorem gw343 : Cond.methodLink RX3 158 yX1_isOpenIn ∈ GW := gwm 343 (by decide +kernel) (by decide +kernel)
theorem gw344 : Cond.instanceMethod yX1_isOpenIn ∈ GW := gwm 344 (by decide +kernel) (by decide +kernel)
theorem gw345 : Cond.selects RX1 yX1_isOpenIn yX1_isOpenIn ∈ GW := gwm 345 (by decide +kernel) (by decide +kernel)
theorem gw346 : Cond.code yX1_isOpenIn cX1_isOpenIn 3 (Option.some Jvm.ClassFile.FieldType.boolean) ∈ GW := gwm 346 (by decide +kernel) (by decide +kernel)
theorem gw347 : Cond.methodLink RX3 161 yX3_openLocksIn ∈ GW := gwm 347 (by decide +kernel) (by decide +kernel)
theorem gw349 : Cond.instanceMethod yX3_openLocksIn ∈ GW := gwm 349 (by decide +kernel) (by decide +kernel)
theorem gw350 : Cond.code yX3_openLocksIn cX3_openLocksIn 5 (Option.some Jvm.ClassFile.FieldType.int) ∈ GW := gwm 350 (by decide +kernel) (by decide +kernel)
theorem gw351 : Cond.methodLink RL 119 yX3_count ∈ GW := gwm 351 (by decide +kernel) (by decide +kernel)
theorem gw352 : Cond.instanceMethod yX3_count ∈ GW := gwm 352 (by decide +kernel) (by decide +kernel)
theorem gw353 : Cond.selects RX3 yX3_count yX3_count ∈ GW := gwm 353 (by decide +kernel) (by decide +kernel)
theorem gw354 : Cond.code yX3_count cX3_count 2 (Option.some Jvm.ClassFile.FieldType.int) ∈ GW := gwm 354 (by decide +kernel) (by decide +kernel)
theorem gw355 : Cond.methodLink RX3 164 yX3_openLocks ∈ GW := gwm 355 (by decide +kernel) (by decide +kernel)
theorem gw357 : Cond.instanceMethod yX3_openLocks ∈ GW := gwm 357 (by decide +kernel) (by decide +kernel)
theorem gw358 : Cond.code yX3_openLocks cX3_openLocks 3 (Option.some Jvm.ClassFile.FieldType.int) ∈ GW := gwm 358 (by decide +kernel) (by decide +kernel)
theorem gw359 : Cond.methodLink RX3 167 yX3_lostWords ∈ GW := gwm 359 (by decide +kernel) (by decide +kernel)
theorem gw361 : Cond.instanceMethod yX3_lostWords ∈ GW := gwm 361 (by decide +kernel) (by decide +kernel)
theorem gw362 : Cond.code yX3_lostWords cX3_lostWords 3 (Option.some Jvm.ClassFile.FieldType.int) ∈ GW := gwm 362 (by decide +kernel) (by decide +kernel)
theorem gw363 : Cond.methodLink RX3 170 yX3_allWear ∈ GW := gwm 363 (by decide +kernel) (by decide +kernel)
theorem gw365 : Cond.instanceMethod yX3_allWear ∈ GW := gwm 365 (by decide +kernel) (by decide +kernel)
theorem gw366 : Cond.code yX3_allWear cX3_allWear 3 (Option.some Jvm.ClassFile.FieldType.int) ∈ GW := gwm 366 (by decide +kernel) (by decide +kernel)
theorem gw367 : Cond.methodLink RX3 250 yX0_allWears ∈ GW := gwm 367 (by decide +kernel) (by decide +kernel)
theorem gw368 : Cond.instanceMethod yX0_allWears ∈ GW := gwm 368 (by decide +kernel) (by decide +kernel)
theorem gw369 : Cond.selects RX0 yX0_allWears yX0_allWears ∈ GW := gwm 369 (by decide +kernel) (by decide +kernel)
theorem gw370 : Cond.code yX0_allWears cX0_allWears 3 (Option.some Jvm.ClassFile.FieldType.int) ∈ GW := gwm 370 (by decide +kernel) (by decide +kernel)
theorem gw371 : Cond.methodLink RX3 173 yX3_locksInRacks ∈ GW := gwm 371 (by decide +kernel) (by decide +kernel)
theorem gw373 : Cond.instanceMethod yX3_locksInRacks ∈ GW := gwm 373 (by decide +kernel) (by decide +kernel)
theorem gw374 : Cond.code yX3_locksInRacks cX3_locksInRacks 1 (Option.some Jvm.ClassFile.FieldType.int) ∈ GW := gwm 374 (by decide +kernel) (by decide +kernel)
theorem gw376 : Cond.methodLink RL 125 yX3_trial ∈ GW := gwm 376 (by decide +kernel) (by decide +kernel)
theorem gw377 : Cond.instanceMethod yX3_trial ∈ GW := gwm 377 (by decide +kernel) (by decide +kernel)
theorem gw378 : Cond.selects RX3 yX3_trial yX3_trial ∈ GW := gwm 378 (by decide +kernel) (by decide +kernel)
theorem gw379 : Cond.code yX3_trial cX3_trial 4 (Option.some Jvm.ClassFile.FieldType.int) ∈ GW := gwm 379 (by decide +kernel) (by decide +kernel)
theorem gw380 : Cond.methodLink RX3 46 yX3_requireWord ∈ GW := gwm 380 (by decide +kernel) (by decide +kernel)
theorem gw381 : Cond.static yX3_requireWord ∈ GW := gwm 381 (by decide +kernel) (by decide +kernel)
theorem gw382 : Cond.code yX3_requireWord cX3_requireWord 1 (Option.none : Option Jvm.ClassFile.FieldType) ∈ GW := gwm 382 (by decide +kernel) (by decide +kernel)
theorem gw384 : Cond.methodLink RX3 181 yX2_trialOf ∈ GW := gwm 384 (by decide +kernel) (by decide +kernel)
theorem gw385 : Cond.instanceMethod yX2_trialOf ∈ GW := gwm 385 (by decide +kernel) (by decide +kernel)
theorem gw386 : Cond.selects RX2 yX2_trialOf yX2_trialOf ∈ GW := gwm 386 (by decide +kernel) (by decide +kernel)
theorem gw387 : Cond.code yX2_trialOf cX2_trialOf 6 (Option.some Jvm.ClassFile.FieldType.int) ∈ GW := gwm 387 (by decide +kernel) (by decide +kernel)
theorem gw388 : Cond.methodLink RX2 16 yX2_sumOfPlaces ∈ GW := gwm 388 (by decide +kernel) (by decide +kernel)
theorem gw389 : Cond.static yX2_sumOfPlaces ∈ GW := gwm 389 (by decide +kernel) (by decide +kernel)
theorem gw390 : Cond.code yX2_sumOfPlaces cX2_sumOfPlaces 4 (Option.some Jvm.ClassFile.FieldType.int) ∈ GW := gwm 390 (by decide +kernel) (by decide +kernel)
theorem nw391 : Cond.methodLinkNest RX2 28 yX3_letterOf "LetterLocks" ∈ NW := nwm 391 (by decide +kernel) (by decide +kernel)
theorem gw392 : Cond.static yX3_letterOf ∈ GW := gwm 392 (by decide +kernel) (by decide +kernel)
theorem gw393 : Cond.code yX3_letterOf cX3_letterOf 4 (Option.some Jvm.ClassFile.FieldType.int) ∈ GW := gwm 393 (by decide +kernel) (by decide +kernel)
theorem gw394 : Cond.methodLink RX2 31 yX0_placeInOrder ∈ GW := gwm 394 (by decide +kernel) (by decide +kernel)
theorem gw395 : Cond.instanceMethod yX0_placeInOrder ∈ GW := gwm 395 (by decide +kernel) (by decide +kernel)
theorem gw396 : Cond.selects RX0 yX0_placeInOrder yX0_placeInOrder ∈ GW := gwm 396 (by decide +kernel) (by decide +kernel)
theorem gw397 : Cond.code yX0_placeInOrder cX0_placeInOrder 7 (Option.some Jvm.ClassFile.FieldType.int) ∈ GW := gwm 397 (by decide +kernel) (by decide +kernel)
theorem gw398 : Cond.methodLink RX2 20 yX2_wordsWith ∈ GW := gwm 398 (by decide +kernel) (by decide +kernel)
theorem gw400 : Cond.instanceMethod yX2_wordsWith ∈ GW := gwm 400 (by decide +kernel) (by decide +kernel)
theorem gw401 : Cond.code yX2_wordsWith cX2_wordsWith 3 (Option.some Jvm.ClassFile.FieldType.int) ∈ GW := gwm 401 (by decide +kernel) (by decide +kernel)
theorem gw402 : Cond.methodLink RX2 24 yX2_lesserWordsOfSum ∈ GW := gwm 402 (by decide +kernel) (by decide +kernel)
theorem gw404 : Cond.instanceMethod yX2_lesserWordsOfSum ∈ GW := gwm 404 (by decide +kernel) (by decide +kernel)
theorem gw405 : Cond.code yX2_lesserWordsOfSum cX2_lesserWordsOfSum 10 (Option.some Jvm.ClassFile.FieldType.int) ∈ GW := gwm 405 (by decide +kernel) (by decide +kernel)
theorem gw406 : Cond.methodLink RL 128 yX3_safe ∈ GW := gwm 406 (by decide +kernel) (by decide +kernel)
theorem gw407 : Cond.instanceMethod yX3_safe ∈ GW := gwm 407 (by decide +kernel) (by decide +kernel)
theorem gw408 : Cond.selects RX3 yX3_safe yX3_safe ∈ GW := gwm 408 (by decide +kernel) (by decide +kernel)
theorem gw409 : Cond.code yX3_safe cX3_safe 3 (Option.some Jvm.ClassFile.FieldType.int) ∈ GW := gwm 409 (by decide +kernel) (by decide +kernel)
theorem gw410 : Cond.methodLink RL 108 yX3_pass ∈ GW := gwm 410 (by decide +kernel) (by decide +kernel)
theorem gw411 : Cond.instanceMethod yX3_pass ∈ GW := gwm 411 (by decide +kernel) (by decide +kernel)
theorem gw412 : Cond.selects RX3 yX3_pass yX3_pass ∈ GW := gwm 412 (by decide +kernel) (by decide +kernel)
theorem gw413 : Cond.code yX3_pass cX3_pass 5 (Option.some Jvm.ClassFile.FieldType.int) ∈ GW := gwm 413 (by decide +kernel) (by decide +kernel)
theorem gw414 : Cond.methodLink RX3 185 yX3_requireHours ∈ GW := gwm 414 (by decide +kernel) (by decide +kernel)
theorem gw415 : Cond.static yX3_requireHours ∈ GW := gwm 415 (by decide +kernel) (by decide +kernel)
theorem gw416 : Cond.code yX3_requireHours cX3_requireHours 1 (Option.none : Option Jvm.ClassFile.FieldType) ∈ GW := gwm 416 (by decide +kernel) (by decide +kernel)
theorem gw418 : Cond.methodLink RX3 192 yX3_letHourGoBy ∈ GW := gwm 418 (by decide +kernel) (by decide +kernel)
theorem gw420 : Cond.instanceMethod yX3_letHourGoBy ∈ GW := gwm 420 (by decide +kernel) (by decide +kernel)
theorem gw421 : Cond.code yX3_letHourGoBy cX3_letHourGoBy 3 (Option.some Jvm.ClassFile.FieldType.boolean) ∈ GW := gwm 421 (by decide +kernel) (by decide +kernel)
theorem gw422 : Cond.methodLink RX3 247 yX0_wearByAnHour ∈ GW := gwm 422 (by decide +kernel) (by decide +kernel)
theorem gw423 : Cond.instanceMethod yX0_wearByAnHour ∈ GW := gwm 423 (by decide +kernel) (by decide +kernel)
theorem gw424 : Cond.selects RX0 yX0_wearByAnHour yX0_wearByAnHour ∈ GW := gwm 424 (by decide +kernel) (by decide +kernel)
theorem gw425 : Cond.code yX0_wearByAnHour cX0_wearByAnHour 2 (Option.none : Option Jvm.ClassFile.FieldType) ∈ GW := gwm 425 (by decide +kernel) (by decide +kernel)
theorem gw426 : Cond.methodLink RX0 45 yX0_wearMore ∈ GW := gwm 426 (by decide +kernel) (by decide +kernel)
theorem gw428 : Cond.instanceMethod yX0_wearMore ∈ GW := gwm 428 (by decide +kernel) (by decide +kernel)
theorem gw429 : Cond.code yX0_wearMore cX0_wearMore 5 (Option.none : Option Jvm.ClassFile.FieldType) ∈ GW := gwm 429 (by decide +kernel) (by decide +kernel)
theorem gw430 : Cond.methodLink RX0 53 Lib.Math.min.name ∈ GW := gwm 430 (by decide +kernel) (by decide +kernel)
theorem nw431 : Cond.methodLinkNest RX0 49 yX3_letterOf "LetterLocks" ∈ NW := nwm 431 (by decide +kernel) (by decide +kernel)
theorem gw432 : Cond.methodLink RX3 199 yX3_isInClosedRack ∈ GW := gwm 432 (by decide +kernel) (by decide +kernel)
theorem gw434 : Cond.instanceMethod yX3_isInClosedRack ∈ GW := gwm 434 (by decide +kernel) (by decide +kernel)
theorem gw435 : Cond.code yX3_isInClosedRack cX3_isInClosedRack 3 (Option.some Jvm.ClassFile.FieldType.boolean) ∈ GW := gwm 435 (by decide +kernel) (by decide +kernel)
theorem gw436 : Cond.methodLink RX3 106 yX0_close ∈ GW := gwm 436 (by decide +kernel) (by decide +kernel)
theorem gw437 : Cond.instanceMethod yX0_close ∈ GW := gwm 437 (by decide +kernel) (by decide +kernel)
theorem gw438 : Cond.selects RX0 yX0_close yX0_close ∈ GW := gwm 438 (by decide +kernel) (by decide +kernel)
theorem gw439 : Cond.code yX0_close cX0_close 2 (Option.none : Option Jvm.ClassFile.FieldType) ∈ GW := gwm 439 (by decide +kernel) (by decide +kernel)
theorem gw440 : Cond.methodLink RL 111 yX5_pass ∈ GW := gwm 440 rfl (by decide +kernel)
theorem gw441 : Cond.instanceMethod yX5_pass ∈ GW := gwm 441 rfl (by decide +kernel)
theorem gw442 : Cond.selects RX5 yX5_pass yX5_pass ∈ GW := gwm 442 rfl (by decide +kernel)
theorem gw443 : Cond.code yX5_pass cX5_pass 8 (Option.some Jvm.ClassFile.FieldType.int) ∈ GW := gwm 443 rfl (by decide +kernel)
theorem gw444 : Cond.methodLink RX5 49 Lib.Math.min.name ∈ GW := gwm 444 (by decide +kernel) (by decide +kernel)
theorem gw445 : Cond.methodLink RX5 55 yX5_isOpen ∈ GW := gwm 445 (by decide +kernel) (by decide +kernel)
theorem gw446 : Cond.instanceMethod yX5_isOpen ∈ GW := gwm 446 (by decide +kernel) (by decide +kernel)
theorem gw447 : Cond.selects RX5 yX5_isOpen yX5_isOpen ∈ GW := gwm 447 (by decide +kernel) (by decide +kernel)
theorem gw448 : Cond.code yX5_isOpen cX5_isOpen 3 (Option.some Jvm.ClassFile.FieldType.boolean) ∈ GW := gwm 448 (by decide +kernel) (by decide +kernel)
theorem gw449 : Cond.methodLink RX5 58 yX4_shut ∈ GW := gwm 449 (by decide +kernel) (by decide +kernel)
theorem gw450 : Cond.instanceMethod yX4_shut ∈ GW := gwm 450 (by decide +kernel) (by decide +kernel)
theorem gw451 : Cond.selects RX4 yX4_shut yX4_shut ∈ GW := gwm 451 (by decide +kernel) (by decide +kernel)
theorem gw452 : Cond.code yX4_shut cX4_shut 2 (Option.none : Option Jvm.ClassFile.FieldType) ∈ GW := gwm 452 (by decide +kernel) (by decide +kernel)
theorem gw453 : Cond.methodLink RL 136 yX5_isSame ∈ GW := gwm 453 rfl (by decide +kernel)
theorem gw454 : Cond.instanceMethod yX5_isSame ∈ GW := gwm 454 rfl (by decide +kernel)
theorem gw455 : Cond.selects RX5 yX5_isSame yX5_isSame ∈ GW := gwm 455 rfl (by decide +kernel)
theorem gw456 : Cond.code yX5_isSame cX5_isSame 11 (Option.some Jvm.ClassFile.FieldType.boolean) ∈ GW := gwm 456 rfl (by decide +kernel)
theorem gw457 : Cond.methodLink RX5 65 yX5_best ∈ GW := gwm 457 (by decide +kernel) (by decide +kernel)
theorem gw458 : Cond.static yX5_best ∈ GW := gwm 458 (by decide +kernel) (by decide +kernel)
theorem gw459 : Cond.code yX5_best cX5_best 3 (Option.some Jvm.ClassFile.FieldType.int) ∈ GW := gwm 459 (by decide +kernel) (by decide +kernel)
theorem gw460 : Cond.methodLink RX5 84 yX3_wear ∈ GW := gwm 460 (by decide +kernel) (by decide +kernel)
theorem nw461 : Cond.methodLinkNest RX5 89 yL_word "LetterLocksLaw" ∈ NW := nwm 461 (by decide +kernel) (by decide +kernel)
theorem gw462 : Cond.static yL_word ∈ GW := gwm 462 (by decide +kernel) (by decide +kernel)
theorem gw463 : Cond.code yL_word cL_word 1 (Option.some Jvm.ClassFile.FieldType.int) ∈ GW := gwm 463 (by decide +kernel) (by decide +kernel)
theorem gw464 : Cond.methodLink RX5 94 yX3_told ∈ GW := gwm 464 (by decide +kernel) (by decide +kernel)
theorem gw465 : Cond.methodLink RX5 97 yX5_in ∈ GW := gwm 465 (by decide +kernel) (by decide +kernel)
theorem gw466 : Cond.instanceMethod yX5_in ∈ GW := gwm 466 (by decide +kernel) (by decide +kernel)
theorem gw467 : Cond.selects RX5 yX5_in yX5_in ∈ GW := gwm 467 (by decide +kernel) (by decide +kernel)
theorem gw468 : Cond.code yX5_in cX5_in 7 (Option.some Jvm.ClassFile.FieldType.int) ∈ GW := gwm 468 (by decide +kernel) (by decide +kernel)
theorem gw469 : Cond.methodLink RX5 101 yX3_rack ∈ GW := gwm 469 (by decide +kernel) (by decide +kernel)
theorem gw470 : Cond.methodLink RX5 103 yX3_count ∈ GW := gwm 470 (by decide +kernel) (by decide +kernel)
theorem gw471 : Cond.methodLink RX5 106 yX3_mean ∈ GW := gwm 471 (by decide +kernel) (by decide +kernel)
theorem gw472 : Cond.instanceMethod yX3_mean ∈ GW := gwm 472 (by decide +kernel) (by decide +kernel)
theorem gw473 : Cond.selects RX3 yX3_mean yX3_mean ∈ GW := gwm 473 (by decide +kernel) (by decide +kernel)
theorem gw474 : Cond.code yX3_mean cX3_mean 2 (Option.some Jvm.ClassFile.FieldType.double) ∈ GW := gwm 474 (by decide +kernel) (by decide +kernel)
theorem gw475 : Cond.methodLink RL 15 yL_below ∈ GW := gwm 475 (by decide +kernel) (by decide +kernel)
theorem gw476 : Cond.static yL_below ∈ GW := gwm 476 (by decide +kernel) (by decide +kernel)
theorem gw477 : Cond.code yL_below cL_below 2 (Option.some Jvm.ClassFile.FieldType.int) ∈ GW := gwm 477 (by decide +kernel) (by decide +kernel)
theorem gw479 : Cond.methodLink RL 100 yL_cell ∈ GW := gwm 479 (by decide +kernel) (by decide +kernel)
theorem gw480 : Cond.static yL_cell ∈ GW := gwm 480 (by decide +kernel) (by decide +kernel)
theorem gw481 : Cond.code yL_cell cL_cell 2 (Option.some Jvm.ClassFile.FieldType.int) ∈ GW := gwm 481 (by decide +kernel) (by decide +kernel)
theorem gw483 : Cond.methodLink RL 32 yL_word ∈ GW := gwm 483 (by decide +kernel) (by decide +kernel)
theorem gw484 : Cond.methodLink RL 104 yL_act ∈ GW := gwm 484 rfl (by decide +kernel)
theorem gw485 : Cond.static yL_act ∈ GW := gwm 485 rfl (by decide +kernel)
theorem gw486 : Cond.code yL_act cL_act 18 (Option.some Jvm.ClassFile.FieldType.boolean) ∈ GW := gwm 486 rfl (by decide +kernel)
theorem gw487 : Cond.classLink RL 21 RX4 ∈ GW := gwm 487 (by decide +kernel) (by decide +kernel)
theorem gw489 : Cond.instantiable RX4 6 ∈ GW := gwm 489 (by decide +kernel) (by decide +kernel)
theorem nw490 : Cond.methodLinkNest RL 23 yX4_init "LetterLocksLaw" ∈ NW := nwm 490 (by decide +kernel) (by decide +kernel)
theorem gw491 : Cond.instanceMethod yX4_init ∈ GW := gwm 491 (by decide +kernel) (by decide +kernel)
theorem gw492 : Cond.code yX4_init cX4_init 1 (Option.none : Option Jvm.ClassFile.FieldType) ∈ GW := gwm 492 (by decide +kernel) (by decide +kernel)
theorem gw493 : Cond.methodLink RX4 1 objectInit ∈ GW := gwm 493 (by decide +kernel) (by decide +kernel)
theorem gw494 : Cond.classLink RX4 13 "[[I" ∈ GW := gwm 494 (by decide +kernel) (by decide +kernel)
theorem gw495 : Cond.fieldLink RX5 40 "LetterLocksLaw$Lock" "word" "[I" ∈ GW := gwm 495 (by decide +kernel) (by decide +kernel)
theorem gw496 : Cond.fieldLink RL 28 "LetterLocksLaw$Lock" "word" "[I" ∈ GW := gwm 496 (by decide +kernel) (by decide +kernel)
theorem gw497 : Cond.fieldLink RX4 7 "LetterLocksLaw$Lock" "rings" "[I" ∈ GW := gwm 497 (by decide +kernel) (by decide +kernel)
theorem gw498 : Cond.fieldLink RX5 43 "LetterLocksLaw$Lock" "rings" "[I" ∈ GW := gwm 498 (by decide +kernel) (by decide +kernel)
theorem gw499 : Cond.fieldLink RL 41 "LetterLocksLaw$Lock" "rings" "[I" ∈ GW := gwm 499 (by decide +kernel) (by decide +kernel)
theorem gw500 : Cond.fieldLink RX4 15 "LetterLocksLaw$Lock" "wear" "[[I" ∈ GW := gwm 500 (by decide +kernel) (by decide +kernel)
theorem gw501 : Cond.fieldLink RX5 46 "LetterLocksLaw$Lock" "wear" "[[I" ∈ GW := gwm 501 (by decide +kernel) (by decide +kernel)
theorem gw502 : Cond.fieldLink RX4 18 "LetterLocksLaw$Lock" "isOpen" "Z" ∈ GW := gwm 502 (by decide +kernel) (by decide +kernel)
theorem gw503 : Cond.fieldLink RX5 36 "LetterLocksLaw$Lock" "isOpen" "Z" ∈ GW := gwm 503 (by decide +kernel) (by decide +kernel)
theorem gw504 : Cond.fieldLink RL 55 "LetterLocksLaw$Lock" "isOpen" "Z" ∈ GW := gwm 504 (by decide +kernel) (by decide +kernel)
theorem gw505 : Cond.fieldLink RL 68 "LetterLocksLaw$Lock" "isLost" "Z" ∈ GW := gwm 505 (by decide +kernel) (by decide +kernel)
theorem gw506 : Cond.fieldLink RX5 91 "LetterLocksLaw$Lock" "isLost" "Z" ∈ GW := gwm 506 (by decide +kernel) (by decide +kernel)
theorem gw507 : Cond.fieldLink RX4 22 "LetterLocksLaw$Lock" "rack" "I" ∈ GW := gwm 507 (by decide +kernel) (by decide +kernel)
theorem gw508 : Cond.fieldLink RX5 33 "LetterLocksLaw$Lock" "rack" "I" ∈ GW := gwm 508 (by decide +kernel) (by decide +kernel)
theorem gw509 : Cond.fieldLink RL 91 "LetterLocksLaw$Lock" "rack" "I" ∈ GW := gwm 509 (by decide +kernel) (by decide +kernel)
theorem gw523 : Cond.methodLink RL 24 yL_letters ∈ GW := gwm 523 (by decide +kernel) (by decide +kernel)
theorem gw524 : Cond.static yL_letters ∈ GW := gwm 524 (by decide +kernel) (by decide +kernel)
theorem gw525 : Cond.code yL_letters cL_letters 1 (Option.some (Jvm.ClassFile.FieldType.array Jvm.ClassFile.FieldType.int)) ∈ GW := gwm 525 (by decide +kernel) (by decide +kernel)
theorem gw526 : Cond.methodLink RL 35 yX3_lock ∈ GW := gwm 526 (by decide +kernel) (by decide +kernel)
theorem gw527 : Cond.instanceMethod yX3_lock ∈ GW := gwm 527 (by decide +kernel) (by decide +kernel)
theorem gw528 : Cond.selects RX3 yX3_lock yX3_lock ∈ GW := gwm 528 (by decide +kernel) (by decide +kernel)
theorem gw529 : Cond.code yX3_lock cX3_lock 2 (Option.some Jvm.ClassFile.FieldType.int) ∈ GW := gwm 529 (by decide +kernel) (by decide +kernel)
theorem gw530 : Cond.classLink RX3 53 "java/lang/IllegalStateException" ∈ GW := gwm 530 (by decide +kernel) (by decide +kernel)
theorem gw531 : Cond.instantiable "java/lang/IllegalStateException" 6 ∈ GW := gwm 531 (by decide +kernel) (by decide +kernel)
theorem nw532 : Cond.castable "java/lang/IllegalStateException" "java/lang/IllegalStateException" ∈ NW := nwm 532 (by decide +kernel) (by decide +kernel)
theorem gw533 : Cond.selects "java/lang/IllegalStateException" ⟨"java/lang/Throwable", "fillInStackTrace", "(I)Ljava/lang/Throwable;"⟩ ⟨"java/lang/Throwable", "fillInStackTrace", "(I)Ljava/lang/Throwable;"⟩ ∈ GW := gwm 533 (by decide +kernel) (by decide +kernel)
theorem gw540 : Cond.methodLink RX3 57 ⟨"java/lang/IllegalStateException", "<init>", "(Ljava/lang/String;)V"⟩ ∈ GW := gwm 540 (by decide +kernel) (by decide +kernel)
theorem gw541 : Cond.instanceMethod ⟨"java/lang/IllegalStateException", "<init>", "(Ljava/lang/String;)V"⟩ ∈ GW := gwm 541 (by decide +kernel) (by decide +kernel)
theorem gw543 : Cond.methodLink "java/lang/IllegalStateException" 7 ⟨"java/lang/RuntimeException", "<init>", "(Ljava/lang/String;)V"⟩ ∈ GW := gwm 543 (by decide +kernel) (by decide +kernel)
theorem gw546 : Cond.methodLink RX3 60 yJx4a65c_add_9ea2d ∈ GW := gwm 546 (by decide +kernel) (by decide +kernel)
theorem gw547 : Cond.instanceMethod yJx4a65c_add_9ea2d ∈ GW := gwm 547 (by decide +kernel) (by decide +kernel)
theorem gw548 : Cond.selects RJx4a65c yJx4a65c_add_9ea2d yJx4a65c_add_9ea2d ∈ GW := gwm 548 (by decide +kernel) (by decide +kernel)
theorem gw549 : Cond.code yJx4a65c_add_9ea2d cJx4a65c_add_9ea2d 2 (Option.some Jvm.ClassFile.FieldType.boolean) ∈ GW := gwm 549 (by decide +kernel) (by decide +kernel)
theorem gw550 : Cond.methodLink RJx4a65c 131 yJx4a65c_add_72be8 ∈ GW := gwm 550 (by decide +kernel) (by decide +kernel)
theorem gw552 : Cond.instanceMethod yJx4a65c_add_72be8 ∈ GW := gwm 552 (by decide +kernel) (by decide +kernel)
theorem gw553 : Cond.code yJx4a65c_add_72be8 cJx4a65c_add_72be8 4 (Option.none : Option Jvm.ClassFile.FieldType) ∈ GW := gwm 553 (by decide +kernel) (by decide +kernel)
theorem gw554 : Cond.methodLink RJx4a65c 129 yJx4a65c_grow_d5877 ∈ GW := gwm 554 (by decide +kernel) (by decide +kernel)
theorem gw556 : Cond.instanceMethod yJx4a65c_grow_d5877 ∈ GW := gwm 556 (by decide +kernel) (by decide +kernel)
theorem gw557 : Cond.code yJx4a65c_grow_d5877 cJx4a65c_grow_d5877 1 (Option.some (Jvm.ClassFile.FieldType.array (Jvm.ClassFile.FieldType.object "java/lang/Object"))) ∈ GW := gwm 557 (by decide +kernel) (by decide +kernel)
theorem gw558 : Cond.methodLink RJx4a65c 69 yJx4a65c_grow_92f84 ∈ GW := gwm 558 (by decide +kernel) (by decide +kernel)
theorem gw560 : Cond.instanceMethod yJx4a65c_grow_92f84 ∈ GW := gwm 560 (by decide +kernel) (by decide +kernel)
theorem gw561 : Cond.code yJx4a65c_grow_92f84 cJx4a65c_grow_92f84 4 (Option.some (Jvm.ClassFile.FieldType.array (Jvm.ClassFile.FieldType.object "java/lang/Object"))) ∈ GW := gwm 561 (by decide +kernel) (by decide +kernel)
theorem gw562 : Cond.methodLink RJx4a65c 73 yJ8_newLength_cabcc ∈ GW := gwm 562 (by decide +kernel) (by decide +kernel)
theorem gw563 : Cond.static yJ8_newLength_cabcc ∈ GW := gwm 563 (by decide +kernel) (by decide +kernel)
theorem gw564 : Cond.code yJ8_newLength_cabcc cJ8_newLength_cabcc 4 (Option.some Jvm.ClassFile.FieldType.int) ∈ GW := gwm 564 (by decide +kernel) (by decide +kernel)
theorem gw565 : Cond.methodLink RJ8 194 Lib.Math.max.name ∈ GW := gwm 565 (by decide +kernel) (by decide +kernel)
theorem gw566 : Cond.static Lib.Math.max.name ∈ GW := gwm 566 (by decide +kernel) (by decide +kernel)
theorem gw567 : Cond.code Lib.Math.max.name Lib.Math.max.code 2 (Option.some Jvm.ClassFile.FieldType.int) ∈ GW := gwm 567 (by decide +kernel) (by decide +kernel)
theorem gw569 : Cond.methodLink RJ8 201 yJ8_hugeLength_7cf53 ∈ GW := gwm 569 (by decide +kernel) (by decide +kernel)
theorem gw570 : Cond.static yJ8_hugeLength_7cf53 ∈ GW := gwm 570 (by decide +kernel) (by decide +kernel)
theorem gw571 : Cond.code yJ8_hugeLength_7cf53 cJ8_hugeLength_7cf53 3 (Option.some Jvm.ClassFile.FieldType.int) ∈ GW := gwm 571 (by decide +kernel) (by decide +kernel)
theorem gw572 : Cond.methodLink RJx4a65c 66 yJ7_copyOf_1904c ∈ GW := gwm 572 (by decide +kernel) (by decide +kernel)
theorem gw573 : Cond.static yJ7_copyOf_1904c ∈ GW := gwm 573 (by decide +kernel) (by decide +kernel)
theorem gw574 : Cond.code yJ7_copyOf_1904c cJ7_copyOf_1904c 2 (Option.some (Jvm.ClassFile.FieldType.array (Jvm.ClassFile.FieldType.object "java/lang/Object"))) ∈ GW := gwm 574 (by decide +kernel) (by decide +kernel)
theorem gw575 : Cond.methodLink RJ7 86 ⟨"java/lang/Object", "getClass", "()Ljava/lang/Class;"⟩ ∈ GW := gwm 575 (by decide +kernel) (by decide +kernel)
theorem gw576 : Cond.instanceMethod ⟨"java/lang/Object", "getClass", "()Ljava/lang/Class;"⟩ ∈ GW := gwm 576 (by decide +kernel) (by decide +kernel)
theorem gw578 : Cond.selects RX3 ⟨"java/lang/Object", "getClass", "()Ljava/lang/Class;"⟩ ⟨"java/lang/Object", "getClass", "()Ljava/lang/Class;"⟩ ∈ GW := gwm 578 (by decide +kernel) (by decide +kernel)
theorem gw579 : Cond.selects RX0 ⟨"java/lang/Object", "getClass", "()Ljava/lang/Class;"⟩ ⟨"java/lang/Object", "getClass", "()Ljava/lang/Class;"⟩ ∈ GW := gwm 579 (by decide +kernel) (by decide +kernel)
theorem gw580 : Cond.selects RX1 ⟨"java/lang/Object", "getClass", "()Ljava/lang/Class;"⟩ ⟨"java/lang/Object", "getClass", "()Ljava/lang/Class;"⟩ ∈ GW := gwm 580 (by decide +kernel) (by decide +kernel)
theorem gw581 : Cond.selects RX2 ⟨"java/lang/Object", "getClass", "()Ljava/lang/Class;"⟩ ⟨"java/lang/Object", "getClass", "()Ljava/lang/Class;"⟩ ∈ GW := gwm 581 (by decide +kernel) (by decide +kernel)
theorem gw582 : Cond.selects RX4 ⟨"java/lang/Object", "getClass", "()Ljava/lang/Class;"⟩ ⟨"java/lang/Object", "getClass", "()Ljava/lang/Class;"⟩ ∈ GW := gwm 582 (by decide +kernel) (by decide +kernel)
theorem gw583 : Cond.selects RX5 ⟨"java/lang/Object", "getClass", "()Ljava/lang/Class;"⟩ ⟨"java/lang/Object", "getClass", "()Ljava/lang/Class;"⟩ ∈ GW := gwm 583 (by decide +kernel) (by decide +kernel)
theorem gw584 : Cond.selects "java/lang/IllegalArgumentException" ⟨"java/lang/Object", "getClass", "()Ljava/lang/Class;"⟩ ⟨"java/lang/Object", "getClass", "()Ljava/lang/Class;"⟩ ∈ GW := gwm 584 (by decide +kernel) (by decide +kernel)
theorem gw585 : Cond.selects "java/lang/IllegalStateException" ⟨"java/lang/Object", "getClass", "()Ljava/lang/Class;"⟩ ⟨"java/lang/Object", "getClass", "()Ljava/lang/Class;"⟩ ∈ GW := gwm 585 (by decide +kernel) (by decide +kernel)
theorem gw586 : Cond.selects "java/lang/IndexOutOfBoundsException" ⟨"java/lang/Object", "getClass", "()Ljava/lang/Class;"⟩ ⟨"java/lang/Object", "getClass", "()Ljava/lang/Class;"⟩ ∈ GW := gwm 586 (by decide +kernel) (by decide +kernel)
theorem gw587 : Cond.selects RJx4a65c ⟨"java/lang/Object", "getClass", "()Ljava/lang/Class;"⟩ ⟨"java/lang/Object", "getClass", "()Ljava/lang/Class;"⟩ ∈ GW := gwm 587 (by decide +kernel) (by decide +kernel)
theorem gw588 : Cond.native ⟨"java/lang/Object", "getClass", "()Ljava/lang/Class;"⟩ ∈ GW := gwm 588 (by decide +kernel) (by decide +kernel)
theorem gw589 : Cond.methodLink RJ7 300 yJ7_copyOf_6403c ∈ GW := gwm 589 (by decide +kernel) (by decide +kernel)
theorem gw590 : Cond.static yJ7_copyOf_6403c ∈ GW := gwm 590 (by decide +kernel) (by decide +kernel)
theorem gw591 : Cond.code yJ7_copyOf_6403c cJ7_copyOf_6403c 4 (Option.some (Jvm.ClassFile.FieldType.array (Jvm.ClassFile.FieldType.object "java/lang/Object"))) ∈ GW := gwm 591 (by decide +kernel) (by decide +kernel)
theorem gw592 : Cond.classLink RJ7 110 "[Ljava/lang/Object;" ∈ GW := gwm 592 (by decide +kernel) (by decide +kernel)
theorem gw594 : Cond.classLink RJ7 2 "java/lang/Object" ∈ GW := gwm 594 (by decide +kernel) (by decide +kernel)
theorem gw595 : Cond.methodLink RJ7 304 Lib.Math.min.name ∈ GW := gwm 595 (by decide +kernel) (by decide +kernel)
theorem gw596 : Cond.methodLink RJ7 150 arraycopyName ∈ GW := gwm 596 (by decide +kernel) (by decide +kernel)
theorem gw597 : Cond.static arraycopyName ∈ GW := gwm 597 (by decide +kernel) (by decide +kernel)
theorem gw598 : Cond.native arraycopyName ∈ GW := gwm 598 (by decide +kernel) (by decide +kernel)
theorem gw599 : Cond.methodLink RJx4a65c 79 Lib.Math.max.name ∈ GW := gwm 599 (by decide +kernel) (by decide +kernel)
theorem gw600 : Cond.classLink RJx4a65c 7 "java/lang/Object" ∈ GW := gwm 600 (by decide +kernel) (by decide +kernel)
theorem gw601 : Cond.methodLink RL 44 yL_far ∈ GW := gwm 601 (by decide +kernel) (by decide +kernel)
theorem gw602 : Cond.static yL_far ∈ GW := gwm 602 (by decide +kernel) (by decide +kernel)
theorem gw603 : Cond.code yL_far cL_far 3 (Option.some Jvm.ClassFile.FieldType.int) ∈ GW := gwm 603 (by decide +kernel) (by decide +kernel)
theorem gw604 : Cond.methodLink RL 63 yX4_shut ∈ GW := gwm 604 (by decide +kernel) (by decide +kernel)
theorem gw605 : Cond.methodLink RL 66 yX3_shut ∈ GW := gwm 605 (by decide +kernel) (by decide +kernel)
theorem gw606 : Cond.instanceMethod yX3_shut ∈ GW := gwm 606 (by decide +kernel) (by decide +kernel)
theorem gw607 : Cond.selects RX3 yX3_shut yX3_shut ∈ GW := gwm 607 (by decide +kernel) (by decide +kernel)
theorem gw608 : Cond.code yX3_shut cX3_shut 3 (Option.some Jvm.ClassFile.FieldType.int) ∈ GW := gwm 608 (by decide +kernel) (by decide +kernel)
theorem gw609 : Cond.methodLink RX3 102 yX3_requireOpen ∈ GW := gwm 609 (by decide +kernel) (by decide +kernel)
theorem gw610 : Cond.static yX3_requireOpen ∈ GW := gwm 610 (by decide +kernel) (by decide +kernel)
theorem gw611 : Cond.code yX3_requireOpen cX3_requireOpen 1 (Option.none : Option Jvm.ClassFile.FieldType) ∈ GW := gwm 611 (by decide +kernel) (by decide +kernel)
theorem gw613 : Cond.methodLink RL 71 yX3_rename ∈ GW := gwm 613 (by decide +kernel) (by decide +kernel)
theorem gw614 : Cond.instanceMethod yX3_rename ∈ GW := gwm 614 (by decide +kernel) (by decide +kernel)
theorem gw615 : Cond.selects RX3 yX3_rename yX3_rename ∈ GW := gwm 615 (by decide +kernel) (by decide +kernel)
theorem gw616 : Cond.code yX3_rename cX3_rename 5 (Option.some Jvm.ClassFile.FieldType.int) ∈ GW := gwm 616 (by decide +kernel) (by decide +kernel)
theorem gw617 : Cond.methodLink RL 74 yX3_lose ∈ GW := gwm 617 (by decide +kernel) (by decide +kernel)
theorem gw618 : Cond.instanceMethod yX3_lose ∈ GW := gwm 618 (by decide +kernel) (by decide +kernel)
theorem gw619 : Cond.selects RX3 yX3_lose yX3_lose ∈ GW := gwm 619 (by decide +kernel) (by decide +kernel)
theorem gw620 : Cond.code yX3_lose cX3_lose 5 (Option.some Jvm.ClassFile.FieldType.boolean) ∈ GW := gwm 620 (by decide +kernel) (by decide +kernel)
theorem gw621 : Cond.methodLink RL 78 yX5_in ∈ GW := gwm 621 (by decide +kernel) (by decide +kernel)
theorem gw622 : Cond.methodLink RL 85 yX3_setPlaces ∈ GW := gwm 622 (by decide +kernel) (by decide +kernel)
theorem gw623 : Cond.instanceMethod yX3_setPlaces ∈ GW := gwm 623 (by decide +kernel) (by decide +kernel)
theorem gw624 : Cond.selects RX3 yX3_setPlaces yX3_setPlaces ∈ GW := gwm 624 (by decide +kernel) (by decide +kernel)
theorem gw625 : Cond.code yX3_setPlaces cX3_setPlaces 5 (Option.some Jvm.ClassFile.FieldType.int) ∈ GW := gwm 625 (by decide +kernel) (by decide +kernel)
theorem gw628 : Cond.methodLink RL 88 yX3_setHours ∈ GW := gwm 628 (by decide +kernel) (by decide +kernel)
theorem gw629 : Cond.instanceMethod yX3_setHours ∈ GW := gwm 629 (by decide +kernel) (by decide +kernel)
theorem gw630 : Cond.selects RX3 yX3_setHours yX3_setHours ∈ GW := gwm 630 (by decide +kernel) (by decide +kernel)
theorem gw631 : Cond.code yX3_setHours cX3_setHours 6 (Option.some Jvm.ClassFile.FieldType.int) ∈ GW := gwm 631 (by decide +kernel) (by decide +kernel)
theorem gw633 : Cond.methodLink RL 94 yX5_isOpen ∈ GW := gwm 633 (by decide +kernel) (by decide +kernel)
theorem gw634 : Cond.methodLink RL 96 yX3_put ∈ GW := gwm 634 (by decide +kernel) (by decide +kernel)
theorem gw635 : Cond.instanceMethod yX3_put ∈ GW := gwm 635 (by decide +kernel) (by decide +kernel)
theorem gw636 : Cond.selects RX3 yX3_put yX3_put ∈ GW := gwm 636 (by decide +kernel) (by decide +kernel)
theorem gw637 : Cond.code yX3_put cX3_put 5 (Option.some Jvm.ClassFile.FieldType.int) ∈ GW := gwm 637 (by decide +kernel) (by decide +kernel)
theorem gw638 : Cond.methodLink RX3 145 yX3_takesAnother ∈ GW := gwm 638 (by decide +kernel) (by decide +kernel)
theorem gw640 : Cond.instanceMethod yX3_takesAnother ∈ GW := gwm 640 (by decide +kernel) (by decide +kernel)
theorem gw641 : Cond.code yX3_takesAnother cX3_takesAnother 2 (Option.some Jvm.ClassFile.FieldType.boolean) ∈ GW := gwm 641 (by decide +kernel) (by decide +kernel)
theorem gw643 : Cond.methodLink RL 115 yL_build ∈ GW := gwm 643 (by decide +kernel) (by decide +kernel)
theorem gw644 : Cond.static yL_build ∈ GW := gwm 644 (by decide +kernel) (by decide +kernel)
theorem gw645 : Cond.code yL_build cL_build 4 (Option.some (Jvm.ClassFile.FieldType.object "LetterLocksLaw$Sim")) ∈ GW := gwm 645 (by decide +kernel) (by decide +kernel)
theorem gw646 : Cond.classLink RL 10 RX5 ∈ GW := gwm 646 (by decide +kernel) (by decide +kernel)
theorem gw647 : Cond.instantiable RX5 4 ∈ GW := gwm 647 (by decide +kernel) (by decide +kernel)
theorem nw648 : Cond.methodLinkNest RL 99 yX5_init "LetterLocksLaw" ∈ NW := nwm 648 (by decide +kernel) (by decide +kernel)
theorem gw649 : Cond.instanceMethod yX5_init ∈ GW := gwm 649 (by decide +kernel) (by decide +kernel)
theorem gw650 : Cond.code yX5_init cX5_init 1 (Option.none : Option Jvm.ClassFile.FieldType) ∈ GW := gwm 650 (by decide +kernel) (by decide +kernel)
theorem gw651 : Cond.methodLink RX5 1 objectInit ∈ GW := gwm 651 (by decide +kernel) (by decide +kernel)
theorem gw652 : Cond.classLink RX5 7 RX4 ∈ GW := gwm 652 (by decide +kernel) (by decide +kernel)
theorem gw653 : Cond.classLink RX5 15 "[I" ∈ GW := gwm 653 (by decide +kernel) (by decide +kernel)
theorem gw654 : Cond.fieldLink RX5 22 "LetterLocksLaw$Sim" "hour" "I" ∈ GW := gwm 654 (by decide +kernel) (by decide +kernel)
theorem gw655 : Cond.fieldLink RL 47 "LetterLocksLaw$Sim" "turns" "I" ∈ GW := gwm 655 (by decide +kernel) (by decide +kernel)
theorem gw656 : Cond.fieldLink RX5 26 "LetterLocksLaw$Sim" "turns" "I" ∈ GW := gwm 656 (by decide +kernel) (by decide +kernel)
theorem gw657 : Cond.fieldLink RX5 9 "LetterLocksLaw$Sim" "locks" "[LLetterLocksLaw$Lock;" ∈ GW := gwm 657 (by decide +kernel) (by decide +kernel)
theorem gw658 : Cond.fieldLink RL 9 "LetterLocksLaw$Sim" "locks" "[LLetterLocksLaw$Lock;" ∈ GW := gwm 658 (by decide +kernel) (by decide +kernel)
theorem gw659 : Cond.fieldLink RX5 17 "LetterLocksLaw$Sim" "racks" "[[I" ∈ GW := gwm 659 (by decide +kernel) (by decide +kernel)
theorem gw660 : Cond.fieldLink RL 81 "LetterLocksLaw$Sim" "racks" "[[I" ∈ GW := gwm 660 (by decide +kernel) (by decide +kernel)
theorem nw671 : Cond.castable RX1 "java/lang/Object" ∈ NW := nwm 671 (by decide +kernel) (by decide +kernel)
theorem nw672 : Cond.castable RX4 "java/lang/Object" ∈ NW := nwm 672 (by decide +kernel) (by decide +kernel)
theorem nw673 : Cond.castable RX3 "java/lang/Object" ∈ NW := nwm 673 (by decide +kernel) (by decide +kernel)
theorem nw674 : Cond.castable RJx4a65c "java/lang/Object" ∈ NW := nwm 674 (by decide +kernel) (by decide +kernel)
theorem nw675 : Cond.castable RX2 "java/lang/Object" ∈ NW := nwm 675 (by decide +kernel) (by decide +kernel)
theorem nw676 : Cond.castable RX0 "java/lang/Object" ∈ NW := nwm 676 (by decide +kernel) (by decide +kernel)
theorem nw677 : Cond.castable RX5 "java/lang/Object" ∈ NW := nwm 677 (by decide +kernel) (by decide +kernel)
theorem nw678 : Cond.castable "java/lang/IllegalArgumentException" "java/lang/Object" ∈ NW := nwm 678 (by decide +kernel) (by decide +kernel)
theorem nw679 : Cond.castable "java/lang/IllegalStateException" "java/lang/Object" ∈ NW := nwm 679 (by decide +kernel) (by decide +kernel)
theorem nw680 : Cond.castable "java/lang/IndexOutOfBoundsException" "java/lang/Object" ∈ NW := nwm 680 (by decide +kernel) (by decide +kernel)
theorem nw681 : Cond.castable "java/lang/Throwable" "java/lang/Object" ∈ NW := nwm 681 (by decide +kernel) (by decide +kernel)
theorem nw682 : Cond.castable RJ0 "java/lang/Object" ∈ NW := nwm 682 (by decide +kernel) (by decide +kernel)
theorem gw684 : Cond.selects "[Ljava/lang/Object;" ⟨"java/lang/Object", "getClass", "()Ljava/lang/Class;"⟩ ⟨"java/lang/Object", "getClass", "()Ljava/lang/Class;"⟩ ∈ GW := gwm 684 (by decide +kernel) (by decide +kernel)
theorem nw685 : Cond.declares ⟨"java/lang/Object", "getClass", "()Ljava/lang/Class;"⟩ ∈ NW := nwm 685 (by decide +kernel) (by decide +kernel)
theorem nw686 : Cond.castable "[LLetterLocks$Rack;" "java/lang/Object" ∈ NW := nwm 686 (by decide +kernel) (by decide +kernel)
theorem nw687 : Cond.castable "[[I" "java/lang/Object" ∈ NW := nwm 687 (by decide +kernel) (by decide +kernel)
theorem nw688 : Cond.castable "[I" "java/lang/Object" ∈ NW := nwm 688 (by decide +kernel) (by decide +kernel)
theorem nw689 : Cond.castable "[B" "java/lang/Object" ∈ NW := nwm 689 (by decide +kernel) (by decide +kernel)
theorem nw690 : Cond.castable "[LLetterLocksLaw$Lock;" "java/lang/Object" ∈ NW := nwm 690 (by decide +kernel) (by decide +kernel)
theorem nw691 : Cond.castable "[Ljava/lang/Object;" "java/lang/Object" ∈ NW := nwm 691 (by decide +kernel) (by decide +kernel)
theorem gwSF : Cond.sameField "java/util/ArrayList" "java/util/AbstractList" "modCount" "I" ∈ GW := gwm 68 (by decide +kernel) (by decide +kernel)
theorem gw478 : (Cond.constant "LetterLocksLaw" (7 : Nat) (2147483647 : Int32)) ∈ GW := gwm 478 (by decide +kernel) (by decide +kernel)
theorem gw482 : (Cond.constant "LetterLocksLaw" (8 : Nat) (790386105 : Int32)) ∈ GW := gwm 482 (by decide +kernel) (by decide +kernel)
theorem gw568 : (Cond.constant "jdk/internal/util/ArraysSupport" (200 : Nat) (2147483639 : Int32)) ∈ GW := gwm 568 (by decide +kernel) (by decide +kernel)
theorem gw108 : Cond.arrayClass Jvm.ClassFile.FieldType.int ∈ GW := gwm 108 (by decide +kernel) (by decide +kernel)
theorem gw236 : Cond.arrayClass Jvm.ClassFile.FieldType.byte ∈ GW := gwm 236 (by decide +kernel) (by decide +kernel)
theorem iX0 : ∀ w ∈ wsX00, w ∈ GW := by decide +kernel
theorem iX1 : ∀ w ∈ wsX10, w ∈ GW := by decide +kernel
theorem iX2 : ∀ w ∈ wsX20, w ∈ GW := by decide +kernel
theorem iX3 : ∀ w ∈ wsX30, w ∈ GW := by decide +kernel
theorem iX4 : ∀ w ∈ wsX40, w ∈ GW := by decide +kernel
theorem iX5 : ∀ w ∈ wsX50, w ∈ GW := by decide +kernel
theorem iJx4a65c : ∀ w ∈ wsJx4a65c0, w ∈ GW := by decide +kernel
end
