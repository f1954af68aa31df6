/-! the beginnings -/
def K0F : Nat → Int32 := upd (upd (upd (upd (upd (upd (upd (upd (upd (fun _ => nI 0) 0 (nI 4)) 1 (nI 0)) 2 (nI 24)) 3 (nI 4)) 4 (nI 0)) 5 (nI 24)) 6 (nI 4)) 7 (nI 0)) 8 (nI 24)
def σ00 : St := (0, nI 0, nI 0, fun _ => nI 0, fun _ => nI 0, K0F)
def φ00 : LD := (fun _ => nI 0, fun _ => nI 0, nI 0, -1, nI 1, nI 0)
theorem th_set0 {A R : va_W} {x y : Nat × va_E} : (A ++ (x :: R)).set A.length y = A ++ (y :: R) := by
  rw [List.set_append_right _ _ (Nat.le_refl _), Nat.sub_self]
  rfl
theorem th_app {A R S : va_W} {x : Nat × va_E} : (A ++ (x :: R)) ++ S = A ++ (x :: (R ++ S)) := List.append_assoc ..
theorem inv1_0 : Inv1 σ00 := by
  refine ⟨⟨by decide, fun j hj => ⟨?_, ?_, fun r hr => ?_⟩⟩, fun j hj => ⟨Or.inl rfl, Or.inl rfl⟩, fun j hj q hq => ?_, fun j _ hj => ⟨rfl, fun r hr => rfl, fun q hq => rfl⟩⟩
  · show okI 1296 (nI 0); decide
  · exact Or.inr (show okI 3 (nI 0) by decide)
  · show okI 6 (nI 0); decide
  · show okI 100 (nI 0); decide
abbrev ad0 (l : List Nat) : Nat → Nat := fun i => l.getD i 0
abbrev obX (h a b c d : Nat) : Nat × va_E := (h, .inr (4, [.ref a, .ref b, .ref c, .ref d, .int (nI 0), .int (nI 0)]))
abbrev rkX (r : Nat) : Nat × va_E := (r, .inr (2, [.int (nI 4), .int (nI 0), .int (nI 24)]))
abbrev rkA (r0 r1 r2 : Nat) : Nat → Option Nat := va_up (va_up (va_up (fun _ => none) 0 (some r0)) 1 (some r1)) 2 (some r2)
theorem rkA_e (r0 r1 r2 : Nat) : rkA r0 r1 r2 = fun i => if i < 3 then some (([r0, r1, r2] : List Nat).getD i 0) else none := by
  funext i
  match i with
  | 0 => rfl
  | 1 => rfl
  | 2 => rfl
  | n + 3 => rw [if_neg (by omega)]; rfl
theorem rwA_e (rw : Nat → Nat) : (fun i => if i < 5 then some (rw i) else none) = fun i => if i < 5 then some (([rw 0, rw 1, rw 2, rw 3, rw 4] : List Nat).getD i 0) else none := by
  funext i
  match i with
  | 0 => rfl
  | 1 => rfl
  | 2 => rfl
  | 3 => rfl
  | 4 => rfl
  | n + 5 => rw [if_neg (by omega), if_neg (by omega)]
theorem TR_fin (ct : Nat → ClassId) (rw : Nat → Nat) : TR ct rw (tbl 5 0) = TR ct rw (fun i s => nI (cwN i s)) := by
  refine List.map_congr_left (fun i hi => ?_)
  rw [tb_fin i (List.mem_range.mp hi)]
theorem init_w (ct : Nat → ClassId) (sa : Nat → Nat) (base : va_W) (h a b r0 r1 r2 th tt lk la lb : Nat) (rw : Nat → Nat) :
    base ++ (obX h a b th lk :: (a, .inr (0, [.int (nI 0), .ref (sa 0), .int (nI 0)])) :: (b, .inl (ct 1, 3, .inr (.inr (.inr (.inr (rkA r0 r1 r2)))))) :: rkX r0 :: rkX r1 :: rkX r2 :: (th, .inr (3, [.ref tt])) :: (tt, .inl (ct 3, 5, .inr (.inr (.inr (.inr (fun i => if i < 5 then some (rw i) else none)))))) :: (TR ct rw (tbl 5 0) ++ [(lk, .inr (1, [.ref la, .ref lb, .int (nI 0), .int (-1), .int (nI 1), .int (nI 0)])), (la, .inl (ct 0, 4, .inl (fun _ => nI 0))), (lb, .inl (ct 0, 24, .inl (fun _ => nI 0)))]))
    = base ++ WX ct sa (ad0 [h, a, 0, b, r0, r1, r2, th, tt, rw 0, rw 1, rw 2, rw 3, rw 4, lk, la, lb]) (nI 0) φ00 σ00 := by
  rw [TR_fin, rkA_e, rwA_e]
  congr 1
  show (_ : va_W) = _ :: _ :: (b, .inl (ct 1, 3, .inr (.inr (.inr (.inr (fun i => if i < 3 then some (([h, a, 0, b, r0, r1, r2, th, tt, rw 0, rw 1, rw 2, rw 3, rw 4, lk, la, lb] : List Nat).getD (4 + i) 0) else none)))))) :: _ :: _ :: _ :: _ :: (tt, .inl (ct 3, 5, .inr (.inr (.inr (.inr (fun i => if i < 5 then some (([h, a, 0, b, r0, r1, r2, th, tt, rw 0, rw 1, rw 2, rw 3, rw 4, lk, la, lb] : List Nat).getD (9 + i) 0) else none)))))) :: _
  have e3 : (fun i => if i < 3 then some (([h, a, 0, b, r0, r1, r2, th, tt, rw 0, rw 1, rw 2, rw 3, rw 4, lk, la, lb] : List Nat).getD (4 + i) 0) else none) = fun i => if i < 3 then some (([r0, r1, r2] : List Nat).getD i 0) else none := by
    funext i
    match i with
    | 0 => rfl
    | 1 => rfl
    | 2 => rfl
    | n + 3 => rw [if_neg (by omega), if_neg (by omega)]
  have e5 : (fun i => if i < 5 then some (([h, a, 0, b, r0, r1, r2, th, tt, rw 0, rw 1, rw 2, rw 3, rw 4, lk, la, lb] : List Nat).getD (9 + i) 0) else none) = fun i => if i < 5 then some (([rw 0, rw 1, rw 2, rw 3, rw 4] : List Nat).getD i 0) else none := by
    funext i
    match i with
    | 0 => rfl
    | 1 => rfl
    | 2 => rfl
    | 3 => rfl
    | 4 => rfl
    | n + 5 => rw [if_neg (by omega), if_neg (by omega)]
  rw [e3, e5]
  rfl
