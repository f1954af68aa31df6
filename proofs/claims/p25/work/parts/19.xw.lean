/-! the class's world -/
abbrev cut (N : Nat) (f : Nat → Int32) : Nat → Int32 := fun i => if i < N then f i else nI 0
theorem cut_in {N : Nat} {f : Nat → Int32} {i : Nat} (h : i < N) : cut N f i = f i := if_pos h
theorem cut_ext {N : Nat} {f g : Nat → Int32} (h : ∀ i, i < N → f i = g i) : cut N f = cut N g := by
  funext i
  show (if _ then _ else _) = if _ then _ else _
  by_cases e : i < N
  · rw [if_pos e, if_pos e, h i e]
  · rw [if_neg e, if_neg e]
theorem cut_upd {N : Nat} {f : Nat → Int32} {k : Nat} {v : Int32} (hk : k < N) : upd (cut N f) k v = cut N (upd f k v) := by
  funext i
  by_cases e : i = k
  · subst e; rw [pk_us, cut_in hk, pk_us]
  · rw [pk_un e]
    show (if _ then _ else _) = if _ then _ else _
    rw [pk_un e]
/-- a lock: its letters, their wear, the word, the rack, open, lost -/
abbrev LD : Type := (Nat → Int32) × (Nat → Int32) × Int32 × Int32 × Int32 × Int32
abbrev lc (ct : Nat → ClassId) (a b c : Nat) (d : LD) : va_W := [(a, .inr (1, [.ref b, .ref c, .int d.2.2.1, .int d.2.2.2.1, .int d.2.2.2.2.1, .int d.2.2.2.2.2])), (b, .inl (ct 0, 4, .inl d.1)), (c, .inl (ct 0, 24, .inl d.2.1))]
def LX (ct : Nat → ClassId) (ad : Nat → Nat) (dat : Nat → LD) : Nat → va_W
  | 0 => []
  | n + 1 => LX ct ad dat n ++ lc ct (ad (20 + 3 * n)) (ad (21 + 3 * n)) (ad (22 + 3 * n)) (dat n)
theorem LX_len (ct : Nat → ClassId) (ad : Nat → Nat) (dat : Nat → LD) : ∀ n, (LX ct ad dat n).length = 3 * n
  | 0 => rfl
  | n + 1 => by
    show (LX ct ad dat n ++ _).length = _
    rw [List.length_append, LX_len ct ad dat n]
    rfl
theorem LX_at (ct : Nat → ClassId) (ad : Nat → Nat) (dat : Nat → LD) {j i : Nat} (hi : i < 3) : ∀ n, j < n → (LX ct ad dat n)[3 * j + i]? = (lc ct (ad (20 + 3 * j)) (ad (21 + 3 * j)) (ad (22 + 3 * j)) (dat j))[i]?
  | 0, h => absurd h (Nat.not_lt_zero _)
  | n + 1, h => by
    show (LX ct ad dat n ++ _)[3 * j + i]? = _
    by_cases e : j = n
    · subst e
      rw [List.getElem?_append_right (by rw [LX_len]; omega), LX_len, show 3 * j + i - 3 * j = i by omega]
    · rw [List.getElem?_append_left (by rw [LX_len]; omega)]
      exact LX_at ct ad dat hi n (by omega)
theorem LX_congr (ct : Nat → ClassId) (ad : Nat → Nat) {dat dat' : Nat → LD} : ∀ n, (∀ i, i < n → dat' i = dat i) → LX ct ad dat n = LX ct ad dat' n
  | 0, _ => rfl
  | n + 1, h => by
    show LX ct ad dat n ++ _ = LX ct ad dat' n ++ _
    rw [LX_congr ct ad n (fun i hi => h i (by omega)), h n (by omega)]
theorem LX_set (ct : Nat → ClassId) (ad : Nat → Nat) {dat dat' : Nat → LD} {j i : Nat} {y : Nat × va_E} (hi : i < 3) (hc : (lc ct (ad (20 + 3 * j)) (ad (21 + 3 * j)) (ad (22 + 3 * j)) (dat j)).set i y = lc ct (ad (20 + 3 * j)) (ad (21 + 3 * j)) (ad (22 + 3 * j)) (dat' j)) : ∀ n, j < n → (∀ i, i < n → i ≠ j → dat' i = dat i) → (LX ct ad dat n).set (3 * j + i) y = LX ct ad dat' n
  | 0, h, _ => absurd h (Nat.not_lt_zero _)
  | n + 1, h, ho => by
    show (LX ct ad dat n ++ _).set (3 * j + i) y = LX ct ad dat' n ++ _
    by_cases e : j = n
    · subst e
      rw [List.set_append_right _ _ (by rw [LX_len]; omega), LX_len, show 3 * j + i - 3 * j = i by omega, hc, LX_congr ct ad j (fun i h2 => ho i (by omega) (by omega))]
    · rw [List.set_append_left _ _ (by rw [LX_len]; omega), LX_set ct ad hi hc n (by omega) (fun i h2 h3 => ho i (by omega) h3), ho n (by omega) (fun z => e z.symm)]
def ldS (σ : St) (j : Nat) : LD := (cut 4 (fun r => sR σ (8 * j + (4 + r))), cut 24 (fun q => sW σ (24 * j + q)), sR σ (8 * j + 0), sR σ (8 * j + 2), sR σ (8 * j + 1), sR σ (8 * j + 3))
abbrev arX (sa ad : Nat → Nat) (n : Nat) : Nat := if n = 0 then sa 0 else ad 2
def FX (ct : Nat → ClassId) (sa ad : Nat → Nat) (mcn : Int32) (φ : LD) (σ : St) : va_W :=
  [(ad 0, .inr (4, [.ref (ad 1), .ref (ad 3), .ref (ad 7), .ref (ad 14), .int (sH σ), .int (sT σ)])),
   (ad 1, .inr (0, [.int mcn, .ref (arX sa ad (sN σ)), .int (nI (sN σ))])),
   (ad 3, .inl (ct 1, 3, .inr (.inr (.inr (.inr (fun i => if i < 3 then some (ad (4 + i)) else none)))))),
   (ad 4, .inr (2, [.int (sK σ (3 * 0 + 0)), .int (sK σ (3 * 0 + 1)), .int (sK σ (3 * 0 + 2))])),
   (ad 5, .inr (2, [.int (sK σ (3 * 1 + 0)), .int (sK σ (3 * 1 + 1)), .int (sK σ (3 * 1 + 2))])),
   (ad 6, .inr (2, [.int (sK σ (3 * 2 + 0)), .int (sK σ (3 * 2 + 1)), .int (sK σ (3 * 2 + 2))])),
   (ad 7, .inr (3, [.ref (ad 8)])),
   (ad 8, .inl (ct 3, 5, .inr (.inr (.inr (.inr (fun i => if i < 5 then some (ad (9 + i)) else none)))))),
   (ad 9, .inl (ct 0, 21, .inl (fun s => nI (cwN 0 s)))), (ad 10, .inl (ct 0, 21, .inl (fun s => nI (cwN 1 s)))), (ad 11, .inl (ct 0, 21, .inl (fun s => nI (cwN 2 s)))), (ad 12, .inl (ct 0, 21, .inl (fun s => nI (cwN 3 s)))), (ad 13, .inl (ct 0, 21, .inl (fun s => nI (cwN 4 s)))),
   (ad 14, .inr (1, [.ref (ad 15), .ref (ad 16), .int φ.2.2.1, .int φ.2.2.2.1, .int φ.2.2.2.2.1, .int φ.2.2.2.2.2])), (ad 15, .inl (ct 0, 4, .inl φ.1)), (ad 16, .inl (ct 0, 24, .inl φ.2.1))]
def AX (ct : Nat → ClassId) (ad : Nat → Nat) (n : Nat) : va_W := if n = 0 then [] else [(ad 2, .inl (ct 2, 10, .inr (.inr (.inr (.inr (fun i => if i < n then some (ad (20 + 3 * i)) else none))))))]
def WX (ct : Nat → ClassId) (sa ad : Nat → Nat) (mcn : Int32) (φ : LD) (σ : St) : va_W := FX ct sa ad mcn φ σ ++ (LX ct ad (ldS σ) (sN σ) ++ AX ct ad (sN σ))
section WXs
variable {ct : Nat → ClassId} {sa ad : Nat → Nat} {mcn : Int32} {φ : LD} {σ σ' : St} {wr : va_W}
theorem FX_len : (FX ct sa ad mcn φ σ).length = 16 := rfl
theorem wx_r {i : Nat} {y : Nat × va_E} (h : (LX ct ad (ldS σ) (sN σ) ++ AX ct ad (sN σ))[i]? = some y) : (WX ct sa ad mcn φ σ ++ wr)[16 + i]? = some y := by
  refine app_at ?_
  show (FX ct sa ad mcn φ σ ++ _)[16 + i]? = _
  rw [List.getElem?_append_right (by rw [FX_len]; omega), FX_len, show 16 + i - 16 = i by omega]
  exact h
theorem wx_c {j i : Nat} {y : Nat × va_E} (hj : j < sN σ) (hi : i < 3) (h : (lc ct (ad (20 + 3 * j)) (ad (21 + 3 * j)) (ad (22 + 3 * j)) (ldS σ j))[i]? = some y) : (WX ct sa ad mcn φ σ ++ wr)[16 + (3 * j + i)]? = some y := by
  refine wx_r ?_
  rw [List.getElem?_append_left (by rw [LX_len]; omega), LX_at ct ad (ldS σ) hi _ hj]
  exact h
theorem wx_lk {j : Nat} (hj : j < sN σ) : Lk ct (WX ct sa ad mcn φ σ ++ wr) (16 + 3 * j) (ad (20 + 3 * j)) (ad (21 + 3 * j)) (ad (22 + 3 * j)) (ldS σ j).1 (ldS σ j).2.1 (ldS σ j).2.2.1 (ldS σ j).2.2.2.1 (ldS σ j).2.2.2.2.1 (ldS σ j).2.2.2.2.2 := ⟨wx_c hj (i := 0) (by decide) rfl, wx_c hj (i := 1) (by decide) rfl, wx_c hj (i := 2) (by decide) rfl⟩
theorem wx_fl : Lk ct (WX ct sa ad mcn φ σ ++ wr) 13 (ad 14) (ad 15) (ad 16) φ.1 φ.2.1 φ.2.2.1 φ.2.2.2.1 φ.2.2.2.2.1 φ.2.2.2.2.2 := ⟨rfl, rfl, rfl⟩
theorem wx_tk : Tk ct (WX ct sa ad mcn φ σ ++ wr) 6 (ad 7) (ad 8) (fun i => ad (9 + i)) (fun i s => nI (cwN i s)) := by
  refine ⟨rfl, rfl, fun i hi => ?_⟩
  match i, hi with
  | 0, _ => rfl
  | 1, _ => rfl
  | 2, _ => rfl
  | 3, _ => rfl
  | 4, _ => rfl
theorem wx_ar (hn : 0 < sN σ) : (WX ct sa ad mcn φ σ ++ wr)[16 + 3 * sN σ]? = some (ad 2, .inl (ct 2, 10, .inr (.inr (.inr (.inr (fun i => if i < sN σ then some (ad (20 + 3 * i)) else none)))))) := by
  refine wx_r ?_
  rw [List.getElem?_append_right (by rw [LX_len]; omega), LX_len, Nat.sub_self]
  show (if _ then _ else _ : va_W)[0]? = _
  rw [if_neg (by omega)]
  rfl
theorem wx_rk {r : Nat} (hr : r < 3) : (WX ct sa ad mcn φ σ ++ wr)[3 + r]? = some (ad (4 + r), .inr (2, [.int (sK σ (3 * r + 0)), .int (sK σ (3 * r + 1)), .int (sK σ (3 * r + 2))])) := by
  match r, hr with
  | 0, _ => rfl
  | 1, _ => rfl
  | 2, _ => rfl
theorem wx_set {j i : Nat} {y : Nat × va_E} (hj : j < sN σ) (hi : i < 3) (hF : FX ct sa ad mcn φ σ' = FX ct sa ad mcn φ σ) (hn : sN σ' = sN σ) (ho : ∀ i, i < sN σ → i ≠ j → ldS σ' i = ldS σ i) (hc : (lc ct (ad (20 + 3 * j)) (ad (21 + 3 * j)) (ad (22 + 3 * j)) (ldS σ j)).set i y = lc ct (ad (20 + 3 * j)) (ad (21 + 3 * j)) (ad (22 + 3 * j)) (ldS σ' j)) : (WX ct sa ad mcn φ σ ++ wr).set (16 + (3 * j + i)) y = WX ct sa ad mcn φ σ' ++ wr := by
  have e1 := LX_set ct ad hi hc (sN σ) hj ho
  have hl : (16 + (3 * j + i)) < (WX ct sa ad mcn φ σ).length := by
    show _ < (FX ct sa ad mcn φ σ ++ (LX ct ad (ldS σ) (sN σ) ++ AX ct ad (sN σ))).length
    rw [List.length_append, List.length_append, FX_len, LX_len]
    omega
  rw [List.set_append_left _ _ hl]
  congr 1
  show (FX ct sa ad mcn φ σ ++ (LX ct ad (ldS σ) (sN σ) ++ AX ct ad (sN σ))).set _ _ = FX ct sa ad mcn φ σ' ++ (LX ct ad (ldS σ') (sN σ') ++ AX ct ad (sN σ'))
  rw [List.set_append_right _ _ (by rw [FX_len]; omega), FX_len, show 16 + (3 * j + i) - 16 = 3 * j + i by omega, List.set_append_left _ _ (by rw [LX_len]; omega), e1, hF, hn]
/-! what an entry of the state is to the locks -/
theorem ld_o {j i c : Nat} {v : Int32} (h : i ≠ j) (hc : c < 8) : ldS (uR σ (upd (sR σ) (8 * j + c) v)) i = ldS σ i := by
  have n1 : ∀ d, d < 8 → upd (sR σ) (8 * j + c) v (8 * i + d) = sR σ (8 * i + d) := fun d hd => pk_un (by omega)
  show (cut 4 (fun r => upd (sR σ) (8 * j + c) v (8 * i + (4 + r))), _, upd (sR σ) (8 * j + c) v (8 * i + 0), upd (sR σ) (8 * j + c) v (8 * i + 2), upd (sR σ) (8 * j + c) v (8 * i + 1), upd (sR σ) (8 * j + c) v (8 * i + 3)) = _
  rw [n1 0 (by decide), n1 1 (by decide), n1 2 (by decide), n1 3 (by decide), cut_ext (fun r hr => n1 (4 + r) (by omega))]
  rfl
theorem ld_h {j c : Nat} {v : Int32} (hc : c < 4) : ldS (uR σ (upd (sR σ) (8 * j + c) v)) j = ((ldS σ j).1, (ldS σ j).2.1, if c = 0 then v else sR σ (8 * j + 0), if c = 2 then v else sR σ (8 * j + 2), if c = 1 then v else sR σ (8 * j + 1), if c = 3 then v else sR σ (8 * j + 3)) := by
  have n1 : ∀ d, upd (sR σ) (8 * j + c) v (8 * j + d) = if c = d then v else sR σ (8 * j + d) := fun d => by
    by_cases e : c = d
    · subst e; rw [pk_us, if_pos rfl]
    · rw [pk_un (by omega), if_neg e]
  show (cut 4 (fun r => upd (sR σ) (8 * j + c) v (8 * j + (4 + r))), _, upd (sR σ) (8 * j + c) v (8 * j + 0), upd (sR σ) (8 * j + c) v (8 * j + 2), upd (sR σ) (8 * j + c) v (8 * j + 1), upd (sR σ) (8 * j + c) v (8 * j + 3)) = _
  rw [n1 0, n1 1, n1 2, n1 3, cut_ext (g := fun r => sR σ (8 * j + (4 + r))) (fun r hr => pk_un (by omega))]
  rfl
theorem ld_l {j r : Nat} {v : Int32} (hr : r < 4) : ldS (uR σ (upd (sR σ) (8 * j + (4 + r)) v)) j = (upd (ldS σ j).1 r v, (ldS σ j).2) := by
  have n1 : ∀ d, d < 4 → upd (sR σ) (8 * j + (4 + r)) v (8 * j + d) = sR σ (8 * j + d) := fun d hd => pk_un (by omega)
  show (cut 4 (fun q => upd (sR σ) (8 * j + (4 + r)) v (8 * j + (4 + q))), _, upd (sR σ) (8 * j + (4 + r)) v (8 * j + 0), upd (sR σ) (8 * j + (4 + r)) v (8 * j + 2), upd (sR σ) (8 * j + (4 + r)) v (8 * j + 1), upd (sR σ) (8 * j + (4 + r)) v (8 * j + 3)) = (upd (cut 4 _) r v, _)
  rw [n1 0 (by decide), n1 1 (by decide), n1 2 (by decide), n1 3 (by decide), cut_upd hr, cut_ext (g := upd (fun q => sR σ (8 * j + (4 + q))) r v) (fun q hq => by
    by_cases e : q = r
    · subst e; rw [pk_us, pk_us]
    · rw [pk_un e, pk_un (by omega)])]
  rfl
theorem ld_wo {j i q : Nat} {v : Int32} (h : i ≠ j) (hq : q < 24) : ldS (uW σ (upd (sW σ) (24 * j + q) v)) i = ldS σ i := by
  show (_, cut 24 (fun t => upd (sW σ) (24 * j + q) v (24 * i + t)), _) = _
  rw [cut_ext (g := fun t => sW σ (24 * i + t)) (fun t ht => pk_un (by omega))]
  rfl
theorem ld_w {j q : Nat} {v : Int32} (hq : q < 24) : ldS (uW σ (upd (sW σ) (24 * j + q) v)) j = ((ldS σ j).1, upd (ldS σ j).2.1 q v, (ldS σ j).2.2) := by
  show (_, cut 24 (fun t => upd (sW σ) (24 * j + q) v (24 * j + t)), _) = (_, upd (cut 24 _) q v, _)
  rw [cut_upd hq, cut_ext (N := 24) (f := fun t => upd (sW σ) (24 * j + q) v (24 * j + t)) (g := upd (fun t => sW σ (24 * j + t)) q v) (fun t ht => by
    by_cases e : t = q
    · subst e; rw [pk_us, pk_us]
    · rw [pk_un e, pk_un (by omega)])]
  rfl
end WXs
