/-! the law's own station: its cells -/
def SLg (L : Nat → va_W) : Nat → va_W
  | 0 => []
  | n + 1 => SLg L n ++ L n
theorem sg_len {L : Nat → va_W} (hL : ∀ i, (L i).length = 8) : ∀ n, (SLg L n).length = 8 * n
  | 0 => rfl
  | n + 1 => by
    show (SLg L n ++ _).length = _
    rw [List.length_append, sg_len hL n, hL n]
    omega
theorem sg_at {L : Nat → va_W} (hL : ∀ i, (L i).length = 8) {j i : Nat} (hi : i < 8) : ∀ n, j < n → (SLg L n)[8 * j + i]? = (L j)[i]?
  | 0, h => absurd h (Nat.not_lt_zero _)
  | n + 1, h => by
    show (SLg L n ++ _)[8 * j + i]? = _
    by_cases e : j = n
    · subst e
      rw [List.getElem?_append_right (by rw [sg_len hL]; omega), sg_len hL, show 8 * j + i - 8 * j = i by omega]
    · rw [List.getElem?_append_left (by rw [sg_len hL]; omega)]
      exact sg_at hL hi n (by omega)
theorem sg_congr {L L' : Nat → va_W} : ∀ n, (∀ i, i < n → L i = L' i) → SLg L n = SLg L' n
  | 0, _ => rfl
  | n + 1, h => by
    show SLg L n ++ _ = SLg L' n ++ _
    rw [sg_congr n (fun i hi => h i (by omega)), h n (by omega)]
def updL (L : Nat → va_W) (j : Nat) (w : va_W) : Nat → va_W := fun i => if i = j then w else L i
theorem ul_s {L : Nat → va_W} {j : Nat} {w : va_W} : updL L j w j = w := if_pos rfl
theorem ul_n {L : Nat → va_W} {i j : Nat} {w : va_W} (h : i ≠ j) : updL L j w i = L i := if_neg h
theorem sg_set {L : Nat → va_W} (hL : ∀ i, (L i).length = 8) {j i : Nat} {y : Nat × va_E} (hi : i < 8) : ∀ n, j < n → (SLg L n).set (8 * j + i) y = SLg (updL L j ((L j).set i y)) n
  | 0, h => absurd h (Nat.not_lt_zero _)
  | n + 1, h => by
    show (SLg L n ++ L n).set (8 * j + i) y = SLg (updL L j ((L j).set i y)) n ++ updL L j ((L j).set i y) n
    by_cases e : j = n
    · subst e
      rw [List.set_append_right _ _ (by rw [sg_len hL]; omega), sg_len hL, show 8 * j + i - 8 * j = i by omega, ul_s, sg_congr j (L' := updL L j ((L j).set i y)) (fun i h2 => (ul_n (by omega)).symm)]
    · rw [List.set_append_left _ _ (by rw [sg_len hL]; omega), sg_set hL hi n (by omega), ul_n (fun z => e z.symm)]
abbrev rfs (N : Nat) (f : Nat → Nat) : Nat → Option Nat := fun i => if i < N then some (f i) else none
abbrev arI (ct : Nat → ClassId) (q N : Nat) (f : Nat → Int32) : Nat × va_E := (q, .inl (ct 0, N, .inl f))
abbrev arR (c : ClassId) (q N : Nat) (f : Nat → Option Nat) : Nat × va_E := (q, .inl (c, N, .inr (.inr (.inr (.inr f)))))
abbrev obL (h a b c : Nat) (op lo rk : Int32) : Nat × va_E := (h, .inr (5, [.ref a, .ref b, .ref c, .int op, .int lo, .int rk]))
/-- one lock of the law's: the object, its word's letters, its rings, its wear's rows -/
def sLk (ct : Nat → ClassId) (sd : Nat → Nat) (j : Nat) (d : LD) : va_W :=
  [obL (sd (10 + 8 * j)) (sd (11 + 8 * j)) (sd (12 + 8 * j)) (sd (13 + 8 * j)) d.2.2.2.2.1 d.2.2.2.2.2 d.2.2.2.1,
   arI ct (sd (12 + 8 * j)) 4 d.1, arR (ct 3) (sd (13 + 8 * j)) 4 (rfs 4 (fun i => sd (14 + 8 * j + i))),
   arI ct (sd (14 + 8 * j + 0)) 6 (cut 6 (wrw d.2.1 0)), arI ct (sd (14 + 8 * j + 1)) 6 (cut 6 (wrw d.2.1 1)), arI ct (sd (14 + 8 * j + 2)) 6 (cut 6 (wrw d.2.1 2)), arI ct (sd (14 + 8 * j + 3)) 6 (cut 6 (wrw d.2.1 3)),
   arI ct (sd (11 + 8 * j)) 4 (cut 4 (ltF d.2.2.1))]
abbrev sLs (ct : Nat → ClassId) (sd : Nat → Nat) (dat : Nat → LD) : Nat → va_W := fun i => sLk ct sd i (dat i)
theorem sls_len {ct : Nat → ClassId} {sd : Nat → Nat} {dat : Nat → LD} : ∀ i, (sLs ct sd dat i).length = 8 := fun _ => rfl
abbrev rkr (K : Nat → Int32) (r : Nat) : Nat → Int32 := cut 3 (fun q => K (3 * r + q))
def SF (ct : Nat → ClassId) (sd : Nat → Nat) (H T : Int32) (n : Nat) (K : Nat → Int32) : va_W :=
  [(sd 0, .inr (6, [.int H, .int T, .ref (sd 1), .ref (sd 2)])), arR (ct 4) (sd 1) n (rfs n (fun i => sd (10 + 8 * i))), arR (ct 3) (sd 2) 3 (rfs 3 (fun i => sd (3 + i))),
   arI ct (sd (3 + 0)) 3 (rkr K 0), arI ct (sd (3 + 1)) 3 (rkr K 1), arI ct (sd (3 + 2)) 3 (rkr K 2)]
def SW (ct : Nat → ClassId) (sd : Nat → Nat) (H T : Int32) (n : Nat) (K : Nat → Int32) (dat : Nat → LD) : va_W := SF ct sd H T n K ++ SLg (sLs ct sd dat) n
section ZS
variable {ct : Nat → ClassId} {sd : Nat → Nat} {H T : Int32} {n : Nat} {K : Nat → Int32} {dat : Nat → LD} {wr : va_W} {j : Nat}
theorem SF_len : (SF ct sd H T n K).length = 6 := rfl
theorem sw_len : (SW ct sd H T n K dat).length = 6 + 8 * n := by
  show (SF ct sd H T n K ++ SLg (sLs ct sd dat) n).length = _
  rw [List.length_append, SF_len, sg_len sls_len]
theorem sw_c {i : Nat} {y : Nat × va_E} (hj : j < n) (hi : i < 8) (h : (sLk ct sd j (dat j))[i]? = some y) : (SW ct sd H T n K dat ++ wr)[6 + (8 * j + i)]? = some y := by
  refine app_at ?_
  show (SF ct sd H T n K ++ SLg (sLs ct sd dat) n)[6 + (8 * j + i)]? = _
  rw [List.getElem?_append_right (by rw [SF_len]; omega), SF_len, show 6 + (8 * j + i) - 6 = 8 * j + i by omega, sg_at sls_len hi n hj]
  exact h
theorem sw_s {i : Nat} {y : Nat × va_E} {d : LD} (hj : j < n) (hi : i < 8) (h : (sLk ct sd j (dat j)).set i y = sLk ct sd j d) : (SW ct sd H T n K dat ++ wr).set (6 + (8 * j + i)) y = SW ct sd H T n K (updD dat j d) ++ wr := by
  have hl : 6 + (8 * j + i) < (SW ct sd H T n K dat).length := by rw [sw_len]; omega
  rw [List.set_append_left _ _ hl]
  congr 1
  show (SF ct sd H T n K ++ SLg (sLs ct sd dat) n).set _ _ = SF ct sd H T n K ++ SLg (sLs ct sd (updD dat j d)) n
  rw [List.set_append_right _ _ (by rw [SF_len]; omega), SF_len, show 6 + (8 * j + i) - 6 = 8 * j + i by omega, sg_set sls_len hi n hj]
  congr 1
  refine sg_congr n (fun i hi => ?_)
  by_cases e : i = j
  · subst e
    rw [ul_s]
    show (sLk ct sd i (dat i)).set _ _ = sLk ct sd i (updD dat i d i)
    rw [ud_s, h]
  · rw [ul_n e]
    show sLk ct sd i (dat i) = sLk ct sd i (updD dat j d i)
    rw [ud_n e]
theorem sw_o (hj : j < n) : (SW ct sd H T n K dat ++ wr)[6 + 8 * j]? = some (obL (sd (10 + 8 * j)) (sd (11 + 8 * j)) (sd (12 + 8 * j)) (sd (13 + 8 * j)) (dat j).2.2.2.2.1 (dat j).2.2.2.2.2 (dat j).2.2.2.1) := sw_c hj (i := 0) (by decide) rfl
theorem sw_w (hj : j < n) : (SW ct sd H T n K dat ++ wr)[6 + 8 * j + 7]? = some (arI ct (sd (11 + 8 * j)) 4 (cut 4 (ltF (dat j).2.2.1))) := sw_c hj (i := 7) (by decide) rfl
theorem sw_r (hj : j < n) : (SW ct sd H T n K dat ++ wr)[6 + 8 * j + 1]? = some (arI ct (sd (12 + 8 * j)) 4 (dat j).1) := sw_c hj (i := 1) (by decide) rfl
theorem sw_a (hj : j < n) : (SW ct sd H T n K dat ++ wr)[6 + 8 * j + 2]? = some (arR (ct 3) (sd (13 + 8 * j)) 4 (rfs 4 (fun i => sd (14 + 8 * j + i)))) := sw_c hj (i := 2) (by decide) rfl
theorem sw_y {r : Nat} (hj : j < n) (hr : r < 4) : (SW ct sd H T n K dat ++ wr)[6 + (8 * j + (3 + r))]? = some (arI ct (sd (14 + 8 * j + r)) 6 (cut 6 (wrw (dat j).2.1 r))) := by
  match r, hr with
  | 0, _ => exact sw_c hj (i := 3) (by decide) rfl
  | 1, _ => exact sw_c hj (i := 4) (by decide) rfl
  | 2, _ => exact sw_c hj (i := 5) (by decide) rfl
  | 3, _ => exact sw_c hj (i := 6) (by decide) rfl
theorem sw_k {r : Nat} (hr : r < 3) : (SW ct sd H T n K dat ++ wr)[3 + r]? = some (arI ct (sd (3 + r)) 3 (rkr K r)) := by
  match r, hr with
  | 0, _ => rfl
  | 1, _ => rfl
  | 2, _ => rfl
theorem sw_so {op lo rk : Int32} (hj : j < n) : (SW ct sd H T n K dat ++ wr).set (6 + 8 * j) (obL (sd (10 + 8 * j)) (sd (11 + 8 * j)) (sd (12 + 8 * j)) (sd (13 + 8 * j)) op lo rk) = SW ct sd H T n K (updD dat j ((dat j).1, (dat j).2.1, (dat j).2.2.1, rk, op, lo)) ++ wr := sw_s hj (i := 0) (by decide) rfl
theorem sw_sr {f : Nat → Int32} (hj : j < n) : (SW ct sd H T n K dat ++ wr).set (6 + 8 * j + 1) (arI ct (sd (12 + 8 * j)) 4 f) = SW ct sd H T n K (updD dat j (f, (dat j).2)) ++ wr := sw_s hj (i := 1) (by decide) rfl
theorem wy_s {W : Nat → Int32} {r q : Nat} {v : Int32} (hq : q < 6) : upd (cut 6 (wrw W r)) q v = cut 6 (wrw (upd W (6 * r + q) v) r) := by
  rw [cut_upd hq]
  exact cut_ext (fun t ht => by
    show upd (wrw W r) q v t = upd W (6 * r + q) v (6 * r + t)
    by_cases e : t = q
    · subst e; rw [pk_us, pk_us]
    · rw [pk_un e, pk_un (by omega)])
theorem wy_o {W : Nat → Int32} {r r2 q : Nat} {v : Int32} (hq : q < 6) (h : r2 ≠ r) : cut 6 (wrw (upd W (6 * r + q) v) r2) = cut 6 (wrw W r2) :=
  cut_ext (fun t ht => pk_un (show 6 * r2 + t ≠ 6 * r + q by omega))
theorem sw_sy {r q : Nat} {v : Int32} (hj : j < n) (hr : r < 4) (hq : q < 6) : (SW ct sd H T n K dat ++ wr).set (6 + (8 * j + (3 + r))) (arI ct (sd (14 + 8 * j + r)) 6 (upd (cut 6 (wrw (dat j).2.1 r)) q v)) = SW ct sd H T n K (updD dat j ((dat j).1, upd (dat j).2.1 (6 * r + q) v, (dat j).2.2)) ++ wr := by
  refine sw_s hj (by omega) ?_
  unfold sLk
  match r, hr with
  | 0, _ => rw [wy_s hq, wy_o (r := 0) (r2 := 1) hq (by decide), wy_o (r := 0) (r2 := 2) hq (by decide), wy_o (r := 0) (r2 := 3) hq (by decide)]; rfl
  | 1, _ => rw [wy_s hq, wy_o (r := 1) (r2 := 0) hq (by decide), wy_o (r := 1) (r2 := 2) hq (by decide), wy_o (r := 1) (r2 := 3) hq (by decide)]; rfl
  | 2, _ => rw [wy_s hq, wy_o (r := 2) (r2 := 0) hq (by decide), wy_o (r := 2) (r2 := 1) hq (by decide), wy_o (r := 2) (r2 := 3) hq (by decide)]; rfl
  | 3, _ => rw [wy_s hq, wy_o (r := 3) (r2 := 0) hq (by decide), wy_o (r := 3) (r2 := 1) hq (by decide), wy_o (r := 3) (r2 := 2) hq (by decide)]; rfl
theorem sw_e {dat' : Nat → LD} (h : ∀ i, i < n → dat i = dat' i) : SW ct sd H T n K dat = SW ct sd H T n K dat' := by
  show SF ct sd H T n K ++ SLg (sLs ct sd dat) n = SF ct sd H T n K ++ SLg (sLs ct sd dat') n
  rw [sg_congr n (L := sLs ct sd dat) (L' := sLs ct sd dat') (fun i hi => by show sLk ct sd i _ = sLk ct sd i _; rw [h i hi])]
end ZS
/-- the law's station in the state σ -/
abbrev SWs (ct : Nat → ClassId) (sd : Nat → Nat) (σ : St) : va_W := SW ct sd (sH σ) (sT σ) (sN σ) (sK σ) (ldS σ)
theorem sws_u {ct : Nat → ClassId} {sd : Nat → Nat} {σ σ' : St} {j : Nat} {d : LD} (hH : sH σ' = sH σ) (hT : sT σ' = sT σ) (hn : sN σ' = sN σ) (hK : sK σ' = sK σ) (ho : ∀ i, i ≠ j → ldS σ' i = ldS σ i) (hd : ldS σ' j = d) : SW ct sd (sH σ) (sT σ) (sN σ) (sK σ) (updD (ldS σ) j d) = SWs ct sd σ' := by
  show _ = SW ct sd (sH σ') (sT σ') (sN σ') (sK σ') (ldS σ')
  rw [hH, hT, hn, hK]
  refine sw_e (fun i _ => ?_)
  by_cases e : i = j
  · subst e; rw [ud_s, hd]
  · rw [ud_n e, ho i e]
/-- the newest cell takes another one's place -/
theorem j_repl {X : Ctx} {ws : va_W} {k n pc : Nat} {lv : List (Nat × Value)} {st : List Value} {y : Nat × va_E} (p0 : Nat) (h0 : p0 < ws.length) (kk : J X (ws.set p0 y) k n pc lv st) : J X (ws ++ [y]) k n pc lv st := by
  refine j_by (fun i => if i = p0 then ws.length else i) (fun i q hq => ?_) (fun a b ha hb hab => ?_) kk
  · by_cases e : i = p0
    · subst e
      rw [List.getElem?_set_self h0] at hq
      cases hq
      show (ws ++ [_])[if i = i then ws.length else i]? = _
      rw [if_pos rfl]
      simp
    · rw [List.getElem?_set_ne (fun z => e z.symm)] at hq
      show (ws ++ [_])[if i = p0 then ws.length else i]? = _
      rw [if_neg e]
      exact app_at hq
  · rw [List.length_set] at ha hb
    by_cases e1 : a = p0 <;> by_cases e2 : b = p0
    · omega
    · rw [if_pos e1, if_neg e2] at hab; omega
    · rw [if_neg e1, if_pos e2] at hab; omega
    · rw [if_neg e1, if_neg e2] at hab; exact hab
