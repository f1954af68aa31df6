theorem told_v {σ : St} {j t : Nat} (h8 : sN σ ≤ 8) (hj : j < sN σ) (ht : t < 6) : f_told σ (nI j) (nI t) = (nI 0, tld σ j t, σ) :=
  told_k (okI_n hj (by omega)) t ht (by rw [show ix (nI j) = j from nI_clamp (by omega)])
theorem rack_v {σ : St} {i t : Nat} (hi : i < 3) (ht : t < 6) : f_rack σ (nI i) (nI t) = (nI 0, rtl σ i t, σ) :=
  rack_k (okI_n hi (by decide)) t ht (by rw [show ix (nI i) = i from nI_clamp (by omega)])
theorem wear_v {σ : St} {j r q : Nat} (h8 : sN σ ≤ 8) (hj : j < sN σ) (hr : r < 4) (hq : q < 6) : f_wear σ (nI j) (nI r) (nI q) = (nI 0, sW σ (24 * j + (6 * r + q)), σ) := by
  rw [f_wear, if_pos ⟨okI_n hj (by omega), okI_n hr (by decide), okI_n hq (by decide)⟩, show ix (nI j) = j from nI_clamp (by omega), show ix (nI r) = r from nI_clamp (by omega), show ix (nI q) = q from nI_clamp (by omega), show 6 * (4 * j + r) + q = 24 * j + (6 * r + q) by omega]
/-! a new lock in the world -/
abbrev kL (ct : Nat → ClassId) (sa ad : Nat → Nat) (φ : LD) (wr : va_W) (f : Op) : Option Value → va_W → Prop := fun r w => f.1 = nI 0 ∧ r = some (.int f.2.1) ∧ ∃ ad' mcn', ad' 0 = ad 0 ∧ w = WX ct sa ad' mcn' φ f.2.2 ++ wr
abbrev nwS (σ : St) (w : Int32) : St := uN (uR σ (upd (upd (upd (sR σ) (8 * sN σ + 0) w) (8 * sN σ + 1) (nI 1)) (8 * sN σ + 2) (-1))) (sN σ + 1)
theorem kl {ct : Nat → ClassId} {sa ad ad' : Nat → Nat} {mcn : Int32} {φ : LD} {wr : va_W} {f : Op} {v : Int32} {σ : St} (h : f = (nI 0, v, σ)) (h0 : ad' 0 = ad 0) : kL ct sa ad φ wr f (some (.int v)) (WX ct sa ad' mcn φ σ ++ wr) := ⟨by rw [h], by rw [h], ad', mcn, h0, by rw [h]⟩
theorem nw_ldo {σ : St} {w : Int32} {i : Nat} (h : i < sN σ) : ldS (nwS σ w) i = ldS σ i := by
  have n1 : ∀ d, d < 8 → upd (upd (upd (sR σ) (8 * sN σ + 0) w) (8 * sN σ + 1) (nI 1)) (8 * sN σ + 2) (-1) (8 * i + d) = sR σ (8 * i + d) := fun d hd => by
    rw [pk_un (by omega), pk_un (by omega), pk_un (by omega)]
  show (cut 4 (fun r => upd (upd (upd (sR σ) (8 * sN σ + 0) w) (8 * sN σ + 1) (nI 1)) (8 * sN σ + 2) (-1) (8 * i + (4 + r))), _, upd (upd (upd (sR σ) (8 * sN σ + 0) w) (8 * sN σ + 1) (nI 1)) (8 * sN σ + 2) (-1) (8 * i + 0), upd (upd (upd (sR σ) (8 * sN σ + 0) w) (8 * sN σ + 1) (nI 1)) (8 * sN σ + 2) (-1) (8 * i + 2), upd (upd (upd (sR σ) (8 * sN σ + 0) w) (8 * sN σ + 1) (nI 1)) (8 * sN σ + 2) (-1) (8 * i + 1), upd (upd (upd (sR σ) (8 * sN σ + 0) w) (8 * sN σ + 1) (nI 1)) (8 * sN σ + 2) (-1) (8 * i + 3)) = _
  rw [n1 0 (by decide), n1 1 (by decide), n1 2 (by decide), n1 3 (by decide), cut_ext (N := 4) (fun r hr => n1 (4 + r) (by omega))]
  rfl
theorem cut_z {N : Nat} {f : Nat → Int32} (h : ∀ i, i < N → f i = nI 0) : cut N f = fun _ => nI 0 := by
  funext i
  show (if _ then _ else _) = _
  by_cases e : i < N
  · rw [if_pos e, h i e]
  · rw [if_neg e]
theorem nw_lds {σ : St} {w : Int32} (hi : Inv1 σ) (h8 : sN σ < 8) : ldS (nwS σ w) (sN σ) = (fun _ => nI 0, fun _ => nI 0, w, -1, nI 1, nI 0) := by
  obtain ⟨z3, z4, zw⟩ := hi.2.2.2 (sN σ) (Nat.le_refl _) h8
  show (cut 4 (fun r => upd (upd (upd (sR σ) (8 * sN σ + 0) w) (8 * sN σ + 1) (nI 1)) (8 * sN σ + 2) (-1) (8 * sN σ + (4 + r))), cut 24 (fun q => sW σ (24 * sN σ + q)), upd (upd (upd (sR σ) (8 * sN σ + 0) w) (8 * sN σ + 1) (nI 1)) (8 * sN σ + 2) (-1) (8 * sN σ + 0), upd (upd (upd (sR σ) (8 * sN σ + 0) w) (8 * sN σ + 1) (nI 1)) (8 * sN σ + 2) (-1) (8 * sN σ + 2), upd (upd (upd (sR σ) (8 * sN σ + 0) w) (8 * sN σ + 1) (nI 1)) (8 * sN σ + 2) (-1) (8 * sN σ + 1), upd (upd (upd (sR σ) (8 * sN σ + 0) w) (8 * sN σ + 1) (nI 1)) (8 * sN σ + 2) (-1) (8 * sN σ + 3)) = _
  rw [cut_z (N := 24) zw, cut_z (N := 4) (fun r hr => by rw [pk_un (by omega), pk_un (by omega), pk_un (by omega)]; exact z4 r hr), pk_un (by omega), pk_un (by omega), pk_us, pk_us, pk_un (by omega), pk_us, pk_un (by omega), pk_un (by omega), pk_un (by omega), z3]
theorem FX_ad {ct : Nat → ClassId} {sa ad ad' : Nat → Nat} {mcn : Int32} {φ : LD} {σ : St} (h : ∀ i, i < 20 → ad' i = ad i) : FX ct sa ad' mcn φ σ = FX ct sa ad mcn φ σ := by
  have e3 : (fun i => if i < 3 then some (ad' (4 + i)) else none) = fun i => if i < 3 then some (ad (4 + i)) else none := by
    funext i
    by_cases c : i < 3
    · rw [if_pos c, if_pos c, h _ (by omega)]
    · rw [if_neg c, if_neg c]
  have e5 : (fun i => if i < 5 then some (ad' (9 + i)) else none) = fun i => if i < 5 then some (ad (9 + i)) else none := by
    funext i
    by_cases c : i < 5
    · rw [if_pos c, if_pos c, h _ (by omega)]
    · rw [if_neg c, if_neg c]
  unfold FX arX
  rw [e3, e5, h 0 (by decide), h 1 (by decide), h 2 (by decide), h 3 (by decide), h 4 (by decide), h 5 (by decide), h 6 (by decide), h 7 (by decide), h 8 (by decide), h 9 (by decide), h 10 (by decide), h 11 (by decide), h 12 (by decide), h 13 (by decide), h 14 (by decide), h 15 (by decide), h 16 (by decide)]
theorem LX_ad {ct : Nat → ClassId} {ad ad' : Nat → Nat} {dat : Nat → LD} : ∀ n, (∀ i, i < 20 + 3 * n → ad' i = ad i) → LX ct ad' dat n = LX ct ad dat n
  | 0, _ => rfl
  | n + 1, h => by
    show LX ct ad' dat n ++ lc ct (ad' (20 + 3 * n)) (ad' (21 + 3 * n)) (ad' (22 + 3 * n)) (dat n) = LX ct ad dat n ++ lc ct (ad (20 + 3 * n)) (ad (21 + 3 * n)) (ad (22 + 3 * n)) (dat n)
    rw [LX_ad n (fun i hi => h i (by omega)), h _ (by omega), h _ (by omega), h _ (by omega)]
def adN (ad : Nat → Nat) (n h q1 q2 q : Nat) : Nat → Nat := fun i => if i = 20 + 3 * n then h else if i = 21 + 3 * n then q1 else if i = 22 + 3 * n then q2 else if i = 2 then q else ad i
theorem adN_o {ad : Nat → Nat} {n h q1 q2 q i : Nat} (hi : i < 20 + 3 * n) (h2 : i = 2 → q = ad 2) : adN ad n h q1 q2 q i = ad i := by
  unfold adN
  rw [if_neg (by omega), if_neg (by omega), if_neg (by omega)]
  by_cases e : i = 2
  · rw [if_pos e, h2 e, e]
  · rw [if_neg e]
theorem adN_h {ad : Nat → Nat} {n h q1 q2 q : Nat} : adN ad n h q1 q2 q (20 + 3 * n) = h := if_pos rfl
theorem adN_1 {ad : Nat → Nat} {n h q1 q2 q : Nat} : adN ad n h q1 q2 q (21 + 3 * n) = q1 := by
  unfold adN
  rw [if_neg (by omega), if_pos rfl]
theorem adN_2 {ad : Nat → Nat} {n h q1 q2 q : Nat} : adN ad n h q1 q2 q (22 + 3 * n) = q2 := by
  unfold adN
  rw [if_neg (by omega), if_neg (by omega), if_pos rfl]
theorem adN_q {ad : Nat → Nat} {n h q1 q2 q : Nat} : adN ad n h q1 q2 q 2 = q := by
  unfold adN
  rw [if_neg (by omega), if_neg (by omega), if_neg (by omega), if_pos rfl]
abbrev nwL (ct : Nat → ClassId) (h q1 q2 : Nat) (w : Int32) : va_W := [(h, .inr (1, [.ref q1, .ref q2, .int w, .int (-1), .int (nI 1), .int (nI 0)])), (q1, .inl (ct 0, 4, .inl (fun _ => nI 0))), (q2, .inl (ct 0, 24, .inl (fun _ => nI 0)))]
abbrev arO (ct : Nat → ClassId) (q : Nat) (f : Nat → Option Nat) : Nat × va_E := (q, .inl (ct 2, 10, .inr (.inr (.inr (.inr f)))))
section LKS
variable {ct : Nat → ClassId} {sa ad : Nat → Nat} {mcn : Int32} {φ : LD} {σ : St} {wr : va_W}
theorem wx_len : (WX ct sa ad mcn φ σ ++ wr).length = 16 + 3 * sN σ + (AX ct ad (sN σ)).length + wr.length := by
  show (FX ct sa ad mcn φ σ ++ (LX ct ad (ldS σ) (sN σ) ++ AX ct ad (sN σ)) ++ wr).length = _
  rw [List.length_append, List.length_append, List.length_append, FX_len, LX_len]
  omega
theorem wx_li0 (hn : sN σ = 0) : (WX ct sa ad mcn φ σ ++ wr)[1]? = some (ad 1, .inr (0, [.int mcn, .ref (sa 0), .int (nI 0)])) := by
  rw [wx_li, show arX sa ad (sN σ) = sa 0 from if_pos hn, hn]
/-- the world with the new lock: the state's n + 1, the cells in their places -/
theorem wn_new {w : Int32} (hi : Inv1 σ) (h8 : sN σ < 8) {h q1 q2 q : Nat} (hq : 0 < sN σ → q = ad 2) (f : Nat → Option Nat) (hf : f = fun i => if i < sN σ + 1 then some (adN ad (sN σ) h q1 q2 q (20 + 3 * i)) else none) :
    (FX ct sa ad mcn φ σ).set 1 (ad 1, .inr (0, [.int (mcn + nI 1), .ref q, .int (nI (sN σ + 1))])) ++ LX ct ad (ldS σ) (sN σ) ++ (nwL ct h q1 q2 w ++ [arO ct q f]) = WX ct sa (adN ad (sN σ) h q1 q2 q) (mcn + nI 1) φ (nwS σ w) := by
  show _ = FX ct sa (adN ad (sN σ) h q1 q2 q) (mcn + nI 1) φ (nwS σ w) ++ ((LX ct (adN ad (sN σ) h q1 q2 q) (ldS (nwS σ w)) (sN σ) ++ lc ct (adN ad (sN σ) h q1 q2 q (20 + 3 * sN σ)) (adN ad (sN σ) h q1 q2 q (21 + 3 * sN σ)) (adN ad (sN σ) h q1 q2 q (22 + 3 * sN σ)) (ldS (nwS σ w) (sN σ))) ++ AX ct (adN ad (sN σ) h q1 q2 q) (sN σ + 1))
  have e0 : ∀ i, i < 20 + 3 * sN σ → i ≠ 2 → adN ad (sN σ) h q1 q2 q i = ad i := fun i hi h2 => adN_o hi (fun z => absurd z h2)
  have e1 : FX ct sa (adN ad (sN σ) h q1 q2 q) (mcn + nI 1) φ (nwS σ w) = (FX ct sa ad mcn φ σ).set 1 (ad 1, .inr (0, [.int (mcn + nI 1), .ref q, .int (nI (sN σ + 1))])) := by
    have e3 : (fun i => if i < 3 then some (adN ad (sN σ) h q1 q2 q (4 + i)) else none) = fun i => if i < 3 then some (ad (4 + i)) else none := by
      funext i
      by_cases c : i < 3
      · rw [if_pos c, if_pos c, e0 _ (by omega) (by omega)]
      · rw [if_neg c, if_neg c]
    have e5 : (fun i => if i < 5 then some (adN ad (sN σ) h q1 q2 q (9 + i)) else none) = fun i => if i < 5 then some (ad (9 + i)) else none := by
      funext i
      by_cases c : i < 5
      · rw [if_pos c, if_pos c, e0 _ (by omega) (by omega)]
      · rw [if_neg c, if_neg c]
    have ea : arX sa (adN ad (sN σ) h q1 q2 q) (sN σ + 1) = q := (if_neg (Nat.succ_ne_zero _)).trans adN_q
    unfold FX
    rw [show arX sa (adN ad (sN σ) h q1 q2 q) (sN (nwS σ w)) = q from ea, e3, e5, e0 0 (by omega) (by decide), e0 1 (by omega) (by decide), e0 3 (by omega) (by decide), e0 4 (by omega) (by decide), e0 5 (by omega) (by decide), e0 6 (by omega) (by decide), e0 7 (by omega) (by decide), e0 8 (by omega) (by decide), e0 9 (by omega) (by decide), e0 10 (by omega) (by decide), e0 11 (by omega) (by decide), e0 12 (by omega) (by decide), e0 13 (by omega) (by decide), e0 14 (by omega) (by decide), e0 15 (by omega) (by decide), e0 16 (by omega) (by decide)]
    rfl
  have e2 : LX ct (adN ad (sN σ) h q1 q2 q) (ldS (nwS σ w)) (sN σ) = LX ct ad (ldS σ) (sN σ) := by
    rw [LX_congr ct _ (dat := ldS (nwS σ w)) (dat' := ldS σ) (sN σ) (fun i hi => (nw_ldo hi).symm)]
    by_cases c : 0 < sN σ
    · exact LX_ad (sN σ) (fun i hi => adN_o hi (fun _ => hq c))
    · rw [show sN σ = 0 by omega]; rfl
  have e4 : AX ct (adN ad (sN σ) h q1 q2 q) (sN σ + 1) = [arO ct q f] := by
    refine (if_neg (Nat.succ_ne_zero _)).trans ?_
    rw [adN_q, hf]
  rw [e1, e2, e4, adN_h, adN_1, adN_2, nw_lds hi h8, List.append_assoc, List.append_assoc]
/-- behind add, where the list was empty -/
theorem wn_0 {h q1 q2 q : Nat} {w : Int32} (h0 : sN σ = 0) : ((WX ct sa ad mcn φ σ ++ wr ++ nwL ct h q1 q2 w).set 1 (ad 1, .inr (0, [.int (mcn + nI 1), .ref q, .int (nI 1)]))) ++ [arO ct q (va_up (fun _ => none) 0 (some h))] = ((FX ct sa ad mcn φ σ).set 1 (ad 1, .inr (0, [.int (mcn + nI 1), .ref q, .int (nI (sN σ + 1))])) ++ LX ct ad (ldS σ) (sN σ)) ++ wr ++ (nwL ct h q1 q2 w ++ [arO ct q (va_up (fun _ => none) 0 (some h))]) := by
  have eA : AX ct ad (sN σ) = [] := if_pos h0
  show ((FX ct sa ad mcn φ σ ++ (LX ct ad (ldS σ) (sN σ) ++ AX ct ad (sN σ)) ++ wr ++ nwL ct h q1 q2 w).set 1 _) ++ _ = _
  rw [eA, List.append_nil, show nI (sN σ + 1) = nI 1 from by rw [h0]]
  rw [List.append_assoc (FX ct sa ad mcn φ σ), List.append_assoc (FX ct sa ad mcn φ σ), List.set_append_left 1 _ (by rw [FX_len]; decide)]
  simp only [List.append_assoc]
/-- behind add, where it was not -/
theorem wn_1 {h q1 q2 : Nat} {w : Int32} {f : Nat → Option Nat} (hn : 0 < sN σ) : ((WX ct sa ad mcn φ σ ++ wr ++ nwL ct h q1 q2 w).set (16 + 3 * sN σ) (arO ct (ad 2) f)).set 1 (ad 1, .inr (0, [.int (mcn + nI 1), .ref (ad 2), .int (nI (sN σ + 1))])) = ((FX ct sa ad mcn φ σ).set 1 (ad 1, .inr (0, [.int (mcn + nI 1), .ref (ad 2), .int (nI (sN σ + 1))])) ++ LX ct ad (ldS σ) (sN σ)) ++ ([arO ct (ad 2) f] ++ wr) ++ nwL ct h q1 q2 w := by
  obtain ⟨y, eA⟩ : ∃ y, AX ct ad (sN σ) = [y] := ⟨_, if_neg (by omega)⟩
  show ((FX ct sa ad mcn φ σ ++ (LX ct ad (ldS σ) (sN σ) ++ AX ct ad (sN σ)) ++ wr ++ nwL ct h q1 q2 w).set _ _).set 1 _ = _
  rw [eA]
  have e1 : FX ct sa ad mcn φ σ ++ (LX ct ad (ldS σ) (sN σ) ++ [y]) ++ wr ++ nwL ct h q1 q2 w = FX ct sa ad mcn φ σ ++ (LX ct ad (ldS σ) (sN σ) ++ (y :: (wr ++ nwL ct h q1 q2 w))) := by simp only [List.append_assoc, List.singleton_append, List.cons_append, List.nil_append]
  have a1 : (FX ct sa ad mcn φ σ ++ (LX ct ad (ldS σ) (sN σ) ++ (y :: (wr ++ nwL ct h q1 q2 w)))).set (16 + 3 * sN σ) (arO ct (ad 2) f) = FX ct sa ad mcn φ σ ++ (LX ct ad (ldS σ) (sN σ) ++ (arO ct (ad 2) f :: (wr ++ nwL ct h q1 q2 w))) := by
    rw [List.set_append_right _ _ (by rw [FX_len]; omega), FX_len, show 16 + 3 * sN σ - 16 = 3 * sN σ by omega, List.set_append_right _ _ (by rw [LX_len]; omega), LX_len, Nat.sub_self]
    rfl
  rw [e1, a1, List.set_append_left 1 _ (by rw [FX_len]; decide)]
  simp only [List.append_assoc, List.singleton_append, List.cons_append, List.nil_append]
theorem f_new1 {h q1 q2 : Nat} : va_up (fun i => if i < sN σ then some (ad (20 + 3 * i)) else none) (sN σ) (some h) = fun i => if i < sN σ + 1 then some (adN ad (sN σ) h q1 q2 (ad 2) (20 + 3 * i)) else none := by
  funext i
  by_cases e : i = sN σ
  · subst e
    rw [va_up_self, if_pos (by omega), adN_h]
  · rw [va_up_ne _ _ e]
    by_cases c : i < sN σ
    · rw [if_pos c, if_pos (by omega), adN_o (by omega) (fun _ => rfl)]
    · rw [if_neg c, if_neg (by omega)]
theorem f_new0 {h q1 q2 q : Nat} (h0 : sN σ = 0) : va_up (fun _ => none) 0 (some h) = fun i => if i < sN σ + 1 then some (adN ad (sN σ) h q1 q2 q (20 + 3 * i)) else none := by
  funext i
  by_cases e : i = 0
  · subst e
    rw [va_up_self, if_pos (by omega)]
    have := adN_h (ad := ad) (n := sN σ) (h := h) (q1 := q1) (q2 := q2) (q := q)
    rw [h0] at this ⊢
    exact congrArg some this.symm
  · rw [va_up_ne _ _ e, if_neg (by omega)]
end LKS
