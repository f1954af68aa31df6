/-! the law's calls: what is thrown is caught -/
theorem jt_catch {X : Ctx} {l : Launch} {D : va_G} {ct : Nat → ClassId} {sa : Nat → Nat} {cc : ByteArray} {nL1 : Nat} {own : String} {R0 : Room} {ws : va_W} {k n pc : Nat} {lv : List (Nat × Value)} (C : jC X l D ct sa cc nL1 own R0) {hh : List (Nat × Nat × Nat × Nat)} (Tb : jTb X hh) {En name : String} (pre : List (Nat × Nat × Nat × Nat)) (x : Nat × Nat × Nat × Nat) (suf : List (Nat × Nat × Nat × Nat)) (hsplit : hh = pre ++ x :: suf) (hpass : ∀ z ∈ pre, z.2.2.2 ≠ 0 ∧ ∃ nm : String, Cond.classLink own z.2.2.2 nm ∈ GW ∧ (En, nm) ∈ NCS) (hx0 : covers ⟨x.1, x.2.1, x.2.2.1, x.2.2.2⟩ pc = true) (h0 : x.2.2.2 ≠ 0) (w1 : Cond.classLink own x.2.2.2 name ∈ GW) (w2 : Cond.castable En name ∈ NW) (kk : ∀ q, J X ws k n x.2.2.1 lv [.ref q]) : JT X ws k n pc lv En := by
  obtain ⟨p, l0, e, R, s, m, args, below, meth, c, D0, ct0, sa0, A, nL, Q⟩ := X
  obtain ⟨hx, hb, hml, ho, hts, hK, hA, hlk, hEX, rfl, rfl, rfl, rfl, rfl, rfl⟩ := C
  intro H locs ls rest q ce hP hD hS hl hce hcv hcl
  have hT : c.exceptionTable.toList = tableOf hh := Tb
  refine vx_catch (name := name) ho (tableOf pre) ⟨x.1, x.2.1, x.2.2.1, x.2.2.2⟩ (tableOf suf) (by rw [hT, hsplit]; exact List.map_append) (fun z hz => ?_) hx0 h0 (hts _ w1) (va_Nw.use rfl (hEX.1 _ w2)) hce hcv hcl (kk q H locs ls hP hD hS hl)
  obtain ⟨y, hy, rfl⟩ := List.mem_map.mp hz
  obtain ⟨a1, nm, a2, a3⟩ := hpass y hy
  exact Or.inr ⟨a1, nm, hts _ a2, hEX.2.2.2.2.2.2.2.2.2 _ a3⟩
abbrev oC (ct : Nat → ClassId) (q : Nat) (g : Nat → Int64) : Nat × va_E := (q, .inl (ct 4, 1, .inr (.inl g)))
abbrev kLw (ct : Nat → ClassId) (sa ad : Nat → Nat) (qo : Nat) (wr : va_W) (f : Op) : Option Value → va_W → Prop := fun r w => r = some (.int f.1) ∧ ∃ ad' mcn' φ' g', ad' 0 = ad 0 ∧ (f.1 = nI 0 → g' 0 = f.2.1.toInt64) ∧ w = WX ct sa ad' mcn' φ' f.2.2 ++ (oC ct qo g' :: wr)
theorem kle {ct : Nat → ClassId} {sa ad : Nat → Nat} {mcn : Int32} {φ : LD} {qo : Nat} {g : Nat → Int64} {wr : va_W} {f : Op} {σ : St} {i : Nat} (hf : f.1 = nI (i + 1)) (hi : i < 9) (he : ¬ f.1 = nI 0 → f.2.2 = σ) : kLw ct sa ad qo wr f (some (.int (nI (i + 1)))) (WX ct sa ad mcn φ σ ++ (oC ct qo g :: wr)) := by
  have h0 : ¬ f.1 = nI 0 := fun z => absurd ((nI_eq (by omega) (by omega)).mp (hf.symm.trans z)) (by omega)
  exact ⟨by rw [hf], ad, mcn, φ, g, rfl, fun z => absurd z h0, by rw [he h0]⟩
theorem klr {ct : Nat → ClassId} {sa ad ad' : Nat → Nat} {mcn : Int32} {φ : LD} {qo : Nat} {g : Nat → Int64} {wr : va_W} {f : Op} {v : Int64} {σ : St} (h0 : f.1 = nI 0) (ha : ad' 0 = ad 0) (hv : v = f.2.1.toInt64) (hs : σ = f.2.2) : kLw ct sa ad qo wr f (some (.int (nI 0))) (WX ct sa ad' mcn φ σ ++ (oC ct qo (vp_updL g 0 v) :: wr)) :=
  ⟨by rw [h0], ad', mcn, φ, vp_updL g 0 v, ha, fun _ => by rw [pk_uLs, hv], by rw [hs]⟩
def ErS (σ : St) (f : Op) : Prop := ¬ f.1 = nI 0 → f.2.2 = σ
def RdS (σ : St) (f : Op) : Prop := f.2.2 = σ
def V01 (f : Op) : Prop := b01 f.2.1
theorem er_ite {c : Prop} [Decidable c] {a b : Op} {σ : St} (ha : ErS σ a) (hb : ErS σ b) : ErS σ (if c then a else b) := by
  by_cases h : c
  · rw [if_pos h]; exact ha
  · rw [if_neg h]; exact hb
theorem rd_ite {c : Prop} [Decidable c] {a b : Op} {σ : St} (ha : RdS σ a) (hb : RdS σ b) : RdS σ (if c then a else b) := by
  by_cases h : c
  · rw [if_pos h]; exact ha
  · rw [if_neg h]; exact hb
theorem v01_ite {c : Prop} [Decidable c] {a b : Op} (ha : V01 a) (hb : V01 b) : V01 (if c then a else b) := by
  by_cases h : c
  · rw [if_pos h]; exact ha
  · rw [if_neg h]; exact hb
theorem er_e {v w : Int32} {σ : St} : ErS σ (v, w, σ) := fun _ => rfl
theorem er_k {w : Int32} {σ τ : St} : ErS σ (nI 0, w, τ) := fun h => absurd rfl h
theorem rd_e {v w : Int32} {σ : St} : RdS σ (v, w, σ) := rfl
theorem er_lock {σ : St} {x : Int32} : ErS σ (f_lock σ x) := by
  unfold f_lock
  repeat' apply er_ite
  all_goals first | exact er_e | exact er_k
theorem er_turn {σ : St} {x y z : Int32} : ErS σ (f_turn σ x y z) := by
  unfold f_turn
  repeat' apply er_ite
  all_goals first | exact er_e | exact er_k
theorem er_open {σ : St} {x : Int32} : ErS σ (f_open σ x) := by
  unfold f_open
  repeat' apply er_ite
  all_goals first | exact er_e | exact er_k
theorem er_shut {σ : St} {x : Int32} : ErS σ (f_shut σ x) := by
  unfold f_shut
  repeat' apply er_ite
  all_goals first | exact er_e | exact er_k
theorem er_rename {σ : St} {x y : Int32} : ErS σ (f_rename σ x y) := by
  unfold f_rename
  repeat' apply er_ite
  all_goals first | exact er_e | exact er_k
theorem er_lose {σ : St} {x y : Int32} : ErS σ (f_lose σ x y) := by
  unfold f_lose
  repeat' apply er_ite
  all_goals first | exact er_e | exact er_k
theorem er_setPlaces {σ : St} {x y : Int32} : ErS σ (f_setPlaces σ x y) := by
  unfold f_setPlaces
  repeat' apply er_ite
  all_goals first | exact er_e | exact er_k
theorem er_setHours {σ : St} {x y z : Int32} : ErS σ (f_setHours σ x y z) := by
  unfold f_setHours
  repeat' apply er_ite
  all_goals first | exact er_e | exact er_k
theorem er_put {σ : St} {x y : Int32} : ErS σ (f_put σ x y) := by
  unfold f_put
  repeat' apply er_ite
  all_goals first | exact er_e | exact er_k
theorem er_pass {σ : St} {x : Int32} : ErS σ (f_pass σ x) := by
  unfold f_pass
  repeat' apply er_ite
  all_goals first | exact er_e | exact er_k
theorem rd_told {σ : St} {x y : Int32} : RdS σ (f_told σ x y) := by
  unfold f_told
  repeat' apply rd_ite
  all_goals exact rd_e
theorem rd_wear {σ : St} {x y z : Int32} : RdS σ (f_wear σ x y z) := by
  unfold f_wear
  repeat' apply rd_ite
  all_goals exact rd_e
theorem rd_rack {σ : St} {x y : Int32} : RdS σ (f_rack σ x y) := by
  unfold f_rack
  repeat' apply rd_ite
  all_goals exact rd_e
theorem rd_count {σ : St} {x : Int32} : RdS σ (f_count σ x) := by
  unfold f_count
  repeat' apply rd_ite
  all_goals exact rd_e
theorem rd_apart {σ : St} {x y : Int32} : RdS σ (f_apart σ x y) := by
  unfold f_apart
  repeat' apply rd_ite
  all_goals exact rd_e
theorem rd_trial {σ : St} {x y : Int32} : RdS σ (f_trial σ x y) := by
  unfold f_trial
  repeat' apply rd_ite
  all_goals exact rd_e
theorem rd_safe {σ : St} {x : Int32} : RdS σ (f_safe σ x) := by
  unfold f_safe
  repeat' apply rd_ite
  all_goals exact rd_e
theorem rd_foresee {σ : St} {x y : Int32} : RdS σ (f_foresee σ x y) := by
  unfold f_foresee
  repeat' apply rd_ite
  all_goals exact rd_e
theorem rd_until {σ : St} {x : Int32} : RdS σ (f_until σ x) := by
  unfold f_until
  repeat' apply rd_ite
  all_goals exact rd_e
/-- what open and lose answer is 0 or 1 -/
theorem b2i_01 {p : Prop} [Decidable p] : b01 (b2i p) := by
  by_cases h : p
  · rw [b2i_y h]; exact Or.inr rfl
  · rw [b2i_n h]; exact Or.inl rfl
theorem v01_open {σ : St} {x : Int32} : V01 (f_open σ x) := by
  unfold f_open
  repeat' apply v01_ite
  all_goals first | exact b2i_01 | exact (Or.inl rfl : b01 (nI 0))
theorem v01_lose {σ : St} {x y : Int32} : V01 (f_lose σ x y) := by
  unfold f_lose
  repeat' apply v01_ite
  all_goals first | exact b2i_01 | exact (Or.inl rfl : b01 (nI 0))
theorem l01_0 {x : Int32} (h : x = 0) : (0 : Int64) = x.toInt64 := by rw [h]; decide
theorem l01_1 {x : Int32} (hb : b01 x) (h : ¬ x = 0) : (1 : Int64) = x.toInt64 := by rw [hb.resolve_left h]; decide
