theorem b2i_01 {p : Prop} [Decidable p] : b01 (b2i p) := by
  by_cases h : p
  · rw [b2i_y h]; exact Or.inr rfl
  · rw [b2i_n h]; exact Or.inl rfl
/-! every call keeps what always holds -/
theorem inv1_upd {σ : St} (h : Inv1 σ) {j c : Nat} {v : Int32} (hj : j < sN σ) (hc : c < 8) (h0 : c = 0 → okI 1296 v) (h2 : c = 2 → v = -1 ∨ okI 3 v) (h13 : c = 1 ∨ c = 3 → b01 v) (h4 : 4 ≤ c → okI 6 v) : Inv1 (uR σ (upd (sR σ) (8 * j + c) v)) := by
  obtain ⟨⟨i8, ir⟩, i1, i2, i3⟩ := h
  refine ⟨⟨i8, rok_upd ir (fun i e => h0 (by omega)) (fun i e => h2 (by omega)) (fun i r hr e => h4 (by omega))⟩, fun i hi => ⟨?_, ?_⟩, i2, fun i hn hi => ⟨?_, fun r hr => ?_, (i3 i hn hi).2.2⟩⟩
  · show b01 (upd (sR σ) (8 * j + c) v (8 * i + 1))
    by_cases e : 8 * i + 1 = 8 * j + c
    · rw [e, pk_us]; exact h13 (by omega)
    · rw [pk_un e]; exact (i1 i hi).1
  · show b01 (upd (sR σ) (8 * j + c) v (8 * i + 3))
    by_cases e : 8 * i + 3 = 8 * j + c
    · rw [e, pk_us]; exact h13 (by omega)
    · rw [pk_un e]; exact (i1 i hi).2
  · exact (pk_un (by have : sN σ ≤ i := hn; omega)).trans (i3 i hn hi).1
  · exact (pk_un (by have : sN σ ≤ i := hn; omega)).trans ((i3 i hn hi).2.1 r hr)
theorem inv1_cl {σ : St} (h : Inv1 σ) {j : Nat} (hj : j < sN σ) : Inv1 (uR σ (clF (sR σ) j 4)) := by
  obtain ⟨⟨i8, ir⟩, i1, i2, i3⟩ := h
  refine ⟨⟨i8, rok_cl ir (by omega) 4 (Nat.le_refl 4)⟩, fun i hi => ⟨?_, ?_⟩, i2, fun i hn hi => ⟨?_, fun r hr => ?_, (i3 i hn hi).2.2⟩⟩
  · show b01 (clF (sR σ) j 4 (8 * i + 1))
    by_cases e : i = j
    · subst e; rw [cl_1]; exact Or.inl rfl
    · rw [cl_o (by omega) (fun r hr => by omega) 4 (Nat.le_refl 4)]; exact (i1 i hi).1
  · show b01 (clF (sR σ) j 4 (8 * i + 3))
    rw [cl_o (by omega) (fun r hr => by omega) 4 (Nat.le_refl 4)]; exact (i1 i hi).2
  · exact (cl_o (by omega) (fun r hr => by omega) 4 (Nat.le_refl 4)).trans (i3 i hn hi).1
  · exact (cl_o (by have : sN σ ≤ i := hn; omega) (fun r hr => by have : sN σ ≤ i := hn; omega) 4 (Nat.le_refl 4)).trans ((i3 i hn hi).2.1 r hr)
def I1S (f : Op) : Prop := Inv1 f.2.2
theorem i1_ite {c : Prop} [Decidable c] {a b : Op} (ha : c → I1S a) (hb : ¬ c → I1S b) : I1S (if c then a else b) := by
  by_cases h : c
  · rw [if_pos h]; exact ha h
  · rw [if_neg h]; exact hb h
theorem i1_e {v w : Int32} {σ : St} (h : Inv1 σ) : I1S (v, w, σ) := h
theorem ixn {σ : St} (h : Inv1 σ) {x : Int32} (hl : okI (sN σ) x) : ix x < sN σ := (okI_pos (by have := h.1.1; omega) hl).2.1
theorem i1_lock {σ : St} {x : Int32} (h : Inv1 σ) : I1S (f_lock σ x) := by
  unfold f_lock
  refine i1_ite (fun hw => i1_ite (fun _ => i1_e h) (fun hn => i1_e ?_)) (fun _ => i1_e h)
  have h8 : sN σ < 8 := by
    have := h.1.1
    rcases Nat.lt_or_ge (sN σ) 8 with z | z
    · exact z
    · exact absurd (by rw [show sN σ = 8 by omega]) hn
  have a0 : Inv1 (uN σ (sN σ + 1)) := ⟨⟨h8, h.1.2⟩, h.2.1, h.2.2.1, fun j hj hj8 => h.2.2.2 j (Nat.le_of_succ_le hj) hj8⟩
  have hj : sN σ < sN (uN σ (sN σ + 1)) := Nat.lt_succ_self _
  have a1 := inv1_upd (c := 0) (v := x) a0 hj (by decide) (fun _ => hw) (fun z => absurd z (by decide)) (fun z => absurd z (by decide)) (fun z => absurd z (by decide))
  have a2 := inv1_upd (c := 1) (v := nI 1) a1 hj (by decide) (fun z => absurd z (by decide)) (fun z => absurd z (by decide)) (fun _ => Or.inr rfl) (fun z => absurd z (by decide))
  exact inv1_upd (c := 2) (v := -1) a2 hj (by decide) (fun z => absurd z (by decide)) (fun _ => Or.inl rfl) (fun z => absurd z (by decide)) (fun z => absurd z (by decide))
theorem i1_turn {σ : St} {x y z : Int32} (h : Inv1 σ) : I1S (f_turn σ x y z) := by
  unfold f_turn
  refine i1_ite (fun hl => i1_ite (fun hz => i1_e ?_) (fun _ => i1_e h)) (fun _ => i1_e h)
  have hy := (okI_ix hl.2 (by decide)).1
  exact inv1_upd (c := 4 + ix y) (v := z) h (ixn h hl.1) (by omega) (fun z => absurd z (by omega)) (fun z => absurd z (by omega)) (fun z => absurd z (by omega)) (fun _ => hz)
theorem i1_open {σ : St} {x : Int32} (h : Inv1 σ) : I1S (f_open σ x) := by
  unfold f_open
  refine i1_ite (fun hl => i1_e ?_) (fun _ => i1_e h)
  unfold opnF
  by_cases c : stR (sR σ) (ix x) = sR σ (8 * ix x + 0)
  · rw [if_pos c]
    exact inv1_upd (c := 1) (v := nI 1) h (ixn h hl) (by decide) (fun z => absurd z (by decide)) (fun z => absurd z (by decide)) (fun _ => Or.inr rfl) (fun z => absurd z (by decide))
  · rw [if_neg c]
    exact h
theorem i1_shut {σ : St} {x : Int32} (h : Inv1 σ) : I1S (f_shut σ x) := by
  unfold f_shut
  exact i1_ite (fun hl => i1_ite (fun _ => i1_e h) (fun _ => i1_e (inv1_cl h (ixn h hl)))) (fun _ => i1_e h)
theorem i1_rename {σ : St} {x w : Int32} (h : Inv1 σ) : I1S (f_rename σ x w) := by
  unfold f_rename
  refine i1_ite (fun hl => i1_ite (fun hw => i1_ite (fun _ => i1_e h) (fun _ => i1_e ?_)) (fun _ => i1_e h)) (fun _ => i1_e h)
  have a1 := inv1_upd (c := 0) (v := w) h (ixn h hl) (by decide) (fun _ => hw) (fun z => absurd z (by decide)) (fun z => absurd z (by decide)) (fun z => absurd z (by decide))
  exact inv1_upd (c := 3) (v := nI 0) a1 (ixn h hl) (by decide) (fun z => absurd z (by decide)) (fun z => absurd z (by decide)) (fun _ => Or.inl rfl) (fun z => absurd z (by decide))
theorem i1_lose {σ : St} {x b : Int32} (h : Inv1 σ) : I1S (f_lose σ x b) := by
  unfold f_lose
  refine i1_ite (fun hl => i1_e ?_) (fun _ => i1_e h)
  exact inv1_upd (c := 3) h (ixn h hl) (by decide) (fun z => absurd z (by decide)) (fun z => absurd z (by decide)) (fun _ => b2i_01) (fun z => absurd z (by decide))
theorem i1_setPlaces {σ : St} {x y : Int32} (h : Inv1 σ) : I1S (f_setPlaces σ x y) := by
  unfold f_setPlaces
  exact i1_ite (fun _ => i1_ite (fun _ => i1_ite (fun _ => i1_e h) (fun _ => i1_e h)) (fun _ => i1_e h)) (fun _ => i1_e h)
theorem i1_setHours {σ : St} {x y z : Int32} (h : Inv1 σ) : I1S (f_setHours σ x y z) := by
  unfold f_setHours
  exact i1_ite (fun _ => i1_ite (fun _ => i1_e h) (fun _ => i1_e h)) (fun _ => i1_e h)
theorem i1_put {σ : St} {x y : Int32} (h : Inv1 σ) : I1S (f_put σ x y) := by
  unfold f_put
  refine i1_ite (fun hl => i1_ite (fun _ => i1_e h) (fun _ => i1_ite (fun _ => i1_e h) (fun _ => i1_e ?_))) (fun _ => i1_e h)
  exact inv1_upd (c := 2) (v := y) h (ixn h hl.1) (by decide) (fun z => absurd z (by decide)) (fun _ => hl.2) (fun z => absurd z (by decide)) (fun z => absurd z (by decide))
theorem i1_pass {σ : St} {x : Int32} (h : Inv1 σ) : I1S (f_pass σ x) := by
  unfold f_pass
  exact i1_ite (fun _ => i1_e (inv1_hs h _)) (fun _ => i1_e h)
