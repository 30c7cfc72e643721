/-! the pure side: total correctness of the decompiled functions -/
def z_R {α : Type} (o : Option (α × z_Mem)) (P : α → z_Mem → Prop) : Prop := ∃ r s, o = some (r, s) ∧ P r s
theorem z_R_some {α : Type} {r : α} {s : z_Mem} {P : α → z_Mem → Prop} (h : P r s) : z_R (some (r, s)) P := ⟨r, s, rfl, h⟩
theorem z_R_bd {α β : Type} {o : Option (α × z_Mem)} {k : α → z_Mem → Option (β × z_Mem)} {Q : α → z_Mem → Prop} {P : β → z_Mem → Prop} (h : z_R o Q) (hk : ∀ r s, Q r s → z_R (k r s) P) : z_R (z_bd o k) P := by
  obtain ⟨r, s, rfl, hq⟩ := h
  exact hk r s hq
theorem z_R_gd {α : Type} {b : Prop} {ib : Decidable b} {o : Option (α × z_Mem)} {P : α → z_Mem → Prop} (hb : b) (h : z_R o P) : z_R (z_gd b o) P := by
  unfold z_gd
  rw [if_pos hb]
  exact h
theorem z_R_st {α : Type} {s : z_Mem} {k : z_Mem → Option (α × z_Mem)} {P : α → z_Mem → Prop} (h : z_R (k s) P) : z_R (z_st s k) P := h
theorem z_R_if {α : Type} {c : Prop} {ic : Decidable c} {a b : Option (α × z_Mem)} {P : α → z_Mem → Prop} (ha : c → z_R a P) (hb : ¬ c → z_R b P) : z_R (if c then a else b) P := by
  by_cases h : c
  · rw [if_pos h]; exact ha h
  · rw [if_neg h]; exact hb h
theorem z_R_mono {α : Type} {o : Option (α × z_Mem)} {P Q : α → z_Mem → Prop} (h : z_R o P) (hq : ∀ r s, P r s → Q r s) : z_R o Q := by
  obtain ⟨r, s, e, hp⟩ := h
  exact ⟨r, s, e, hq r s hp⟩
theorem z_R_eq {α : Type} {o : Option (α × z_Mem)} {r : α} {s : z_Mem} {P : α → z_Mem → Prop} (h : o = some (r, s)) (hp : P r s) : z_R o P := ⟨r, s, h, hp⟩
theorem z_R_bdE {α β : Type} {o : Option (α × z_Mem)} {r : α} {s : z_Mem} {k : α → z_Mem → Option (β × z_Mem)} {P : β → z_Mem → Prop} (h : o = some (r, s)) (hk : z_R (k r s) P) : z_R (z_bd o k) P := by
  rw [h]; exact hk
theorem z_bdE {α β : Type} {o : Option (α × z_Mem)} {r : α} {s : z_Mem} {k : α → z_Mem → Option (β × z_Mem)} (h : o = some (r, s)) : z_bd o k = k r s := by rw [h]; rfl
theorem z_gdT {β : Type} {b : Prop} {ib : Decidable b} {x : Option β} (h : b) : z_gd b x = x := by unfold z_gd; rw [if_pos h]
/-! numbers -/
theorem z_xN {n : Nat} (h : n < 2 ^ 31) : z_x (nI n) = n := nI_clamp h
theorem z_inN {n N : Nat} (h : n < N) (hN : N < 2 ^ 31) : z_in (nI n) N := by
  unfold z_in
  rw [nI_toInt (by omega)]
  omega
theorem z_toN {x : Int32} {N : Nat} (h0 : ¬ x < 0) (h1 : x < nI N) (hN : N < 2 ^ 31) : ∃ j, j < N ∧ x = nI j := by
  obtain ⟨j, hj, rfl⟩ := nI_of h0
  exact ⟨j, (nI_ltI hj hN).mp h1, rfl⟩
theorem z_pt_1 {σ : z_Mem} {k j : Nat} {v : Int32} : (z_pt σ k j v).1 k j = v := by simp [z_pt, va_up, upd]
theorem z_pt_2 {σ : z_Mem} {k j j' : Nat} {v : Int32} (h : j' ≠ j) : (z_pt σ k j v).1 k j' = σ.1 k j' := by simp [z_pt, va_up, upd, h]
theorem z_pt_3 {σ : z_Mem} {k k' j j' : Nat} {v : Int32} (h : k' ≠ k) : (z_pt σ k j v).1 k' j' = σ.1 k' j' := by simp [z_pt, va_up, h]
theorem z_pt_r {σ : z_Mem} {k k' j : Nat} {v : Int32} (h : k' ≠ k) : (z_pt σ k j v).1 k' = σ.1 k' := by simp [z_pt, va_up, h]
theorem z_pt_f (σ : z_Mem) (k j k' j' : Nat) (v : Int32) : (z_pt σ k j v).1 k' j' = if k' = k ∧ j' = j then v else σ.1 k' j' := by
  by_cases h : k' = k
  · subst h
    by_cases h2 : j' = j <;> simp [z_pt, va_up, upd, h2]
  · simp [z_pt, va_up, h]
theorem z_pt_g (σ : z_Mem) (k j k' j' : Nat) (v : Int32) : (z_pt σ k j v).1 k' j' = if k' = k then (if j' = j then v else σ.1 k' j') else σ.1 k' j' := by
  by_cases h : k' = k
  · subst h
    by_cases h2 : j' = j <;> simp [z_pt, va_up, upd, h2]
  · simp [z_pt, va_up, h]
