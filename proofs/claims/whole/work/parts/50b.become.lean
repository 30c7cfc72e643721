theorem c_become_loop {c : Nat} : ∀ (m q i : Nat) (σ : z_Mem), i + m = 40 → m < q → fX3_become_12 c q (nI i) σ = some ((), z_cp σ (c + 1) (fun j => if i ≤ j ∧ j < 40 then 0 else σ.1 (c + 1) j))
  | m, 0, i, σ, _, h => absurd h (Nat.not_lt_zero _)
  | 0, q + 1, i, σ, hi, _ => by
    have : i = 40 := by omega
    subst this
    rw [fX3_become_12, if_pos (by decide)]
    have : (fun j => if 40 ≤ j ∧ j < 40 then 0 else σ.1 (c + 1) j) = σ.1 (c + 1) := funext fun j => if_neg (by omega)
    rw [this]
    refine congrArg some (Prod.ext rfl (Prod.ext ?_ rfl))
    funext k j
    show σ.1 k j = _
    rw [z_cp_f]
    by_cases e : k = c + 1
    · rw [if_pos e, e]
    · rw [if_neg e]
  | m + 1, q + 1, i, σ, hi, hq => by
    rw [fX3_become_12, if_neg (z_nle 40 40 (by decide) (by omega) (by decide)), z_gdT (z_inN (by omega) (by decide))]
    simp only [z_st]
    rw [z_xN (by omega), nI_1, c_become_loop m q (i + 1) _ (by omega) (by omega), z_cp_pt]
    congr 3
    funext j
    by_cases e : j = i
    · subst e
      rw [if_neg (by omega), z_pt_1, if_pos (by omega)]
    · rw [z_pt_2 e]
      by_cases e' : i ≤ j ∧ j < 40
      · rw [if_pos e', if_pos (by omega)]
      · rw [if_neg e', if_neg (by omega)]
theorem z_stE {β : Type} {s : z_Mem} {k : z_Mem → β} : z_st s k = k s := congrFun (Eq.refl (z_st s)) k
theorem c_become {c : Nat} {k n : Int32} {σ : z_Mem} : ∃ σ', fX3_become c k n σ = some ((), σ') ∧ σ'.1 c 1 = k ∧ σ'.1 c 2 = n ∧ (∀ i, i < 40 → σ'.1 (c + 1) i = 0) ∧ cK (fun q => q = c ∨ q = c + 1) σ σ' := by
  have e := c_become_loop (c := c) 40 z_FU 0 (z_pt (z_pt σ c 1 k) c 2 n) (by omega) (by simp only [z_FU]; omega)
  rw [nI_0] at e
  unfold fX3_become
  rw [z_stE, z_stE, e]
  refine ⟨_, rfl, ?_, ?_, fun i hi => ?_, fun q hq => ?_⟩
  · rw [z_cp_r (by omega), z_pt_2 (by omega), z_pt_1]
  · rw [z_cp_r (by omega), z_pt_1]
  · rw [z_cp_1, if_pos (by omega)]
  · rw [z_cp_r (by omega), z_pt_r (by omega), z_pt_r (by omega)]
