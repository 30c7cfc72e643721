/-! sheets -/
def gSet (g : zG) (s : Nat) (x : Option (Nat × List Int32)) : zG := (gA g, gB g, gV g, gN g, gP g, upd (gS g) s x)
theorem gW_s {g : zG} {s : Nat} {x : Option (Nat × List Int32)} (h : gW g) (hx : ∀ k l, x = some (k, l) → k ≤ 2 ∧ l.length ≤ 40) : gW (gSet g s x) := by
  obtain ⟨h1, h2, h3, h4, h5, h6⟩ := h
  refine ⟨h1, h2, h3, h4, h5, fun t k l ht => ?_⟩
  have ht' : upd (gS g) s x t = some (k, l) := ht
  unfold upd at ht'
  split at ht'
  · exact hx k l ht'
  · exact h6 t k l ht'
theorem cG_s {σ σ' : z_Mem} {g : zG} {s : Nat} {x : Option (Nat × List Int32)} (h : cG σ g) (hk : cK (fun k => k = 28 + 2 * s ∨ k = 28 + 2 * s + 1) σ σ') (hx : cSheet σ' s x) : cG σ' (gSet g s x) := by
  obtain ⟨d1, d2, d3, d4, d5⟩ := h
  refine ⟨cM_kept d1 hk (fun i hi => by omega), cB_kept d2 hk (by omega) (fun i hi => by omega), cT_kept d3 hk (by omega) (by omega) (by omega), cTp_kept d4 hk (by omega) (by omega), fun t ht => ?_⟩
  show cSheet σ' t (upd (gS g) s x t)
  unfold upd
  split
  · rename_i e; rw [e]; exact hx
  · rename_i e
    exact cSheet_kept (d5 t ht) hk (by omega) (by omega)
theorem mG_s {τ τ' : z_Mem} {g : zG} {s : Nat} {x : Option (Nat × List Int32)} (h : mG τ g) (hw : gW g) (hk : ∀ k, k ≠ 11 → k ≠ 12 → k ≠ 13 → k ≠ 14 → τ'.1 k = τ.1 k) (ho : ∀ t, t < 4 → t ≠ s → τ'.1 11 t = τ.1 11 t ∧ τ'.1 12 t = τ.1 12 t ∧ τ'.1 13 t = τ.1 13 t ∧ ∀ i, i < 40 → τ'.1 14 (40 * t + i) = τ.1 14 (40 * t + i)) (hx : mSheet τ' s x) : mG τ' (gSet g s x) := by
  obtain ⟨m1, m2, m3, m4, m5⟩ := h
  have e0 := hk 0 (by decide) (by decide) (by decide) (by decide)
  refine ⟨?_, ?_, mT_kept m3 (by rw [e0]) (hk 1 (by decide) (by decide) (by decide) (by decide)) (hk 2 (by decide) (by decide) (by decide) (by decide)), ?_, fun t ht => ?_⟩
  · unfold mM
    rw [e0, hk 4 (by decide) (by decide) (by decide) (by decide), hk 5 (by decide) (by decide) (by decide) (by decide)]
    exact m1
  · show mB τ' (gB g)
    unfold mB
    rw [e0, hk 9 (by decide) (by decide) (by decide) (by decide), hk 10 (by decide) (by decide) (by decide) (by decide)]
    exact m2
  · unfold mTp
    rw [e0, hk 3 (by decide) (by decide) (by decide) (by decide)]
    exact m4
  · show mSheet τ' t (upd (gS g) s x t)
    unfold upd
    split
    · rename_i e; rw [e]; exact hx
    · rename_i e
      obtain ⟨o1, o2, o3, o4⟩ := ho t ht e
      have := m5 t ht
      match hS : gS g t, this with
      | none, q =>
        exact o1.trans q
      | some (k, l), q =>
        have hl := (hw.2.2.2.2.2 t k l hS).2
        exact ⟨o1.trans q.1, o2.trans q.2.1, o3.trans q.2.2.1, fun i hi => (o4 i (by omega)).trans (q.2.2.2 i hi)⟩
theorem c_become_loop {c : Nat} : ∀ (m q i : Nat) (σ : z_Mem), i + m = 40 → m < q → fX3_become_12 c q (nI i) σ = some ((), z_cp σ (c + 1) (fun j => if i ≤ j ∧ j < 40 then 0 else σ.1 (c + 1) j))
  | m, 0, i, σ, _, h => absurd h (Nat.not_lt_zero _)
  | 0, q + 1, i, σ, hi, _ => by
    have : i = 40 := by omega
    subst this
    rw [fX3_become_12, if_pos (by decide)]
    have : (fun j => if 40 ≤ j ∧ j < 40 then 0 else σ.1 (c + 1) j) = σ.1 (c + 1) := funext fun j => if_neg (by omega)
    rw [this]
    refine congrArg some (Prod.ext rfl (Prod.ext ?_ rfl))
    funext k j
    show σ.1 k j = _
    rw [z_cp_f]
    by_cases e : k = c + 1
    · rw [if_pos e, e]
    · rw [if_neg e]
  | m + 1, q + 1, i, σ, hi, hq => by
    rw [fX3_become_12, if_neg (z_nle 40 40 (by decide) (by omega) (by decide)), z_gdT (z_inN (by omega) (by decide))]
    simp only [z_st]
    rw [z_xN (by omega), nI_1, c_become_loop m q (i + 1) _ (by omega) (by omega), z_cp_pt]
    congr 3
    funext j
    by_cases e : j = i
    · subst e
      rw [if_neg (by omega), z_pt_1, if_pos (by omega)]
    · rw [z_pt_2 e]
      by_cases e' : i ≤ j ∧ j < 40
      · rw [if_pos e', if_pos (by omega)]
      · rw [if_neg e', if_neg (by omega)]
theorem c_become {c : Nat} {k n : Int32} {σ : z_Mem} : ∃ σ', fX3_become c k n σ = some ((), σ') ∧ σ'.1 c 1 = k ∧ σ'.1 c 2 = n ∧ (∀ i, i < 40 → σ'.1 (c + 1) i = 0) ∧ cK (fun q => q = c ∨ q = c + 1) σ σ' := by
  unfold fX3_become
  simp only [z_st]
  rw [show (0 : Int32) = nI 0 from rfl, c_become_loop 40 z_FU 0 _ (by decide) (by decide)]
  refine ⟨_, rfl, ?_, ?_, fun i hi => ?_, fun q hq => ?_⟩
  · rw [z_cp_r (by omega), z_pt_2 (by decide), z_pt_1]
  · rw [z_cp_r (by omega), z_pt_1]
  · rw [z_cp_1, if_pos (by omega)]; rfl
  · rw [z_cp_r (by omega), z_pt_r (by omega), z_pt_r (by omega)]
