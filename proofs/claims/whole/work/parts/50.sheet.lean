/-! sheets -/
def gSet (g : zG) (s : Nat) (x : Option (Nat × List Int32)) : zG := (gA g, gB g, gV g, gN g, gP g, va_up (gS g) s x)
theorem gW_s {g : zG} {s : Nat} {x : Option (Nat × List Int32)} (h : gW g) (hx : ∀ k l, x = some (k, l) → k ≤ 2 ∧ l.length ≤ 40) : gW (gSet g s x) := by
  obtain ⟨h1, h2, h3, h4, h5, h6⟩ := h
  refine ⟨h1, h2, h3, h4, h5, fun t k l ht => ?_⟩
  have ht' : va_up (gS g) s x t = some (k, l) := ht
  unfold va_up at ht'
  split at ht'
  · exact hx k l ht'
  · exact h6 t k l ht'
theorem cG_s {σ σ' : z_Mem} {g : zG} {s : Nat} {x : Option (Nat × List Int32)} (h : cG σ g) (hk : cK (fun k => k = 28 + 2 * s ∨ k = 28 + 2 * s + 1) σ σ') (hx : cSheet σ' s x) : cG σ' (gSet g s x) := by
  obtain ⟨d1, d2, d3, d4, d5⟩ := h
  refine ⟨cM_kept d1 hk (fun i hi => by omega), cB_kept d2 hk (by omega) (fun i hi => by omega), cT_kept d3 hk (by omega) (by omega) (by omega), cTp_kept d4 hk (by omega) (by omega), fun t ht => ?_⟩
  show cSheet σ' t (va_up (gS g) s x t)
  unfold va_up
  split
  · rename_i e; rw [e]; exact hx
  · rename_i e
    exact cSheet_kept (d5 t ht) hk (by omega) (by omega)
theorem mG_s {τ τ' : z_Mem} {g : zG} {s : Nat} {x : Option (Nat × List Int32)} (h : mG τ g) (hw : gW g) (hk : ∀ k, k ≠ 11 → k ≠ 12 → k ≠ 13 → k ≠ 14 → τ'.1 k = τ.1 k) (ho : ∀ t, t < 4 → t ≠ s → τ'.1 11 t = τ.1 11 t ∧ τ'.1 12 t = τ.1 12 t ∧ τ'.1 13 t = τ.1 13 t ∧ ∀ i, i < 40 → τ'.1 14 (40 * t + i) = τ.1 14 (40 * t + i)) (hx : mSheet τ' s x) : mG τ' (gSet g s x) := by
  obtain ⟨m1, m2, m3, m4, m5⟩ := h
  have e0 := hk 0 (by decide) (by decide) (by decide) (by decide)
  refine ⟨?_, ?_, mT_kept m3 (by rw [e0]) (hk 1 (by decide) (by decide) (by decide) (by decide)) (hk 2 (by decide) (by decide) (by decide) (by decide)), ?_, fun t ht => ?_⟩
  · unfold mM
    rw [e0, hk 4 (by decide) (by decide) (by decide) (by decide), hk 5 (by decide) (by decide) (by decide) (by decide)]
    exact m1
  · show mB τ' (gB g)
    unfold mB
    rw [e0, hk 9 (by decide) (by decide) (by decide) (by decide), hk 10 (by decide) (by decide) (by decide) (by decide)]
    exact m2
  · unfold mTp
    rw [e0, hk 3 (by decide) (by decide) (by decide) (by decide)]
    exact m4
  · show mSheet τ' t (va_up (gS g) s x t)
    unfold va_up
    split
    · rename_i e; rw [e]; exact hx
    · rename_i e
      obtain ⟨o1, o2, o3, o4⟩ := ho t ht e
      have := m5 t ht
      match hS : gS g t, this with
      | none, q =>
        exact o1.trans q
      | some (k, l), q =>
        have hl := (hw.2.2.2.2.2 t k l hS).2
        exact ⟨o1.trans q.1, o2.trans q.2.1, o3.trans q.2.2.1, fun i hi => (o4 i (by omega)).trans (q.2.2.2 i hi)⟩
