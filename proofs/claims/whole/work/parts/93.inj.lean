/-! the addresses are apart -/
theorem z_injOf {Y : z_Lay} {ad : Nat → Nat} {A : Nat → Prop} {ws : va_W} (hD : va_D A ws) (h : ws.map (fun q => q.1) = (List.range Y.length).map ad) : z_inj Y ad ∧ ∀ q, z_A ad Y.length q → A q := by
  have key : ∀ i, i < Y.length → ∃ x, ws[i]? = some x ∧ x.1 = ad i := by
    intro i hi
    have h1 : (ws.map (fun q => q.1))[i]? = some (ad i) := by rw [h]; simp [hi]
    rw [List.getElem?_map] at h1
    cases hw : ws[i]? with
    | none => rw [hw] at h1; cases h1
    | some x => rw [hw] at h1; exact ⟨x, rfl, Option.some.inj h1⟩
  refine ⟨fun i j hi hj he => ?_, fun q hq => ?_⟩
  · obtain ⟨x, h1, h2⟩ := key i hi
    obtain ⟨y, h3, h4⟩ := key j hj
    exact hD.1 i j x y h1 h3 (by rw [h2, h4, he])
  · obtain ⟨k, hk, rfl⟩ := hq
    obtain ⟨x, h1, h2⟩ := key k hk
    rw [← h2]
    exact hD.2 k x h1
