/-! the public methods, one by one -/
theorem zSame_bd {α β : Type} {oc om : Option (α × z_Mem)} {kc km : α → z_Mem → Option (β × z_Mem)} (h : zSame oc om) (hk : ∀ r g' σ' τ', gW g' → cG σ' g' → mG τ' g' → zSame (kc r σ') (km r τ')) : zSame (z_bd oc kc) (z_bd om km) := by
  obtain ⟨r, g', hw, ⟨r1, s1, e1, h1, c1⟩, ⟨r2, s2, e2, h2, m2⟩⟩ := h
  subst h1
  subst h2
  rw [z_bdE e1, z_bdE e2]
  exact hk _ _ _ _ hw c1 m2
theorem zSame_ret {α : Type} {σ τ : z_Mem} {g : zG} {r : α} (hc : cG σ g) (hm : mG τ g) (hw : gW g) : zSame (some (r, σ)) (some (r, τ)) := ⟨r, g, hw, z_R_some ⟨rfl, hc⟩, z_R_some ⟨rfl, hm⟩⟩
theorem zSame_id {α : Type} {oc om : Option (α × z_Mem)} (h : zSame oc om) : zSame (z_bd oc (fun r s => some (r, s))) (z_bd om (fun r s => some (r, s))) := zSame_bd h (fun _ _ _ _ hw hc hm => zSame_ret hc hm hw)
theorem z_nei {x y : Int32} (h : ¬ x = y) : x.toInt ≠ y.toInt := fun q => h (Int32.toInt_inj.mp q)
theorem z_10 : ¬ (1 : Int32) = 0 := by decide
theorem m_inT {x : Int32} {l h : Int64} {τ : z_Mem} (hx : l.toInt ≤ x.toInt ∧ x.toInt ≤ h.toInt) : fX6_in x.toInt64 l h τ = some (1, τ) := by rw [m_in, if_pos hx]
theorem m_inF {x : Int32} {l h : Int64} {τ : z_Mem} (hx : ¬ (l.toInt ≤ x.toInt ∧ x.toInt ≤ h.toInt)) : fX6_in x.toInt64 l h τ = some (0, τ) := by rw [m_in, if_neg hx]
section ZPUB2
variable {σ τ : z_Mem} {g : zG}
theorem q_weak (hc : cG σ g) (hm : mG τ g) (hw : gW g) : zSame (fX0_weakest 7 σ) (fX6_weakest τ) := ⟨gWeak (gV g) (gA g), g, hw, z_R_mono (c_weakest hc.1 hw.1.1 hc.2.2.1 hw.1.2.1 (by decide)) (fun r s h => ⟨h.1, cG_k hc (cK_4 h.2)⟩), z_R_mono (m_weakest hm.1 hw.1.1 hm.2.2.1 hw.1.2.1) (fun r s h => ⟨h.1, mG_k hm h.2⟩)⟩
theorem q_gates (hc : cG σ g) (hm : mG τ g) (hw : gW g) : zSame (fX0_gates 7 σ) (fX6_gates τ) := ⟨gGates (gV g) (gA g), g, hw, z_R_mono (c_gates hc.1 hw.1.1 hc.2.2.1 hw.1.2.1 (by decide)) (fun r s h => ⟨h.1, cG_k hc (cK_4 h.2)⟩), z_R_mono (m_gates hm.1 hw.1.1 hm.2.2.1 hw.1.2.1) (fun r s h => ⟨h.1, mG_k hm h.2⟩)⟩
theorem q_first (hc : cG σ g) (hm : mG τ g) (hw : gW g) : zSame (fX0_firstGate 7 σ) (fX6_firstGate τ) := ⟨gFirst (gV g) (gA g), g, hw, z_R_mono (c_firstGate hc.1 hw.1.1 hc.2.2.1 hw.1.2.1 (by decide)) (fun r s h => ⟨h.1, cG_k hc (cK_4 h.2)⟩), z_R_mono (m_firstGate hm.1 hw.1.1 hm.2.2.1 hw.1.2.1) (fun r s h => ⟨h.1, mG_k hm h.2⟩)⟩
theorem p_wall (hc : cG σ g) (hm : mG τ g) (hw : gW g) (x : Int32) : zSame (fX5_wall x σ) (fX6_wall x τ) := by
  unfold fX5_wall fX6_wall
  by_cases e0 : x = 0
  · subst e0
    rw [z_bdE (m_inT (by decide))]
    exact zSame_id (q_weak hc hm hw)
  by_cases e1 : x = 1
  · subst e1
    rw [z_bdE (m_inT (by decide))]
    exact zSame_id (q_gates hc hm hw)
  by_cases e2 : x = 2
  · subst e2
    rw [z_bdE (m_inT (by decide))]
    exact zSame_id (q_first hc hm hw)
  by_cases e3 : x = 3
  · subst e3
    rw [z_bdE (m_inT (by decide))]
    show zSame (some (σ.1 7 6, σ)) (some (τ.1 0 12, τ))
    rw [hc.1.2.1, hm.1.2.1]
    exact zSame_ret hc hm hw
  · rw [if_neg e0, if_neg e1, if_neg e2, if_neg e3, z_bdE (m_inF (fun h => by
      have h1 : (0 : Int64).toInt = 0 := rfl
      have h2 : (3 : Int64).toInt = 3 := rfl
      rw [h1, h2] at h
      have := z_nei e0
      have := z_nei e1
      have := z_nei e2
      have := z_nei e3
      simp only [show (0 : Int32).toInt = 0 from rfl, show (1 : Int32).toInt = 1 from rfl, show (2 : Int32).toInt = 2 from rfl, show (3 : Int32).toInt = 3 from rfl] at *
      omega))]
    exact zSame_ret hc hm hw
theorem p_hour (hc : cG σ g) (hm : mG τ g) (hw : gW g) : zSame (fX5_hour σ) (fX6_hour τ) := by
  unfold fX5_hour fX6_hour
  rw [hc.1.2.2.1, hm.1.2.2.1]
  by_cases e : ah (gA g) = 999
  · rw [if_pos e, if_neg (by rw [e]; decide)]
    exact zSame_ret hc hm hw
  · have hh : (ah (gA g)).toInt < 999 := by
      have h1 := hw.1.2.2
      have h2 : (ah (gA g)).toInt ≠ (999 : Int32).toInt := fun q => e (Int32.toInt_inj.mp q)
      have h3 : (999 : Int32).toInt = 999 := rfl
      omega
    rw [if_neg e, if_pos (by rw [Int32.lt_iff_toInt_lt]; exact hh)]
    refine zSame_bd (?_ : zSame _ _) (fun _ g' σ' τ' hw' hc' hm' => zSame_id (q_weak hc' hm' hw'))
    have hA : aOk (aPass (gV g) (gA g)) (gN g) := by
      refine ⟨aPass_W hw.1.1 (by omega), hw.1.2.1, ?_⟩
      show (ah (gA g) + 1).toInt ≤ 999
      have h0 := hw.1.1.2.2.2.2.2.1.1
      rw [Int32.toInt_add, show (1 : Int32).toInt = 1 from rfl, Int.bmod_eq_of_le (by omega) (by omega)]
      omega
    refine ⟨(), _, gW_a hw hA, z_R_mono (c_passHour hc.1 hw.1.1 hc.2.2.1 hw.1.2.1 (by decide)) (fun r s h => ⟨rfl, cG_a hc (cK_mono h.2 (fun k hk => by unfold zScr; omega)) h.1⟩), z_R_mono (m_passes hm.1 hw.1.1 hm.2.2.1 hw.1.2.1) (fun r s h => ⟨rfl, mG_a hm (mR_p h.2) h.1⟩)⟩
end ZPUB2
