/-! told, set, man -/
def aTr (a : aS) (w p : Nat) : Int32 := if w = 0 then ah a else if w = 1 then ac a else if w = 2 then am a p else if w = 3 then as_ a p else ak a p
theorem z_w5 {w : Nat} (h : w ≤ 4) : w = 0 ∨ w = 1 ∨ w = 2 ∨ w = 3 ∨ w = 4 := by omega
theorem c_trait {σ : z_Mem} {c w p : Nat} {a : aS} {x : Int32} (h : cM σ c a) (hw : aW a) (hw4 : w ≤ 4) (hp : 2 ≤ w → p < an a ∧ x = nI p) : fX0_trait c (nI w) x σ = some (aTr a w p, σ) := by
  rcases z_w5 hw4 with rfl | rfl | rfl | rfl | rfl
  · exact c_trait0 h
  · exact c_trait1 h
  · obtain ⟨h1, rfl⟩ := hp (by omega)
    exact c_trait2 h hw h1
  · obtain ⟨h1, rfl⟩ := hp (by omega)
    exact c_trait3 h hw h1
  · obtain ⟨h1, rfl⟩ := hp (by omega)
    exact c_trait4 h hw h1
theorem m_isOf {τ : z_Mem} {w : Nat} {a : aS} {x : Int32} (h : mM τ a) (hw : aW a) (h8 : w ≤ 8) : fX6_isOf (nI w) x τ = some (if w < 2 ∨ (w < 7 ∧ 0 ≤ x.toInt ∧ x.toInt < an a) ∨ (7 ≤ w ∧ 0 ≤ x.toInt ∧ x.toInt < (ar a).length ∧ (w = 7 ∨ 1 < (ar a).length)) then 1 else 0, τ) := by
  have h6 := aW_len hw
  have h66 := hw.1
  unfold fX6_isOf
  by_cases h2 : w < 2
  · rw [if_neg (by rw [show (2 : Int32) = nI 2 by decide]; exact nI_ge h2 (by decide)), if_pos (by omega)]
  rw [if_pos (z_2le (by omega) (by omega))]
  by_cases h7 : w < 7
  · rw [if_neg (by rw [show (7 : Int32) = nI 7 by decide]; exact nI_ge h7 (by decide)), z_bdE (m_isOne h hw)]
    by_cases q : 0 ≤ x.toInt ∧ x.toInt < an a
    · rw [if_pos q, if_pos (by omega), z_gdT (by decide)]
    · rw [if_neg q, if_neg (by omega), z_gdT (by decide)]
  rw [if_pos (z_lle 7 7 (by decide) (by omega) (by omega)), z_bdE (m_isPlace h hw), h.2.1]
  by_cases q : 0 ≤ x.toInt ∧ x.toInt < (ar a).length
  · simp only [if_pos q, if_neg z_10]
    by_cases e : w = 7
    · subst e
      rw [if_pos (show nI 7 = (7 : Int32) by decide), if_pos (by omega)]
    · rw [if_neg (by rw [show (7 : Int32) = nI 7 by decide, z_eq_nI (by omega) (by decide)]; exact e)]
      by_cases l : 1 < (ar a).length
      · rw [if_neg (by rw [show (1 : Int32) = nI 1 by decide]; exact nI_ge l (by omega)), if_pos (by omega)]
      · rw [if_pos (by rw [show (1 : Int32) = nI 1 by decide]; exact nI_le (by omega) (by omega)), if_neg (by omega)]
  · rw [if_neg q, if_pos rfl, if_neg (by omega)]
theorem m_row {p w : Nat} (h : 2 ≤ w) : ((3 : Int32) * nI p + nI w) - 2 = nI (3 * p + (w - 2)) := by
  rw [m3, nI_add, show 3 * p + w = 3 * p + (w - 2) + 2 by omega, nI_sub2]
theorem m_trait {τ : z_Mem} {w p : Nat} {a : aS} {x : Int32} (h : mM τ a) (hw : aW a) (hw4 : w ≤ 4) (hp : 2 ≤ w → p < an a ∧ x = nI p) : fX6_told x (nI w) τ = some (aTr a w p, τ) := by
  have h66 := hw.1
  unfold fX6_told
  rw [z_bdE (m_inT (by rw [nI_toInt (by omega), show (0 : Int64).toInt = 0 from rfl, show (8 : Int64).toInt = 8 from rfl]; omega)), if_neg z_10, z_bdE (m_isOf h hw (by omega))]
  have hq : w < 2 ∨ (w < 7 ∧ 0 ≤ x.toInt ∧ x.toInt < an a) ∨ (7 ≤ w ∧ 0 ≤ x.toInt ∧ x.toInt < (ar a).length ∧ (w = 7 ∨ 1 < (ar a).length)) := by
    by_cases q : w < 2
    · exact Or.inl q
    · obtain ⟨h1, rfl⟩ := hp (by omega)
      rw [nI_toInt (by omega)]
      omega
  simp only [if_pos hq, if_neg z_10]
  rw [if_neg (by rw [show (5 : Int32) = nI 5 by decide]; exact nI_ge (by omega) (by decide))]
  by_cases q : w < 2
  · by_cases e : w = 0
    · subst e
      rw [if_pos (show nI 0 = (0 : Int32) by decide), h.2.2.1]; rfl
    · have : w = 1 := by omega
      subst this
      rw [if_neg (show ¬ nI 1 = (0 : Int32) by decide), if_pos (show nI 1 = (1 : Int32) by decide), h.2.2.2.1]; rfl
  · obtain ⟨h1, rfl⟩ := hp (by omega)
    rw [if_neg (by rw [show (0 : Int32) = nI 0 from rfl, z_eq_nI (by omega) (by decide)]; omega), if_neg (by rw [show (1 : Int32) = nI 1 by decide, z_eq_nI (by omega) (by decide)]; omega), m_row (by omega), z_gdT (z_inN (by omega) (by decide)), z_xN (by omega)]
    have hr := h.2.2.2.2.2.1 p (by omega)
    unfold aTr
    rw [if_neg (by omega), if_neg (by omega)]
    by_cases e2 : w = 2
    · subst e2
      rw [if_pos rfl]
      exact congrArg (fun v => some (v, τ)) hr.2.1
    rw [if_neg e2]
    by_cases e3 : w = 3
    · subst e3
      rw [if_pos rfl]
      exact congrArg (fun v => some (v, τ)) hr.2.2
    rw [if_neg e3]
    have : w = 4 := by omega
    subst this
    exact congrArg (fun v => some (v, τ)) hr.1
theorem m_lays {τ : z_Mem} {w p : Nat} {a : aS} {v x : Int32} (h : mM τ a) (hw : aW a) (hw5 : w ≤ 5) (hp : 2 ≤ w → w ≤ 4 → p < an a ∧ x = nI p) (hv : w = 5 → v = nI (z_x v)) : ∃ τ', fX6_lays (nI w) x v τ = some ((), τ') ∧ mM τ' (aSup a w p v) ∧ mR τ τ' := by
  have h66 := hw.1
  obtain ⟨g1, g2, g3, g4, g5, g6, g7⟩ := h
  unfold fX6_lays
  simp only [z_st]
  by_cases h2 : w < 2
  · rw [if_neg (by rw [show (2 : Int32) = nI 2 by decide]; exact nI_ge h2 (by decide))]
    by_cases e : w = 0
    · subst e
      rw [if_pos (show nI 0 = (0 : Int32) by decide), if_neg (show ¬ nI 0 = (1 : Int32) by decide)]
      refine ⟨_, rfl, ⟨?_, ?_, ?_, ?_, ?_, fun i hi => ?_, fun i hi => ?_⟩, fun k h0 _ _ _ _ _ => ?_, fun j hj => ?_⟩
      · rw [z_pt_2 (by decide), z_pt_2 (by decide)]; exact g1
      · rw [z_pt_2 (by decide), z_pt_2 (by decide)]; exact g2
      · rw [z_pt_2 (by decide), z_pt_1]; rfl
      · rw [z_pt_1, z_pt_2 (by decide)]; exact g4
      · rw [z_pt_2 (by decide), z_pt_2 (by decide)]; exact g5
      · rw [z_pt_r (by decide), z_pt_r (by decide)]; exact g6 i hi
      · rw [z_pt_r (by decide), z_pt_r (by decide)]; exact g7 i hi
      · rw [z_pt_r h0, z_pt_r h0]
      · rw [z_pt_2 (by omega), z_pt_2 (by omega)]
    · have : w = 1 := by omega
      subst this
      rw [if_neg (show ¬ nI 1 = (0 : Int32) by decide), if_pos (show nI 1 = (1 : Int32) by decide)]
      refine ⟨_, rfl, ⟨?_, ?_, ?_, ?_, ?_, fun i hi => ?_, fun i hi => ?_⟩, fun k h0 _ _ _ _ _ => ?_, fun j hj => ?_⟩
      · rw [z_pt_2 (by decide), z_pt_2 (by decide)]; exact g1
      · rw [z_pt_2 (by decide), z_pt_2 (by decide)]; exact g2
      · rw [z_pt_2 (by decide), z_pt_1]; exact g3
      · rw [z_pt_1]; rfl
      · rw [z_pt_2 (by decide), z_pt_2 (by decide)]; exact g5
      · rw [z_pt_r (by decide), z_pt_r (by decide)]; exact g6 i hi
      · rw [z_pt_r (by decide), z_pt_r (by decide)]; exact g7 i hi
      · rw [z_pt_r h0, z_pt_r h0]
      · rw [z_pt_2 (by omega), z_pt_2 (by omega)]
  rw [if_pos (z_2le (by omega) (by omega))]
  by_cases e5 : w = 5
  · subst e5
    rw [if_pos (by decide)]
    refine ⟨_, rfl, ⟨?_, ?_, ?_, ?_, ?_, fun i hi => ?_, fun i hi => ?_⟩, fun k h0 _ _ _ _ _ => ?_, fun j hj => ?_⟩
    · rw [z_pt_2 (by decide)]; exact g1
    · rw [z_pt_2 (by decide)]; exact g2
    · rw [z_pt_2 (by decide)]; exact g3
    · rw [z_pt_2 (by decide)]; exact g4
    · rw [z_pt_1]; exact hv rfl
    · rw [z_pt_r (by decide)]; exact g6 i hi
    · rw [z_pt_r (by decide)]; exact g7 i hi
    · rw [z_pt_r h0]
    · rw [z_pt_2 (by omega)]
  · obtain ⟨h1, rfl⟩ := hp (by omega) (by omega)
    rw [if_neg (by rw [show (5 : Int32) = nI 5 by decide]; exact nI_ge (by omega) (by decide)), m_row (by omega), z_gdT (z_inN (by omega) (by decide)), z_xN (by omega)]
    refine ⟨_, rfl, ?_, fun k h0 h4 _ _ _ _ => z_pt_r h4, fun j hj => z_pt_3 (by decide)⟩
    have hs : ∀ i, i < 6 → (z_pt τ 4 (3 * p + (w - 2)) v).1 4 (3 * i + 2) = (if w = 4 then upd (ak a) p v else ak a) i ∧ (z_pt τ 4 (3 * p + (w - 2)) v).1 4 (3 * i) = (if w = 2 then upd (am a) p v else am a) i ∧ (z_pt τ 4 (3 * p + (w - 2)) v).1 4 (3 * i + 1) = (if w = 3 then upd (as_ a) p v else as_ a) i := fun i hi => by
      obtain ⟨q1, q2, q3⟩ := g6 i hi
      refine ⟨?_, ?_, ?_⟩
      · by_cases e : w = 4
        · rw [if_pos e]
          by_cases e' : i = p
          · subst e'; rw [e, z_pt_1, upd, if_pos rfl]
          · rw [z_pt_2 (by omega), upd, if_neg e']; exact q1
        · rw [if_neg e, z_pt_2 (by omega)]; exact q1
      · by_cases e : w = 2
        · rw [if_pos e]
          by_cases e' : i = p
          · subst e'; rw [e]; show (z_pt τ 4 (3 * i) v).1 4 (3 * i) = _; rw [z_pt_1, upd, if_pos rfl]
          · rw [z_pt_2 (by omega), upd, if_neg e']; exact q2
        · rw [if_neg e, z_pt_2 (by omega)]; exact q2
      · by_cases e : w = 3
        · rw [if_pos e]
          by_cases e' : i = p
          · subst e'; rw [e, z_pt_1, upd, if_pos rfl]
          · rw [z_pt_2 (by omega), upd, if_neg e']; exact q3
        · rw [if_neg e, z_pt_2 (by omega)]; exact q3
    have hM : mM (z_pt τ 4 (3 * p + (w - 2)) v) (an a, ar a, if w = 4 then upd (ak a) p v else ak a, if w = 2 then upd (am a) p v else am a, if w = 3 then upd (as_ a) p v else as_ a, ah a, ac a, au a) := by
      refine ⟨?_, ?_, ?_, ?_, ?_, hs, fun i hi => ?_⟩
      · rw [z_pt_3 (by decide)]; exact g1
      · rw [z_pt_3 (by decide)]; exact g2
      · rw [z_pt_3 (by decide)]; exact g3
      · rw [z_pt_3 (by decide)]; exact g4
      · rw [z_pt_3 (by decide)]; exact g5
      · rw [z_pt_3 (by decide)]; exact g7 i hi
    have : w = 2 ∨ w = 3 ∨ w = 4 := by omega
    rcases this with rfl | rfl | rfl
    · exact hM
    · exact hM
    · exact hM
