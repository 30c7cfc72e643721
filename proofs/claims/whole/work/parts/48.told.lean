theorem nI_2 : nI 2 = (2 : Int32) := by decide
theorem nI_3 : nI 3 = (3 : Int32) := by decide
theorem nI_4 : nI 4 = (4 : Int32) := by decide
theorem nI_5 : nI 5 = (5 : Int32) := by decide
theorem nI_6 : nI 6 = (6 : Int32) := by decide
theorem nI_7 : nI 7 = (7 : Int32) := by decide
theorem nI_8 : nI 8 = (8 : Int32) := by decide
section ZPUB7
variable {σ τ : z_Mem} {g : zG}
theorem q_spent (hc : cG σ g) (hm : mG τ g) (hw : gW g) {p : Nat} (hp : p < an (gA g)) : zSame (fX0_spentBy 7 (nI p) σ) (fX6_spentOf (nI p) τ) := ⟨gSpent (gV g) (gA g) p, g, hw, z_R_mono (c_spentBy hc.1 hw.1.1 hc.2.2.1 hw.1.2.1 (by decide) hp) (fun r s h => ⟨h.1, cG_k hc (cK_4 h.2)⟩), z_R_mono (m_spentOf hm.1 hw.1.1 hm.2.2.1 hw.1.2.1 hp) (fun r s h => ⟨h.1, mG_k hm h.2⟩)⟩
theorem q_hold (hc : cG σ g) (hm : mG τ g) (hw : gW g) {i : Nat} (hi : i < (ar (gA g)).length) : zSame (fX0_holdFrom 7 (nI i) σ) (fX6_hold (nI i) τ) := ⟨gH (gV g) (gA g) i, g, hw, z_R_mono (c_holdFrom hc.1 hw.1.1 hc.2.2.1 hw.1.2.1 (by decide) hi) (fun r s h => ⟨h.1, cG_k hc (cK_4 h.2)⟩), z_R_mono (m_hold hm.1 hw.1.1 hm.2.2.1 hw.1.2.1 hi) (fun r s h => ⟨h.1, mG_k hm h.2⟩)⟩
theorem p_told (hc : cG σ g) (hm : mG τ g) (hw : gW g) (x w : Int32) : zSame (fX5_told x w σ) (fX6_told x w τ) := by
  have hA := hw.1.1
  have h66 := hA.1
  have hl := aW_len hA
  have hbad : zSame (some ((-1000 : Int32), σ)) (some ((-1000 : Int32), τ)) := zSame_ret hc hm hw
  by_cases h1 : 0 ≤ w.toInt ∧ w.toInt ≤ 8
  · obtain ⟨v, hv, rfl⟩ := nI_of (x := w) (by rw [Int32.lt_iff_toInt_lt]; simp; omega)
    rw [nI_toInt hv] at h1
    have hv8 : v ≤ 8 := by omega
    have hone : ∀ p, x = nI p → p < an (gA g) → 0 ≤ x.toInt ∧ x.toInt < an (gA g) := fun p e hp => by
      rw [e, nI_toInt (by omega)]; omega
    by_cases h2 : v < 2
    · rw [m_trait (p := 0) hm.1 hA (by omega) (fun h => by omega)]
      have : v = 0 ∨ v = 1 := by omega
      rcases this with rfl | rfl
      · try unfold fX5_told
        simp (decide := true) only [↓reduceIte]
        rw [z_bdE (c_trait (w := 0) (p := 0) hc.1 hA (by omega) (fun h => by omega))]
        exact zSame_ret hc hm hw
      · try unfold fX5_told
        simp (decide := true) only [↓reduceIte]
        rw [z_bdE (c_trait (w := 1) (p := 0) hc.1 hA (by omega) (fun h => by omega))]
        exact zSame_ret hc hm hw
    have hT : fX6_told x (nI v) τ = if v < 2 ∨ (v < 7 ∧ 0 ≤ x.toInt ∧ x.toInt < an (gA g)) ∨ (7 ≤ v ∧ 0 ≤ x.toInt ∧ x.toInt < (ar (gA g)).length ∧ (v = 7 ∨ 1 < (ar (gA g)).length)) then fX6_told x (nI v) τ else some (-1000, τ) := by
      by_cases hq : v < 2 ∨ (v < 7 ∧ 0 ≤ x.toInt ∧ x.toInt < an (gA g)) ∨ (7 ≤ v ∧ 0 ≤ x.toInt ∧ x.toInt < (ar (gA g)).length ∧ (v = 7 ∨ 1 < (ar (gA g)).length))
      · rw [if_pos hq]
      · rw [if_neg hq]
        unfold fX6_told
        rw [z_bdE (m_inT (by rw [nI_toInt (by omega), show (0 : Int64).toInt = 0 from rfl, show (8 : Int64).toInt = 8 from rfl]; omega)), if_neg z_10, z_bdE (m_isOf hm.1 hA (by omega))]
        simp only [if_neg hq, if_true]
    by_cases h7 : v < 7
    · by_cases ho : 0 ≤ x.toInt ∧ x.toInt < an (gA g)
      · obtain ⟨p, hp, rfl⟩ := nI_of (x := x) (by rw [Int32.lt_iff_toInt_lt]; simp; omega)
        have hp' : p < an (gA g) := by rw [nI_toInt hp] at ho; omega
        by_cases h5 : v < 5
        · rw [m_trait (p := p) hm.1 hA (by omega) (fun h => ⟨hp', rfl⟩)]
          have : v = 2 ∨ v = 3 ∨ v = 4 := by omega
          rcases this with rfl | rfl | rfl
          · try unfold fX5_told
            simp (decide := true) only [↓reduceIte]
            rw [z_bdE (c_hasN hc.1 hA hp'), if_neg z_10]
            skip
            rw [z_bdE (c_trait (w := 2) (p := p) hc.1 hA (by omega) (fun _ => ⟨hp', rfl⟩))]
            exact zSame_ret hc hm hw
          · try unfold fX5_told
            simp (decide := true) only [↓reduceIte]
            rw [z_bdE (c_hasN hc.1 hA hp'), if_neg z_10]
            skip
            rw [z_bdE (c_trait (w := 3) (p := p) hc.1 hA (by omega) (fun _ => ⟨hp', rfl⟩))]
            exact zSame_ret hc hm hw
          · try unfold fX5_told
            simp (decide := true) only [↓reduceIte]
            rw [z_bdE (c_hasN hc.1 hA hp'), if_neg z_10]
            skip
            rw [z_bdE (c_trait (w := 4) (p := p) hc.1 hA (by omega) (fun _ => ⟨hp', rfl⟩))]
            exact zSame_ret hc hm hw
        · unfold fX6_told
          rw [z_bdE (m_inT (by rw [nI_toInt (by omega), show (0 : Int64).toInt = 0 from rfl, show (8 : Int64).toInt = 8 from rfl]; omega)), if_neg z_10, z_bdE (m_isOf hm.1 hA (by omega))]
          have hq : v < 2 ∨ (v < 7 ∧ 0 ≤ (nI p).toInt ∧ (nI p).toInt < an (gA g)) ∨ (7 ≤ v ∧ 0 ≤ (nI p).toInt ∧ (nI p).toInt < (ar (gA g)).length ∧ (v = 7 ∨ 1 < (ar (gA g)).length)) := by omega
          simp only [if_pos hq, if_neg z_10]
          have : v = 5 ∨ v = 6 := by omega
          rcases this with rfl | rfl
          · try unfold fX5_told
            simp (decide := true) only [↓reduceIte]
            rw [z_bdE (c_hasN hc.1 hA hp'), if_neg z_10, z_bdE (m_placeOf hm.1 hA), z_bdE (c_placeOf hc.1 hA)]
            exact zSame_ret hc hm hw
          · try unfold fX5_told
            simp (decide := true) only [↓reduceIte]
            rw [z_bdE (c_hasN hc.1 hA hp'), if_neg z_10]
            exact zSame_id (q_spent hc hm hw hp')
      · rw [hT, if_neg (by omega)]
        have : v = 2 ∨ v = 3 ∨ v = 4 ∨ v = 5 ∨ v = 6 := by omega
        have hh : fX0_has 7 x σ = some (0, σ) := by rw [c_has hc.1 hA, if_neg ho]
        rcases this with rfl | rfl | rfl | rfl | rfl <;>
        · try unfold fX5_told
          simp (decide := true) only [↓reduceIte]
          rw [z_bdE hh, if_pos rfl]
          exact hbad
    · by_cases ho : 0 ≤ x.toInt ∧ x.toInt < (ar (gA g)).length
      · obtain ⟨i, hp, rfl⟩ := nI_of (x := x) (by rw [Int32.lt_iff_toInt_lt]; simp; omega)
        have hi : i < (ar (gA g)).length := by rw [nI_toInt hp] at ho; omega
        have hgi : (ar (gA g)).getD i 0 < 6 := by
          have := hA.2.2.1 ((ar (gA g)).getD i 0) (by rw [z_getD hi]; exact List.getElem_mem hi)
          omega
        by_cases e7 : v = 7
        · subst e7
          unfold fX6_told
          rw [z_bdE (m_inT (by rw [nI_toInt (by omega), show (0 : Int64).toInt = 0 from rfl, show (8 : Int64).toInt = 8 from rfl]; omega)), if_neg z_10, z_bdE (m_isOf hm.1 hA (by omega))]
          have hq : 7 < 2 ∨ (7 < 7 ∧ 0 ≤ (nI i).toInt ∧ (nI i).toInt < an (gA g)) ∨ (7 ≤ 7 ∧ 0 ≤ (nI i).toInt ∧ (nI i).toInt < (ar (gA g)).length ∧ (7 = 7 ∨ 1 < (ar (gA g)).length)) := by omega
          rw [if_pos hq, if_neg z_10]
          try unfold fX5_told
          simp (decide := true) only [↓reduceIte]
          rw [z_bdE (c_whoN hc.1 hA hi), if_neg (nI_neg1 (by omega)), z_bdE (c_whoN hc.1 hA hi), z_gdT (z_inN (by omega) (by decide)), z_xN (by omega), hm.1.2.2.2.2.2.2 i hi]
          exact zSame_ret hc hm hw
        · have e8 : v = 8 := by omega
          subst e8
          try unfold fX5_told
          simp (decide := true) only [↓reduceIte]
          rw [if_neg (by rw [z_ge0, nI_toInt hp]; omega), z_bdE (c_holds hc.1 hA)]
          by_cases l2 : 1 < (ar (gA g)).length
          · rw [if_neg (show ¬ (ar (gA g)).length < 2 by omega), if_neg (nI_ge hi (by omega))]
            unfold fX6_told
            rw [z_bdE (m_inT (by rw [nI_toInt (by omega), show (0 : Int64).toInt = 0 from rfl, show (8 : Int64).toInt = 8 from rfl]; omega)), if_neg z_10, z_bdE (m_isOf hm.1 hA (by omega))]
            have hq : 8 < 2 ∨ (8 < 7 ∧ 0 ≤ (nI i).toInt ∧ (nI i).toInt < an (gA g)) ∨ (7 ≤ 8 ∧ 0 ≤ (nI i).toInt ∧ (nI i).toInt < (ar (gA g)).length ∧ (8 = 7 ∨ 1 < (ar (gA g)).length)) := by omega
            simp only [if_pos hq, if_neg z_10]
            simp (decide := true) only [↓reduceIte]
            exact zSame_id (q_hold hc hm hw hi)
          · rw [if_pos (show (ar (gA g)).length < 2 by omega), if_pos (show nI 0 ≤ nI i from nI_le (by omega) (by omega)), hT, if_neg (by omega)]
            exact hbad
      · rw [hT, if_neg (by omega)]
        by_cases e7 : v = 7
        · subst e7
          try unfold fX5_told
          simp (decide := true) only [↓reduceIte]
          rw [z_bdE (c_whoX hc.1 hA ho), if_pos rfl]
          exact hbad
        · have e8 : v = 8 := by omega
          subst e8
          try unfold fX5_told
          simp (decide := true) only [↓reduceIte]
          by_cases q : x < 0
          · rw [if_pos q]; exact hbad
          · rw [if_neg q, z_bdE (c_holds hc.1 hA), if_pos (by
              rw [z_ge0] at q
              rw [Int32.le_iff_toInt_le, nI_toInt (by split <;> omega)]
              split <;> omega)]
            exact hbad
  · have hne : ∀ k : Int32, 0 ≤ k.toInt ∧ k.toInt ≤ 8 → ¬ w = k := fun k hk q => h1 (q ▸ hk)
    unfold fX5_told fX6_told
    rw [if_neg (hne 0 (by decide)), if_neg (hne 1 (by decide)), if_neg (hne 2 (by decide)), if_neg (hne 3 (by decide)), if_neg (hne 4 (by decide)), if_neg (hne 5 (by decide)), if_neg (hne 6 (by decide)), if_neg (hne 7 (by decide)), if_neg (hne 8 (by decide)), z_bdE (m_inF (by rw [show (0 : Int64).toInt = 0 from rfl, show (8 : Int64).toInt = 8 from rfl]; exact h1)), if_pos rfl]
    exact hbad
end ZPUB7
