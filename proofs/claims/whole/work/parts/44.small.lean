/-! feed, force, count -/
section ZPUB4
variable {σ τ : z_Mem} {g : zG}
theorem z_eq_nI {n m : Nat} (hn : n < 2 ^ 31) (hm : m < 2 ^ 31) : nI n = nI m ↔ n = m := by
  constructor
  · intro h
    have h1 := nI_toInt hn
    rw [h, nI_toInt hm] at h1
    omega
  · intro h
    rw [h]
theorem z_lt_nI {n m : Nat} (hn : n < 2 ^ 31) (hm : m < 2 ^ 31) : nI n < nI m ↔ n < m := by
  rw [Int32.lt_iff_toInt_lt, nI_toInt hn, nI_toInt hm]
  omega
theorem z_gd_tp {tp : List Int32} {x : Int32} {i : Nat} : (tp ++ [x]).getD i 0 = if i = tp.length then x else tp.getD i 0 := by
  by_cases h : i < tp.length
  · rw [if_neg (by omega)]
    simp [List.getD, List.getElem?_append_left h]
  · by_cases e : i = tp.length
    · subst e
      simp [List.getD]
    · rw [if_neg e]
      simp [List.getD, List.getElem?_eq_none (show tp.length ≤ i by omega), List.getElem?_eq_none (show (tp ++ [x]).length ≤ i by simp; omega)]
theorem p_feed (hc : cG σ g) (hm : mG τ g) (hw : gW g) (x : Int32) : zSame (fX5_feed x σ) (fX6_feed x τ) := by
  have hl := hw.2.2.2.1
  unfold fX5_feed fX6_feed fX2_add
  rw [z_bdE m_in, show (0 : Int64).toInt = 0 from rfl, show (255 : Int64).toInt = 255 from rfl]
  by_cases h1 : 0 ≤ x.toInt ∧ x.toInt ≤ 255
  · simp only [if_pos h1, if_neg z_10, if_neg (show ¬ x < 0 by rw [z_ge0]; omega), if_pos (show x ≤ 255 by rw [Int32.le_iff_toInt_le]; exact h1.2)]
    simp only [z_st]
    rw [hc.2.2.2.1.1, hm.2.2.2.1.1, show (160 : Int32) = nI 160 by decide]
    by_cases e : (gP g).length = 160
    · rw [if_neg (by rw [z_lt_nI (by omega) (by decide)]; omega), if_pos (by rw [e])]
      exact zSame_ret hc hm hw
    · rw [if_pos (by rw [z_lt_nI (by omega) (by decide)]; omega), if_neg (by rw [z_eq_nI (by omega) (by decide)]; omega), z_gdT (z_inN (by omega) (by decide)), z_gdT (z_inN (by omega) (by decide)), z_xN (by omega)]
      rw [z_bdE rfl, if_neg z_10]
      rw [z_pt_1, z_pt_1, z_pt_3 (by decide), z_pt_3 (by decide), hc.2.2.2.1.1, hm.2.2.2.1.1, nI_1]
      have hk : cK (fun k => k = 5 ∨ k = 6) σ (z_pt (z_pt σ 6 (gP g).length x) 5 2 (nI ((gP g).length + 1))) := fun k hk => by
        rw [z_pt_r (by omega), z_pt_r (by omega)]
      obtain ⟨c1, c2, c3, c4, c5⟩ := hc
      obtain ⟨m1, m2, m3, m4, m5⟩ := hm
      refine zSame_ret (g := (gA g, gB g, gV g, gN g, gP g ++ [x], gS g)) ⟨cM_kept c1 hk (fun i hi => by omega), cB_kept c2 hk (by omega) (fun i hi => by omega), cT_kept c3 hk (by omega) (by omega) (by omega), ?_, fun s hs => cSheet_kept (c5 s hs) hk (by omega) (by omega)⟩ ?_ ?_
      · refine ⟨?_, fun i hi => ?_⟩
        · rw [z_pt_1]; exact congrArg nI (List.length_append (as := gP g) (bs := [x])).symm
        · rw [z_pt_3 (by decide)]
          show _ = (gP g ++ [x]).getD i 0
          rw [z_gd_tp]
          by_cases q : i = (gP g).length
          · rw [q, z_pt_1, if_pos rfl]
          · rw [z_pt_2 q, if_neg q]
            have : i < (gP g ++ [x]).length := hi
            simp at this
            exact c4.2 i (by omega)
      · have e0 : ∀ j, j ≠ 6 → (z_pt (z_pt τ 3 (gP g).length x) 0 6 (nI ((gP g).length + 1))).1 0 j = τ.1 0 j := fun j hj => by
          rw [z_pt_2 hj, z_pt_3 (by decide)]
        have ek : ∀ k, k ≠ 0 → k ≠ 3 → (z_pt (z_pt τ 3 (gP g).length x) 0 6 (nI ((gP g).length + 1))).1 k = τ.1 k := fun k h0 h3 => by
          rw [z_pt_r h0, z_pt_r h3]
        refine ⟨?_, ?_, mT_kept m3 (e0 3 (by decide)) (ek 1 (by decide) (by decide)) (ek 2 (by decide) (by decide)), ?_, fun s hs => ?_⟩
        · unfold mM
          rw [e0 10 (by decide), e0 12 (by decide), e0 7 (by decide), e0 8 (by decide), e0 4 (by decide), ek 4 (by decide) (by decide), ek 5 (by decide) (by decide)]
          exact m1
        · show mB _ (gB g)
          unfold mB
          rw [e0 35 (by decide), e0 36 (by decide), e0 37 (by decide), e0 38 (by decide), e0 39 (by decide), ek 9 (by decide) (by decide), ek 10 (by decide) (by decide)]
          exact m2
        · refine ⟨?_, fun i hi => ?_⟩
          · rw [z_pt_1]; exact congrArg nI (List.length_append (as := gP g) (bs := [x])).symm
          · rw [z_pt_3 (by decide)]
            show _ = (gP g ++ [x]).getD i 0
            rw [z_gd_tp]
            by_cases q : i = (gP g).length
            · rw [q, z_pt_1, if_pos rfl]
            · rw [z_pt_2 q, if_neg q]
              have : i < (gP g ++ [x]).length := hi
              simp at this
              exact m4.2 i (by omega)
        · show mSheet _ s (gS g s)
          unfold mSheet
          rw [ek 11 (by decide) (by decide), ek 12 (by decide) (by decide), ek 13 (by decide) (by decide), ek 14 (by decide) (by decide)]
          exact m5 s hs
      · obtain ⟨w1, w2, w3, w4, w5, w6⟩ := hw
        refine ⟨w1, w2, w3, ?_, ?_, w6⟩
        · show (gP g ++ [x]).length ≤ 160
          simp; omega
        · intro y hy
          rcases List.mem_append.mp hy with hy | hy
          · exact w5 y hy
          · have : y = x := by simpa using hy
            rw [this]; exact h1
  · simp only [if_neg h1, if_true]
    simp only [z_ge0, show (x ≤ 255) = (x.toInt ≤ 255) from propext Int32.le_iff_toInt_le]
    by_cases h3 : x.toInt < 0
    · rw [if_pos h3]
      exact zSame_ret hc hm hw
    · rw [if_neg h3, if_neg (by omega)]
      exact zSame_ret hc hm hw
theorem p_force (hc : cG σ g) (hm : mG τ g) (hw : gW g) (x : Int32) : zSame (fX5_force x σ) (fX6_force x τ) := by
  have hn := hw.2.2.1
  unfold fX5_force fX6_force
  simp only [z_st]
  rw [hm.2.2.1.1, z_bdE m_in, z_m1 hn, hc.2.2.1.1, show (0 : Int64).toInt = 0 from rfl, hc.1.2.2.2.2.1, hm.1.2.2.2.2.1]
  by_cases h1 : 0 ≤ x.toInt ∧ x.toInt ≤ (gN g : Int) - 1
  · rw [if_pos h1, if_neg z_10, if_neg (by rw [z_ge0]; omega), if_pos (by rw [Int32.lt_iff_toInt_lt, nI_toInt (by omega)]; omega)]
    obtain ⟨p, hp, rfl⟩ := nI_of (x := x) (by rw [Int32.lt_iff_toInt_lt]; simp; omega)
    rw [nI_toInt hp] at h1
    refine zSame_ret (g := ((an (gA g), ar (gA g), ak (gA g), am (gA g), as_ (gA g), ah (gA g), ac (gA g), p), g.2)) (cG_a hc (fun k hk => z_pt_r (fun q => hk (by rw [q]; right; omega))) ?_) (mG_a hm ⟨fun k h0 _ _ _ _ _ => z_pt_r h0, fun j hj => z_pt_2 (by omega)⟩ ?_) (gW_a hw ⟨hw.1.1, by show p < gN g; omega, hw.1.2.2⟩)
    · obtain ⟨c1, c2, c3, c4, c5, c6, c7⟩ := hc.1
      refine ⟨(z_pt_2 (by decide)).trans c1, (z_pt_2 (by decide)).trans c2, (z_pt_2 (by decide)).trans c3, (z_pt_2 (by decide)).trans c4, z_pt_1, fun i hi => ?_, fun i hi => ?_⟩
      · rw [z_pt_3 (by decide), z_pt_3 (by decide), z_pt_3 (by decide)]
        exact c6 i hi
      · rw [z_pt_3 (by decide)]
        exact c7 i hi
    · obtain ⟨c1, c2, c3, c4, c5, c6, c7⟩ := hm.1
      refine ⟨(z_pt_2 (by decide)).trans c1, (z_pt_2 (by decide)).trans c2, (z_pt_2 (by decide)).trans c3, (z_pt_2 (by decide)).trans c4, z_pt_1, fun i hi => ?_, fun i hi => ?_⟩
      · rw [z_pt_3 (by decide), z_pt_3 (by decide), z_pt_3 (by decide)]
        exact c6 i hi
      · rw [z_pt_3 (by decide)]
        exact c7 i hi
  · simp only [if_neg h1, if_true]
    simp only [z_ge0, Int32.lt_iff_toInt_lt (y := nI (gN g)), nI_toInt (show gN g < 2 ^ 31 by omega)]
    by_cases h3 : x.toInt < 0
    · rw [if_pos h3]
      exact zSame_ret hc hm hw
    · rw [if_neg h3, if_neg (by omega)]
      exact zSame_ret hc hm hw
end ZPUB4
