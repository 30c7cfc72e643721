theorem aSup_W {a : aS} {w p n : Nat} {v : Int32} (h : aOk a n) (hw : w ≤ 4) (hp : 2 ≤ w → p < an a) (h0 : 0 ≤ v.toInt) (h1 : v.toInt ≤ if w = 0 then 999 else if w = 2 then 9 else if w = 4 then 5 else 99) : aOk (aSup a w p v) n := by
  obtain ⟨⟨g1, g2, g3, g4, g5, g6, g7⟩, hu, hh⟩ := h
  rcases z_w5 hw with rfl | rfl | rfl | rfl | rfl
  · refine ⟨⟨g1, g2, g3, g4, g5, ⟨h0, ?_⟩, g7⟩, hu, ?_⟩
    · exact Int.le_trans (show v.toInt ≤ 999 from h1) (by decide)
    · exact h1
  · exact ⟨⟨g1, g2, g3, g4, g5, g6, ⟨h0, h1⟩⟩, hu, hh⟩
  · refine ⟨⟨g1, g2, g3, g4, fun i hi => ⟨(g5 i hi).1, ?_, (g5 i hi).2.2⟩, g6, g7⟩, hu, hh⟩
    show 0 ≤ (upd (am a) p v i).toInt ∧ (upd (am a) p v i).toInt ≤ 9
    unfold upd
    split
    · exact ⟨h0, h1⟩
    · exact (g5 i hi).2.1
  · refine ⟨⟨g1, g2, g3, g4, fun i hi => ⟨(g5 i hi).1, (g5 i hi).2.1, ?_⟩, g6, g7⟩, hu, hh⟩
    show 0 ≤ (upd (as_ a) p v i).toInt ∧ (upd (as_ a) p v i).toInt ≤ 99
    unfold upd
    split
    · exact ⟨h0, h1⟩
    · exact (g5 i hi).2.2
  · refine ⟨⟨g1, g2, g3, g4, fun i hi => ⟨?_, (g5 i hi).2.1, (g5 i hi).2.2⟩, g6, g7⟩, hu, hh⟩
    show 0 ≤ (upd (ak a) p v i).toInt ∧ (upd (ak a) p v i).toInt ≤ 5
    unfold upd
    split
    · exact ⟨h0, h1⟩
    · exact (g5 i hi).1
section ZPUB5
variable {σ τ : z_Mem} {g : zG}
theorem p_set (hc : cG σ g) (hm : mG τ g) (hw : gW g) (x y v : Int32) : zSame (fX5_set x y v σ) (fX6_set x y v τ) := by
  have hA := hw.1.1
  have h66 := hA.1
  have hbad : zSame (some ((-2 : Int32), σ)) (some ((-2 : Int32), τ)) := zSame_ret hc hm hw
  unfold fX5_set fX6_set
  rw [z_bdE m_in, show (0 : Int64).toInt = 0 from rfl, show (3 : Int64).toInt = 3 from rfl]
  by_cases h1 : 0 ≤ x.toInt ∧ x.toInt ≤ 3
  · simp only [if_pos h1, if_neg z_10, if_neg (show ¬ x < 0 by rw [z_ge0]; omega), if_neg (show ¬ (3 : Int32) < x by rw [Int32.lt_iff_toInt_lt, show (3 : Int32).toInt = 3 from rfl]; omega)]
    obtain ⟨w, hw', rfl⟩ := nI_of (x := x) (by rw [Int32.lt_iff_toInt_lt]; simp; omega)
    rw [nI_toInt hw'] at h1
    have hw3 : w ≤ 3 := by omega
    rw [z_bdE (m_isOf hm.1 hA (by omega))]
    have hG : ∀ s : z_Mem, fX5_greatest (nI w) s = some (nI (if w = 0 then 999 else if w = 2 then 9 else 99), s) := fun s => by
      unfold fX5_greatest
      rcases z_w5 (show w ≤ 4 by omega) with rfl | rfl | rfl | rfl | rfl <;> rfl
    have hM : ∀ s : z_Mem, fX6_mostOf (nI w) s = some (nI (if w = 0 then 999 else if w = 2 then 9 else 99), s) := fun s => by
      unfold fX6_mostOf
      rcases z_w5 (show w ≤ 4 by omega) with rfl | rfl | rfl | rfl | rfl <;> rfl
    generalize hB : (if w = 0 then 999 else if w = 2 then 9 else 99) = B at hG hM
    have hBs : B < 2 ^ 31 := by
      rw [← hB]
      repeat' split
      all_goals decide
    rw [z_bdE (hG σ)]
    simp only [z_le_nI hBs]
    by_cases h2 : w < 2 ∨ (0 ≤ y.toInt ∧ y.toInt < an (gA g))
    · have hq : w < 2 ∨ (w < 7 ∧ 0 ≤ y.toInt ∧ y.toInt < an (gA g)) ∨ (7 ≤ w ∧ 0 ≤ y.toInt ∧ y.toInt < (ar (gA g)).length ∧ (w = 7 ∨ 1 < (ar (gA g)).length)) := by omega
      simp only [if_pos hq, if_neg z_10]
      rw [z_bdE (hM τ), z_bdE m_in, i64, nI_toInt hBs]
      by_cases h3 : 0 ≤ v.toInt ∧ v.toInt ≤ (B : Int)
      · rw [if_neg (show ¬ v < 0 by rw [z_ge0]; omega), if_pos h3.2]
        simp only [show (0 : Int64).toInt = 0 from rfl, if_pos h3, if_neg z_10]
        have hgo : ∀ p, (2 ≤ w → p < an (gA g) ∧ y = nI p) → zSame (z_bd (fX0_trait 7 (nI w) y σ) (fun r2 s2 => z_bd (fX0_suppose 7 (nI w) y v s2) (fun _ s3 => some (r2, s3)))) (z_bd (fX6_told y (nI w) τ) (fun r5 s5 => z_bd (fX6_lays (nI w) y v s5) (fun _ s6 => some (r5, s6)))) := fun p hp => by
          rw [z_bdE (c_trait hc.1 hA (by omega) hp), z_bdE (m_trait hm.1 hA (by omega) hp)]
          obtain ⟨σ', e1, c1, k1⟩ := c_suppose (v := v) (x := y) (w := w) (p := p) hc.1 hA (by omega) (fun h _ => hp h) (by omega)
          obtain ⟨τ', e2, m2, k2⟩ := m_lays (v := v) (x := y) (w := w) (p := p) hm.1 hA (by omega) (fun h _ => hp h) (by omega)
          rw [z_bdE e1, z_bdE e2]
          refine zSame_ret (cG_a hc (cK_mono k1 (fun k hk => by unfold zScr; omega)) c1) (mG_a hm k2 m2) (gW_a hw (aSup_W hw.1 (by omega) (fun h => (hp h).1) h3.1 ?_))
          rw [← hB] at h3
          have h32 := h3.2
          clear hG hM
          rcases z_w5 (show w ≤ 4 by omega) with rfl | rfl | rfl | rfl | rfl
          · exact h32
          · exact h32
          · exact h32
          · exact h32
          · omega
        by_cases h4 : w < 2
        · rw [if_pos (by rw [show (2 : Int32) = nI 2 by decide, z_lt_nI (by omega) (by decide)]; exact h4)]
          exact hgo 0 (fun h => by omega)
        · rw [if_neg (by rw [show (2 : Int32) = nI 2 by decide, z_lt_nI (by omega) (by decide)]; exact h4), z_bdE (c_has hc.1 hA)]
          have h5 : 0 ≤ y.toInt ∧ y.toInt < an (gA g) := by omega
          simp only [if_pos h5, if_neg z_10]
          obtain ⟨p, hp, hpe⟩ := nI_of (x := y) (by rw [Int32.lt_iff_toInt_lt]; simp; omega)
          refine hgo p (fun _ => ⟨?_, hpe⟩)
          rw [hpe, nI_toInt hp] at h5
          omega
      · simp only [show (0 : Int64).toInt = 0 from rfl, if_neg h3, if_true, z_ge0]
        by_cases h4 : v.toInt < 0
        · rw [if_pos h4]; exact hbad
        · rw [if_neg h4, if_neg (by omega)]; exact hbad
    · have hq : ¬ (w < 2 ∨ (w < 7 ∧ 0 ≤ y.toInt ∧ y.toInt < an (gA g)) ∨ (7 ≤ w ∧ 0 ≤ y.toInt ∧ y.toInt < (ar (gA g)).length ∧ (w = 7 ∨ 1 < (ar (gA g)).length))) := by omega
      simp only [if_neg hq, if_true]
      have h5 : ¬ (0 ≤ y.toInt ∧ y.toInt < an (gA g)) := by omega
      have h4 : ¬ w < 2 := by omega
      rw [if_neg (show ¬ nI w < 2 by rw [show (2 : Int32) = nI 2 by decide, z_lt_nI (by omega) (by decide)]; exact h4), z_bdE (c_has hc.1 hA)]
      simp only [if_neg h5, if_true]
      by_cases q1 : v < 0
      · rw [if_pos q1]; exact hbad
      · rw [if_neg q1, ite_self]; exact hbad
  · simp only [if_neg h1, if_true]
    by_cases q1 : x < 0
    · rw [if_pos q1]; exact hbad
    · rw [if_neg q1, if_pos (by rw [Int32.lt_iff_toInt_lt, show (3 : Int32).toInt = 3 from rfl]; rw [z_ge0] at q1; omega)]; exact hbad
theorem p_count (hc : cG σ g) (hm : mG τ g) (hw : gW g) (x : Int32) : zSame (fX5_count x σ) (fX6_count x τ) := by
  unfold fX5_count fX6_count
  rw [hc.1.1, hc.1.2.1, hc.1.2.2.1, hc.2.2.1.1, hc.2.2.2.1.1, hc.1.2.2.2.2.1]
  by_cases h1 : 0 ≤ x.toInt ∧ x.toInt ≤ 5
  · rw [z_bdE (m_inT (by rw [show (0 : Int64).toInt = 0 from rfl, show (5 : Int64).toInt = 5 from rfl]; exact h1)), if_neg z_10, hm.1.1, hm.1.2.1, hm.1.2.2.1, hm.2.2.1.1, hm.2.2.2.1.1, hm.1.2.2.2.2.1]
    obtain ⟨w, hw', rfl⟩ := nI_of (x := x) (by rw [Int32.lt_iff_toInt_lt]; simp; omega)
    rw [nI_toInt hw'] at h1
    have : w = 0 ∨ w = 1 ∨ w = 2 ∨ w = 3 ∨ w = 4 ∨ w = 5 := by omega
    rcases this with rfl | rfl | rfl | rfl | rfl | rfl <;> exact zSame_ret hc hm hw
  · rw [z_bdE (m_inF (by rw [show (0 : Int64).toInt = 0 from rfl, show (5 : Int64).toInt = 5 from rfl]; exact h1)), if_pos rfl]
    have hne : ∀ k : Int32, 0 ≤ k.toInt ∧ k.toInt ≤ 5 → ¬ x = k := fun k hk q => h1 (q ▸ hk)
    rw [if_neg (hne 0 (by decide)), if_neg (hne 1 (by decide)), if_neg (hne 2 (by decide)), if_neg (hne 3 (by decide)), if_neg (hne 4 (by decide)), if_neg (hne 5 (by decide))]
    exact zSame_ret hc hm hw
end ZPUB5
