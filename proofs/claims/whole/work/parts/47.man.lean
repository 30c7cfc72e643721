abbrev zMan (k m s : Int32) : Prop := 0 ≤ k.toInt ∧ k.toInt ≤ 5 ∧ 0 ≤ m.toInt ∧ m.toInt ≤ 9 ∧ 0 ≤ s.toInt ∧ s.toInt ≤ 99
theorem m_man {τ : z_Mem} {a : aS} {k m s : Int32} (h : mM τ a) (hw : aW a) : ∃ τ', fX6_man k m s τ = some (if 0 ≤ k.toInt ∧ k.toInt ≤ 5 ∧ 0 ≤ m.toInt ∧ m.toInt ≤ 9 ∧ 0 ≤ s.toInt ∧ s.toInt ≤ 99 then (if an a = 6 then -4 else nI (an a)) else -2, τ') ∧ mM τ' (if 0 ≤ k.toInt ∧ k.toInt ≤ 5 ∧ 0 ≤ m.toInt ∧ m.toInt ≤ 9 ∧ 0 ≤ s.toInt ∧ s.toInt ≤ 99 ∧ ¬ an a = 6 then aJoin a k m s else a) ∧ mR τ τ' := by
  have h6 := hw.1
  have hl := hw.2.2.2.1
  have hM := h
  obtain ⟨g1, g2, g3, g4, g5, g6, g7⟩ := h
  unfold fX6_man
  simp only [z_st]
  rw [z_bdE m_in, show (0 : Int64).toInt = 0 from rfl, show (5 : Int64).toInt = 5 from rfl]
  by_cases h1 : 0 ≤ k.toInt ∧ k.toInt ≤ 5
  · simp only [if_pos h1, if_neg z_10]
    rw [z_bdE m_in]
    simp only [show (0 : Int64).toInt = 0 from rfl, show (9 : Int64).toInt = 9 from rfl]
    by_cases h2 : 0 ≤ m.toInt ∧ m.toInt ≤ 9
    · simp only [if_pos h2, if_neg z_10]
      rw [z_bdE m_in]
      simp only [show (0 : Int64).toInt = 0 from rfl, show (99 : Int64).toInt = 99 from rfl]
      by_cases h3 : 0 ≤ s.toInt ∧ s.toInt ≤ 99
      · have hz : 0 ≤ k.toInt ∧ k.toInt ≤ 5 ∧ 0 ≤ m.toInt ∧ m.toInt ≤ 9 ∧ 0 ≤ s.toInt ∧ s.toInt ≤ 99 := by omega
        rw [if_pos hz]
        simp only [if_pos h3, if_neg z_10]
        rw [g1]
        by_cases e : an a = 6
        · rw [if_pos (by rw [e]; decide), if_pos e, if_neg (by omega)]
          exact ⟨τ, rfl, hM, fun _ _ _ _ _ _ _ => rfl, fun _ _ => rfl⟩
        · rw [if_neg (by rw [show (6 : Int32) = nI 6 by decide, z_eq_nI (by omega) (by decide)]; exact e), if_neg e, if_pos (by omega)]
          rw [m3, z_gdT (z_inN (by omega) (by decide)), z_xN (by omega)]
          simp only [z_pt_3 (show (0 : Nat) ≠ 4 by decide), z_pt_3 (show (0 : Nat) ≠ 5 by decide), g1, g2, m3, m3_1, m3_2]
          rw [z_gdT (z_inN (by omega) (by decide)), z_gdT (z_inN (by omega) (by decide)), z_gdT (z_inN (by omega) (by decide)), z_xN (by omega), z_xN (by omega), z_xN (by omega)]
          rw [z_pt_1, z_pt_2 (by decide), z_pt_3 (by decide), z_pt_3 (by decide), z_pt_3 (by decide), z_pt_3 (by decide), g1, nI_1, nI_sub1]
          refine ⟨_, rfl, ⟨?_, ?_, ?_, ?_, ?_, fun i hi => ?_, fun i hi => ?_⟩, fun q q0 q4 q5 _ _ _ => ?_, fun j hj => ?_⟩
          · rw [z_pt_1]; rfl
          · rw [z_pt_2 (by decide), z_pt_1]; exact congrArg nI (List.length_append (as := ar a) (bs := [an a])).symm
          · show _ = ah a
            simpa [z_pt_g] using g3
          · show _ = ac a
            simpa [z_pt_g] using g4
          · show _ = nI (au a)
            simpa [z_pt_g] using g5
          · obtain ⟨r1, r2, r3⟩ := g6 i hi
            refine ⟨?_, ?_, ?_⟩
            · show _ = upd (ak a) (an a) k i
              rw [z_pt_3 (by decide), z_pt_3 (by decide), z_pt_3 (by decide), upd]
              by_cases e' : i = an a
              · rw [e', z_pt_1, if_pos rfl]
              · rw [if_neg e', z_pt_2 (by omega), z_pt_2 (by omega), z_pt_2 (by omega)]; exact r1
            · show _ = upd (am a) (an a) m i
              rw [z_pt_3 (by decide), z_pt_3 (by decide), z_pt_3 (by decide), upd, z_pt_2 (by omega), z_pt_2 (by omega)]
              by_cases e' : i = an a
              · rw [e', z_pt_1, if_pos rfl]
              · rw [if_neg e', z_pt_2 (by omega)]; exact r2
            · show _ = upd (as_ a) (an a) s i
              rw [z_pt_3 (by decide), z_pt_3 (by decide), z_pt_3 (by decide), upd, z_pt_2 (by omega)]
              by_cases e' : i = an a
              · rw [e', z_pt_1, if_pos rfl]
              · rw [if_neg e', z_pt_2 (by omega), z_pt_2 (by omega)]; exact r3
          · show _ = nI ((ar a ++ [an a]).getD i 0)
            have hi' : i < (ar a ++ [an a]).length := hi
            simp at hi'
            rw [z_pt_3 (by decide), z_pt_3 (by decide)]
            by_cases e' : i = (ar a).length
            · rw [e', z_pt_1]
              simp [List.getD]
            · rw [z_pt_2 e', z_pt_3 (by decide), z_pt_3 (by decide), z_pt_3 (by decide), g7 i (by omega)]
              simp [List.getD, List.getElem?_append_left (show i < (ar a).length by omega)]
          · rw [z_pt_r q0, z_pt_r q0, z_pt_r q5, z_pt_r q4, z_pt_r q4, z_pt_r q4]
          · simp only [z_pt_3 (show (0 : Nat) ≠ 4 by decide), z_pt_3 (show (0 : Nat) ≠ 5 by decide), z_pt_2 (show j ≠ 10 by omega), z_pt_2 (show j ≠ 12 by omega)]
      · have hz : ¬ (0 ≤ k.toInt ∧ k.toInt ≤ 5 ∧ 0 ≤ m.toInt ∧ m.toInt ≤ 9 ∧ 0 ≤ s.toInt ∧ s.toInt ≤ 99) := by omega
        have hz2 : ¬ (0 ≤ k.toInt ∧ k.toInt ≤ 5 ∧ 0 ≤ m.toInt ∧ m.toInt ≤ 9 ∧ 0 ≤ s.toInt ∧ s.toInt ≤ 99 ∧ ¬ an a = 6) := by omega
        simp only [if_neg hz, if_neg hz2, if_neg h3, if_true]
        exact ⟨τ, rfl, hM, fun _ _ _ _ _ _ _ => rfl, fun _ _ => rfl⟩
    · have hz : ¬ (0 ≤ k.toInt ∧ k.toInt ≤ 5 ∧ 0 ≤ m.toInt ∧ m.toInt ≤ 9 ∧ 0 ≤ s.toInt ∧ s.toInt ≤ 99) := by omega
      have hz2 : ¬ (0 ≤ k.toInt ∧ k.toInt ≤ 5 ∧ 0 ≤ m.toInt ∧ m.toInt ≤ 9 ∧ 0 ≤ s.toInt ∧ s.toInt ≤ 99 ∧ ¬ an a = 6) := by omega
      simp only [if_neg hz, if_neg hz2, if_neg h2, if_true]
      exact ⟨τ, rfl, hM, fun _ _ _ _ _ _ _ => rfl, fun _ _ => rfl⟩
  · have hz : ¬ (0 ≤ k.toInt ∧ k.toInt ≤ 5 ∧ 0 ≤ m.toInt ∧ m.toInt ≤ 9 ∧ 0 ≤ s.toInt ∧ s.toInt ≤ 99) := by omega
    have hz2 : ¬ (0 ≤ k.toInt ∧ k.toInt ≤ 5 ∧ 0 ≤ m.toInt ∧ m.toInt ≤ 9 ∧ 0 ≤ s.toInt ∧ s.toInt ≤ 99 ∧ ¬ an a = 6) := by omega
    simp only [if_neg hz, if_neg hz2, if_neg h1, if_true]
    exact ⟨τ, rfl, hM, fun _ _ _ _ _ _ _ => rfl, fun _ _ => rfl⟩
theorem aJoin_W {a : aS} {k m s : Int32} {n : Nat} (h : aOk a n) (hz : zMan k m s) (h6 : ¬ an a = 6) : aOk (aJoin a k m s) n := by
  obtain ⟨⟨g1, g2, g3, g4, g5, g6, g7⟩, hu, hh⟩ := h
  refine ⟨⟨by show an a + 1 ≤ 6; omega, ?_, ?_, ?_, fun i hi => ⟨?_, ?_, ?_⟩, g6, g7⟩, hu, hh⟩
  · show (ar a ++ [an a]).Nodup
    rw [List.nodup_append]
    refine ⟨g2, by simp, fun p hp q hq => ?_⟩
    have : q = an a := by simpa using hq
    have := g3 p hp
    omega
  · intro p hp
    show p < an a + 1
    rcases List.mem_append.mp hp with hp | hp
    · have := g3 p hp
      omega
    · have : p = an a := by simpa using hp
      omega
  · show (ar a ++ [an a]).length ≤ an a + 1
    simp
    exact g4
  · show 0 ≤ (upd (ak a) (an a) k i).toInt ∧ (upd (ak a) (an a) k i).toInt ≤ 5
    unfold upd
    split
    · omega
    · exact (g5 i hi).1
  · show 0 ≤ (upd (am a) (an a) m i).toInt ∧ (upd (am a) (an a) m i).toInt ≤ 9
    unfold upd
    split
    · omega
    · exact (g5 i hi).2.1
  · show 0 ≤ (upd (as_ a) (an a) s i).toInt ∧ (upd (as_ a) (an a) s i).toInt ≤ 99
    unfold upd
    split
    · omega
    · exact (g5 i hi).2.2
section ZPUB6
variable {σ τ : z_Mem} {g : zG}
theorem q_man (hc : cG σ g) (hm : mG τ g) (hw : gW g) (k m s : Int32) : zSame (fX0_join 7 k m s σ) (fX6_man k m s τ) := by
  obtain ⟨σ', e1, c1, k1⟩ := c_join (k := k) (m := m) (s := s) hc.1 hw.1.1
  obtain ⟨τ', e2, m2, k2⟩ := m_man (k := k) (m := m) (s := s) hm.1 hw.1.1
  rw [e1, e2]
  refine zSame_ret (cG_a hc (cK_mono k1 (fun k hk => by unfold zScr; omega)) c1) (mG_a hm k2 m2) (gW_a hw ?_)
  split
  · rename_i hz
    exact aJoin_W hw.1 (by show zMan k m s; omega) (by omega)
  · exact hw.1
theorem p_man (hc : cG σ g) (hm : mG τ g) (hw : gW g) (k m s : Int32) : zSame (fX5_man k m s σ) (fX6_man k m s τ) := by
  unfold fX5_man
  have : fX6_man k m s τ = z_bd (fX6_man k m s τ) (fun r s => some (r, s)) := by
    unfold z_bd
    cases fX6_man k m s τ <;> rfl
  rw [this]
  exact zSame_id (q_man hc hm hw k m s)
end ZPUB6
