theorem cM_ring {σ σ' : z_Mem} {c : Nat} {a : aS} {r' : List Nat} (h : cM σ c a) (h5 : ∀ j, j ≠ 6 → σ'.1 c j = σ.1 c j) (h6 : σ'.1 c 6 = nI r'.length) (h1 : σ'.1 (c + 1) = σ.1 (c + 1)) (h2 : σ'.1 (c + 2) = σ.1 (c + 2)) (h3 : σ'.1 (c + 3) = σ.1 (c + 3)) (h4 : ∀ i, i < r'.length → σ'.1 (c + 4) i = nI (r'.getD i 0)) : cM σ' c (an a, r', ak a, am a, as_ a, ah a, ac a, au a) := by
  refine ⟨(h5 5 (by decide)).trans h.1, h6, (h5 7 (by decide)).trans h.2.2.1, (h5 8 (by decide)).trans h.2.2.2.1, (h5 9 (by decide)).trans h.2.2.2.2.1, fun i hi => ?_, h4⟩
  rw [h1, h2, h3]
  exact h.2.2.2.2.2.1 i hi
def aSwap (a : aS) (i j : Nat) : aS := (an a, ((ar a).set i ((ar a).getD j 0)).set j ((ar a).getD i 0), ak a, am a, as_ a, ah a, ac a, au a)
theorem z_getD_set {l : List Nat} {i j v : Nat} (h : i < l.length) : (l.set i v).getD j 0 = if j = i then v else l.getD j 0 := by
  by_cases q : j = i
  · subst q
    simp [List.getD, h]
  · simp [List.getD, q, Ne.symm q]
theorem c_exchange {σ : z_Mem} {c i j : Nat} {a : aS} (h : cM σ c a) (hw : aW a) (hi : i < (ar a).length) (hj : j < (ar a).length) : ∃ σ', fX0_exchange c (nI i) (nI j) σ = some ((), σ') ∧ cM σ' c (aSwap a i j) ∧ cK (fun k => k = c + 4) σ σ' := by
  have h6 := aW_len hw
  have hn : ∀ p, p ∈ ar a → ¬ nI p = (-1 : Int32) := by
    intro p hp e
    have := hw.2.2.1 p hp
    have h0 : ¬ (nI p : Int32) < 0 := nI_pos (by have := hw.1; omega)
    rw [e] at h0
    exact h0 (by decide)
  have hm : ∀ k, k < (ar a).length → (ar a).getD k 0 ∈ ar a := fun k hk => by rw [z_getD hk]; exact List.getElem_mem hk
  unfold fX0_exchange
  rw [z_bdE (c_whoN h hw hi), z_bdE (c_whoN h hw hj), if_neg (hn _ (hm i hi)), if_neg (hn _ (hm j hj))]
  simp only [z_st]
  rw [z_gdT (z_inN (by omega) (by decide)), z_gdT (z_inN (by omega) (by decide)), z_xN (by omega), z_xN (by omega)]
  refine ⟨_, rfl, cM_ring h (fun q hq => ?_) ?_ ?_ ?_ ?_ (fun q hq => ?_), fun k hk => ?_⟩
  · rw [z_pt_3 (by omega), z_pt_3 (by omega)]
  · rw [z_pt_3 (by omega), z_pt_3 (by omega), h.2.1]; simp
  · rw [z_pt_r (by omega), z_pt_r (by omega)]
  · rw [z_pt_r (by omega), z_pt_r (by omega)]
  · rw [z_pt_r (by omega), z_pt_r (by omega)]
  · have hq2 : q < (ar a).length := by simpa using hq
    rw [z_getD_set (by simpa using hj), z_getD_set hi]
    simp only [z_pt_g]
    by_cases q1 : q = j
    · simp [q1]
    · by_cases q2 : q = i
      · subst q2
        simp [q1]
      · simp only [if_neg q1, if_neg q2]
        simpa using h.2.2.2.2.2.2 q hq2
  · rw [z_pt_r hk, z_pt_r hk]
/-- one more of MEN -/
def aJoin (a : aS) (k m s : Int32) : aS := (an a + 1, ar a ++ [an a], upd (ak a) (an a) k, upd (am a) (an a) m, upd (as_ a) (an a) s, ah a, ac a, au a)
theorem c_join {σ : z_Mem} {c : Nat} {a : aS} {k m s : Int32} (h : cM σ c a) (hw : aW a) : ∃ σ', fX0_join c k m s σ = some (if 0 ≤ k.toInt ∧ k.toInt ≤ 5 ∧ 0 ≤ m.toInt ∧ m.toInt ≤ 9 ∧ 0 ≤ s.toInt ∧ s.toInt ≤ 99 then (if an a = 6 then -4 else nI (an a)) else -2, σ') ∧ cM σ' c (if 0 ≤ k.toInt ∧ k.toInt ≤ 5 ∧ 0 ≤ m.toInt ∧ m.toInt ≤ 9 ∧ 0 ≤ s.toInt ∧ s.toInt ≤ 99 ∧ ¬ an a = 6 then aJoin a k m s else a) ∧ cK (fun q => q = c ∨ q = c + 1 ∨ q = c + 2 ∨ q = c + 3 ∨ q = c + 4) σ σ' := by
  have h6 := hw.1
  have hl := hw.2.2.2.1
  unfold fX0_join
  simp only [Int32.lt_iff_toInt_lt, Int32.le_iff_toInt_le, z_st]
  simp only [h.1, nI_toInt (show an a < 2 ^ 31 by omega)]
  simp only [show (0 : Int32).toInt = 0 from rfl, show (6 : Int32).toInt = 6 from rfl, show (9 : Int32).toInt = 9 from rfl, show (99 : Int32).toInt = 99 from rfl]
  by_cases hb : 0 ≤ k.toInt ∧ k.toInt ≤ 5 ∧ 0 ≤ m.toInt ∧ m.toInt ≤ 9 ∧ 0 ≤ s.toInt ∧ s.toInt ≤ 99
  · rw [if_pos hb, if_neg (by omega), if_neg (by omega), if_neg (by omega), if_neg (by omega), if_neg (by omega), if_pos (by omega)]
    by_cases hf : an a = 6
    · rw [if_neg (by omega), if_pos hf, if_neg (by omega)]
      exact ⟨σ, rfl, h, cK_rf⟩
    · rw [if_pos (by omega), if_neg hf, if_pos (by omega), z_gdT (z_inN (by omega) (by decide)), z_gdT (z_inN (by omega) (by decide)), z_gdT (z_inN (by omega) (by decide)), z_xN (by omega)]
      generalize hs4 : z_pt (z_pt (z_pt (z_pt σ (c + 1) (an a) k) (c + 2) (an a) m) (c + 3) (an a) s) c 5 ((z_pt (z_pt (z_pt σ (c + 1) (an a) k) (c + 2) (an a) m) (c + 3) (an a) s).1 c 5 + 1) = s4
      have hM : cM s4 c (an a + 1, ar a, upd (ak a) (an a) k, upd (am a) (an a) m, upd (as_ a) (an a) s, ah a, ac a, au a) := by
        rw [← hs4]
        obtain ⟨g1, g2, g3, g4, g5, g6, g7⟩ := h
        refine ⟨?_, ?_, ?_, ?_, ?_, fun i hi => ⟨?_, ?_, ?_⟩, fun i hi => ?_⟩
        · simp [z_pt_g, g1, nI_1]
        · simpa [z_pt_g] using g2
        · simpa [z_pt_g] using g3
        · simpa [z_pt_g] using g4
        · simpa [z_pt_g] using g5
        · show _ = upd (ak a) (an a) k i
          simp [z_pt_g, upd, (g6 i hi).1]
        · show _ = upd (am a) (an a) m i
          simp [z_pt_g, upd, (g6 i hi).2.1]
        · show _ = upd (as_ a) (an a) s i
          simp [z_pt_g, upd, (g6 i hi).2.2]
        · have := g7 i hi
          simpa [z_pt_g] using this
      obtain ⟨σ', e1, e2, e3⟩ := c_enter (p := an a) (i := (ar a).length) hM (by show (ar a).length < 6; omega) (Nat.le_refl _)
      have e6 : s4.1 c 6 = nI (ar a).length := hM.2.1
      rw [e6, z_bdE e1]
      refine ⟨σ', rfl, ?_, fun q hq => ?_⟩
      · have e5 : aEnter (an a + 1, ar a, upd (ak a) (an a) k, upd (am a) (an a) m, upd (as_ a) (an a) s, ah a, ac a, au a) (an a) (ar a).length = aJoin a k m s := by
          simp only [aEnter, aJoin]
          rw [List.insertIdx_length_self]
        rw [← e5]; exact e2
      · simp only [not_or] at hq
        rw [e3 q (by omega), ← hs4, z_pt_r hq.1, z_pt_r hq.2.2.2.1, z_pt_r hq.2.2.1, z_pt_r hq.2.1]
  · have hb' : ¬ (0 ≤ k.toInt ∧ k.toInt ≤ 5 ∧ 0 ≤ m.toInt ∧ m.toInt ≤ 9 ∧ 0 ≤ s.toInt ∧ s.toInt ≤ 99 ∧ ¬ an a = 6) := by omega
    simp only [if_neg hb, if_neg hb']
    refine ⟨σ, ?_, h, cK_rf⟩
    repeat' split
    all_goals first | rfl | omega
