theorem z_ac_f (σ : z_Mem) (k0 k1 sp dp n k' j : Nat) : (z_ac σ k0 k1 sp dp n).1 k' j = if k' = k1 then (if dp ≤ j ∧ j < dp + n then σ.1 k0 (sp + (j - dp)) else σ.1 k1 j) else σ.1 k' j := by
  unfold z_ac
  rw [z_cp_f]
  simp only [va_cpy]
theorem z_ac_r {σ : z_Mem} {k0 k1 sp dp n k' : Nat} (h : k' ≠ k1) : (z_ac σ k0 k1 sp dp n).1 k' = σ.1 k' := by
  funext j
  rw [z_ac_f, if_neg h]
theorem z_cpOk6 : z_cpOk (0 : Int32) (0 : Int32) (6 : Int32) 6 6 := by decide
theorem z_x0 : z_x (0 : Int32) = 0 := rfl
theorem z_x6 : z_x (6 : Int32) = 6 := rfl
theorem c_takeFrom {σ : z_Mem} {c b : Nat} {a : aS} (h : cM σ b a) (hw : aW a) (hd : c + 5 ≤ b ∨ b + 5 ≤ c) : ∃ σ', fX0_takeFrom c b σ = some ((), σ') ∧ cM σ' c a ∧ cK (fun k => c ≤ k ∧ k ≤ c + 4) σ σ' := by
  have h6 := aW_len hw
  obtain ⟨g1, g2, g3, g4, g5, g6, g7⟩ := h
  unfold fX0_takeFrom
  simp only [z_st, z_gdT z_cpOk6, z_x0, z_x6]
  refine ⟨_, rfl, ⟨?_, ?_, ?_, ?_, ?_, fun i hi => ⟨?_, ?_, ?_⟩, fun i hi => ?_⟩, fun k hk => ?_⟩
  · rw [z_pt_2 (by decide), z_pt_2 (by decide), z_pt_2 (by decide), z_pt_2 (by decide), z_pt_1, z_ac_r (by omega), z_ac_r (by omega), z_ac_r (by omega), z_ac_r (by omega)]; exact g1
  · rw [z_pt_2 (by decide), z_pt_2 (by decide), z_pt_2 (by decide), z_pt_1, z_pt_3 (by omega), z_ac_r (by omega), z_ac_r (by omega), z_ac_r (by omega), z_ac_r (by omega)]; exact g2
  · rw [z_pt_2 (by decide), z_pt_2 (by decide), z_pt_1, z_pt_3 (by omega), z_pt_3 (by omega), z_ac_r (by omega), z_ac_r (by omega), z_ac_r (by omega), z_ac_r (by omega)]; exact g3
  · rw [z_pt_2 (by decide), z_pt_1, z_pt_3 (by omega), z_pt_3 (by omega), z_pt_3 (by omega), z_ac_r (by omega), z_ac_r (by omega), z_ac_r (by omega), z_ac_r (by omega)]; exact g4
  · rw [z_pt_1, z_pt_3 (by omega), z_pt_3 (by omega), z_pt_3 (by omega), z_pt_3 (by omega), z_ac_r (by omega), z_ac_r (by omega), z_ac_r (by omega), z_ac_r (by omega)]; exact g5
  · rw [z_pt_3 (by omega), z_pt_3 (by omega), z_pt_3 (by omega), z_pt_3 (by omega), z_pt_3 (by omega), z_ac_r (by omega), z_ac_r (by omega), z_ac_r (by omega), z_ac_f, if_pos rfl, if_pos (by omega)]; rw [show 0 + (i - 0) = i by omega]; exact (g6 i hi).1
  · rw [z_pt_3 (by omega), z_pt_3 (by omega), z_pt_3 (by omega), z_pt_3 (by omega), z_pt_3 (by omega), z_ac_r (by omega), z_ac_r (by omega), z_ac_f, if_pos rfl, if_pos (by omega), z_ac_r (by omega)]; rw [show 0 + (i - 0) = i by omega]; exact (g6 i hi).2.1
  · rw [z_pt_3 (by omega), z_pt_3 (by omega), z_pt_3 (by omega), z_pt_3 (by omega), z_pt_3 (by omega), z_ac_r (by omega), z_ac_f, if_pos rfl, if_pos (by omega), z_ac_r (by omega), z_ac_r (by omega)]; rw [show 0 + (i - 0) = i by omega]; exact (g6 i hi).2.2
  · rw [z_pt_3 (by omega), z_pt_3 (by omega), z_pt_3 (by omega), z_pt_3 (by omega), z_pt_3 (by omega), z_ac_f, if_pos rfl, if_pos (by omega), z_ac_r (by omega), z_ac_r (by omega), z_ac_r (by omega)]; rw [show 0 + (i - 0) = i by omega]; exact g7 i hi
  · rw [z_pt_r (by omega), z_pt_r (by omega), z_pt_r (by omega), z_pt_r (by omega), z_pt_r (by omega), z_ac_r (by omega), z_ac_r (by omega), z_ac_r (by omega), z_ac_r (by omega)]
theorem c_trait0 {σ : z_Mem} {c : Nat} {a : aS} {x : Int32} (h : cM σ c a) : fX0_trait c 0 x σ = some (ah a, σ) := by
  unfold fX0_trait
  simp [h.2.2.1]
theorem c_trait1 {σ : z_Mem} {c : Nat} {a : aS} {x : Int32} (h : cM σ c a) : fX0_trait c 1 x σ = some (ac a, σ) := by
  unfold fX0_trait
  simp [h.2.2.2.1]
theorem c_trait2 {σ : z_Mem} {c p : Nat} {a : aS} (h : cM σ c a) (hw : aW a) (hp : p < an a) : fX0_trait c 2 (nI p) σ = some (am a p, σ) := by
  have h6 := hw.1
  unfold fX0_trait
  rw [z_bdE (c_hasN h hw hp)]
  simp only [z_gdT (z_inN (show p < 6 by omega) (by decide)), z_xN (show p < 2 ^ 31 by omega), (h.2.2.2.2.2.1 p (by omega)).2.1]
  simp
theorem c_trait3 {σ : z_Mem} {c p : Nat} {a : aS} (h : cM σ c a) (hw : aW a) (hp : p < an a) : fX0_trait c 3 (nI p) σ = some (as_ a p, σ) := by
  have h6 := hw.1
  unfold fX0_trait
  rw [z_bdE (c_hasN h hw hp)]
  simp only [z_gdT (z_inN (show p < 6 by omega) (by decide)), z_xN (show p < 2 ^ 31 by omega), (h.2.2.2.2.2.1 p (by omega)).2.2]
  simp
theorem c_trait4 {σ : z_Mem} {c p : Nat} {a : aS} (h : cM σ c a) (hw : aW a) (hp : p < an a) : fX0_trait c 4 (nI p) σ = some (ak a p, σ) := by
  have h6 := hw.1
  unfold fX0_trait
  rw [z_bdE (c_hasN h hw hp)]
  simp only [z_gdT (z_inN (show p < 6 by omega) (by decide)), z_xN (show p < 2 ^ 31 by omega), (h.2.2.2.2.2.1 p (by omega)).1]
  simp
/-- a trait becomes v: 0 hour, 1 cold, 2 number, 3 strength, 4 kind, else the rule -/
def aSup (a : aS) (w p : Nat) (v : Int32) : aS :=
  if w = 0 then (an a, ar a, ak a, am a, as_ a, v, ac a, au a) else if w = 1 then (an a, ar a, ak a, am a, as_ a, ah a, v, au a)
  else if w = 2 then (an a, ar a, ak a, upd (am a) p v, as_ a, ah a, ac a, au a) else if w = 3 then (an a, ar a, ak a, am a, upd (as_ a) p v, ah a, ac a, au a)
  else if w = 4 then (an a, ar a, upd (ak a) p v, am a, as_ a, ah a, ac a, au a) else (an a, ar a, ak a, am a, as_ a, ah a, ac a, z_x v)
theorem c_suppose {σ : z_Mem} {c w p : Nat} {a : aS} {v x : Int32} (h : cM σ c a) (hw : aW a) (hw9 : w ≤ 4 ∨ w = 9) (hp : 2 ≤ w → w ≤ 4 → p < an a ∧ x = nI p) (hv : w = 9 → v = nI (z_x v)) : ∃ σ', fX0_suppose c (nI w) x v σ = some ((), σ') ∧ cM σ' c (aSup a w p v) ∧ cK (fun k => c ≤ k ∧ k ≤ c + 3) σ σ' := by
  have h6 := hw.1
  have h' := h
  obtain ⟨g1, g2, g3, g4, g5, g6, g7⟩ := h
  unfold fX0_suppose
  simp only [z_st]
  rcases (show w = 0 ∨ w = 1 ∨ w = 2 ∨ w = 3 ∨ w = 4 ∨ w = 9 by omega) with rfl | rfl | rfl | rfl | rfl | rfl
  · rw [if_pos (by decide)]
    refine ⟨_, rfl, ?_, fun k hk => z_pt_r (by omega)⟩
    show cM _ c (an a, ar a, ak a, am a, as_ a, v, ac a, au a)
    exact ⟨by simpa [z_pt_g] using g1, by simpa [z_pt_g] using g2, by simp [z_pt_g], by simpa [z_pt_g] using g4, by simpa [z_pt_g] using g5, fun i hi => by simpa [z_pt_g] using g6 i hi, fun i hi => by simpa [z_pt_g] using g7 i hi⟩
  · rw [if_neg (by decide), if_pos (by decide)]
    refine ⟨_, rfl, ?_, fun k hk => z_pt_r (by omega)⟩
    show cM _ c (an a, ar a, ak a, am a, as_ a, ah a, v, au a)
    exact ⟨by simpa [z_pt_g] using g1, by simpa [z_pt_g] using g2, by simpa [z_pt_g] using g3, by simp [z_pt_g], by simpa [z_pt_g] using g5, fun i hi => by simpa [z_pt_g] using g6 i hi, fun i hi => by simpa [z_pt_g] using g7 i hi⟩
  · obtain ⟨hp1, rfl⟩ := hp (by omega) (by omega)
    rw [if_neg (by decide), if_neg (by decide), if_neg (by decide), z_bdE (c_hasN h' hw hp1), if_neg (by decide), if_pos (by decide), z_gdT (z_inN (show p < 6 by omega) (by decide)), z_xN (by omega)]
    refine ⟨_, rfl, ?_, fun k hk => z_pt_r (by omega)⟩
    show cM _ c (an a, ar a, ak a, upd (am a) p v, as_ a, ah a, ac a, au a)
    refine ⟨by simpa [z_pt_g] using g1, by simpa [z_pt_g] using g2, by simpa [z_pt_g] using g3, by simpa [z_pt_g] using g4, by simpa [z_pt_g] using g5, fun i hi => ⟨by simpa [z_pt_g] using (g6 i hi).1, ?_, by simpa [z_pt_g] using (g6 i hi).2.2⟩, fun i hi => by simpa [z_pt_g] using g7 i hi⟩
    show _ = upd (am a) p v i
    simp [z_pt_g, upd, (g6 i hi).2.1]
  · obtain ⟨hp1, rfl⟩ := hp (by omega) (by omega)
    rw [if_neg (by decide), if_neg (by decide), if_neg (by decide), z_bdE (c_hasN h' hw hp1), if_neg (by decide), if_neg (by decide), if_pos (by decide), z_gdT (z_inN (show p < 6 by omega) (by decide)), z_xN (by omega)]
    refine ⟨_, rfl, ?_, fun k hk => z_pt_r (by omega)⟩
    show cM _ c (an a, ar a, ak a, am a, upd (as_ a) p v, ah a, ac a, au a)
    refine ⟨by simpa [z_pt_g] using g1, by simpa [z_pt_g] using g2, by simpa [z_pt_g] using g3, by simpa [z_pt_g] using g4, by simpa [z_pt_g] using g5, fun i hi => ⟨by simpa [z_pt_g] using (g6 i hi).1, by simpa [z_pt_g] using (g6 i hi).2.1, ?_⟩, fun i hi => by simpa [z_pt_g] using g7 i hi⟩
    show _ = upd (as_ a) p v i
    simp [z_pt_g, upd, (g6 i hi).2.2]
  · obtain ⟨hp1, rfl⟩ := hp (by omega) (by omega)
    rw [if_neg (by decide), if_neg (by decide), if_neg (by decide), z_bdE (c_hasN h' hw hp1), if_neg (by decide), if_neg (by decide), if_neg (by decide), z_gdT (z_inN (show p < 6 by omega) (by decide)), z_xN (by omega)]
    refine ⟨_, rfl, ?_, fun k hk => z_pt_r (by omega)⟩
    show cM _ c (an a, ar a, upd (ak a) p v, am a, as_ a, ah a, ac a, au a)
    refine ⟨by simpa [z_pt_g] using g1, by simpa [z_pt_g] using g2, by simpa [z_pt_g] using g3, by simpa [z_pt_g] using g4, by simpa [z_pt_g] using g5, fun i hi => ⟨?_, by simpa [z_pt_g] using (g6 i hi).2.1, by simpa [z_pt_g] using (g6 i hi).2.2⟩, fun i hi => by simpa [z_pt_g] using g7 i hi⟩
    show _ = upd (ak a) p v i
    simp [z_pt_g, upd, (g6 i hi).1]
  · rw [if_neg (by decide), if_neg (by decide), if_pos (by decide)]
    refine ⟨_, rfl, ?_, fun k hk => z_pt_r (by omega)⟩
    show cM _ c (an a, ar a, ak a, am a, as_ a, ah a, ac a, z_x v)
    refine ⟨by simpa [z_pt_g] using g1, by simpa [z_pt_g] using g2, by simpa [z_pt_g] using g3, by simpa [z_pt_g] using g4, ?_, fun i hi => by simpa [z_pt_g] using g6 i hi, fun i hi => by simpa [z_pt_g] using g7 i hi⟩
    show _ = nI (z_x v)
    rw [← hv rfl]
    simp [z_pt_g]
