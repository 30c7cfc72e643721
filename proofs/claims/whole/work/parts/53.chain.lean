/-! chain, taken -/
theorem m3a {i : Nat} : nI i + (3 : Int32) = nI (i + 3) := by rw [show (3 : Int32) = nI 3 by decide, nI_add]
section ZPUB12
theorem q_chain {s n w : Nat} (hs : s < 4) (hn : n ≤ 6) (hw31 : w < 2 ^ 31) {kk : Nat} {l : List Int32} : ∀ (m q k : Nat) (came : Int32) (σ τ : z_Mem) (g : zG), cG σ g → mG τ g → gW g → gS g s = some (kk, l) → (0 < k → w + 3 * k ≤ l.length) → k + m = n → m < q → zSame (fX5_chain_72 q (nI n) (28 + 2 * s) came (nI (w + 3 * k)) (nI k) σ) (fX6_chain_75 q (nI s) (nI w) (nI n) came (nI k) τ)
  | m, 0, k, came, σ, τ, g, _, _, _, _, _, _, h => absurd h (Nat.not_lt_zero _)
  | 0, q + 1, k, came, σ, τ, g, hc, hm, hw, hS, hl, hk, hq => by
    rw [fX5_chain_72, fX6_chain_75, if_pos (nI_le (by omega) (by omega)), if_pos (nI_le (by omega) (by omega))]
    exact zSame_ret hc hm hw
  | m + 1, q + 1, k, came, σ, τ, g, hc, hm, hw, hS, hl, hk, hq => by
    obtain ⟨hkk, hl40⟩ := hw.2.2.2.2.2 s kk l hS
    have c5 := hc.2.2.2.2 s hs
    have m5 := hm.2.2.2.2 s hs
    rw [hS] at c5 m5
    have h31 : w + 3 * k < 2 ^ 31 := by
      by_cases e : 0 < k
      · have := hl e
        omega
      · omega
    rw [fX5_chain_72, fX6_chain_75, if_neg (nI_ge (by omega) (by omega)), if_neg (nI_ge (by omega) (by omega)), if_neg (nI_pos hw31), z_gdT (z_inN hs (by decide)), z_xN (show s < 2 ^ 31 by omega), m5.2.2.1]
    have e1 : (nI l.length - (3 : Int32) * nI k - (3 : Int32)).toInt = (l.length : Int) - 3 * k - 3 := by
      rw [m3, Int32.toInt_sub, Int32.toInt_sub, nI_toInt (by omega), nI_toInt (by omega), show (3 : Int32).toInt = 3 from rfl, Int.bmod_eq_of_le (n := (l.length : Int) - ((3 * k : Nat) : Int)) (by omega) (by omega), Int.bmod_eq_of_le (by omega) (by omega)]
      omega
    have e2 : nI w ≤ nI l.length - (3 : Int32) * nI k - (3 : Int32) ↔ w + 3 * k + 3 ≤ l.length := by
      rw [Int32.le_iff_toInt_le, e1, nI_toInt hw31]
      omega
    by_cases g1 : w + 3 * k + 3 ≤ l.length
    rotate_left
    · rw [z_bdE (c_shRunF c5.2.1 hl40 (by rw [nI_toInt h31, show (3 : Int32).toInt = 3 from rfl]; omega)), if_pos rfl, if_neg (fun q => g1 (e2.mp q))]
      exact zSame_ret hc hm hw
    rw [z_bdE (c_shRunT c5.2.1 hl40 (by rw [nI_toInt h31, show (3 : Int32).toInt = 3 from rfl]; omega)), if_neg z_10, if_pos (e2.mpr g1)]
    simp only [m40, m3, nI_add, nI_1, m3_2, m3a]
    rw [z_gdT (z_inN (by omega) (by decide)), z_gdT (z_inN (by omega) (by decide)), z_gdT (z_inN (by omega) (by decide)), z_gdT (z_inN (by omega) (by decide)), z_gdT (z_inN (by omega) (by decide)), z_gdT (z_inN (by omega) (by decide))]
    rw [z_xN (show w + 3 * k < 2 ^ 31 by omega), z_xN (show w + 3 * k + 1 < 2 ^ 31 by omega), z_xN (show w + 3 * k + 2 < 2 ^ 31 by omega), z_xN (show 40 * s + w + 3 * k < 2 ^ 31 by omega), z_xN (show 40 * s + w + 3 * k + 1 < 2 ^ 31 by omega), z_xN (show 40 * s + w + 3 * k + 2 < 2 ^ 31 by omega)]
    have em : ∀ t, t < 3 → τ.1 14 (40 * s + w + 3 * k + t) = σ.1 (28 + 2 * s + 1) (w + 3 * k + t) := fun t ht => by
      rw [c5.2.2 _ (by omega), ← m5.2.2.2 _ (by omega)]
      exact congrArg (τ.1 14) (by omega)
    have em0 := em 0 (by omega)
    have em1 := em 1 (by omega)
    have em2 := em 2 (by omega)
    rw [Nat.add_zero, Nat.add_zero] at em0
    rw [em0, em1, em2]
    generalize σ.1 (28 + 2 * s + 1) (w + 3 * k) = v0
    generalize σ.1 (28 + 2 * s + 1) (w + 3 * k + 1) = v1
    generalize σ.1 (28 + 2 * s + 1) (w + 3 * k + 2) = v2
    obtain ⟨σ', f1, c1, k1⟩ := c_join (k := v0) (m := v1) (s := v2) hc.1 hw.1.1
    obtain ⟨τ', f2, m2, k2⟩ := m_man (k := v0) (m := v1) (s := v2) hm.1 hw.1.1
    rw [z_bdE f1, z_bdE f2]
    have hc' := cG_a hc (cK_mono k1 (fun k hk => by unfold zScr; omega)) c1
    have hm' := mG_a hm k2 m2
    have hw' : gW (if 0 ≤ v0.toInt ∧ v0.toInt ≤ 5 ∧ 0 ≤ v1.toInt ∧ v1.toInt ≤ 9 ∧ 0 ≤ v2.toInt ∧ v2.toInt ≤ 99 ∧ ¬ an (gA g) = 6 then aJoin (gA g) v0 v1 v2 else gA g, g.2) := by
      refine gW_a hw ?_
      split
      · rename_i hz
        exact aJoin_W hw.1 (by show zMan v0 v1 v2; omega) (by omega)
      · exact hw.1
    have IH := fun c => q_chain hs hn hw31 m q (k + 1) c σ' τ' _ hc' hm' hw' hS (fun _ => by omega) (by omega) (by omega)
    rw [show w + 3 * k + 3 = w + 3 * (k + 1) by omega]
    by_cases hr : (if 0 ≤ v0.toInt ∧ v0.toInt ≤ 5 ∧ 0 ≤ v1.toInt ∧ v1.toInt ≤ 9 ∧ 0 ≤ v2.toInt ∧ v2.toInt ≤ 99 then (if an (gA g) = 6 then (-4 : Int32) else nI (an (gA g))) else -2) < 0
    · rw [if_pos hr, if_pos hr, Int32.add_zero]
      exact IH came
    · rw [if_neg hr, if_neg hr]
      exact IH (came + 1)
variable {σ τ : z_Mem} {g : zG}
theorem p_chain (hc : cG σ g) (hm : mG τ g) (hw : gW g) (x y f v : Int32) : zSame (fX5_chain x y f v σ) (fX6_chain x y f v τ) := by
  have hbad : zSame (some ((-2 : Int32), σ)) (some ((-2 : Int32), τ)) := zSame_ret hc hm hw
  unfold fX5_chain fX6_chain
  rw [z_bdE c_isSheet, z_bdE m_isSheet]
  by_cases h1 : 0 ≤ x.toInt ∧ x.toInt < (4 : Nat)
  rotate_left
  · simp only [if_neg h1, if_true]
    exact hbad
  simp only [if_pos h1, if_neg z_10]
  rw [z_bdE m_in, show (0 : Int64).toInt = 0 from rfl, show (2 : Int64).toInt = 2 from rfl]
  by_cases h2 : 0 ≤ y.toInt ∧ y.toInt ≤ 2
  rotate_left
  · simp only [if_neg h2, if_true]
    simp only [z_ge0 (x := y), Int32.lt_iff_toInt_lt (x := (2 : Int32)), show (2 : Int32).toInt = 2 from rfl]
    by_cases q : y.toInt < 0
    · rw [if_pos q]; exact hbad
    · rw [if_neg q, if_pos (by omega)]; exact hbad
  simp only [if_pos h2, if_neg z_10, if_neg (show ¬ y < 0 by rw [z_ge0]; omega), if_neg (show ¬ (2 : Int32) < y by rw [Int32.lt_iff_toInt_lt, show (2 : Int32).toInt = 2 from rfl]; omega)]
  rw [z_bdE m_in, show (0 : Int64).toInt = 0 from rfl, show (6 : Int64).toInt = 6 from rfl]
  by_cases h3 : 0 ≤ v.toInt ∧ v.toInt ≤ 6
  rotate_left
  · simp only [if_neg h3, if_true]
    simp only [z_ge0 (x := v), Int32.le_iff_toInt_le (y := (6 : Int32)), show (6 : Int32).toInt = 6 from rfl]
    by_cases q : v.toInt < 0
    · rw [if_pos q]; exact hbad
    · rw [if_neg q, if_neg (by omega)]; exact hbad
  simp only [if_pos h3, if_neg z_10, if_neg (show ¬ v < 0 by rw [z_ge0]; omega), if_pos (show v ≤ 6 by rw [Int32.le_iff_toInt_le, show (6 : Int32).toInt = 6 from rfl]; omega)]
  obtain ⟨s, hs, rfl⟩ := z_ofI h1
  obtain ⟨n, hn, rfl⟩ := z_ofI (x := v) (N := 7) (by omega)
  simp only [z_gdT (z_inN hs (show 4 < 2 ^ 31 by decide)), z_xN (show s < 2 ^ 31 by omega)]
  match hS : gS g s, hc.2.2.2.2 s hs, hm.2.2.2.2 s hs with
  | none, c5, m5 =>
    rw [if_pos c5.1, if_pos (show τ.1 11 s = 0 from m5), if_pos (show τ.1 11 s = 0 from m5)]
    exact zSame_ret hc hm hw
  | some (k, l), c5, m5 =>
    obtain ⟨hk, hl⟩ := hw.2.2.2.2.2 s k l hS
    have hne : ¬ τ.1 11 s = 0 := by rw [m5.1]; exact z_10
    rw [if_neg (by rw [c5.1]; exact nI_neg1 (by omega)), if_neg hne, if_neg hne, c5.1, m5.2.1]
    by_cases e : nI k = y
    rotate_left
    · rw [if_neg e, if_neg e]
      exact zSame_ret hc hm hw
    rw [if_pos e, if_pos e]
    by_cases f0 : f < 0
    · rw [show z_FU = 999 + 1 from rfl, fX5_chain_72, fX6_chain_75]
      by_cases n0 : n = 0
      · subst n0
        rw [if_pos (by decide), if_pos (by decide)]
        exact zSame_ret hc hm hw
      · have h0n : ¬ nI n ≤ 0 := nI_nle (by omega) (by omega)
        rw [if_neg h0n, if_neg h0n, if_pos f0, z_bdE (c_shRunF c5.2.1 hl (by rw [z_ge0] at f0; omega)), if_pos rfl]
        exact zSame_ret hc hm hw
    · obtain ⟨w, hw31, rfl⟩ := nI_of f0
      have := q_chain hs (show n ≤ 6 by omega) hw31 n z_FU 0 0 σ τ g hc hm hw hS (fun q => by omega) (by omega) (by simp only [z_FU]; omega)
      rw [nI_0] at this
      exact this
theorem m_taken_q {τ : z_Mem} {p : Nat} (q : Nat) : ∀ k, k < 6 → ∀ b, b < 6 → fX6_taken_37 (q + 7) (nI p) (nI b) (nI k) τ = if zUnd k b = true then z_gd (z_in ((3 : Int32) * nI p) 18) (some (τ.1 4 (z_x ((3 : Int32) * nI p)), τ)) else some (-13, τ) := by
  intro k hk b hb
  have hb' : b = 0 ∨ b = 1 ∨ b = 2 ∨ b = 3 ∨ b = 4 ∨ b = 5 := by omega
  rcases (show k = 0 ∨ k = 1 ∨ k = 2 ∨ k = 3 ∨ k = 4 ∨ k = 5 by omega) with rfl | rfl | rfl | rfl | rfl | rfl <;> rcases hb' with rfl | rfl | rfl | rfl | rfl | rfl <;> rfl
theorem p_taken (hc : cG σ g) (hm : mG τ g) (hw : gW g) (x y : Int32) : zSame (fX5_taken x y σ) (fX6_taken x y τ) := by
  have hA := hw.1.1
  have h6 := hA.1
  unfold fX5_taken fX6_taken
  rw [z_bdE m_in, show (0 : Int64).toInt = 0 from rfl, show (5 : Int64).toInt = 5 from rfl]
  by_cases h2 : 0 ≤ y.toInt ∧ y.toInt ≤ 5
  rotate_left
  · simp only [if_neg h2, if_true]
    simp only [z_ge0 (x := y), Int32.lt_iff_toInt_lt (x := y) (y := (6 : Int32)), show (6 : Int32).toInt = 6 from rfl]
    by_cases q : y.toInt < 0
    · rw [if_pos q]; exact zSame_ret hc hm hw
    · rw [if_neg q, if_neg (by omega)]; exact zSame_ret hc hm hw
  simp only [if_pos h2, if_neg z_10, if_neg (show ¬ y < 0 by rw [z_ge0]; omega), if_pos (show y < 6 by rw [Int32.lt_iff_toInt_lt, show (6 : Int32).toInt = 6 from rfl]; omega)]
  rw [z_bdE (c_has hc.1 hA), z_bdE (m_isOne hm.1 hA)]
  by_cases h1 : 0 ≤ x.toInt ∧ x.toInt < an (gA g)
  rotate_left
  · simp only [if_neg h1, if_true]
    exact zSame_ret hc hm hw
  simp only [if_pos h1, if_neg z_10]
  obtain ⟨p, hp, rfl⟩ := z_ofI h1
  obtain ⟨b, hb, rfl⟩ := z_ofI (x := y) (N := 6) (by omega)
  obtain ⟨k, hk, ek⟩ := zKind hA (show p < 6 by omega)
  have hr := hm.1.2.2.2.2.2.1 p (by omega)
  rw [z_bdE (c_trait4 hc.1 hA hp), m3, m3_2, z_gdT (z_inN (by omega) (by decide)), z_xN (by omega), hr.1, ek, z_bdE (c_isUnder hk hb), show z_FU = 993 + 7 from rfl, m_taken_q 993 k hk b hb]
  by_cases e : zUnd k b = true
  · rw [if_pos e, if_neg z_10, if_pos e, z_bdE (c_trait2 hc.1 hA hp), m3, z_gdT (z_inN (by omega) (by decide)), z_xN (by omega), hr.2.1]
    exact zSame_ret hc hm hw
  · rw [if_neg e, if_pos rfl, if_neg e]
    exact zSame_ret hc hm hw
end ZPUB12
