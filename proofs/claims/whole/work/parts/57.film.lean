/-! film -/
theorem z_mn_in {x y : Int32} (hx : 0 ≤ x.toInt ∧ x.toInt ≤ 99) (hy : 0 ≤ y.toInt ∧ y.toInt ≤ 99) : 0 ≤ (z_mn x y).toInt ∧ (z_mn x y).toInt ≤ 99 := by
  unfold z_mn
  split
  · exact hy
  · exact hx
theorem gGrip_in {tv : zTV} {a : aS} {p q : Nat} (hw : aW a) (hp : p < 6) : 0 ≤ (gGrip tv a p q).toInt ∧ (gGrip tv a p q).toInt ≤ 99 := by
  have h := (hw.2.2.2.2.1 p hp).2.2
  unfold gGrip
  repeat' split
  all_goals first | (with_reducible exact zb_in _) | (with_reducible exact h) | decide
theorem gHold_in {tv : zTV} {a : aS} {p q : Nat} (hw : aW a) (hp : p < 6) (hq : q < 6) : 0 ≤ (gHold tv a p q).toInt ∧ (gHold tv a p q).toInt ≤ 99 := z_mn_in (gGrip_in hw hp) (gGrip_in hw hq)
theorem gH_in {tv : zTV} {a : aS} {i : Nat} (hw : aW a) (hi : i < (ar a).length) : 0 ≤ (gH tv a i).toInt ∧ (gH tv a i).toInt ≤ 99 := by
  have h6 := hw.1
  have h1 := aR_lt hw hi
  have h2 := aR_lt hw (show (i + 1) % (ar a).length < (ar a).length from Nat.mod_lt _ (by omega))
  exact gHold_in hw (by omega) (by omega)
theorem z_byte : ∀ n, n < 100 → (nI n).toInt8.toInt32 = nI n := by decide +kernel
theorem zCut_id {v : Int32} (h : 0 ≤ v.toInt ∧ v.toInt ≤ 99) : zCut 0 v = v := by
  obtain ⟨n, hn, rfl⟩ := z_ofI (x := v) (N := 100) (by omega)
  exact z_byte n hn
section ZPUB17
theorem q_film {s n : Nat} (hs : s < 4) : ∀ (m q i : Nat) (l : List Int32) (g : zG) (σ τ : z_Mem), cG σ g → mG τ g → gW g → gS g s = some (0, l) → l.length = n → n = aN (gA g) → i + m = n → m < q → zSame (fX5_film_34 q (nI n) (28 + 2 * s) (nI i) σ) (fX6_film_37 q (nI s) (nI n) (nI i) τ)
  | m, 0, i, l, g, σ, τ, _, _, _, _, _, _, _, h => absurd h (Nat.not_lt_zero _)
  | 0, q + 1, i, l, g, σ, τ, hc, hm, hw, hS, hl, hN, hi, hq => by
    have := aN_le hw.1.1
    rw [fX5_film_34, fX6_film_37, if_pos (nI_le (by omega) (by omega)), if_pos (nI_le (by omega) (by omega))]
    exact zSame_ret hc hm hw
  | m + 1, q + 1, i, l, g, σ, τ, hc, hm, hw, hS, hl, hN, hi, hq => by
    have hA := hw.1.1
    have hle := aN_le hA
    have hil : i < (ar (gA g)).length := by omega
    rw [fX5_film_34, fX6_film_37, if_neg (nI_ge (by omega) (by omega)), if_neg (nI_ge (by omega) (by omega))]
    obtain ⟨r1, s1, f1, v1, k1⟩ := c_holdFrom hc.1 hA hc.2.2.1 hw.1.2.1 (by decide) hil
    obtain ⟨r2, t1, f2, v2, k2⟩ := m_hold hm.1 hA hm.2.2.1 hw.1.2.1 hil
    have hc1 := cG_k hc (cK_4 k1)
    have hm1 := mG_k hm k2
    have c5 := hc1.2.2.2.2 s hs
    have m5 := hm1.2.2.2.2 s hs
    rw [hS] at c5 m5
    rw [z_bdE f1, z_bdE f2, m40, z_gdT (z_inN (by omega) (by decide)), z_xN (by omega), v1, v2]
    have e := c_shPut (v := gH (gV g) (gA g) i) c5.2.1 c5.1 (show l.length ≤ 40 by omega) (by omega) (show i < l.length by omega)
    rw [z_bdE e, zCut_id (gH_in hA hil), z_stE, nI_1]
    refine q_film hs m q (i + 1) (l.set i (gH (gV g) (gA g) i)) (gSet g s (some (0, l.set i (gH (gV g) (gA g) i)))) _ _ (cG_s hc1 (fun k hk => z_pt_r (by omega)) (cSheet_set c5 (by omega))) (mG_s hm1 hw (mSf_pt (by omega)).1 (mSf_pt (by omega)).2 (mSheet_set m5 (by omega))) (gW_s hw (fun k l' q => ?_)) ?_ (by simp; exact hl) hN (by omega) (by omega)
    · cases q
      simp
      omega
    · show va_up (gS g) s _ s = _
      exact if_pos rfl
variable {σ τ : z_Mem} {g : zG}
theorem p_film (hc : cG σ g) (hm : mG τ g) (hw : gW g) (x : Int32) : zSame (fX5_film x σ) (fX6_film x τ) := by
  have hA := hw.1.1
  have h6 := aW_len hA
  have hle := aN_le hA
  by_cases h1 : 0 ≤ x.toInt ∧ x.toInt < (4 : Nat)
  rotate_left
  · unfold fX5_film fX6_film
    rw [z_bdE c_isSheet, z_bdE m_isSheet]
    simp only [if_neg h1, if_true]
    exact zSame_ret hc hm hw
  obtain ⟨s, hs, rfl⟩ := z_ofI h1
  have Q : zSame (z_bd (fX3_become (28 + 2 * s) (nI 0) (nI (aN (gA g))) σ) (fun _ s4 => fX5_film_34 z_FU (nI (aN (gA g))) (28 + 2 * s) 0 s4)) (z_bd (fX6_sheet (nI s) (nI 0) (nI (aN (gA g))) τ) (fun _ s2 => fX6_film_37 z_FU (nI s) (nI (aN (gA g))) 0 s2)) := by
    obtain ⟨σ', e1, q1, k1⟩ := c_becomeS (s := s) (k := 0) (n := aN (gA g)) (σ := σ) (by omega)
    obtain ⟨τ', e2, m2, k2⟩ := m_sheetS (τ := τ) (n := aN (gA g)) (k := 0) hs (by omega) (by omega)
    rw [z_bdE e1, z_bdE e2]
    have := q_film (n := aN (gA g)) hs (aN (gA g)) z_FU 0 (List.replicate (aN (gA g)) 0) (gSet g s (some (0, List.replicate (aN (gA g)) 0))) σ' τ' (cG_s hc k1 q1) (mG_s hm hw k2.1 k2.2 m2) (gW_s hw (fun k l q => by
      cases q
      simp
      omega)) (if_pos rfl) (by simp) rfl (by omega) (by simp only [z_FU]; omega)
    rw [nI_0] at this
    exact this
  unfold fX5_film fX6_film
  rw [z_bdE (c_isSheetN hs), z_bdE (m_isSheetN hs), if_neg z_10, if_neg z_10, z_bdE (c_holds hc.1 hA), z_gdT (z_inN hs (by decide)), z_xN (by omega), hm.1.2.1]
  by_cases l2 : (ar (gA g)).length < 2
  · have hN : aN (gA g) = 0 := if_pos l2
    rw [if_pos l2, if_pos (by rw [show (1 : Int32) = nI 1 by decide]; exact nI_le (by omega) (by omega))]
    rw [hN] at Q
    exact Q
  · have hN : aN (gA g) = (ar (gA g)).length := if_neg l2
    rw [if_neg l2, if_neg (by rw [show (1 : Int32) = nI 1 by decide]; exact nI_ge (by omega) (by omega))]
    rw [hN] at Q
    exact Q
end ZPUB17
