/-! sneeze, mean -/
theorem gHand_in {tv : zTV} {a : aS} {p : Nat} {x : Int32} : 0 ≤ (gHand tv a p x).toInt ∧ (gHand tv a p x).toInt ≤ 99 := by
  unfold gHand
  repeat' split
  all_goals (with_reducible exact zb_in _)
section ZPUB13
theorem q_sneeze {w : Int32} {g : zG} (hw : gW g) : ∀ (m q got i j : Nat) (last lh come : Int32) (σ τ : z_Mem), cG σ g → mG τ g → got + m = 60 → m < q → i < (ar (gA g)).length → j < 200 - m → j % (ar (gA g)).length = (i + 1) % (ar (gA g)).length → 0 ≤ come.toInt ∧ come.toInt ≤ 99 → zSame (fX5_sneeze_65 q w (nI i) (nI got) last lh come σ) (fX6_sneeze_77 q w (nI got) last lh come (nI j) τ)
  | m, 0, got, i, j, last, lh, come, σ, τ, _, _, _, h, _, _, _, _ => absurd h (Nat.not_lt_zero _)
  | 0, q + 1, got, i, j, last, lh, come, σ, τ, hc, hm, hk, hq, hi, hj, hij, hx => by
    have : got = 60 := by omega
    subst this
    rw [fX5_sneeze_65, fX6_sneeze_77, if_pos (show (60 : Int32) ≤ nI 60 by decide), if_pos (show (60 : Int32) ≤ nI 60 by decide), ite_self]
    unfold fX5_sneeze_j122 fX6_sneeze_j126
    repeat' split
    all_goals exact zSame_ret hc hm hw
  | m + 1, q + 1, got, i, j, last, lh, come, σ, τ, hc, hm, hk, hq, hi, hj, hij, hx => by
    have hA := hw.1.1
    have h6 := aW_len hA
    have hmi : (i + 1) % (ar (gA g)).length < (ar (gA g)).length := Nat.mod_lt _ (by omega)
    rw [fX5_sneeze_65, fX6_sneeze_77, if_neg (z_nle 60 60 (by decide) (by omega) (by decide)), if_neg (z_nle 60 60 (by decide) (by omega) (by decide))]
    by_cases h0 : come ≤ 0
    · rw [if_pos h0, if_pos h0]
      unfold fX5_sneeze_j122 fX6_sneeze_j126
      repeat' split
      all_goals exact zSame_ret hc hm hw
    rw [if_neg h0, if_neg h0, z_bdE (c_behind hc.1 hA hi), z_bdE (c_whoN hc.1 hA hmi), hm.1.2.1]
    have er : nI j - nI j / nI (ar (gA g)).length * nI (ar (gA g)).length = nI ((i + 1) % (ar (gA g)).length) := by
      rw [pk_rem (by omega) (by omega) (by omega), hij]
    simp only [er]
    rw [z_gdT (nI_ne0 (by omega) (by omega)), z_gdT (z_inN (by omega) (by decide)), z_xN (by omega), hm.1.2.2.2.2.2.2 _ hmi]
    have hp := aR_lt hA hmi
    obtain ⟨r1, s1, e1, v1, k1⟩ := c_handedOn (x := come) hc.1 hA hc.2.2.1 hw.1.2.1 (by decide) hp
    obtain ⟨r2, s2, e2, v2, k2⟩ := m_handsOf (x := come) hm.1 hA hm.2.2.1 hw.1.2.1 hp hx
    rw [z_bdE e1, z_bdE e2, v1, v2, nI_1, nI_1]
    refine q_sneeze hw m q (got + 1) _ (j + 1) _ _ _ s1 s2 (cG_k hc (cK_4 k1)) (mG_k hm k2) (by omega) (by omega) hmi (by omega) ?_ gHand_in
    rw [Nat.add_mod j 1, hij, ← Nat.add_mod]
    rw [Nat.add_mod ((i + 1) % _) 1, Nat.mod_mod, ← Nat.add_mod]
variable {σ τ : z_Mem} {g : zG}
theorem z_not_in {x : Int32} {a : aS} (hA : aW a) (h : ¬ (0 ≤ x.toInt ∧ x.toInt < an a)) : apl (ar a) x 0 = -1 := by
  have h66 := hA.1
  rcases apl_some (x := x) (l := ar a) (k := 0) with ⟨e, _⟩ | ⟨i, hi, e, e'⟩
  · exact e
  · exfalso
    have hq := hA.2.2.1 ((ar a).getD i 0) (by rw [z_getD hi]; exact List.getElem_mem hi)
    rw [e', nI_toInt (by omega)] at h
    omega
theorem p_sneeze (hc : cG σ g) (hm : mG τ g) (hw : gW g) (x y v : Int32) : zSame (fX5_sneeze x y v σ) (fX6_sneeze x y v τ) := by
  have hA := hw.1.1
  have h6 := aW_len hA
  have hbad : zSame (some ((-2 : Int32), σ)) (some ((-2 : Int32), τ)) := zSame_ret hc hm hw
  unfold fX5_sneeze fX6_sneeze
  rw [z_bdE (c_placeOf hc.1 hA), z_bdE (m_isOne hm.1 hA)]
  by_cases h1 : 0 ≤ x.toInt ∧ x.toInt < an (gA g)
  rotate_left
  · rw [z_not_in hA h1]
    simp only [if_neg h1, if_true]
    exact hbad
  simp only [if_pos h1, if_neg z_10]
  rw [z_bdE (m_placeOf hm.1 hA)]
  rcases apl_some (x := x) (l := ar (gA g)) (k := 0) with ⟨e, _⟩ | ⟨i, hi, e, _⟩
  · simp only [e, if_true]
    exact hbad
  rw [Nat.zero_add] at e
  simp only [e, if_neg (nI_neg1 (show i < 2 ^ 31 by omega))]
  rw [z_bdE m_in, show (0 : Int64).toInt = 0 from rfl, show (99 : Int64).toInt = 99 from rfl]
  by_cases h2 : 0 ≤ y.toInt ∧ y.toInt ≤ 99
  rotate_left
  · simp only [if_neg h2, if_true]
    simp only [z_ge0 (x := y), Int32.lt_iff_toInt_lt (x := (99 : Int32)), show (99 : Int32).toInt = 99 from rfl]
    by_cases q : y.toInt < 0
    · rw [if_pos q]; exact hbad
    · rw [if_neg q, if_pos (by omega)]; exact hbad
  simp only [if_pos h2, if_neg z_10, if_neg (show ¬ y < 0 by rw [z_ge0]; omega), if_neg (show ¬ (99 : Int32) < y by rw [Int32.lt_iff_toInt_lt, show (99 : Int32).toInt = 99 from rfl]; omega)]
  rw [z_bdE m_in, show (0 : Int64).toInt = 0 from rfl, show (2 : Int64).toInt = 2 from rfl]
  by_cases h3 : 0 ≤ v.toInt ∧ v.toInt ≤ 2
  rotate_left
  · simp only [if_neg h3, if_true]
    simp only [z_ge0 (x := v), Int32.le_iff_toInt_le (y := (2 : Int32)), show (2 : Int32).toInt = 2 from rfl]
    by_cases q : v.toInt < 0
    · rw [if_pos q]; exact hbad
    · rw [if_neg q, if_neg (by omega)]; exact hbad
  simp only [if_pos h3, if_neg z_10, if_neg (show ¬ v < 0 by rw [z_ge0]; omega), if_pos (show v ≤ 2 by rw [Int32.le_iff_toInt_le, show (2 : Int32).toInt = 2 from rfl]; omega)]
  rw [hc.1.2.1, hm.1.2.1, z_bdE (m_placeOf hm.1 hA), z_bdE (m_placeOf hm.1 hA)]
  have e' : apl (ar (gA g)) x 0 = nI i := e
  rw [e', nI_1]
  have Q := fun (come : Int32) hx => q_sneeze (w := v) hw 60 z_FU 0 i (i + 1) (-1) 0 come σ τ hc hm (by omega) (by decide) hi (by omega) rfl hx
  simp only [nI_0] at Q
  by_cases l2 : 2 ≤ (ar (gA g)).length
  · rw [if_pos (z_2le l2 (by omega)), if_neg (by rw [show (1 : Int32) = nI 1 by decide]; exact nI_ge (by omega) (by omega))]
    exact Q y h2
  · rw [if_neg (by rw [show (2 : Int32) = nI 2 by decide]; exact nI_ge (by omega) (by omega)), if_pos (by rw [show (1 : Int32) = nI 1 by decide]; exact nI_le (by omega) (by omega))]
    exact Q 0 (by decide)
end ZPUB13
/-! lowest terms -/
theorem c_low {l0 l1 l2 : Int32} {σ : z_Mem} : ∀ (b a q i : Nat), a < 2 ^ 31 → b < 64 - i → b < q → fX5_lowestTerm_8 q l0 l1 l2 (nI a) (nI b) (nI i) σ = fX5_lowestTerm_j39 l0 l1 l2 (nI (Nat.gcd b a)) σ := by
  intro b
  induction b using Nat.strongRecOn with
  | _ b ih =>
    intro a q i ha hi hq
    match q, hq with
    | q + 1, hq =>
      rw [fX5_lowestTerm_8, if_neg (z_nle 64 64 (by decide) (by omega) (by decide))]
      by_cases e : b = 0
      · subst e
        rw [if_pos (show nI 0 = (0 : Int32) from rfl), Nat.gcd_zero_left]
      · have hb : ¬ nI b = 0 := nI_ne0 (by omega) (by omega)
        rw [if_neg hb, z_gdT hb, pk_rem ha (by omega) (by omega), nI_1, ih (a % b) (Nat.mod_lt _ (by omega)) b q (i + 1) (by omega) (by have := Nat.mod_lt a (show b > 0 by omega); omega) (by have := Nat.mod_lt a (show b > 0 by omega); omega)]
        rw [Nat.gcd_rec b a]
theorem m_low {l0 l2 : Int64} {l4 : Int32} {τ : z_Mem} : ∀ (b a q : Nat), a < 2 ^ 31 → b < 2 ^ 31 → b < q → fX6_lowest_6 q l0 l2 l4 (lN a) (lN b) τ = (if l4 = 0 then (z_gd (¬ lN (Nat.gcd b a) = 0) (some (l0 / lN (Nat.gcd b a), τ))) else (z_gd (¬ lN (Nat.gcd b a) = 0) (some (l2 / lN (Nat.gcd b a), τ)))) := by
  intro b
  induction b using Nat.strongRecOn with
  | _ b ih =>
    intro a q ha hb2 hq
    match q, hq with
    | q + 1, hq =>
      rw [fX6_lowest_6]
      by_cases e : b = 0
      · subst e
        rw [if_pos (by decide), Nat.gcd_zero_left]
      · have hb : ¬ lN b = 0 := by
          rw [show (0 : Int64) = lN 0 from rfl, pk_lEQ (by omega) (by omega)]; exact e
        have hb' : ¬ lg_cmp (lN b) 0 = 0 := by
          rw [show (0 : Int64) = lN 0 from rfl]
          intro q
          have h1 : 0 < lg_cmp (lN b) (lN 0) := by rw [lgc_gt, pk_lT (by omega), pk_lT (by omega)]; omega
          rw [q] at h1
          exact absurd h1 (by decide)
        rw [if_neg hb', z_gdT hb, pk_lRem (by omega) (by omega) (by omega), ih (a % b) (Nat.mod_lt _ (by omega)) b q (by omega) (by have := Nat.mod_lt a (show b > 0 by omega); omega) (by have := Nat.mod_lt a (show b > 0 by omega); omega)]
        rw [Nat.gcd_rec b a]
theorem z_low {a b : Nat} {p : Int32} {σ τ : z_Mem} (ha : a < 2 ^ 31) (hb : b < 64) (h0 : 0 < b) : ∃ r, fX5_lowestTerm (nI a) (nI b) p σ = some (r, σ) ∧ fX6_lowest (lN a) (lN b) p τ = some (r, τ) := by
  have hg : 0 < Nat.gcd b a := Nat.gcd_pos_of_pos_left _ h0
  have hg2 : Nat.gcd b a ≤ b := Nat.gcd_le_left _ h0
  unfold fX5_lowestTerm fX6_lowest
  have e1 := c_low (l0 := nI a) (l1 := nI b) (l2 := p) (σ := σ) b a z_FU 0 ha (by omega) (by simp only [z_FU]; omega)
  rw [nI_0] at e1
  rw [e1, m_low b a z_FU ha (by omega) (by simp only [z_FU]; omega)]
  have hn : ¬ nI (Nat.gcd b a) ≤ 0 := nI_nle hg (by omega)
  have hn' : ¬ nI (Nat.gcd b a) = 0 := nI_ne0 hg (by omega)
  have hl : ¬ lN (Nat.gcd b a) = 0 := by
    rw [show (0 : Int64) = lN 0 from rfl, pk_lEQ (by omega) (by omega)]; omega
  unfold fX5_lowestTerm_j39
  simp only [if_neg hn, z_gdT hn', z_gdT hl]
  rw [pk_div ha hg (by omega), pk_div (by omega) hg (by omega), nI_l (Nat.lt_of_le_of_lt (Nat.div_le_self _ _) ha), nI_l (Nat.lt_of_le_of_lt (Nat.div_le_self _ _) (by omega)), pk_lDiv (by omega) hg (by omega), pk_lDiv (by omega) hg (by omega)]
  by_cases e : p = 0
  · exact ⟨_, by rw [if_pos e], by rw [if_pos e]⟩
  · exact ⟨_, by rw [if_neg e], by rw [if_neg e]⟩
section ZPUB14
theorem z_strN {a : aS} (hw : aW a) {p : Nat} (hp : p < 6) : ∃ n, n ≤ 99 ∧ as_ a p = nI n := by
  obtain ⟨-, -, h1⟩ := hw.2.2.2.2.1 p hp
  obtain ⟨n, hn, e⟩ := z_ofI (x := as_ a p) (N := 100) (by omega)
  exact ⟨n, by omega, e⟩
theorem q_mean {w : Int32} {g : zG} (hw : gW g) (h0 : 0 < (ar (gA g)).length) {σ τ : z_Mem} (hc : cG σ g) (hm : mG τ g) : ∀ (m q i t : Nat), i + m = (ar (gA g)).length → m < q → t ≤ 99 * i → zSame (fX5_mean_28 q w (nI t) (nI i) σ) (fX6_mean_25 q w (nI t) (nI i) τ)
  | m, 0, i, t, _, h, _ => absurd h (Nat.not_lt_zero _)
  | 0, q + 1, i, t, hi, hq, ht => by
    have hA := hw.1.1
    have h6 := aW_len hA
    rw [fX5_mean_28, fX6_mean_25, hc.1.2.1, hm.1.2.1, if_pos (nI_le (by omega) (by omega)), if_pos (nI_le (by omega) (by omega)), nI_l (show t < 2 ^ 31 by omega), nI_l (show (ar (gA g)).length < 2 ^ 31 by omega)]
    obtain ⟨r, e1, e2⟩ := z_low (p := w) (σ := σ) (τ := τ) (show t < 2 ^ 31 by omega) (show (ar (gA g)).length < 64 by omega) h0
    rw [z_bdE e1, z_bdE e2]
    exact zSame_ret hc hm hw
  | m + 1, q + 1, i, t, hi, hq, ht => by
    have hA := hw.1.1
    have h6 := aW_len hA
    have hi2 : i < (ar (gA g)).length := by omega
    have hp := aR_lt hA hi2
    have h66 := hA.1
    obtain ⟨n, hn, en⟩ := z_strN hA (show (ar (gA g)).getD i 0 < 6 by omega)
    rw [fX5_mean_28, fX6_mean_25, hc.1.2.1, hm.1.2.1, if_neg (nI_ge hi2 (by omega)), if_neg (nI_ge hi2 (by omega)), z_bdE (c_whoN hc.1 hA hi2), z_bdE (c_trait3 hc.1 hA hp), z_gdT (z_inN (show i < 6 by omega) (by decide)), z_xN (by omega), hm.1.2.2.2.2.2.2 _ hi2, m3, m3_1 (p := 3 * (ar (gA g)).getD i 0), z_gdT (z_inN (by omega) (by decide)), z_xN (by omega), (hm.1.2.2.2.2.2.1 _ (show (ar (gA g)).getD i 0 < 6 by omega)).2.2, en, nI_add, nI_1]
    exact q_mean hw h0 hc hm m q (i + 1) (t + n) (by omega) (by omega) (by omega)
variable {σ τ : z_Mem} {g : zG}
theorem z_01 {x : Int32} : (0 ≤ x.toInt ∧ x.toInt ≤ 1) ↔ (x = 0 ∨ x = 1) := by
  constructor
  · intro h
    rcases (show x.toInt = 0 ∨ x.toInt = 1 by omega) with e | e
    · exact Or.inl (Int32.toInt_inj.mp (by rw [e]; rfl))
    · exact Or.inr (Int32.toInt_inj.mp (by rw [e]; rfl))
  · rintro (rfl | rfl) <;> decide
theorem p_mean (hc : cG σ g) (hm : mG τ g) (hw : gW g) (x : Int32) : zSame (fX5_mean x σ) (fX6_mean x τ) := by
  have hA := hw.1.1
  have h6 := aW_len hA
  unfold fX5_mean fX6_mean
  rw [z_bdE m_in, show (0 : Int64).toInt = 0 from rfl, show (1 : Int64).toInt = 1 from rfl]
  by_cases h1 : x = 0 ∨ x = 1
  · rw [if_pos (z_01.mpr h1), if_neg z_10, hc.1.2.1, hm.1.2.1]
    have Q : zSame (if (1 : Int32) ≤ nI (ar (gA g)).length then (fX5_mean_28 z_FU x 0 0 σ) else some ((-4611686018427387904 : Int64), σ)) (if nI (ar (gA g)).length = 0 then (some ((-4611686018427387904 : Int64), τ)) else (fX6_mean_25 z_FU x (0 : Int32) (0 : Int32) τ)) := by
      by_cases e : (ar (gA g)).length = 0
      · rw [e]
        exact zSame_ret hc hm hw
      · rw [if_pos (z_1le (by omega) (by omega)), if_neg (nI_ne0 (by omega) (by omega))]
        have := q_mean (w := x) hw (by omega) hc hm (ar (gA g)).length z_FU 0 0 (by omega) (by simp only [z_FU]; omega) (by omega)
        simpa only [nI_0] using this
    by_cases e : x = 0
    · rw [if_pos e]; exact Q
    · rw [if_neg e, if_pos (h1.resolve_left e)]; exact Q
  · rw [if_neg (fun h => h1 (z_01.mp h)), if_pos rfl, if_neg (fun h => h1 (Or.inl h)), if_neg (fun h => h1 (Or.inr h))]
    exact zSame_ret hc hm hw
end ZPUB14
