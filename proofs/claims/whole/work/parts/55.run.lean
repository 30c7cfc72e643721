/-! hours in thought -/
theorem m_lay {τ : z_Mem} : ∃ τ', fX6_laysAside τ = some ((), τ') ∧ (∀ k, k ≠ 7 → τ'.1 k = τ.1 k) ∧ (∀ j, j < 18 → τ'.1 7 j = τ.1 4 j) ∧ τ'.1 7 18 = τ.1 0 7 := by
  unfold fX6_laysAside
  rw [show (0 : Int32) = nI 0 from rfl, z_loop (f := fX6_laysAside_2) (K := fun σ => some ((), z_pt σ 7 18 (σ.1 0 7))) (N := 18) (kd := 7) (ks := 4) (R := τ.1 0) (by decide) (by decide) (fun q i σ _ hi => by
      rw [fX6_laysAside_2, if_neg (z_nle 18 18 (by decide) hi (by decide)), z_gdT (z_inN (by omega) (by decide)), z_gdT (z_inN (by omega) (by decide))]
      simp only [z_st]
      rw [z_xN (by omega), nI_1]) (fun q σ _ => by
      rw [fX6_laysAside_2, if_pos (by decide), z_gdT (by decide)]
      rfl) 18 z_FU 0 τ rfl (by decide) (by decide)]
  refine ⟨_, rfl, fun k hk => ?_, fun j hj => ?_, ?_⟩
  · rw [z_pt_r hk, z_cp_r hk]
  · rw [z_pt_2 (by omega), z_cp_1, if_pos (by omega)]
  · rw [z_pt_1, z_cp_r (by decide)]
theorem m_layB {τ : z_Mem} : ∃ τ', fX6_laysBack τ = some ((), τ') ∧ (∀ k, k ≠ 0 → k ≠ 4 → τ'.1 k = τ.1 k) ∧ (∀ j, j < 18 → τ'.1 4 j = τ.1 7 j) ∧ τ'.1 0 7 = τ.1 7 18 ∧ ∀ j, j ≠ 7 → τ'.1 0 j = τ.1 0 j := by
  unfold fX6_laysBack
  rw [show (0 : Int32) = nI 0 from rfl, z_loop (f := fX6_laysBack_2) (K := fun σ => some ((), z_pt σ 0 7 (σ.1 7 18))) (N := 18) (kd := 4) (ks := 7) (R := τ.1 0) (by decide) (by decide) (fun q i σ _ hi => by
      rw [fX6_laysBack_2, if_neg (z_nle 18 18 (by decide) hi (by decide)), z_gdT (z_inN (by omega) (by decide)), z_gdT (z_inN (by omega) (by decide))]
      simp only [z_st]
      rw [z_xN (by omega), nI_1]) (fun q σ _ => by
      rw [fX6_laysBack_2, if_pos (by decide), z_gdT (by decide)]
      rfl) 18 z_FU 0 τ rfl (by decide) (by decide)]
  refine ⟨_, rfl, fun k h0 hk => ?_, fun j hj => ?_, ?_, fun j hj => ?_⟩
  · rw [z_pt_r h0, z_cp_r hk]
  · rw [z_pt_3 (by decide), z_cp_1, if_pos (by omega)]
  · rw [z_pt_1, z_cp_r (by decide)]
  · rw [z_pt_2 hj, z_cp_r (by decide)]
/-- all that is to be laid back lies aside -/
def mL (τ0 τ : z_Mem) : Prop := (∀ j, j < 18 → τ.1 7 j = τ0.1 4 j) ∧ τ.1 7 18 = τ0.1 0 7 ∧ (∀ k, k ≠ 0 → k ≠ 4 → k ≠ 6 → k ≠ 7 → τ.1 k = τ0.1 k) ∧ ∀ j, j ≠ 7 → (j < 13 ∨ 27 < j) → τ.1 0 j = τ0.1 0 j
theorem mL_p {τ0 τ τ' : z_Mem} (h : mL τ0 τ) (hp : mP τ τ') : mL τ0 τ' := by
  obtain ⟨h1, h2, h3, h4⟩ := h
  refine ⟨fun j hj => ?_, ?_, fun k a b c d => ?_, fun j a b => ?_⟩
  · rw [hp.1 7 (by decide) (by decide) (by decide)]; exact h1 j hj
  · rw [hp.1 7 (by decide) (by decide) (by decide)]; exact h2
  · rw [hp.1 k a b c]; exact h3 k a b c d
  · rw [hp.2 j a b]; exact h4 j a b
theorem mL_lay {τ τ' : z_Mem} (h1 : ∀ k, k ≠ 7 → τ'.1 k = τ.1 k) (h2 : ∀ j, j < 18 → τ'.1 7 j = τ.1 4 j) (h3 : τ'.1 7 18 = τ.1 0 7) : mL τ τ' := ⟨h2, h3, fun k _ _ _ d => h1 k d, fun j _ _ => by rw [h1 0 (by decide)]⟩
theorem m_laidBack {τ0 τ : z_Mem} {g : zG} (hm : mG τ0 g) (hw : gW g) (h : mL τ0 τ) : ∃ τ', fX6_laysBack τ = some ((), τ') ∧ mG τ' g := by
  obtain ⟨τ', e, b1, b2, b3, b4⟩ := m_layB (τ := τ)
  obtain ⟨h1, h2, h3, h4⟩ := h
  refine ⟨τ', e, ?_⟩
  have hk : ∀ k, k ≠ 0 → k ≠ 4 → k ≠ 6 → k ≠ 7 → τ'.1 k = τ0.1 k := fun k a b c d => (b1 k a b).trans (h3 k a b c d)
  have h0 : ∀ j, (j < 13 ∨ 27 < j) → τ'.1 0 j = τ0.1 0 j := fun j hj => by
    by_cases e : j = 7
    · rw [e, b3, h2]
    · rw [b4 j e]; exact h4 j e hj
  refine mG_a (g := g) hm ⟨fun k a b _ c d _ => hk k a b c d, fun j hj => h0 j (by omega)⟩ ?_
  obtain ⟨m1, m2, m3, m4, m5, m6, m7⟩ := hm.1
  refine ⟨(h0 10 (by omega)).trans m1, (h0 12 (by omega)).trans m2, (h0 7 (by omega)).trans m3, (h0 8 (by omega)).trans m4, (h0 4 (by omega)).trans m5, fun i hi => ?_, fun i hi => ?_⟩
  · rw [b2 _ (by omega), b2 _ (by omega), b2 _ (by omega), h1 _ (by omega), h1 _ (by omega), h1 _ (by omega)]
    exact m6 i hi
  · rw [hk 5 (by decide) (by decide) (by decide) (by decide)]
    exact m7 i hi
theorem mM_lay {τ τ' : z_Mem} {a : aS} (h : mM τ a) (h1 : ∀ k, k ≠ 7 → τ'.1 k = τ.1 k) : mM τ' a := by
  unfold mM
  rw [h1 0 (by decide), h1 4 (by decide), h1 5 (by decide)]
  exact h
theorem z_hour {a : aS} {n : Nat} (h : (ah a).toInt ≤ n) (h0 : 0 ≤ (ah a).toInt) (hn : n < 2000) : (ah a + 1).toInt ≤ (n + 1 : Nat) := by
  rw [Int32.toInt_add, show (1 : Int32).toInt = 1 from rfl, Int.bmod_eq_of_le (by omega) (by omega)]
  omega
/-- what thought is in: the codes' stack, thought -/
theorem zScr_th {σ σ' : z_Mem} (h : cK (fun k => k = 4 ∨ k = 12 ∨ k = 12 + 3) σ σ') : cK zScr σ σ' := cK_mono h (fun k hk => by unfold zScr; omega)
section ZPUB15
theorem q_run {n : Nat} {w l3 l4 : Int32} {g : zG} {τ0 : z_Mem} (hn : n ≤ 40) (hw : gW g) (hm0 : mG τ0 g) (hl4 : l4 = 0 ∨ l4 = 1) (h0 : l4 = 0 → w = 0 ∨ w = 1) (h1 : l4 = 1 → ¬ w = 0 ∧ ¬ w = 1 ∧ w - 10 = l3 ∧ ∃ p, p < an (gA g) ∧ l3 = nI p) : ∀ (m q i : Nat) (a : aS) (σ τ : z_Mem), cG σ g → cM σ 12 a → mM τ a → mT τ (gV g) (gN g) → mL τ0 τ → aW a → au a < gN g → (ah a).toInt ≤ (999 + i : Nat) → an a = an (gA g) → i + m = n → m < q → zSame (fX5_run_71 q (nI n) w l3 l4 (nI i) σ) (fX6_run_57 q (nI n) w (nI i) τ)
  | m, 0, i, a, σ, τ, _, _, _, _, _, _, _, _, _, _, h => absurd h (Nat.not_lt_zero _)
  | 0, q + 1, i, a, σ, τ, hc, ht, hm, hT, hL, hA, hu, hh, hn', hi, hq => by
    rw [fX5_run_71, fX6_run_57, if_pos (nI_le (by omega) (by omega)), if_pos (nI_le (by omega) (by omega))]
    rcases hl4 with e4 | e4
    · rw [if_pos e4]
      rcases h0 e4 with rfl | rfl
      · rw [if_pos rfl, if_pos rfl]
        obtain ⟨r1, s1, e1, v1, k1⟩ := c_weakest ht hA hc.2.2.1 hu (by decide)
        obtain ⟨r2, s2, e2, v2, k2⟩ := m_weakest hm hA hT hu
        obtain ⟨τ', e3, m3⟩ := m_laidBack hm0 hw (mL_p hL (mP_k k2))
        rw [z_bdE e1, z_bdE e2, z_bdE e3, v1, v2]
        exact zSame_ret (cG_k hc (cK_4 k1)) m3 hw
      · rw [if_neg (by decide), if_neg (by decide), if_pos rfl]
        obtain ⟨r1, s1, e1, v1, k1⟩ := c_gates ht hA hc.2.2.1 hu (by decide)
        obtain ⟨r2, s2, e2, v2, k2⟩ := m_gates hm hA hT hu
        obtain ⟨τ', e3, m3⟩ := m_laidBack hm0 hw (mL_p hL (mP_k k2))
        rw [z_bdE e1, z_bdE e2, z_bdE e3, v1, v2]
        exact zSame_ret (cG_k hc (cK_4 k1)) m3 hw
    · obtain ⟨n0, n1, e10, p, hp, rfl⟩ := h1 e4
      have h6 := hw.1.1.1
      rw [if_neg (by rw [e4]; decide), if_neg n0, if_neg n1, e10, m3, m3_1, z_gdT (z_inN (by omega) (by decide)), z_bdE (c_trait3 ht hA (by omega)), z_xN (by omega), (hm.2.2.2.2.2.1 p (by omega)).2.2]
      obtain ⟨τ', e3, m3⟩ := m_laidBack hm0 hw hL
      rw [z_bdE e3]
      exact zSame_ret hc m3 hw
  | m + 1, q + 1, i, a, σ, τ, hc, ht, hm, hT, hL, hA, hu, hh, hn', hi, hq => by
    rw [fX5_run_71, fX6_run_57, if_neg (nI_ge (by omega) (by omega)), if_neg (nI_ge (by omega) (by omega))]
    obtain ⟨r1, s1, e1, v1, k1⟩ := c_passHour ht hA hc.2.2.1 hu (by decide)
    obtain ⟨r2, s2, e2, v2, k2⟩ := m_passes hm hA hT hu
    rw [z_bdE e1, z_bdE e2, nI_1]
    exact q_run hn hw hm0 hl4 h0 h1 m q (i + 1) (aPass (gV g) a) s1 s2 (cG_k hc (zScr_th k1)) v1 v2 (mT_p hT k2) (mL_p hL k2) (aPass_W hA (by omega)) hu (z_hour (n := 999 + i) hh hA.2.2.2.2.2.1.1 (by omega)) hn' (by omega) (by omega)
variable {σ τ : z_Mem} {g : zG}
theorem p_run (hc : cG σ g) (hm : mG τ g) (hw : gW g) (x y : Int32) : zSame (fX5_run x y σ) (fX6_run x y τ) := by
  have hA := hw.1.1
  have h6 := hA.1
  have hbad : zSame (some ((-1000 : Int32), σ)) (some ((-1000 : Int32), τ)) := zSame_ret hc hm hw
  have hx40 : ∀ {P : Prop}, (0 ≤ x.toInt ∧ x.toInt ≤ 40) → ¬ x < 0 ∧ ¬ (40 : Int32) < x := fun h => ⟨by rw [z_ge0]; omega, by rw [Int32.lt_iff_toInt_lt, show (40 : Int32).toInt = 40 from rfl]; omega⟩
  have Q : ∀ (n : Nat) (l3 l4 : Int32), n ≤ 40 → (l4 = 0 ∨ l4 = 1) → (l4 = 0 → y = 0 ∨ y = 1) → (l4 = 1 → ¬ y = 0 ∧ ¬ y = 1 ∧ y - 10 = l3 ∧ ∃ p, p < an (gA g) ∧ l3 = nI p) → zSame (z_bd (fX0_takeFrom 12 7 σ) (fun _ s1 => fX5_run_71 z_FU (nI n) y l3 l4 (0 : Int32) s1)) (z_bd (fX6_laysAside τ) (fun _ s3 => fX6_run_57 z_FU (nI n) y (0 : Int32) s3)) := by
    intro n l3 l4 hn h4 h0 h1
    obtain ⟨σ', e1, c1, k1⟩ := c_takeFrom (c := 12) (b := 7) hc.1 hA (by omega)
    obtain ⟨τ', e2, b1, b2, b3⟩ := m_lay (τ := τ)
    rw [z_bdE e1, z_bdE e2]
    have := q_run hn hw hm h4 h0 h1 n z_FU 0 (gA g) σ' τ' (cG_k hc (cK_mono k1 (fun k hk => by unfold zScr; omega))) c1 (mM_lay hm.1 b1) (mT_kept hm.2.2.1 (by rw [b1 0 (by decide)]) (b1 1 (by decide)) (b1 2 (by decide))) (mL_lay b1 b2 b3) hA hw.1.2.1 (by have := hw.1.2.2; omega) rfl (by omega) (by simp only [z_FU]; omega)
    simpa only [nI_0] using this
  unfold fX5_run fX6_run
  rw [z_bdE m_in, show (0 : Int64).toInt = 0 from rfl, show (40 : Int64).toInt = 40 from rfl]
  by_cases h1 : 0 ≤ x.toInt ∧ x.toInt ≤ 40
  rotate_left
  · simp only [if_neg h1, if_true]
    have hs : ∀ {α : Type} {A B : Option (Int32 × z_Mem)}, (if x < 0 then some ((-1000 : Int32), σ) else if (40 : Int32) < x then some ((-1000 : Int32), σ) else B) = some (-1000, σ) := fun {_ _ B} => by
      by_cases q : x < 0
      · rw [if_pos q]
      · rw [if_neg q, if_pos (by rw [Int32.lt_iff_toInt_lt, show (40 : Int32).toInt = 40 from rfl]; rw [z_ge0] at q; omega)]
    rw [z_bdE (c_has hc.1 hA)]
    simp only [hs (α := Unit) (A := none), ite_self]
    exact hbad
  obtain ⟨q1, q2⟩ := hx40 (P := True) h1
  simp only [if_pos h1, if_neg z_10, if_neg q1, if_neg q2]
  obtain ⟨n, hn, rfl⟩ := z_ofI (x := x) (N := 41) (by omega)
  rw [z_bdE m_in, show (0 : Int64).toInt = 0 from rfl, show (1 : Int64).toInt = 1 from rfl]
  by_cases h01 : y = 0 ∨ y = 1
  · rw [if_pos (z_01.mpr h01)]
    simp only [if_neg z_10]
    have h10 : y < 10 := by rcases h01 with rfl | rfl <;> decide
    rw [if_pos h10]
    have := Q n (y - 10) 0 (by omega) (Or.inl rfl) (fun _ => h01) (fun e => absurd e (by decide))
    by_cases e : y = 0
    · rw [if_pos e]; exact this
    · rw [if_neg e, if_pos (h01.resolve_left e)]; exact this
  have hy0 : ¬ y = 0 := fun e => h01 (Or.inl e)
  have hy1 : ¬ y = 1 := fun e => h01 (Or.inr e)
  rw [if_neg (fun h => h01 (z_01.mp h))]
  simp only [if_true, if_neg hy0, if_neg hy1]
  rw [z_bdE m_in, show (10 : Int64).toInt = 10 from rfl, show (15 : Int64).toInt = 15 from rfl, z_bdE (c_has hc.1 hA)]
  by_cases h10 : y < 10
  · rw [if_pos h10, if_neg (show ¬ (10 ≤ y.toInt ∧ y.toInt ≤ 15) by rw [Int32.lt_iff_toInt_lt, show (10 : Int32).toInt = 10 from rfl] at h10; omega), if_pos rfl]
    exact hbad
  rw [if_neg h10]
  have hy10 : 10 ≤ y.toInt := by
    rw [Int32.lt_iff_toInt_lt, show (10 : Int32).toInt = 10 from rfl] at h10
    omega
  have hs : (y - 10).toInt = y.toInt - 10 := by
    have := y.toInt_lt
    rw [Int32.toInt_sub, show (10 : Int32).toInt = 10 from rfl, Int.bmod_eq_of_le (by omega) (by omega)]
  by_cases h3 : 0 ≤ (y - 10).toInt ∧ (y - 10).toInt < an (gA g)
  · rw [if_pos h3, if_pos (show 10 ≤ y.toInt ∧ y.toInt ≤ 15 by omega)]
    simp only [if_neg z_10]
    rw [z_bdE (m_isOne hm.1 hA), if_pos h3]
    simp only [if_neg z_10]
    obtain ⟨p, hp, ep⟩ := z_ofI h3
    exact Q n (y - 10) 1 (by omega) (Or.inr rfl) (fun e => absurd e (by decide)) (fun _ => ⟨hy0, hy1, rfl, p, hp, ep⟩)
  · rw [if_neg h3, if_pos rfl]
    by_cases h4 : 10 ≤ y.toInt ∧ y.toInt ≤ 15
    · rw [if_pos h4, if_neg z_10, z_bdE (m_isOne hm.1 hA), if_neg h3, if_pos rfl]
      exact hbad
    · rw [if_neg h4, if_pos rfl]
      exact hbad
theorem z_first_gates {f : Nat → Int32} : ∀ (m i : Nat) (l : Nat), i + m < 100 → l + m < 100 → (zFg f m i = -1 ↔ zGt f m i (nI l) = nI l) ∧ ∃ t, l ≤ t ∧ t ≤ l + m ∧ zGt f m i (nI l) = nI t
  | 0, i, l, _, _ => ⟨⟨fun _ => rfl, fun _ => rfl⟩, l, by omega, by omega, rfl⟩
  | m + 1, i, l, hi, hl => by
    rw [zFg, zGt]
    by_cases e : f i = 0
    · rw [if_pos e, if_pos e, nI_1]
      obtain ⟨-, t, h1, h2, h3⟩ := z_first_gates (f := f) m (i + 1) (l + 1) (by omega) (by omega)
      refine ⟨⟨fun h => absurd h (nI_neg1 (by omega)), fun h => ?_⟩, t, by omega, by omega, h3⟩
      rw [h3, z_eq_nI (by omega) (by omega)] at h
      omega
    · rw [if_neg e, if_neg e]
      obtain ⟨h0, t, h1, h2, h3⟩ := z_first_gates (f := f) m (i + 1) l (by omega) (by omega)
      exact ⟨h0, t, h1, by omega, h3⟩
theorem gFirst_gates {tv : zTV} {a : aS} (hw : aW a) : gFirst tv a = -1 ↔ gGates tv a = 0 := by
  have := aN_le hw
  have h := (z_first_gates (f := gH tv a) (aN a) 0 0 (by omega) (by omega)).1
  rw [nI_0] at h
  exact h
theorem q_opens {g : zG} {τ0 : z_Mem} (hw : gW g) (hm0 : mG τ0 g) : ∀ (m q i : Nat) (a : aS) (σ τ : z_Mem), cG σ g → cM σ 12 a → mM τ a → mT τ (gV g) (gN g) → mL τ0 τ → aW a → au a < gN g → (ah a).toInt ≤ (999 + i : Nat) → i + m = 61 → m < q → zSame (fX5_opens_13 q (nI i) σ) (fX6_opens_6 q (nI i) τ)
  | m, 0, i, a, σ, τ, _, _, _, _, _, _, _, _, _, h => absurd h (Nat.not_lt_zero _)
  | 0, q + 1, i, a, σ, τ, hc, ht, hm, hT, hL, hA, hu, hh, hi, hq => by
    have : i = 61 := by omega
    subst this
    obtain ⟨τ', e3, m3⟩ := m_laidBack hm0 hw hL
    rw [fX5_opens_13, fX6_opens_6, if_pos (by decide), if_pos (by decide), z_bdE e3, if_neg (by decide)]
    exact zSame_ret hc m3 hw
  | m + 1, q + 1, i, a, σ, τ, hc, ht, hm, hT, hL, hA, hu, hh, hi, hq => by
    have h60 : nI i ≤ 60 := by rw [show (60 : Int32) = nI 60 by decide]; exact nI_le (by omega) (by decide)
    have h60' : ¬ (60 : Int32) < nI i := by rw [show (60 : Int32) = nI 60 by decide]; exact nI_nlt (by omega) (by decide)
    rw [fX5_opens_13, fX6_opens_6, if_neg h60', if_neg h60']
    obtain ⟨r1, s1, e1, v1, k1⟩ := c_firstGate ht hA hc.2.2.1 hu (by decide)
    obtain ⟨r2, s2, e2, v2, k2⟩ := m_gates hm hA hT hu
    have hc1 := cG_k hc (cK_4 k1)
    have ht1 := cM_k4 ht k1 (by decide)
    have hm1 := mM_kept hm k2
    have hT1 := mT_k hT k2
    have hL1 := mL_p hL (mP_k k2)
    rw [z_bdE e1, z_bdE e2, v1, v2]
    by_cases e : gGates (gV g) a = 0
    · rw [if_pos ((gFirst_gates hA).mpr e), if_pos e]
      obtain ⟨r3, s3, e3, v3, k3⟩ := c_passHour ht1 hA hc1.2.2.1 hu (by decide)
      obtain ⟨r4, s4, e4, v4, k4⟩ := m_passes hm1 hA hT1 hu
      rw [z_bdE e3, z_bdE e4, nI_1]
      exact q_opens hw hm0 m q (i + 1) (aPass (gV g) a) s3 s4 (cG_k hc1 (zScr_th k3)) v3 v4 (mT_p hT1 k4) (mL_p hL1 k4) (aPass_W hA (by omega)) hu (z_hour (n := 999 + i) hh hA.2.2.2.2.2.1.1 (by omega)) (by omega) (by omega)
    · rw [if_neg (fun h => e ((gFirst_gates hA).mp h)), if_neg e]
      obtain ⟨τ', e3, m3⟩ := m_laidBack hm0 hw hL1
      rw [z_bdE e3, if_pos h60]
      exact zSame_ret hc1 m3 hw
theorem p_opens (hc : cG σ g) (hm : mG τ g) (hw : gW g) : zSame (fX5_opens σ) (fX6_opens τ) := by
  have hA := hw.1.1
  unfold fX5_opens fX6_opens
  obtain ⟨σ', e1, c1, k1⟩ := c_takeFrom (c := 12) (b := 7) hc.1 hA (by omega)
  obtain ⟨τ', e2, b1, b2, b3⟩ := m_lay (τ := τ)
  rw [z_bdE e1, z_bdE e2]
  have := q_opens hw hm 61 z_FU 0 (gA g) σ' τ' (cG_k hc (cK_mono k1 (fun k hk => by unfold zScr; omega))) c1 (mM_lay hm.1 b1) (mT_kept hm.2.2.1 (by rw [b1 0 (by decide)]) (b1 1 (by decide)) (b1 2 (by decide))) (mL_lay b1 b2 b3) hA hw.1.2.1 (by have := hw.1.2.2; omega) (by omega) (by decide)
  simpa only [nI_0] using this
end ZPUB15
