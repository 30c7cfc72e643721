/-! rows copied, place by place -/
theorem z_loop {β : Type} {f : Nat → Int32 → z_Mem → Option (β × z_Mem)} {K : z_Mem → Option (β × z_Mem)} {N kd ks : Nat} {R : Nat → Int32} (hks : ks ≠ kd) (h0 : kd ≠ 0) (hf : ∀ q i (σ : z_Mem), σ.1 0 = R → i < N → f (q + 1) (nI i) σ = f q (nI (i + 1)) (z_pt σ kd i (σ.1 ks i))) (hK : ∀ q (σ : z_Mem), σ.1 0 = R → f (q + 1) (nI N) σ = K σ) : ∀ (m q i : Nat) (σ : z_Mem), σ.1 0 = R → i + m = N → m < q → f q (nI i) σ = K (z_cp σ kd (fun j => if i ≤ j ∧ j < N then σ.1 ks j else σ.1 kd j))
  | m, 0, i, σ, _, _, h => absurd h (Nat.not_lt_zero _)
  | 0, q + 1, i, σ, hR, hi, _ => by
    have : i = N := by omega
    subst this
    rw [hK q σ hR]
    congr 1
    have : (fun j => if i ≤ j ∧ j < i then σ.1 ks j else σ.1 kd j) = σ.1 kd := funext fun j => if_neg (by omega)
    rw [this]
    refine Prod.ext ?_ rfl
    funext k j
    rw [z_cp_f]
    by_cases e : k = kd
    · rw [if_pos e, e]
    · rw [if_neg e]
  | m + 1, q + 1, i, σ, hR, hi, hq => by
    rw [hf q i σ hR (by omega), z_loop hks h0 hf hK m q (i + 1) _ (by rw [z_pt_r (Ne.symm h0)]; exact hR) (by omega) (by omega), z_cp_pt]
    congr 2
    funext j
    rw [z_pt_r hks]
    by_cases e : j = i
    · subst e
      rw [if_neg (by omega), z_pt_1, if_pos (by omega)]
    · rw [z_pt_2 e]
      by_cases e' : i ≤ j ∧ j < N
      · rw [if_pos e', if_pos (by omega)]
      · rw [if_neg e', if_neg (by omega)]
theorem z_cp_r {σ : z_Mem} {k k' : Nat} {g : Nat → Int32} (h : k' ≠ k) : (z_cp σ k g).1 k' = σ.1 k' := by
  funext j
  rw [z_cp_f, if_neg h]
theorem z_cp_1 {σ : z_Mem} {k : Nat} {g : Nat → Int32} : (z_cp σ k g).1 k = g := by
  funext j
  rw [z_cp_f, if_pos rfl]
theorem m_image {τ : z_Mem} : ∃ τ', fX6_image τ = some (τ.1 0 10, τ') ∧ (∀ k, k ≠ 0 → k ≠ 9 → k ≠ 10 → τ'.1 k = τ.1 k) ∧ (∀ j, j < 18 → τ'.1 9 j = τ.1 4 j) ∧ (∀ j, j < 6 → τ'.1 10 j = τ.1 5 j) ∧ (∀ j, ¬ (35 ≤ j ∧ j ≤ 39) → τ'.1 0 j = τ.1 0 j) ∧ τ'.1 0 35 = τ.1 0 10 ∧ τ'.1 0 36 = τ.1 0 12 ∧ τ'.1 0 37 = τ.1 0 7 ∧ τ'.1 0 38 = τ.1 0 8 ∧ τ'.1 0 39 = τ.1 0 4 := by
  unfold fX6_image
  rw [show (0 : Int32) = nI 0 from rfl, z_loop (f := fX6_image_2) (N := 18) (kd := 9) (ks := 4) (R := τ.1 0) (by decide) (by decide) (fun q i σ _ hi => by
      rw [fX6_image_2, if_neg (z_nle 18 18 (by decide) hi (by decide)), z_gdT (z_inN (by omega) (by decide)), z_gdT (z_inN (by omega) (by decide))]
      simp only [z_st]
      rw [z_xN (by omega), nI_1]) (fun q σ _ => by
      rw [fX6_image_2, if_pos (by decide)]) 18 z_FU 0 τ rfl (by decide) (by decide)]
  rw [show (0 : Int32) = nI 0 from rfl, z_loop (f := fX6_image_28 _) (N := 6) (kd := 10) (ks := 5) (R := τ.1 0) (by decide) (by decide) (fun q i σ _ hi => by
      rw [fX6_image_28, if_neg (z_nle 6 6 (by decide) hi (by decide)), z_gdT (z_inN (by omega) (by decide)), z_gdT (z_inN (by omega) (by decide))]
      simp only [z_st]
      rw [z_xN (by omega), nI_1]) (fun q σ _ => by
      rw [fX6_image_28, if_pos (by decide)]) 6 z_FU 0 _ (z_cp_r (by decide)) (by decide) (by decide)]
  simp only [z_st]
  refine ⟨_, congrArg some (Prod.ext ?_ rfl), fun k h0 h9 h10 => ?_, fun j hj => ?_, fun j hj => ?_, fun j hj => ?_, ?_, ?_, ?_, ?_, ?_⟩
  · simp [z_pt_g, z_cp_f]
  · rw [z_pt_r h0, z_pt_r h0, z_pt_r h0, z_pt_r h0, z_pt_r h0, z_cp_r h10, z_cp_r h9]
  · rw [z_pt_r (by decide), z_pt_r (by decide), z_pt_r (by decide), z_pt_r (by decide), z_pt_r (by decide), z_cp_r (by decide), z_cp_1, if_pos (by omega)]
  · rw [z_pt_r (by decide), z_pt_r (by decide), z_pt_r (by decide), z_pt_r (by decide), z_pt_r (by decide), z_cp_1, if_pos (by omega), z_cp_r (by decide)]
  · rw [z_pt_2 (by omega), z_pt_2 (by omega), z_pt_2 (by omega), z_pt_2 (by omega), z_pt_2 (by omega), z_cp_r (by decide), z_cp_r (by decide)]
  · simp [z_pt_g, z_cp_f]
  · simp [z_pt_g, z_cp_f]
  · simp [z_pt_g, z_cp_f]
  · simp [z_pt_g, z_cp_f]
  · simp [z_pt_g, z_cp_f]
theorem m_back {τ : z_Mem} (h : ¬ τ.1 0 35 = -1) : ∃ τ', fX6_back τ = some (τ.1 0 35, τ') ∧ (∀ k, k ≠ 0 → k ≠ 4 → k ≠ 5 → τ'.1 k = τ.1 k) ∧ (∀ j, j < 18 → τ'.1 4 j = τ.1 9 j) ∧ (∀ j, j < 6 → τ'.1 5 j = τ.1 10 j) ∧ (∀ j, j ≠ 10 → j ≠ 12 → j ≠ 7 → j ≠ 8 → j ≠ 4 → τ'.1 0 j = τ.1 0 j) ∧ τ'.1 0 10 = τ.1 0 35 ∧ τ'.1 0 12 = τ.1 0 36 ∧ τ'.1 0 7 = τ.1 0 37 ∧ τ'.1 0 8 = τ.1 0 38 ∧ τ'.1 0 4 = τ.1 0 39 := by
  unfold fX6_back
  rw [if_neg h, show (0 : Int32) = nI 0 from rfl, z_loop (f := fX6_back_13) (N := 18) (kd := 4) (ks := 9) (R := τ.1 0) (by decide) (by decide) (fun q i σ _ hi => by
      rw [fX6_back_13, if_neg (z_nle 18 18 (by decide) hi (by decide)), z_gdT (z_inN (by omega) (by decide)), z_gdT (z_inN (by omega) (by decide))]
      simp only [z_st]
      rw [z_xN (by omega), nI_1]) (fun q σ _ => by
      rw [fX6_back_13, if_pos (by decide)]) 18 z_FU 0 τ rfl (by decide) (by decide)]
  rw [show (0 : Int32) = nI 0 from rfl, z_loop (f := fX6_back_39 _) (N := 6) (kd := 5) (ks := 10) (R := τ.1 0) (by decide) (by decide) (fun q i σ _ hi => by
      rw [fX6_back_39, if_neg (z_nle 6 6 (by decide) hi (by decide)), z_gdT (z_inN (by omega) (by decide)), z_gdT (z_inN (by omega) (by decide))]
      simp only [z_st]
      rw [z_xN (by omega), nI_1]) (fun q σ _ => by
      rw [fX6_back_39, if_pos (by decide)]) 6 z_FU 0 _ (z_cp_r (by decide)) (by decide) (by decide)]
  simp only [z_st]
  refine ⟨_, congrArg some (Prod.ext ?_ rfl), fun k h0 h9 h10 => ?_, fun j hj => ?_, fun j hj => ?_, fun j h1 h2 h3 h4 h5 => ?_, ?_, ?_, ?_, ?_, ?_⟩
  · simp [z_pt_g, z_cp_f]
  · rw [z_pt_r h0, z_pt_r h0, z_pt_r h0, z_pt_r h0, z_pt_r h0, z_cp_r h10, z_cp_r h9]
  · rw [z_pt_r (by decide), z_pt_r (by decide), z_pt_r (by decide), z_pt_r (by decide), z_pt_r (by decide), z_cp_r (by decide), z_cp_1, if_pos (by omega)]
  · rw [z_pt_r (by decide), z_pt_r (by decide), z_pt_r (by decide), z_pt_r (by decide), z_pt_r (by decide), z_cp_1, if_pos (by omega), z_cp_r (by decide)]
  · rw [z_pt_2 h5, z_pt_2 h4, z_pt_2 h3, z_pt_2 h2, z_pt_2 h1, z_cp_r (by decide), z_cp_r (by decide)]
  · simp [z_pt_g, z_cp_f]
  · simp [z_pt_g, z_cp_f]
  · simp [z_pt_g, z_cp_f]
  · simp [z_pt_g, z_cp_f]
  · simp [z_pt_g, z_cp_f]
