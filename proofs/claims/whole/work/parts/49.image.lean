/-! rows copied, place by place -/
theorem z_loop {β : Type} {f : Nat → Int32 → z_Mem → Option (β × z_Mem)} {K : z_Mem → Option (β × z_Mem)} {N kd ks : Nat} {R : Nat → Int32} (hks : ks ≠ kd) (h0 : kd ≠ 0) (hf : ∀ q i (σ : z_Mem), σ.1 0 = R → i < N → f (q + 1) (nI i) σ = f q (nI (i + 1)) (z_pt σ kd i (σ.1 ks i))) (hK : ∀ q (σ : z_Mem), σ.1 0 = R → f (q + 1) (nI N) σ = K σ) : ∀ (m q i : Nat) (σ : z_Mem), σ.1 0 = R → i + m = N → m < q → f q (nI i) σ = K (z_cp σ kd (fun j => if i ≤ j ∧ j < N then σ.1 ks j else σ.1 kd j))
  | m, 0, i, σ, _, _, h => absurd h (Nat.not_lt_zero _)
  | 0, q + 1, i, σ, hR, hi, _ => by
    have : i = N := by omega
    subst this
    rw [hK q σ hR]
    congr 1
    have : (fun j => if i ≤ j ∧ j < i then σ.1 ks j else σ.1 kd j) = σ.1 kd := funext fun j => if_neg (by omega)
    rw [this]
    refine Prod.ext ?_ rfl
    funext k j
    rw [z_cp_f]
    by_cases e : k = kd
    · rw [if_pos e, e]
    · rw [if_neg e]
  | m + 1, q + 1, i, σ, hR, hi, hq => by
    rw [hf q i σ hR (by omega), z_loop hks h0 hf hK m q (i + 1) _ (by rw [z_pt_r (Ne.symm h0)]; exact hR) (by omega) (by omega), z_cp_pt]
    congr 2
    funext j
    rw [z_pt_r hks]
    by_cases e : j = i
    · subst e
      rw [if_neg (by omega), z_pt_1, if_pos (by omega)]
    · rw [z_pt_2 e]
      by_cases e' : i ≤ j ∧ j < N
      · rw [if_pos e', if_pos (by omega)]
      · rw [if_neg e', if_neg (by omega)]
theorem z_cp_r {σ : z_Mem} {k k' : Nat} {g : Nat → Int32} (h : k' ≠ k) : (z_cp σ k g).1 k' = σ.1 k' := by
  funext j
  rw [z_cp_f, if_neg h]
theorem z_cp_1 {σ : z_Mem} {k : Nat} {g : Nat → Int32} : (z_cp σ k g).1 k = g := by
  funext j
  rw [z_cp_f, if_pos rfl]
theorem m_image {τ : z_Mem} : ∃ τ', fX6_image τ = some (τ.1 0 10, τ') ∧ (∀ k, k ≠ 0 → k ≠ 9 → k ≠ 10 → τ'.1 k = τ.1 k) ∧ (∀ j, j < 18 → τ'.1 9 j = τ.1 4 j) ∧ (∀ j, j < 6 → τ'.1 10 j = τ.1 5 j) ∧ (∀ j, ¬ (35 ≤ j ∧ j ≤ 39) → τ'.1 0 j = τ.1 0 j) ∧ τ'.1 0 35 = τ.1 0 10 ∧ τ'.1 0 36 = τ.1 0 12 ∧ τ'.1 0 37 = τ.1 0 7 ∧ τ'.1 0 38 = τ.1 0 8 ∧ τ'.1 0 39 = τ.1 0 4 := by
  unfold fX6_image
  rw [show (0 : Int32) = nI 0 from rfl, z_loop (f := fX6_image_2) (N := 18) (kd := 9) (ks := 4) (R := τ.1 0) (by decide) (by decide) (fun q i σ _ hi => by
      rw [fX6_image_2, if_neg (z_nle 18 18 (by decide) hi (by decide)), z_gdT (z_inN (by omega) (by decide)), z_gdT (z_inN (by omega) (by decide))]
      simp only [z_st]
      rw [z_xN (by omega), nI_1]) (fun q σ _ => by
      rw [fX6_image_2, if_pos (by decide)]) 18 z_FU 0 τ rfl (by decide) (by decide)]
  rw [show (0 : Int32) = nI 0 from rfl, z_loop (f := fX6_image_28 _) (N := 6) (kd := 10) (ks := 5) (R := τ.1 0) (by decide) (by decide) (fun q i σ _ hi => by
      rw [fX6_image_28, if_neg (z_nle 6 6 (by decide) hi (by decide)), z_gdT (z_inN (by omega) (by decide)), z_gdT (z_inN (by omega) (by decide))]
      simp only [z_st]
      rw [z_xN (by omega), nI_1]) (fun q σ _ => by
      rw [fX6_image_28, if_pos (by decide)]) 6 z_FU 0 _ (z_cp_r (by decide)) (by decide) (by decide)]
  simp only [z_st]
  refine ⟨_, congrArg some (Prod.ext ?_ rfl), fun k h0 h9 h10 => ?_, fun j hj => ?_, fun j hj => ?_, fun j hj => ?_, ?_, ?_, ?_, ?_, ?_⟩
  · simp [z_pt_g, z_cp_f]
  · rw [z_pt_r h0, z_pt_r h0, z_pt_r h0, z_pt_r h0, z_pt_r h0, z_cp_r h10, z_cp_r h9]
  · rw [z_pt_r (by decide), z_pt_r (by decide), z_pt_r (by decide), z_pt_r (by decide), z_pt_r (by decide), z_cp_r (by decide), z_cp_1, if_pos (by omega)]
  · rw [z_pt_r (by decide), z_pt_r (by decide), z_pt_r (by decide), z_pt_r (by decide), z_pt_r (by decide), z_cp_1, if_pos (by omega), z_cp_r (by decide)]
  · rw [z_pt_2 (by omega), z_pt_2 (by omega), z_pt_2 (by omega), z_pt_2 (by omega), z_pt_2 (by omega), z_cp_r (by decide), z_cp_r (by decide)]
  · simp [z_pt_g, z_cp_f]
  · simp [z_pt_g, z_cp_f]
  · simp [z_pt_g, z_cp_f]
  · simp [z_pt_g, z_cp_f]
  · simp [z_pt_g, z_cp_f]
theorem m_back {τ : z_Mem} (h : ¬ τ.1 0 35 = -1) : ∃ τ', fX6_back τ = some (τ.1 0 35, τ') ∧ (∀ k, k ≠ 0 → k ≠ 4 → k ≠ 5 → τ'.1 k = τ.1 k) ∧ (∀ j, j < 18 → τ'.1 4 j = τ.1 9 j) ∧ (∀ j, j < 6 → τ'.1 5 j = τ.1 10 j) ∧ (∀ j, j ≠ 10 → j ≠ 12 → j ≠ 7 → j ≠ 8 → j ≠ 4 → τ'.1 0 j = τ.1 0 j) ∧ τ'.1 0 10 = τ.1 0 35 ∧ τ'.1 0 12 = τ.1 0 36 ∧ τ'.1 0 7 = τ.1 0 37 ∧ τ'.1 0 8 = τ.1 0 38 ∧ τ'.1 0 4 = τ.1 0 39 := by
  unfold fX6_back
  rw [if_neg h, show (0 : Int32) = nI 0 from rfl, z_loop (f := fX6_back_13) (N := 18) (kd := 4) (ks := 9) (R := τ.1 0) (by decide) (by decide) (fun q i σ _ hi => by
      rw [fX6_back_13, if_neg (z_nle 18 18 (by decide) hi (by decide)), z_gdT (z_inN (by omega) (by decide)), z_gdT (z_inN (by omega) (by decide))]
      simp only [z_st]
      rw [z_xN (by omega), nI_1]) (fun q σ _ => by
      rw [fX6_back_13, if_pos (by decide)]) 18 z_FU 0 τ rfl (by decide) (by decide)]
  rw [show (0 : Int32) = nI 0 from rfl, z_loop (f := fX6_back_39 _) (N := 6) (kd := 5) (ks := 10) (R := τ.1 0) (by decide) (by decide) (fun q i σ _ hi => by
      rw [fX6_back_39, if_neg (z_nle 6 6 (by decide) hi (by decide)), z_gdT (z_inN (by omega) (by decide)), z_gdT (z_inN (by omega) (by decide))]
      simp only [z_st]
      rw [z_xN (by omega), nI_1]) (fun q σ _ => by
      rw [fX6_back_39, if_pos (by decide)]) 6 z_FU 0 _ (z_cp_r (by decide)) (by decide) (by decide)]
  simp only [z_st]
  refine ⟨_, congrArg some (Prod.ext ?_ rfl), fun k h0 h9 h10 => ?_, fun j hj => ?_, fun j hj => ?_, fun j h1 h2 h3 h4 h5 => ?_, ?_, ?_, ?_, ?_, ?_⟩
  · simp [z_pt_g, z_cp_f]
  · rw [z_pt_r h0, z_pt_r h0, z_pt_r h0, z_pt_r h0, z_pt_r h0, z_cp_r h10, z_cp_r h9]
  · rw [z_pt_r (by decide), z_pt_r (by decide), z_pt_r (by decide), z_pt_r (by decide), z_pt_r (by decide), z_cp_r (by decide), z_cp_1, if_pos (by omega)]
  · rw [z_pt_r (by decide), z_pt_r (by decide), z_pt_r (by decide), z_pt_r (by decide), z_pt_r (by decide), z_cp_1, if_pos (by omega), z_cp_r (by decide)]
  · rw [z_pt_2 h5, z_pt_2 h4, z_pt_2 h3, z_pt_2 h2, z_pt_2 h1, z_cp_r (by decide), z_cp_r (by decide)]
  · simp [z_pt_g, z_cp_f]
  · simp [z_pt_g, z_cp_f]
  · simp [z_pt_g, z_cp_f]
  · simp [z_pt_g, z_cp_f]
  · simp [z_pt_g, z_cp_f]
section ZPUB8
variable {σ τ : z_Mem} {g : zG}
theorem p_image (hc : cG σ g) (hm : mG τ g) (hw : gW g) : zSame (fX5_image σ) (fX6_image τ) := by
  have hl := aW_len hw.1.1
  obtain ⟨τ', e2, hk, h9, h10, h0, h35, h36, h37, h38, h39⟩ := m_image (τ := τ)
  obtain ⟨σ', e1, c1, k1⟩ := c_takeFrom (c := 17) (b := 7) hc.1 hw.1.1 (by omega)
  unfold fX5_image
  rw [z_bdE e1, e2]
  simp only [z_st]
  have hk1 : cK (fun k => k = 0 ∨ 17 ≤ k ∧ k ≤ 21) σ (z_pt σ' 0 7 1) := fun k q => by
    rw [z_pt_r (by omega)]
    exact k1 k (by omega)
  obtain ⟨d1, d2, d3, d4, d5⟩ := hc
  obtain ⟨m1, m2, m3, m4, m5⟩ := hm
  have hcM : cM (z_pt σ' 0 7 1) 7 (gA g) := cM_kept d1 hk1 (fun i hi => by omega)
  rw [hcM.1, m1.1]
  refine zSame_ret (g := (gA g, some (gA g), g.2.2)) ⟨hcM, ⟨z_pt_1, cM_kept (S := fun k => k = 0) c1 (fun k q => z_pt_r q) (fun i hi => by omega)⟩, cT_kept d3 hk1 (by omega) (by omega) (by omega), cTp_kept d4 hk1 (by omega) (by omega), fun s hs => cSheet_kept (d5 s hs) hk1 (by omega) (by omega)⟩ ⟨?_, ?_, mT_kept m3 (h0 3 (by omega)) (hk 1 (by decide) (by decide) (by decide)) (hk 2 (by decide) (by decide) (by decide)), ?_, fun s hs => ?_⟩ ⟨hw.1, fun b hb => ?_, hw.2.2⟩
  · unfold mM
    rw [h0 10 (by omega), h0 12 (by omega), h0 7 (by omega), h0 8 (by omega), h0 4 (by omega), hk 4 (by decide) (by decide) (by decide), hk 5 (by decide) (by decide) (by decide)]
    exact m1
  · refine ⟨h35.trans m1.1, h36.trans m1.2.1, h37.trans m1.2.2.1, h38.trans m1.2.2.2.1, h39.trans m1.2.2.2.2.1, fun i hi => ?_, fun i hi => ?_⟩
    · rw [h9 _ (by omega), h9 _ (by omega), h9 _ (by omega)]
      exact m1.2.2.2.2.2.1 i hi
    · rw [h10 _ (by omega)]
      exact m1.2.2.2.2.2.2 i hi
  · unfold mTp
    rw [h0 6 (by omega), hk 3 (by decide) (by decide) (by decide)]
    exact m4
  · show mSheet τ' s (gS g s)
    unfold mSheet
    rw [hk 11 (by decide) (by decide) (by decide), hk 12 (by decide) (by decide) (by decide), hk 13 (by decide) (by decide) (by decide), hk 14 (by decide) (by decide) (by decide)]
    exact m5 s hs
  · have : gA g = b := Option.some.inj hb
    exact this ▸ hw.1
theorem p_back (hc : cG σ g) (hm : mG τ g) (hw : gW g) : zSame (fX5_back σ) (fX6_back τ) := by
  match hB : gB g, hc.2.1, hm.2.1 with
  | none, (c2 : σ.1 0 7 = 0), (m2 : τ.1 0 35 = -1) =>
    unfold fX5_back fX6_back
    rw [if_pos c2, if_pos m2]
    exact zSame_ret hc hm hw
  | some b, c2, m2 =>
    have hb := hw.2.1 b hB
    have hl := aW_len hb.1
    have hb6 := hb.1.1
    have hne : ¬ τ.1 0 35 = -1 := by rw [m2.1]; exact nI_neg1 (by omega)
    obtain ⟨τ', e2, hk, h9, h10, h0, h35, h36, h37, h38, h39⟩ := m_back hne
    obtain ⟨σ', e1, c1, k1⟩ := c_takeFrom (c := 7) (b := 17) c2.2 hb.1 (by omega)
    unfold fX5_back
    rw [if_neg (by rw [c2.1]; decide), z_bdE e1, e2, c1.1, m2.1]
    refine zSame_ret (cG_a hc (cK_mono k1 (fun k hk => by unfold zScr; omega)) c1) (mG_a hm ⟨fun k q0 q4 q5 _ _ _ => hk k q0 q4 q5, fun j hj => h0 j (by omega) (by omega) (by omega) (by omega) (by omega)⟩ ?_) (gW_a hw hb)
    refine ⟨h35.trans m2.1, h36.trans m2.2.1, h37.trans m2.2.2.1, h38.trans m2.2.2.2.1, h39.trans m2.2.2.2.2.1, fun i hi => ?_, fun i hi => ?_⟩
    · rw [h9 _ (by omega), h9 _ (by omega), h9 _ (by omega)]
      exact m2.2.2.2.2.2.1 i hi
    · rw [h10 _ (by omega)]
      exact m2.2.2.2.2.2.2 i hi
end ZPUB8
