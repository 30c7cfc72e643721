theorem gStr_zb {tv : zTV} {a : aS} (hw : aW a) {p : Nat} (hp : p < 6) : zb (as_ a p - gSpent tv a p) = gStr tv a p := by
  obtain ⟨-, -, h3⟩ := hw.2.2.2.2.1 p hp
  have h4 := gSpent_in (tv := tv) (a := a) (p := p)
  have e : (as_ a p - gSpent tv a p).toInt = (as_ a p).toInt - (gSpent tv a p).toInt := by
    rw [Int32.toInt_sub, Int.bmod_eq_of_le (by omega) (by omega)]
  have h0 : (0 : Int32).toInt = 0 := rfl
  have h9 : (99 : Int32).toInt = 99 := rfl
  unfold zb gStr z_mx
  simp only [Int32.le_iff_toInt_le, Int32.lt_iff_toInt_lt, e, h0, h9]
  by_cases c : (as_ a p).toInt - (gSpent tv a p).toInt < 0
  · rw [if_neg (by omega), if_neg (by omega)]
  · rw [if_pos (by omega), if_pos (by omega)]
    by_cases c2 : 0 < (as_ a p).toInt - (gSpent tv a p).toInt
    · rw [if_pos c2]
    · rw [if_neg c2]
      apply Int32.toInt_inj.mp
      rw [e, h0]
      omega
/-- an hour changes strengths, the hour, and what is laid by -/
def mP (τ τ' : z_Mem) : Prop := (∀ k, k ≠ 0 → k ≠ 4 → k ≠ 6 → τ'.1 k = τ.1 k) ∧ ∀ j, j ≠ 7 → (j < 13 ∨ 27 < j) → τ'.1 0 j = τ.1 0 j
theorem mP_tr {τ τ' τ'' : z_Mem} (h : mP τ τ') (h' : mP τ' τ'') : mP τ τ'' := ⟨fun k h1 h2 h3 => (h'.1 k h1 h2 h3).trans (h.1 k h1 h2 h3), fun j h1 h2 => (h'.2 j h1 h2).trans (h.2 j h1 h2)⟩
theorem mP_k {τ τ' : z_Mem} (h : mK τ τ') : mP τ τ' := ⟨fun k h1 _ _ => h.1 k h1, fun j _ h2 => h.2 j h2⟩
theorem mT_p {τ τ' : z_Mem} {tv : zTV} {n : Nat} (h : mT τ tv n) (hk : mP τ τ') : mT τ' tv n := mT_kept h (hk.2 3 (by omega) (by omega)) (hk.1 1 (by omega) (by omega) (by omega)) (hk.1 2 (by omega) (by omega) (by omega))
theorem m_pass2 {a : aS} {tv : zTV} (hw : aW a) {K : z_Mem → Option (Unit × z_Mem)} {P : Unit → z_Mem → Prop} : ∀ (m q i : Nat) (τ : z_Mem), mM τ (aPart tv a i) → (∀ j, j < (ar a).length → τ.1 6 j = gSpent tv a ((ar a).getD j 0)) → (∀ τ' : z_Mem, mM τ' (aPart tv a (ar a).length) → mP τ τ' → z_R (K τ') P) → i + m = (ar a).length → m < q → z_R (fX6_passes_34 K q (nI i) τ) P
  | _, 0, i, τ, _, _, _, _, h => absurd h (Nat.not_lt_zero _)
  | 0, q + 1, i, τ, h, hs, hK, hi, hq => by
    have h6 := aW_len hw
    rw [fX6_passes_34, h.2.1, if_pos (nI_le (by show (ar a).length ≤ i; omega) (by omega))]
    have : i = (ar a).length := by omega
    subst this
    exact hK τ h ⟨fun _ _ _ _ => rfl, fun _ _ _ => rfl⟩
  | m + 1, q + 1, i, τ, h, hs, hK, hi, hq => by
    have h6 := aW_len hw
    have h66 := hw.1
    have hi2 : i < (ar a).length := by omega
    have hp := aR_lt hw hi2
    have hpm : (ar a).getD i 0 ∉ (ar a).take i := by
      rw [z_getD hi2]
      intro hmem
      obtain ⟨j, hj, e⟩ := List.getElem_of_mem hmem
      rw [List.getElem_take] at e
      have hj2 : j < i := by
        have := hj
        simp at this
        omega
      exact (List.pairwise_iff_getElem.mp hw.2.1) j i (by omega) hi2 hj2 e
    have es : as_ (aPart tv a i) ((ar a).getD i 0) = as_ a ((ar a).getD i 0) := if_neg hpm
    obtain ⟨g1, g2, g3, g4, g5, g6, g7⟩ := id h
    have er : τ.1 5 i = nI ((ar a).getD i 0) := g7 i hi2
    rw [fX6_passes_34, g2, if_neg (nI_ge (by show i < (ar a).length; exact hi2) (by show (ar a).length < 2 ^ 31; omega))]
    simp only [z_xN (show i < 2 ^ 31 by omega), er, m3, m3_1]
    rw [z_gdT (z_inN (show i < 6 by omega) (by decide)), z_gdT (z_inN (show 3 * (ar a).getD i 0 + 1 < 18 by omega) (by decide)), z_gdT (z_inN (show i < 6 by omega) (by decide)), z_xN (by omega)]
    refine z_R_bdE m_within ?_
    rw [z_gdT (z_inN (show 3 * (ar a).getD i 0 + 1 < 18 by omega) (by decide))]
    refine z_R_st ?_
    have e4 : τ.1 4 (3 * (ar a).getD i 0 + 1) = as_ a ((ar a).getD i 0) := by
      rw [(g6 _ (by omega)).2.2]; exact es
    rw [e4, hs i hi2, gStr_zb hw (by omega)]
    have hPP : mP τ (z_pt τ 4 (3 * (ar a).getD i 0 + 1) (gStr tv a ((ar a).getD i 0))) := ⟨fun k h1 h2 h3 => z_pt_r h2, fun j _ _ => z_pt_3 (by decide)⟩
    refine m_pass2 hw m q (i + 1) _ ?_ (fun j hj => by rw [z_pt_3 (by decide)]; exact hs j hj) (fun τ' h1 h2 => hK τ' h1 (mP_tr hPP h2)) (by omega) (by omega)
    refine ⟨by rw [z_pt_3 (by decide)]; exact g1, by rw [z_pt_3 (by decide)]; exact g2, by rw [z_pt_3 (by decide)]; exact g3, by rw [z_pt_3 (by decide)]; exact g4, by rw [z_pt_3 (by decide)]; exact g5, fun j hj => ⟨by rw [z_pt_2 (by omega)]; exact (g6 j hj).1, by rw [z_pt_2 (by omega)]; exact (g6 j hj).2.1, ?_⟩, fun j hj => by rw [z_pt_3 (by decide)]; exact g7 j hj⟩
    show _ = if j ∈ (ar a).take (i + 1) then gStr tv a j else as_ a j
    have e7 : τ.1 4 (3 * j + 1) = if j ∈ (ar a).take i then gStr tv a j else as_ a j := (g6 j hj).2.2
    rw [List.take_succ_eq_append_getElem hi2]
    simp only [List.mem_append, List.mem_singleton, ← z_getD hi2]
    by_cases q1 : j = (ar a).getD i 0
    · subst q1
      rw [z_pt_1, if_pos (Or.inr rfl)]
    · rw [z_pt_2 (by omega), e7]
      by_cases q2 : j ∈ (ar a).take i
      · rw [if_pos q2, if_pos (Or.inl q2)]
      · rw [if_neg q2, if_neg (fun h => h.elim q2 q1)]
theorem mM_6 {τ : z_Mem} {a : aS} {j : Nat} {v : Int32} (h : mM τ a) : mM (z_pt τ 6 j v) a := by
  unfold mM
  rw [z_pt_r (show 0 ≠ 6 by decide), z_pt_r (show 4 ≠ 6 by decide), z_pt_r (show 5 ≠ 6 by decide)]
  exact h
theorem m_pass1 {a : aS} {tv : zTV} {n : Nat} (hw : aW a) (hr : au a < n) : ∀ (m q i : Nat) (τ : z_Mem), mM τ a → mT τ tv n → (∀ j, j < i → τ.1 6 j = gSpent tv a ((ar a).getD j 0)) → i + m = (ar a).length → m < q → z_R (fX6_passes_2 q (nI i) τ) (fun _ τ' => mM τ' (aPass tv a) ∧ mP τ τ')
  | _, 0, i, τ, _, _, _, _, h => absurd h (Nat.not_lt_zero _)
  | 0, q + 1, i, τ, h, hT, hs, hi, hq => by
    have h6 := aW_len hw
    rw [fX6_passes_2, h.2.1, if_pos (nI_le (by omega) (by omega))]
    have e := m_pass2 (tv := tv) (P := fun _ τ' => mM τ' (aPass tv a) ∧ mP τ τ') (K := fun σ => z_st (z_pt σ 0 7 ((σ.1 0 7) + (1 : Int32))) (fun s3 => some ((), s3))) hw (ar a).length z_FU 0 τ (by rw [aPart_0]; exact h) (fun j hj => hs j (by omega)) ?_ (by omega) (by simp only [z_FU]; omega)
    · rw [nI_0] at e
      exact e
    · intro τ' h1 h2
      obtain ⟨g1, g2, g3, g4, g5, g6, g7⟩ := h1
      refine z_R_st (z_R_some ⟨⟨by rw [z_pt_2 (by decide)]; exact g1, by rw [z_pt_2 (by decide)]; exact g2, ?_, by rw [z_pt_2 (by decide)]; exact g4, by rw [z_pt_2 (by decide)]; exact g5, fun j hj => ?_, fun j hj => by rw [z_pt_3 (by decide)]; exact g7 j hj⟩, mP_tr h2 ⟨fun k h1 h2 h3 => z_pt_r h1, fun j h1 h2 => z_pt_2 h1⟩⟩)
      · rw [z_pt_1, g3]
      · have := g6 j hj
        refine ⟨by rw [z_pt_3 (by decide)]; exact this.1, by rw [z_pt_3 (by decide)]; exact this.2.1, ?_⟩
        rw [z_pt_3 (by decide)]
        show _ = if j ∈ ar a then gStr tv a j else as_ a j
        have e3 : τ'.1 4 (3 * j + 1) = if j ∈ (ar a).take (ar a).length then gStr tv a j else as_ a j := this.2.2
        rw [List.take_length] at e3
        exact e3
  | m + 1, q + 1, i, τ, h, hT, hs, hi, hq => by
    have h6 := aW_len hw
    have hi2 : i < (ar a).length := by omega
    obtain ⟨g1, g2, g3, g4, g5, g6, g7⟩ := id h
    rw [fX6_passes_2, g2, if_neg (nI_ge hi2 (by omega)), z_gdT (z_inN (show i < 6 by omega) (by decide)), z_xN (by omega), g7 i hi2]
    refine z_R_bd (m_spentOf h hw hT hr (aR_lt hw hi2)) (fun v s hv => ?_)
    rw [z_gdT (z_inN (show i < 6 by omega) (by decide)), hv.1, nI_1]
    refine z_R_st ?_
    have hPP : mP τ (z_pt s 6 i (gSpent tv a ((ar a).getD i 0))) := mP_tr (mP_k hv.2) ⟨fun k h1 h2 h3 => z_pt_r h3, fun j _ _ => z_pt_3 (by decide)⟩
    refine z_R_mono (m_pass1 hw hr m q (i + 1) _ (mM_6 (mM_kept h hv.2)) (mT_p hT hPP) (fun j hj => ?_) (by omega) (by omega)) (fun r τ' q => ⟨q.1, mP_tr hPP q.2⟩)
    by_cases e : j = i
    · subst e; rw [z_pt_1]
    · rw [z_pt_2 e, hv.2.1 6 (by decide)]; exact hs j (by omega)
theorem m_passes {τ : z_Mem} {a : aS} {tv : zTV} {n : Nat} (h : mM τ a) (hw : aW a) (hT : mT τ tv n) (hr : au a < n) : z_R (fX6_passes τ) (fun _ τ' => mM τ' (aPass tv a) ∧ mP τ τ') := by
  have h6 := aW_len hw
  unfold fX6_passes
  have e := m_pass1 (tv := tv) hw hr (ar a).length z_FU 0 τ h hT (fun j hj => by omega) (by omega) (by simp only [z_FU]; omega)
  rw [nI_0] at e
  exact e
