theorem apl_none {l : List Nat} {x : Int32} : ∀ {k : Nat}, (∀ p ∈ l, ¬ nI p = x) → apl l x k = -1 := by
  induction l with
  | nil => intro k _; rfl
  | cons p l ih =>
    intro k h
    rw [apl, if_neg (h p List.mem_cons_self)]
    exact ih (fun q hq => h q (List.mem_cons_of_mem _ hq))
theorem nI_neg1 {n : Nat} (h : n < 2 ^ 31) : ¬ nI n = (-1 : Int32) := by
  intro e
  have := nI_pos h
  rw [e] at this
  exact this (by decide)
theorem m_placeOf_loop {τ : z_Mem} {a : aS} {x : Int32} (h : mM τ a) (hw : aW a) : ∀ (q i : Nat) (f : Int32), i ≤ (ar a).length → (ar a).length - i < q → fX6_placeOf_4 q x f (nI i) τ = some (if apl ((ar a).drop i) x i = -1 then f else apl ((ar a).drop i) x i, τ)
  | 0, i, f, _, h => absurd h (Nat.not_lt_zero _)
  | q + 1, i, f, hi, hq => by
    have h6 := aW_len hw
    have h66 := hw.1
    rw [fX6_placeOf_4, h.2.1]
    by_cases hl : i = (ar a).length
    · subst hl
      rw [if_pos (nI_le (Nat.le_refl _) (by omega)), List.drop_length, apl, if_pos rfl]
    · have hi' : i < (ar a).length := by omega
      rw [if_neg (nI_ge hi' (by omega)), z_gdT (z_inN (by omega) (by decide)), z_xN (by omega), h.2.2.2.2.2.2 i hi', List.drop_eq_getElem_cons hi', apl, z_getD hi', nI_1]
      by_cases he : nI (ar a)[i] = x
      · rw [if_pos he, if_pos he, if_neg (nI_neg1 (by omega)), m_placeOf_loop h hw q (i + 1) (nI i) hi' (by omega), if_pos]
        apply apl_none
        intro p hp e
        have hpl : p < an a := hw.2.2.1 p (List.mem_of_mem_drop hp)
        have hil : (ar a)[i] < an a := hw.2.2.1 _ (List.getElem_mem hi')
        have ep : p = (ar a)[i] := (nI_eq (by omega) (by omega)).mp (e.trans he.symm)
        obtain ⟨j, hj, ej⟩ := List.getElem_of_mem hp
        rw [List.getElem_drop] at ej
        exact (List.pairwise_iff_getElem.mp hw.2.1) i (i + 1 + j) hi' (by simp at hj; omega) (by omega) (by rw [ej, ep])
      · rw [if_neg he, if_neg he]
        exact m_placeOf_loop h hw q (i + 1) f hi' (by omega)
theorem m_placeOf {τ : z_Mem} {a : aS} {x : Int32} (h : mM τ a) (hw : aW a) : fX6_placeOf x τ = some (apl (ar a) x 0, τ) := by
  have h6 := aW_len hw
  unfold fX6_placeOf
  have := m_placeOf_loop (x := x) h hw z_FU 0 (-1) (Nat.zero_le _) (by simp only [z_FU]; omega)
  rw [nI_0, List.drop_zero] at this
  rw [this]
  by_cases e : apl (ar a) x 0 = -1
  · rw [if_pos e, e]
  · rw [if_neg e]
/-- only THE RING has changed -/
def mC (τ τ' : z_Mem) : Prop := (∀ k, k ≠ 0 → k ≠ 5 → τ'.1 k = τ.1 k) ∧ ∀ j, j ≠ 12 → τ'.1 0 j = τ.1 0 j
theorem mC_rf {τ : z_Mem} : mC τ τ := ⟨fun _ _ _ => rfl, fun _ _ => rfl⟩
theorem mC_tr {τ τ' τ'' : z_Mem} (h : mC τ τ') (h' : mC τ' τ'') : mC τ τ'' := ⟨fun k h1 h2 => (h'.1 k h1 h2).trans (h.1 k h1 h2), fun j hj => (h'.2 j hj).trans (h.2 j hj)⟩
theorem mM_ring {τ τ' : z_Mem} {a : aS} {r' : List Nat} (h : mM τ a) (hc : mC τ τ') (h6 : τ'.1 0 12 = nI r'.length) (h4 : ∀ i, i < r'.length → τ'.1 5 i = nI (r'.getD i 0)) : mM τ' (an a, r', ak a, am a, as_ a, ah a, ac a, au a) := by
  refine ⟨(hc.2 10 (by decide)).trans h.1, h6, (hc.2 7 (by decide)).trans h.2.2.1, (hc.2 8 (by decide)).trans h.2.2.2.1, (hc.2 4 (by decide)).trans h.2.2.2.2.1, fun i hi => ?_, h4⟩
  rw [hc.1 4 (by decide) (by decide)]
  exact h.2.2.2.2.2.1 i hi
theorem mT_c {τ τ' : z_Mem} {tv : zTV} {n : Nat} (h : mT τ tv n) (hk : mC τ τ') : mT τ' tv n := mT_kept h (hk.2 3 (by omega)) (hk.1 1 (by omega) (by omega)) (hk.1 2 (by omega) (by omega))
theorem m_close_loop : ∀ (q i m : Nat) (σ : z_Mem), σ.1 0 12 = nI m → m ≤ 5 → i ≤ m → m - i < q → fX6_closesUp_12 q (nI i) σ = some ((), z_cp σ 5 (fun j => if i ≤ j ∧ j < m then σ.1 5 (j + 1) else σ.1 5 j))
  | 0, i, m, σ, _, _, _, h => absurd h (Nat.not_lt_zero _)
  | q + 1, i, m, σ, hm, h5, hi, hq => by
    rw [fX6_closesUp_12, hm]
    by_cases hl : i = m
    · subst hl
      rw [if_pos (nI_le (Nat.le_refl _) (by omega))]
      congr 2
      unfold z_cp
      refine Prod.ext ?_ rfl
      funext k
      by_cases hk : k = 5
      · subst hk
        funext j
        simp only [va_up]
        rw [if_pos trivial, if_neg (by omega)]
      · simp [va_up, hk]
    · have hi' : i < m := by omega
      rw [if_neg (nI_ge hi' (by omega)), nI_1, z_gdT (z_inN (by omega) (by decide)), z_gdT (z_inN (by omega) (by decide)), z_xN (by omega), z_xN (by omega)]
      show fX6_closesUp_12 q (nI (i + 1)) (z_pt σ 5 i (σ.1 5 (i + 1))) = _
      rw [m_close_loop q (i + 1) m _ (by rw [z_pt_3 (by omega)]; exact hm) h5 (by omega) (by omega), z_cp_pt]
      congr 3
      funext j
      simp only [z_pt_f]
      rcases Nat.lt_trichotomy j i with h | h | h
      · rw [if_neg (by omega), if_neg (by omega), if_neg (by omega)]
      · subst h
        rw [if_neg (by omega), if_pos (by simp), if_pos (by omega)]
      · by_cases hj : j < m
        · rw [if_pos (by omega), if_neg (by omega), if_pos (by omega)]
        · rw [if_neg (by omega), if_neg (by omega), if_neg (by omega)]
theorem m_closesUp {τ : z_Mem} {i : Nat} {a : aS} (h : mM τ a) (hw : aW a) (hi : i < (ar a).length) : ∃ τ', fX6_closesUp (nI i) τ = some ((), τ') ∧ mM τ' (aLeave a i) ∧ mC τ τ' := by
  have h6 := aW_len hw
  unfold fX6_closesUp
  rw [h.2.1]
  have e1 : nI (ar a).length - (1 : Int32) = nI ((ar a).length - 1) := by
    rw [show (1 : Int32) = nI 1 by decide]; exact pk_sub (by omega)
  rw [e1]
  simp only [z_st]
  rw [m_close_loop z_FU i ((ar a).length - 1) _ z_pt_1 (by omega) (by omega) (by simp only [z_FU]; omega)]
  have hC : mC τ (z_cp (z_pt τ 0 12 (nI ((ar a).length - 1))) 5 (fun j => if i ≤ j ∧ j < (ar a).length - 1 then (z_pt τ 0 12 (nI ((ar a).length - 1))).1 5 (j + 1) else (z_pt τ 0 12 (nI ((ar a).length - 1))).1 5 j)) := by
    refine ⟨fun k h1 h2 => ?_, fun j hj => ?_⟩
    · funext q
      rw [z_cp_f, if_neg h2, z_pt_3 h1]
    · rw [z_cp_f, if_neg (by decide), z_pt_2 hj]
  have el : ((ar a).eraseIdx i).length = (ar a).length - 1 := by rw [List.length_eraseIdx, if_pos hi]
  refine ⟨_, rfl, mM_ring h hC ?_ (fun j hj => ?_), hC⟩
  · rw [z_cp_f, if_neg (by decide), z_pt_1, el]
  · have hj2 : j < (ar a).length - 1 := by rw [el] at hj; exact hj
    rw [z_cp_f, if_pos rfl]
    have hr := h.2.2.2.2.2.2
    have e2 : ∀ q, (z_pt τ 0 12 (nI ((ar a).length - 1))).1 5 q = τ.1 5 q := fun q => z_pt_3 (by omega)
    simp only [e2]
    have e3 : ((ar a).eraseIdx i).getD j 0 = if i ≤ j then (ar a).getD (j + 1) 0 else (ar a).getD j 0 := by
      simp only [List.getD, List.getElem?_eraseIdx]
      by_cases q : j < i
      · rw [if_pos q, if_neg (by omega)]
      · rw [if_neg q, if_pos (by omega)]
    rw [e3]
    by_cases q : i ≤ j
    · rw [if_pos ⟨q, hj2⟩, if_pos q]; exact hr _ (by omega)
    · rw [if_neg (by omega), if_neg q]; exact hr _ (by omega)
theorem m_stand_loop {p w : Nat} : ∀ (q i : Nat) (σ : z_Mem), w ≤ i → i ≤ 5 → i - w < q → fX6_stands_5 q (nI p) (nI w) (nI i) σ = some ((), z_pt (z_cp σ 5 (fun j => if j = w then nI p else if w < j ∧ j ≤ i then σ.1 5 (j - 1) else σ.1 5 j)) 0 12 (σ.1 0 12 + 1))
  | 0, i, σ, _, _, h => absurd h (Nat.not_lt_zero _)
  | q + 1, i, σ, hi, h5, hq => by
    rw [fX6_stands_5]
    by_cases hl : i = w
    · subst hl
      rw [if_pos (nI_le (Nat.le_refl _) (by omega)), z_gdT (z_inN (by omega) (by decide)), z_xN (by omega)]
      simp only [z_st]
      have e : (z_pt σ 5 i (nI p)) = (z_cp σ 5 (fun j => if j = i then nI p else if i < j ∧ j ≤ i then σ.1 5 (j - 1) else σ.1 5 j)) := by
        unfold z_cp z_pt
        congr 2
        funext j
        simp only [upd]
        by_cases hj : j = i
        · rw [if_pos hj, if_pos hj]
        · rw [if_neg hj, if_neg hj, if_neg (by omega)]
      rw [z_pt_3 (show 0 ≠ 5 by omega), e]
    · have hi' : w < i := by omega
      have e1 : nI i - (1 : Int32) = nI (i - 1) := by
        rw [show (1 : Int32) = nI 1 by decide]; exact pk_sub (by omega)
      have e2 : nI i + (-1 : Int32) = nI (i - 1) := sb_m1 (by omega)
      rw [if_neg (nI_ge hi' (by omega)), e1, z_gdT (z_inN (by omega) (by decide)), z_gdT (z_inN (by omega) (by decide)), z_xN (by omega), z_xN (by omega), e2]
      simp only [z_st]
      rw [m_stand_loop q (i - 1) _ (by omega) (by omega) (by omega), z_cp_pt, z_pt_3 (show 0 ≠ 5 by omega)]
      congr 4
      funext j
      simp only [z_pt_f]
      by_cases h1 : j = w
      · rw [if_pos h1, if_pos h1]
      · rw [if_neg h1, if_neg h1]
        by_cases h2 : w < j ∧ j ≤ i
        · rw [if_pos h2]
          by_cases h3 : j = i
          · subst h3; rw [if_neg (by omega), if_pos (by simp)]
          · rw [if_pos (by omega), if_neg (by omega)]
        · rw [if_neg h2, if_neg (by omega), if_neg (by omega)]
theorem m_stands {τ : z_Mem} {p i : Nat} {a : aS} (h : mM τ a) (hw : (ar a).length < 6) (hi : i ≤ (ar a).length) : ∃ τ', fX6_stands (nI p) (nI i) τ = some ((), τ') ∧ mM τ' (aEnter a p i) ∧ mC τ τ' := by
  unfold fX6_stands
  rw [h.2.1, m_stand_loop z_FU (ar a).length τ hi (by omega) (by simp only [z_FU]; omega)]
  have hC : mC τ (z_pt (z_cp τ 5 (fun j => if j = i then nI p else if i < j ∧ j ≤ (ar a).length then τ.1 5 (j - 1) else τ.1 5 j)) 0 12 (τ.1 0 12 + 1)) := by
    refine ⟨fun k h1 h2 => ?_, fun j hj => ?_⟩
    · funext q
      rw [z_pt_3 h1, z_cp_f, if_neg h2]
    · rw [z_pt_2 hj, z_cp_f, if_neg (by decide)]
  have el : ((ar a).insertIdx i p).length = (ar a).length + 1 := by rw [List.length_insertIdx, if_pos hi]
  refine ⟨_, rfl, mM_ring h hC ?_ (fun j hj => ?_), hC⟩
  · rw [z_pt_1, h.2.1, nI_1, el]
  · have hj2 : j < (ar a).length + 1 := by rw [el] at hj; exact hj
    rw [z_pt_3 (by decide), z_cp_f, if_pos rfl]
    have hr := h.2.2.2.2.2.2
    have e3 : ((ar a).insertIdx i p).getD j 0 = if j = i then p else if i < j then (ar a).getD (j - 1) 0 else (ar a).getD j 0 := by
      simp only [List.getD, List.getElem?_insertIdx]
      by_cases q : j < i
      · rw [if_pos q, if_neg (by omega), if_neg (by omega)]
      · rw [if_neg q]
        by_cases q2 : j = i
        · rw [if_pos q2, if_pos q2, if_pos (by omega)]; rfl
        · rw [if_neg q2, if_neg q2, if_pos (by omega)]
    rw [e3]
    by_cases q : j = i
    · rw [if_pos q, if_pos q]
    · rw [if_neg q, if_neg q]
      by_cases q2 : i < j
      · rw [if_pos ⟨q2, by omega⟩, if_pos q2]; exact hr _ (by omega)
      · rw [if_neg (by omega), if_neg q2]; exact hr _ (by omega)
theorem m_change {τ : z_Mem} {i j : Nat} {a : aS} (h : mM τ a) (hw : aW a) (hi : i < (ar a).length) (hj : j < (ar a).length) : ∃ τ', fX6_change (nI i) (nI j) τ = some ((), τ') ∧ mM τ' (aSwap a i j) ∧ mC τ τ' := by
  have h6 := aW_len hw
  unfold fX6_change
  simp only [z_st]
  rw [z_gdT (z_inN (show i < 6 by omega) (by decide)), z_gdT (z_inN (show j < 6 by omega) (by decide)), z_gdT (z_inN (show i < 6 by omega) (by decide)), z_gdT (z_inN (show j < 6 by omega) (by decide)), z_xN (by omega), z_xN (by omega), h.2.2.2.2.2.2 i hi, h.2.2.2.2.2.2 j hj]
  have hC : mC τ (z_pt (z_pt τ 5 i (nI ((ar a).getD j 0))) 5 j (nI ((ar a).getD i 0))) := ⟨fun k h1 h2 => by rw [z_pt_r h2, z_pt_r h2], fun q hq => by rw [z_pt_3 (by decide), z_pt_3 (by decide)]⟩
  refine ⟨_, rfl, mM_ring h hC ?_ (fun q hq => ?_), hC⟩
  · rw [z_pt_3 (by decide), z_pt_3 (by decide), h.2.1]; simp
  · have hq2 : q < (ar a).length := by simpa using hq
    rw [z_getD_set (by simpa using hj), z_getD_set hi]
    simp only [z_pt_g, if_true]
    by_cases q1 : q = j
    · rw [if_pos q1, if_pos q1]
    · rw [if_neg q1, if_neg q1]
      by_cases q2 : q = i
      · rw [if_pos q2, if_pos q2]
      · rw [if_neg q2, if_neg q2]
        exact h.2.2.2.2.2.2 q hq2
