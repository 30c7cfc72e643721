theorem z_ofI {x : Int32} {N : Nat} (h : 0 ≤ x.toInt ∧ x.toInt < (N : Int)) : ∃ s, s < N ∧ x = nI s := by
  obtain ⟨j, hj, rfl⟩ := nI_of (x := x) (by rw [Int32.lt_iff_toInt_lt]; simp; omega)
  rw [nI_toInt hj] at h
  exact ⟨j, by omega, rfl⟩
theorem c_isSheet {x : Int32} {σ : z_Mem} : fX5_isSheet x σ = some (if 0 ≤ x.toInt ∧ x.toInt < (4 : Nat) then 1 else 0, σ) := by
  unfold fX5_isSheet
  simp only [Int32.lt_iff_toInt_lt, Int32.le_iff_toInt_le, show (0 : Int32).toInt = 0 from rfl, show (4 : Int32).toInt = 4 from rfl]
  repeat' split
  all_goals first | rfl | omega
theorem m_isSheet {x : Int32} {τ : z_Mem} : fX6_isSheet x τ = some (if 0 ≤ x.toInt ∧ x.toInt < (4 : Nat) then 1 else 0, τ) := by
  unfold fX6_isSheet
  rw [z_bdE m_in, show (0 : Int64).toInt = 0 from rfl, show (3 : Int64).toInt = 3 from rfl]
  by_cases q : 0 ≤ x.toInt ∧ x.toInt ≤ 3
  · rw [if_pos q, if_pos (by omega), z_gdT (by decide)]
  · rw [if_neg q, if_neg (by omega), z_gdT (by decide)]
theorem c_isSheetN {s : Nat} {σ : z_Mem} (hs : s < 4) : fX5_isSheet (nI s) σ = some (1, σ) := by
  rw [c_isSheet, nI_toInt (by omega), if_pos (by omega)]
theorem m_isSheetN {s : Nat} {τ : z_Mem} (hs : s < 4) : fX6_isSheet (nI s) τ = some (1, τ) := by
  rw [m_isSheet, nI_toInt (by omega), if_pos (by omega)]
theorem m40 {s i : Nat} : (40 : Int32) * nI s + nI i = nI (40 * s + i) := by rw [show (40 : Int32) = nI 40 by decide, pk_mul, nI_add]
/-- the reference's memory but for sheet s -/
def mSf (τ τ' : z_Mem) (s : Nat) : Prop := (∀ k, k ≠ 11 → k ≠ 12 → k ≠ 13 → k ≠ 14 → τ'.1 k = τ.1 k) ∧ ∀ t, t < 4 → t ≠ s → τ'.1 11 t = τ.1 11 t ∧ τ'.1 12 t = τ.1 12 t ∧ τ'.1 13 t = τ.1 13 t ∧ ∀ i, i < 40 → τ'.1 14 (40 * t + i) = τ.1 14 (40 * t + i)
theorem mSf_tr {τ τ' τ'' : z_Mem} {s : Nat} (h : mSf τ τ' s) (h' : mSf τ' τ'' s) : mSf τ τ'' s :=
  ⟨fun k a b c d => (h'.1 k a b c d).trans (h.1 k a b c d), fun t ht e => ⟨(h'.2 t ht e).1.trans (h.2 t ht e).1, (h'.2 t ht e).2.1.trans (h.2 t ht e).2.1, (h'.2 t ht e).2.2.1.trans (h.2 t ht e).2.2.1, fun i hi => ((h'.2 t ht e).2.2.2 i hi).trans ((h.2 t ht e).2.2.2 i hi)⟩⟩
theorem m_sheet_loop {s n k : Nat} (hs : s < 4) (hn : n ≤ 40) (hk : k ≤ 2) : ∀ (m q i : Nat) (τ : z_Mem), i + m = n → m < q → fX6_sheet_77 q (nI s) (nI k) (nI n) (nI i) τ = some (1, z_cp τ 14 (fun j => if 40 * s + i ≤ j ∧ j < 40 * s + n then 0 else τ.1 14 j))
  | m, 0, i, τ, _, h => absurd h (Nat.not_lt_zero _)
  | 0, q + 1, i, τ, hi, _ => by
    have : i = n := by omega
    subst this
    rw [fX6_sheet_77, if_pos (nI_le (Nat.le_refl _) (by omega))]
    have : (fun j => if 40 * s + i ≤ j ∧ j < 40 * s + i then 0 else τ.1 14 j) = τ.1 14 := funext fun j => if_neg (by omega)
    rw [this]
    refine congrArg some (Prod.ext rfl (Prod.ext ?_ rfl))
    funext k j
    show τ.1 k j = _
    rw [z_cp_f]
    by_cases e : k = 14
    · rw [if_pos e, e]
    · rw [if_neg e]
  | m + 1, q + 1, i, τ, hi, hq => by
    rw [fX6_sheet_77, if_neg (nI_ge (by omega) (by omega)), if_neg (nI_pos (by omega)), m40, z_gdT (z_inN (by omega) (by decide))]
    simp only [z_st]
    rw [z_xN (by omega), nI_1, m_sheet_loop hs hn hk m q (i + 1) _ (by omega) (by omega), z_cp_pt]
    congr 3
    funext j
    by_cases e : j = 40 * s + i
    · subst e
      rw [if_neg (by omega), z_pt_1, if_pos (by omega)]
    · rw [z_pt_2 e]
      by_cases e' : 40 * s + i ≤ j ∧ j < 40 * s + n
      · rw [if_pos e', if_pos (by omega)]
      · rw [if_neg e', if_neg (by omega)]
theorem z_rep {n i : Nat} : (List.replicate n (0 : Int32)).getD i 0 = 0 := by
  simp [List.getD, List.getElem?_replicate]
  split <;> rfl
theorem m_sheetS {s n k : Nat} {τ : z_Mem} (hs : s < 4) (hn : n ≤ 40) (hk : k ≤ 2) : ∃ τ', fX6_sheet (nI s) (nI k) (nI n) τ = some (1, τ') ∧ mSheet τ' s (some (k, List.replicate n 0)) ∧ mSf τ τ' s := by
  unfold fX6_sheet fX6_sheet_j34
  rw [z_bdE (m_isSheetN hs), if_neg z_10, z_bdE (m_inT (by rw [nI_toInt (by omega), show (-1 : Int64).toInt = -1 from rfl, show (2 : Int64).toInt = 2 from rfl]; omega)), if_neg z_10]
  simp only [if_neg (nI_pos (show k < 2 ^ 31 by omega)), if_pos (nI_pos' (show n < 2 ^ 31 by omega)), if_pos (show nI n ≤ 40 by rw [show (40 : Int32) = nI 40 by decide]; exact nI_le hn (by decide)), z_gdT (z_inN hs (show 4 < 2 ^ 31 by decide)), z_st, z_xN (show s < 2 ^ 31 by omega)]
  have e := m_sheet_loop hs hn hk n z_FU 0 (z_pt (z_pt (z_pt τ 11 s 1) 12 s (nI k)) 13 s (nI n)) (by omega) (by simp only [z_FU]; omega)
  rw [nI_0] at e
  rw [e]
  refine ⟨_, rfl, ⟨?_, ?_, ?_, fun i hi => ?_⟩, fun q a b c d => ?_, fun t ht e => ⟨?_, ?_, ?_, fun i hi => ?_⟩⟩
  · rw [z_cp_r (by decide), z_pt_3 (by decide), z_pt_3 (by decide), z_pt_1]
  · rw [z_cp_r (by decide), z_pt_3 (by decide), z_pt_1]
  · rw [z_cp_r (by decide), z_pt_1]; simp
  · have hi' : i < n := by simpa using hi
    rw [z_cp_1, if_pos (by omega), z_rep]
  · rw [z_cp_r d, z_pt_r c, z_pt_r b, z_pt_r a]
  · rw [z_cp_r (by decide), z_pt_3 (by decide), z_pt_3 (by decide), z_pt_2 e]
  · rw [z_cp_r (by decide), z_pt_3 (by decide), z_pt_2 e, z_pt_3 (by decide)]
  · rw [z_cp_r (by decide), z_pt_2 e, z_pt_3 (by decide), z_pt_3 (by decide)]
  · rw [z_cp_1, if_neg (by omega), z_pt_3 (by decide), z_pt_3 (by decide), z_pt_3 (by decide)]
theorem m_sheetN {s : Nat} {n : Int32} {τ : z_Mem} (hs : s < 4) : ∃ τ', fX6_sheet (nI s) (-1) n τ = some (1, τ') ∧ mSheet τ' s none ∧ mSf τ τ' s := by
  unfold fX6_sheet fX6_sheet_j34
  rw [z_bdE (m_isSheetN hs), if_neg z_10, z_bdE (m_inT (by decide)), if_neg z_10]
  simp only [if_pos (show (-1 : Int32) < 0 by decide), z_gdT (z_inN hs (show 4 < 2 ^ 31 by decide)), z_st, z_xN (show s < 2 ^ 31 by omega)]
  have e : ∀ t : z_Mem, fX6_sheet_77 z_FU (nI s) (-1) n 0 t = some (1, t) := fun t => by
    rw [show z_FU = 999 + 1 from rfl, fX6_sheet_77]
    simp only [if_pos (show (-1 : Int32) < 0 by decide), ite_self]
  rw [e]
  refine ⟨_, rfl, ?_, fun q a b c d => ?_, fun t ht e => ⟨?_, ?_, ?_, fun i hi => ?_⟩⟩
  · show (z_pt (z_pt (z_pt τ 11 s 0) 12 s (-1)) 13 s n).1 11 s = 0
    rw [z_pt_3 (by decide), z_pt_3 (by decide), z_pt_1]
  · rw [z_pt_r c, z_pt_r b, z_pt_r a]
  · rw [z_pt_3 (by decide), z_pt_3 (by decide), z_pt_2 e]
  · rw [z_pt_3 (by decide), z_pt_2 e, z_pt_3 (by decide)]
  · rw [z_pt_2 e, z_pt_3 (by decide), z_pt_3 (by decide)]
  · rw [z_pt_3 (by decide), z_pt_3 (by decide), z_pt_3 (by decide)]
theorem c_becomeS {s n k : Nat} {σ : z_Mem} (hn : n ≤ 40) : ∃ σ', fX3_become (28 + 2 * s) (nI k) (nI n) σ = some ((), σ') ∧ cSheet σ' s (some (k, List.replicate n 0)) ∧ cK (fun q => q = 28 + 2 * s ∨ q = 28 + 2 * s + 1) σ σ' := by
  obtain ⟨σ', e, h1, h2, h3, h4⟩ := c_become (c := 28 + 2 * s) (k := nI k) (n := nI n) (σ := σ)
  refine ⟨σ', e, ⟨h1, ?_, fun i hi => ?_⟩, h4⟩
  · rw [h2]; simp
  · have hi' : i < n := by simpa using hi
    rw [h3 i (by omega), z_rep]
section ZPUB9
variable {σ τ : z_Mem} {g : zG}
theorem p_sheet (hc : cG σ g) (hm : mG τ g) (hw : gW g) (x y v : Int32) : zSame (fX5_sheet x y v σ) (fX6_sheet x y v τ) := by
  have hbad : zSame (some ((-2 : Int32), σ)) (some ((-2 : Int32), τ)) := zSame_ret hc hm hw
  by_cases h1 : 0 ≤ x.toInt ∧ x.toInt < (4 : Nat)
  · obtain ⟨s, hs, rfl⟩ := z_ofI h1
    unfold fX5_sheet
    rw [z_bdE (c_isSheetN hs), if_neg z_10]
    by_cases h2 : -1 ≤ y.toInt ∧ y.toInt ≤ 2
    · rw [if_neg (show ¬ y < -1 by rw [Int32.lt_iff_toInt_lt, show (-1 : Int32).toInt = -1 from rfl]; omega), if_pos (show y ≤ 2 by rw [Int32.le_iff_toInt_le]; exact h2.2)]
      by_cases e : y = -1
      · subst e
        rw [if_pos rfl, if_pos rfl, z_gdT (z_inN hs (by decide)), if_pos rfl, z_xN (by omega)]
        obtain ⟨τ', e2, m2, k2⟩ := m_sheetN (τ := τ) (n := v) hs
        obtain ⟨σ', e1, q1, q2, q3, k1⟩ := c_become (c := 28 + 2 * s) (k := -1) (n := 0) (σ := σ)
        rw [z_bdE e1, e2]
        exact zSame_ret (cG_s (x := none) hc k1 ⟨q1, q2⟩) (mG_s hm hw k2.1 k2.2 m2) (gW_s hw (fun k l q => by cases q))
      · simp only [if_neg e]
        have hy0 : 0 ≤ y.toInt ∧ y.toInt < (3 : Nat) := by
          have := z_nei e
          rw [show (-1 : Int32).toInt = -1 from rfl] at this
          omega
        obtain ⟨k, hk, rfl⟩ := z_ofI hy0
        by_cases h3 : v ≤ 40
        · rw [if_pos h3]
          by_cases h4 : 0 ≤ v
          · rw [if_pos h4, z_gdT (z_inN hs (by decide)), z_xN (by omega)]
            obtain ⟨n, hn, rfl⟩ := z_ofI (x := v) (N := 41) (by
              rw [Int32.le_iff_toInt_le] at h3 h4
              rw [show (40 : Int32).toInt = 40 from rfl] at h3
              rw [show (0 : Int32).toInt = 0 from rfl] at h4
              omega)
            obtain ⟨τ', e2, m2, k2⟩ := m_sheetS (τ := τ) (n := n) (k := k) hs (by omega) (by omega)
            obtain ⟨σ', e1, q1, k1⟩ := c_becomeS (s := s) (k := k) (n := n) (σ := σ) (by omega)
            rw [z_bdE e1, e2]
            refine zSame_ret (cG_s hc k1 q1) (mG_s hm hw k2.1 k2.2 m2) (gW_s hw (fun k l q => ?_))
            cases q
            simp
            omega
          · rw [if_neg h4]
            unfold fX6_sheet fX6_sheet_j34
            rw [z_bdE (m_isSheetN hs), if_neg z_10, z_bdE (m_inT (by rw [show (-1 : Int64).toInt = -1 from rfl, show (2 : Int64).toInt = 2 from rfl]; exact h2)), if_neg z_10]
            simp only [if_neg (nI_pos (show k < 2 ^ 31 by omega)), if_pos h3, if_neg h4]
            exact zSame_ret hc hm hw
        · rw [if_neg h3]
          unfold fX6_sheet
          rw [z_bdE (m_isSheetN hs), if_neg z_10, z_bdE (m_inT (by rw [show (-1 : Int64).toInt = -1 from rfl, show (2 : Int64).toInt = 2 from rfl]; exact h2)), if_neg z_10]
          simp only [if_neg (nI_pos (show k < 2 ^ 31 by omega)), if_neg h3]
          exact hbad
    · unfold fX6_sheet
      rw [z_bdE (m_isSheetN hs), if_neg z_10, z_bdE (m_inF (by rw [show (-1 : Int64).toInt = -1 from rfl, show (2 : Int64).toInt = 2 from rfl]; exact h2)), if_pos rfl]
      simp only [Int32.lt_iff_toInt_lt (y := (-1 : Int32)), show (-1 : Int32).toInt = -1 from rfl, Int32.le_iff_toInt_le (y := (2 : Int32)), show (2 : Int32).toInt = 2 from rfl]
      by_cases q : y.toInt < -1
      · rw [if_pos q]; exact hbad
      · rw [if_neg q, if_neg (by omega)]; exact hbad
  · unfold fX5_sheet fX6_sheet
    rw [z_bdE c_isSheet, z_bdE m_isSheet]
    simp only [if_neg h1, if_true]
    exact hbad
end ZPUB9
