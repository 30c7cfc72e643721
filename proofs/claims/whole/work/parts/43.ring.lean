theorem apl_some {x : Int32} : ∀ {l : List Nat} {k : Nat}, (apl l x k = -1 ∧ ∀ p ∈ l, ¬ nI p = x) ∨ ∃ i, i < l.length ∧ apl l x k = nI (k + i) ∧ x = nI (l.getD i 0)
  | [], k => Or.inl ⟨rfl, fun p hp => absurd hp List.not_mem_nil⟩
  | p :: l, k => by
    by_cases e : nI p = x
    · exact Or.inr ⟨0, by simp, by rw [apl, if_pos e]; rfl, by simp [e]⟩
    · rcases apl_some (x := x) (l := l) (k := k + 1) with ⟨h1, h2⟩ | ⟨i, h1, h2, h3⟩
      · refine Or.inl ⟨by rw [apl, if_neg e]; exact h1, fun q hq => ?_⟩
        rcases List.mem_cons.mp hq with rfl | hq
        · exact e
        · exact h2 q hq
      · refine Or.inr ⟨i + 1, by simp; omega, by rw [apl, if_neg e, h2]; congr 1; omega, by simpa using h3⟩
theorem z_pig : ∀ (n : Nat) (l : List Nat), l.Nodup → (∀ p ∈ l, p < n) → l.length ≤ n
  | 0, l, _, h => by
    match l with
    | [] => simp
    | p :: l => exact absurd (h p List.mem_cons_self) (Nat.not_lt_zero _)
  | n + 1, l, hn, h => by
    by_cases e : n ∈ l
    · have h1 := z_pig n (l.erase n) (hn.erase n) (fun p hp => by
        have := (hn.mem_erase_iff).mp hp
        have := h p this.2
        omega)
      rw [List.length_erase_of_mem e] at h1
      omega
    · have h1 := z_pig n l hn (fun p hp => by
        have := h p hp
        have : p ≠ n := fun q => e (q ▸ hp)
        omega)
      omega
theorem aLeave_W {a : aS} {i : Nat} (h : aW a) : aW (aLeave a i) := by
  obtain ⟨h1, h2, h3, h4, h5⟩ := h
  refine ⟨h1, h2.sublist (List.eraseIdx_sublist _ _), fun p hp => h3 p ((List.eraseIdx_sublist _ _).subset hp), ?_, h5⟩
  exact Nat.le_trans (List.eraseIdx_sublist _ _).length_le h4
theorem aEnter_W {a : aS} {i p : Nat} (h : aW a) (hp : p < an a) (hn : ¬ p ∈ ar a) (hi : i ≤ (ar a).length) : aW (aEnter a p i) := by
  obtain ⟨h1, h2, h3, h4, h5⟩ := h
  have hP : ((ar a).insertIdx i p).Perm (p :: ar a) := List.perm_insertIdx p (ar a) hi
  have hN : (p :: ar a).Nodup := List.nodup_cons.mpr ⟨hn, h2⟩
  have hM : ∀ q ∈ p :: ar a, q < an a := fun q hq => by
    rcases List.mem_cons.mp hq with rfl | hq
    · exact hp
    · exact h3 q hq
  refine ⟨h1, hP.nodup_iff.mpr hN, fun q hq => hM q (hP.mem_iff.mp hq), ?_, h5⟩
  exact Nat.le_trans (Nat.le_of_eq hP.length_eq) (z_pig _ _ hN hM)
theorem aEnter_len {a : aS} {p : Nat} (h : aW a) (hp : p < an a) (hn : ¬ p ∈ ar a) : (ar a).length < 6 := by
  obtain ⟨h1, h2, h3, h4, h5⟩ := h
  have hN : (p :: ar a).Nodup := List.nodup_cons.mpr ⟨hn, h2⟩
  have := z_pig (an a) (p :: ar a) hN (fun q hq => by
    rcases List.mem_cons.mp hq with rfl | hq
    · exact hp
    · exact h3 q hq)
  simp at this
  omega
theorem aSwap_perm {l : List Nat} {i j : Nat} (hi : i < l.length) (hj : j < l.length) : ((l.set i (l.getD j 0)).set j (l.getD i 0)).Perm l := by
  rw [z_getD hi, z_getD hj]
  exact List.set_set_perm hi hj
theorem aSwap_W {a : aS} {i j : Nat} (h : aW a) (hi : i < (ar a).length) (hj : j < (ar a).length) : aW (aSwap a i j) := by
  obtain ⟨h1, h2, h3, h4, h5⟩ := h
  have hP := aSwap_perm hi hj
  exact ⟨h1, hP.nodup_iff.mpr h2, fun q hq => h3 q (hP.mem_iff.mp hq), Nat.le_trans (Nat.le_of_eq hP.length_eq) h4, h5⟩
section ZPUB3
variable {σ τ : z_Mem} {g : zG}
theorem p_out (hc : cG σ g) (hm : mG τ g) (hw : gW g) (x : Int32) : zSame (fX5_out x σ) (fX6_out x τ) := by
  have hA := hw.1.1
  have h6 := aW_len hA
  unfold fX5_out fX6_out
  rw [z_bdE (c_has hc.1 hA), z_bdE (m_isOne hm.1 hA)]
  by_cases h1 : 0 ≤ x.toInt ∧ x.toInt < an (gA g)
  · simp only [if_pos h1, if_neg z_10]
    rw [z_bdE (c_placeOf hc.1 hA), z_bdE (m_placeOf hm.1 hA)]
    rcases apl_some (x := x) (l := ar (gA g)) (k := 0) with ⟨e, _⟩ | ⟨i, hi, e, _⟩
    · simp only [e, if_true]
      exact zSame_ret hc hm hw
    · rw [Nat.zero_add] at e
      simp only [e, if_neg (nI_neg1 (show i < 2 ^ 31 by omega))]
      obtain ⟨σ', e1, c1, k1⟩ := c_leave hc.1 hA hi
      obtain ⟨τ', e2, m2, k2⟩ := m_closesUp hm.1 hA hi
      rw [z_bdE e1, z_bdE e2]
      exact zSame_ret (cG_a hc (cK_mono k1 (fun k hk => by unfold zScr; omega)) c1) (mG_a hm (mR_c k2) m2) (gW_a hw ⟨aLeave_W hA, hw.1.2⟩)
  · simp only [if_neg h1, if_true]
    exact zSame_ret hc hm hw
theorem z_le_nI {x : Int32} {n : Nat} (h : n < 2 ^ 31) : x ≤ nI n ↔ x.toInt ≤ n := by rw [Int32.le_iff_toInt_le, nI_toInt h]
theorem z_ge0 {x : Int32} : x < 0 ↔ x.toInt < 0 := by rw [Int32.lt_iff_toInt_lt]; rfl
theorem p_into (hc : cG σ g) (hm : mG τ g) (hw : gW g) (x y : Int32) : zSame (fX5_into x y σ) (fX6_into x y τ) := by
  have hA := hw.1.1
  have h6 := aW_len hA
  unfold fX5_into fX6_into
  rw [z_bdE (c_has hc.1 hA), z_bdE (m_isOne hm.1 hA), hc.1.2.1, hm.1.2.1]
  by_cases h1 : 0 ≤ x.toInt ∧ x.toInt < an (gA g)
  · simp only [if_pos h1, if_neg z_10]
    rw [z_bdE m_in, i64, nI_toInt (by omega), show (0 : Int64).toInt = 0 from rfl]
    by_cases h2 : 0 ≤ y.toInt ∧ y.toInt ≤ ((ar (gA g)).length : Nat)
    · simp only [if_pos h2, if_neg z_10, if_neg (show ¬ y < 0 by rw [z_ge0]; omega), if_pos (show y ≤ nI (ar (gA g)).length by rw [z_le_nI (by omega)]; exact h2.2)]
      rw [z_bdE (c_placeOf hc.1 hA), z_bdE (m_placeOf hm.1 hA)]
      rcases apl_some (x := x) (l := ar (gA g)) (k := 0) with ⟨e, hn⟩ | ⟨i, hi, e, _⟩
      · simp only [e, if_true]
        obtain ⟨p, hp, rfl⟩ := nI_of (x := x) (by rw [Int32.lt_iff_toInt_lt]; simp; omega)
        obtain ⟨i, hi, rfl⟩ := nI_of (x := y) (by rw [Int32.lt_iff_toInt_lt]; simp; omega)
        rw [nI_toInt hp] at h1
        rw [nI_toInt hi] at h2
        have hn' : ¬ p ∈ ar (gA g) := fun q => hn p q rfl
        have hp' : p < an (gA g) := by omega
        have hl := aEnter_len hA hp' hn'
        obtain ⟨σ', e1, c1, k1⟩ := c_enter (p := p) hc.1 hl (show i ≤ (ar (gA g)).length by omega)
        obtain ⟨τ', e2, m2, k2⟩ := m_stands (p := p) hm.1 hl (show i ≤ (ar (gA g)).length by omega)
        rw [z_bdE e1, z_bdE e2, c1.2.1, m2.2.1]
        exact zSame_ret (cG_a hc (cK_mono k1 (fun k hk => by unfold zScr; omega)) c1) (mG_a hm (mR_c k2) m2) (gW_a hw ⟨aEnter_W hA hp' hn' (by omega), hw.1.2⟩)
      · rw [Nat.zero_add] at e
        simp only [e, if_neg (nI_neg1 (show i < 2 ^ 31 by omega))]
        exact zSame_ret hc hm hw
    · simp only [if_neg h2, if_true]
      simp only [z_ge0, z_le_nI (show (ar (gA g)).length < 2 ^ 31 by omega)]
      by_cases h3 : y.toInt < 0
      · rw [if_pos h3]
        exact zSame_ret hc hm hw
      · rw [if_neg h3, if_neg (by omega)]
        exact zSame_ret hc hm hw
  · simp only [if_neg h1, if_true]
    exact zSame_ret hc hm hw
theorem p_swap (hc : cG σ g) (hm : mG τ g) (hw : gW g) (x y : Int32) : zSame (fX5_swap x y σ) (fX6_swap x y τ) := by
  have hA := hw.1.1
  have h6 := aW_len hA
  have h66 := hA.1
  unfold fX5_swap fX6_swap fX6_areTwo
  rw [z_bdE (c_placeOf hc.1 hA), z_bdE (c_placeOf hc.1 hA)]
  have hbad : zSame (some ((-2 : Int32), σ)) (some ((-2 : Int32), τ)) := zSame_ret hc hm hw
  have hin : ∀ z : Int32, ¬ (0 ≤ z.toInt ∧ z.toInt < an (gA g)) → apl (ar (gA g)) z 0 = -1 := fun z hz => by
    rcases apl_some (x := z) (l := ar (gA g)) (k := 0) with ⟨e, _⟩ | ⟨i, hi, e, e'⟩
    · exact e
    · exfalso
      have hq := hA.2.2.1 ((ar (gA g)).getD i 0) (by rw [z_getD hi]; exact List.getElem_mem hi)
      rw [e', nI_toInt (by omega)] at hz
      omega
  by_cases e : x = y
  · rw [if_pos e]
    have : z_bd (fX6_isOne x τ) (fun r1 s1 => if r1 = 0 then (some ((0 : Int32), s1)) else (z_bd (fX6_isOne y s1) (fun r2 s2 => if r2 = 0 then (some ((0 : Int32), s2)) else (if x = y then (some ((0 : Int32), s2)) else (some ((1 : Int32), s2)))))) = some (0, τ) := by
      rw [z_bdE (m_isOne hm.1 hA)]
      simp only [if_pos e]
      rw [z_bdE (m_isOne hm.1 hA)]
      repeat' split
      all_goals rfl
    rw [z_bdE this]
    exact hbad
  rw [if_neg e]
  by_cases h1 : 0 ≤ x.toInt ∧ x.toInt < an (gA g)
  · by_cases h2 : 0 ≤ y.toInt ∧ y.toInt < an (gA g)
    · have : z_bd (fX6_isOne x τ) (fun r1 s1 => if r1 = 0 then (some ((0 : Int32), s1)) else (z_bd (fX6_isOne y s1) (fun r2 s2 => if r2 = 0 then (some ((0 : Int32), s2)) else (if x = y then (some ((0 : Int32), s2)) else (some ((1 : Int32), s2)))))) = some (1, τ) := by
        rw [z_bdE (m_isOne hm.1 hA)]
        simp only [if_pos h1, if_neg z_10]
        rw [z_bdE (m_isOne hm.1 hA)]
        simp only [if_pos h2, if_neg z_10, if_neg e]
      rw [z_bdE this]
      simp only [if_neg z_10]
      rw [z_bdE (m_placeOf hm.1 hA)]
      rcases apl_some (x := x) (l := ar (gA g)) (k := 0) with ⟨e1, _⟩ | ⟨i, hi, e1, _⟩
      · simp only [e1, if_true]
        exact hbad
      rw [Nat.zero_add] at e1
      simp only [e1, if_neg (nI_neg1 (show i < 2 ^ 31 by omega))]
      rw [z_bdE (m_placeOf hm.1 hA)]
      rcases apl_some (x := y) (l := ar (gA g)) (k := 0) with ⟨e2, _⟩ | ⟨j, hj, e2, _⟩
      · simp only [e2, if_true]
        exact hbad
      rw [Nat.zero_add] at e2
      simp only [e2, if_neg (nI_neg1 (show j < 2 ^ 31 by omega))]
      rw [z_bdE (m_placeOf hm.1 hA), z_bdE (m_placeOf hm.1 hA), e1, e2]
      obtain ⟨σ', e3, c3, k3⟩ := c_exchange hc.1 hA hi hj
      obtain ⟨τ', e4, m4, k4⟩ := m_change hm.1 hA hi hj
      rw [z_bdE e3, z_bdE e4]
      exact zSame_id (q_weak (cG_a hc (cK_mono k3 (fun k hk => by unfold zScr; omega)) c3) (mG_a hm (mR_c k4) m4) (gW_a hw ⟨aSwap_W hA hi hj, hw.1.2⟩))
    · have : z_bd (fX6_isOne x τ) (fun r1 s1 => if r1 = 0 then (some ((0 : Int32), s1)) else (z_bd (fX6_isOne y s1) (fun r2 s2 => if r2 = 0 then (some ((0 : Int32), s2)) else (if x = y then (some ((0 : Int32), s2)) else (some ((1 : Int32), s2)))))) = some (0, τ) := by
        rw [z_bdE (m_isOne hm.1 hA)]
        simp only [if_pos h1, if_neg z_10]
        rw [z_bdE (m_isOne hm.1 hA)]
        simp only [if_neg h2, if_true]
      rw [z_bdE this, hin y h2]
      simp only [if_true]
      rw [ite_self]
      exact hbad
  · have : z_bd (fX6_isOne x τ) (fun r1 s1 => if r1 = 0 then (some ((0 : Int32), s1)) else (z_bd (fX6_isOne y s1) (fun r2 s2 => if r2 = 0 then (some ((0 : Int32), s2)) else (if x = y then (some ((0 : Int32), s2)) else (some ((1 : Int32), s2)))))) = some (0, τ) := by
      rw [z_bdE (m_isOne hm.1 hA)]
      simp only [if_neg h1, if_true]
    rw [z_bdE this, hin x h1]
    simp only [if_true]
    exact hbad
end ZPUB3
